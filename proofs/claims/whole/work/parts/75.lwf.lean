/-- the world behind both constructors -/
def WS0 (I : Nat → ClassId) (ad : Nat) (g : Nat → Nat) (fj0 fp0 fj1 fp1 fj2 fp2 fs : Nat → Option Nat) (q2 r0 r1 r2 r3 r4 r5 r6 r7 r8 r9 rA rB rC : Nat) : va_W := (([] : va_W) ++ SW I ad g fj0 fp0 fj1 fp1 fj2 fp2 fs) ++ [(q2, .inr (9, [.ref r0, .ref r1, .ref r2, .int 0, .ref r3, .ref r4, .ref r5, .ref r6, .ref r7, .ref r8, .ref r9, .ref rA, .int 0, .int 0, .int 0, .int 0, .int 0, .ref rB, .ref rC, .int 0, .int 0])), (r0, .inl (I 0, 412, .inl (upd (fun _ => 0) 1 1))), (r1, .inl (I 0, 412, .inl (fun _ => 0))), (r2, .inl (I 0, 412, .inl (fun _ => 0))), (r3, .inl (I 0, 7, .inl (fun _ => 0))), (r4, .inl (I 0, 4, .inl (fun _ => 0))), (r5, .inl (I 0, 4, .inl (fun _ => 0))), (r6, .inl (I 0, 96, .inl (fun _ => 0))), (r7, .inl (I 0, 60, .inl (fun _ => 0))), (r8, .inl (I 0, 60, .inl (fun _ => 0))), (r9, .inl (I 0, 3, .inl (fun _ => 0))), (rA, .inl (I 0, 60, .inl (fun _ => 0))), (rB, .inl (I 0, 100, .inl (fun _ => 0))), (rC, .inl (I 0, 30, .inl (fun _ => 0)))]
def GG (D : va_G) (I : Nat → ClassId) (st : Nat → Nat) (g : Nat → Nat) (q2 r0 r1 r2 r3 r4 r5 r6 r7 r8 r9 rA rB rC : Nat) : GX := ((fun i => if i < 129 then g i else ([q2, r0, r1, r2, r3, r4, r5, r6, r7, r8, r9, rA, rB, rC] : List Nat).getD (i - 129) 0), D, I, st)
def pl0 : List Nat := [1, 2, 3, 4, 5, 6, 7, 8, 9, 10, 11, 12, 13, 14, 15, 16, 17, 18, 19, 20, 21, 22, 23, 24, 25, 26, 27, 28, 29, 30, 31, 32, 33, 34, 35, 36, 37, 38, 39, 40, 41, 42, 43, 44, 45, 46, 47, 48, 49, 50, 51, 52, 53, 54, 55, 56, 57, 58, 59, 60, 61, 62, 63, 64, 65, 66, 67, 68, 69, 70, 71, 72, 73, 74, 75, 76, 77, 78, 79, 80, 81, 82, 83, 84, 85, 86, 87, 88, 89, 90, 91, 92, 93, 94, 95, 96, 97, 98, 99, 100, 101, 102, 103, 104, 105, 106, 107, 108, 0, 109, 110, 111, 112, 113, 114, 115, 116, 117, 118, 119, 121, 123, 125, 127, 122, 124, 126, 128, 120, 129, 130, 131, 132, 133, 134, 135, 136, 137, 138, 139, 140, 141, 142]
set_option maxRecDepth 100000 in
theorem pl0_i : ∀ i, i < 143 → ∀ j, j < 143 → pl0.getD i 0 = pl0.getD j 0 → i = j := by decide +kernel
theorem arrV_cg {c : ClassId} {n : Nat} {f f' : Nat → Value} (e : ∀ j, j < n → f j = f' j) : arrV c n f = arrV c n f' := by
  unfold arrV
  congr 2
  funext j
  exact e j.val j.isLt
theorem va_qc {D : va_G} {cl : List vw_C} {a n : Nat} {c : ClassId} {f f' : Nat → Option Nat} {H : Heap} (e : ∀ j, j < n → f j = f' j) (h : va_at D cl (a, .inl (c, n, .inr (.inr (.inr (.inr f))))) H) : va_at D cl (a, .inl (c, n, .inr (.inr (.inr (.inr f'))))) H := by
  have h1 : H[a]? = some (arrV c n (fun j => va_rf (f j))) := h
  show H[a]? = some (arrV c n (fun j => va_rf (f' j)))
  rw [h1, arrV_cg (fun j hj => by rw [e j hj])]
def SWC (g : Nat → Nat) (fj0 fp0 fj1 fp1 fj2 fp2 fs : Nat → Option Nat) : Prop := (∀ j, j < 20 → fj0 j = some (g (11 + j))) ∧ (∀ j, j < 5 → fp0 j = some (g (31 + j))) ∧ (∀ j, j < 20 → fj1 j = some (g (36 + (11 + j)))) ∧ (∀ j, j < 5 → fp1 j = some (g (36 + (31 + j)))) ∧ (∀ j, j < 20 → fj2 j = some (g (72 + (11 + j)))) ∧ (∀ j, j < 5 → fp2 j = some (g (72 + (31 + j)))) ∧ (∀ j, j < 4 → fs j = some (g (120 + j)))
def AT0 (D : va_G) (st : Nat → Nat) (I : Nat → ClassId) (ad : Nat) (g : Nat → Nat) (fj0 fp0 fj1 fp1 fj2 fp2 fs : Nat → Option Nat) (q2 r0 r1 r2 r3 r4 r5 r6 r7 r8 r9 rA rB rC : Nat) (k : Nat) : Prop := ∃ e, (WS0 I ad g fj0 fp0 fj1 fp1 fj2 fp2 fs q2 r0 r1 r2 r3 r4 r5 r6 r7 r8 r9 rA rB rC)[pl0.getD k 0]? = some ((GG D I st g q2 r0 r1 r2 r3 r4 r5 r6 r7 r8 r9 rA rB rC).1 k, e) ∧ ∀ H, va_at D vwCl ((GG D I st g q2 r0 r1 r2 r3 r4 r5 r6 r7 r8 r9 rA rB rC).1 k, e) H → va_at D vwCl ((GG D I st g q2 r0 r1 r2 r3 r4 r5 r6 r7 r8 r9 rA rB rC).1 k, EE (GG D I st g q2 r0 r1 r2 r3 r4 r5 r6 r7 r8 r9 rA rB rC) k (sg0 k)) H
theorem GG_lo {D : va_G} {I : Nat → ClassId} {st g : Nat → Nat} {q2 r0 r1 r2 r3 r4 r5 r6 r7 r8 r9 rA rB rC : Nat} {i j : Nat} (h : j < 129) (e : i = j) : some (g i) = some ((GG D I st g q2 r0 r1 r2 r3 r4 r5 r6 r7 r8 r9 rA rB rC).1 j) := by
  subst e
  exact congrArg some (if_pos h).symm
set_option maxRecDepth 100000 in
set_option maxHeartbeats 4000000 in
theorem at0_0 (D : va_G) (st : Nat → Nat) (I : Nat → ClassId) (ad : Nat) (g : Nat → Nat) (fj0 fp0 fj1 fp1 fj2 fp2 fs : Nat → Option Nat) (q2 r0 r1 r2 r3 r4 r5 r6 r7 r8 r9 rA rB rC : Nat) (had : ad = st 2) (hh : SWC g fj0 fp0 fj1 fp1 fj2 fp2 fs) : ∀ k, 0 ≤ k → k < 36 → AT0 D st I ad g fj0 fp0 fj1 fp1 fj2 fp2 fs q2 r0 r1 r2 r3 r4 r5 r6 r7 r8 r9 rA rB rC k := by
  obtain ⟨h1, h2, h3, h4, h5, h6, h7⟩ := hh
  subst had
  intro k ha hb
  rcases (show k = 0 ∨ k = 1 ∨ k = 2 ∨ k = 3 ∨ k = 4 ∨ k = 5 ∨ k = 6 ∨ k = 7 ∨ k = 8 ∨ k = 9 ∨ k = 10 ∨ k = 11 ∨ k = 12 ∨ k = 13 ∨ k = 14 ∨ k = 15 ∨ k = 16 ∨ k = 17 ∨ k = 18 ∨ k = 19 ∨ k = 20 ∨ k = 21 ∨ k = 22 ∨ k = 23 ∨ k = 24 ∨ k = 25 ∨ k = 26 ∨ k = 27 ∨ k = 28 ∨ k = 29 ∨ k = 30 ∨ k = 31 ∨ k = 32 ∨ k = 33 ∨ k = 34 ∨ k = 35 by omega) with rfl | rfl | rfl | rfl | rfl | rfl | rfl | rfl | rfl | rfl | rfl | rfl | rfl | rfl | rfl | rfl | rfl | rfl | rfl | rfl | rfl | rfl | rfl | rfl | rfl | rfl | rfl | rfl | rfl | rfl | rfl | rfl | rfl | rfl | rfl | rfl
  · exact ⟨_, rfl, fun _ h => h⟩
  · exact ⟨_, rfl, fun H => va_qc (fun j hj => (h1 j hj).trans (GG_lo (by omega) (by omega)))⟩
  · exact ⟨_, rfl, fun H => va_qc (fun j hj => (h2 j hj).trans (GG_lo (by omega) (by omega)))⟩
  · exact ⟨_, rfl, fun _ h => h⟩
  · exact ⟨_, rfl, fun _ h => h⟩
  · exact ⟨_, rfl, fun _ h => h⟩
  · exact ⟨_, rfl, fun _ h => h⟩
  · exact ⟨_, rfl, fun _ h => h⟩
  · exact ⟨_, rfl, fun _ h => h⟩
  · exact ⟨_, rfl, fun _ h => h⟩
  · exact ⟨_, rfl, fun _ h => h⟩
  · exact ⟨_, rfl, fun _ h => h⟩
  · exact ⟨_, rfl, fun _ h => h⟩
  · exact ⟨_, rfl, fun _ h => h⟩
  · exact ⟨_, rfl, fun _ h => h⟩
  · exact ⟨_, rfl, fun _ h => h⟩
  · exact ⟨_, rfl, fun _ h => h⟩
  · exact ⟨_, rfl, fun _ h => h⟩
  · exact ⟨_, rfl, fun _ h => h⟩
  · exact ⟨_, rfl, fun _ h => h⟩
  · exact ⟨_, rfl, fun _ h => h⟩
  · exact ⟨_, rfl, fun _ h => h⟩
  · exact ⟨_, rfl, fun _ h => h⟩
  · exact ⟨_, rfl, fun _ h => h⟩
  · exact ⟨_, rfl, fun _ h => h⟩
  · exact ⟨_, rfl, fun _ h => h⟩
  · exact ⟨_, rfl, fun _ h => h⟩
  · exact ⟨_, rfl, fun _ h => h⟩
  · exact ⟨_, rfl, fun _ h => h⟩
  · exact ⟨_, rfl, fun _ h => h⟩
  · exact ⟨_, rfl, fun _ h => h⟩
  · exact ⟨_, rfl, fun _ h => h⟩
  · exact ⟨_, rfl, fun _ h => h⟩
  · exact ⟨_, rfl, fun _ h => h⟩
  · exact ⟨_, rfl, fun _ h => h⟩
  · exact ⟨_, rfl, fun _ h => h⟩
set_option maxRecDepth 100000 in
set_option maxHeartbeats 4000000 in
theorem at0_36 (D : va_G) (st : Nat → Nat) (I : Nat → ClassId) (ad : Nat) (g : Nat → Nat) (fj0 fp0 fj1 fp1 fj2 fp2 fs : Nat → Option Nat) (q2 r0 r1 r2 r3 r4 r5 r6 r7 r8 r9 rA rB rC : Nat) (had : ad = st 2) (hh : SWC g fj0 fp0 fj1 fp1 fj2 fp2 fs) : ∀ k, 36 ≤ k → k < 72 → AT0 D st I ad g fj0 fp0 fj1 fp1 fj2 fp2 fs q2 r0 r1 r2 r3 r4 r5 r6 r7 r8 r9 rA rB rC k := by
  obtain ⟨h1, h2, h3, h4, h5, h6, h7⟩ := hh
  subst had
  intro k ha hb
  rcases (show k = 36 ∨ k = 37 ∨ k = 38 ∨ k = 39 ∨ k = 40 ∨ k = 41 ∨ k = 42 ∨ k = 43 ∨ k = 44 ∨ k = 45 ∨ k = 46 ∨ k = 47 ∨ k = 48 ∨ k = 49 ∨ k = 50 ∨ k = 51 ∨ k = 52 ∨ k = 53 ∨ k = 54 ∨ k = 55 ∨ k = 56 ∨ k = 57 ∨ k = 58 ∨ k = 59 ∨ k = 60 ∨ k = 61 ∨ k = 62 ∨ k = 63 ∨ k = 64 ∨ k = 65 ∨ k = 66 ∨ k = 67 ∨ k = 68 ∨ k = 69 ∨ k = 70 ∨ k = 71 by omega) with rfl | rfl | rfl | rfl | rfl | rfl | rfl | rfl | rfl | rfl | rfl | rfl | rfl | rfl | rfl | rfl | rfl | rfl | rfl | rfl | rfl | rfl | rfl | rfl | rfl | rfl | rfl | rfl | rfl | rfl | rfl | rfl | rfl | rfl | rfl | rfl
  · exact ⟨_, rfl, fun _ h => h⟩
  · exact ⟨_, rfl, fun H => va_qc (fun j hj => (h3 j hj).trans (GG_lo (by omega) (by omega)))⟩
  · exact ⟨_, rfl, fun H => va_qc (fun j hj => (h4 j hj).trans (GG_lo (by omega) (by omega)))⟩
  · exact ⟨_, rfl, fun _ h => h⟩
  · exact ⟨_, rfl, fun _ h => h⟩
  · exact ⟨_, rfl, fun _ h => h⟩
  · exact ⟨_, rfl, fun _ h => h⟩
  · exact ⟨_, rfl, fun _ h => h⟩
  · exact ⟨_, rfl, fun _ h => h⟩
  · exact ⟨_, rfl, fun _ h => h⟩
  · exact ⟨_, rfl, fun _ h => h⟩
  · exact ⟨_, rfl, fun _ h => h⟩
  · exact ⟨_, rfl, fun _ h => h⟩
  · exact ⟨_, rfl, fun _ h => h⟩
  · exact ⟨_, rfl, fun _ h => h⟩
  · exact ⟨_, rfl, fun _ h => h⟩
  · exact ⟨_, rfl, fun _ h => h⟩
  · exact ⟨_, rfl, fun _ h => h⟩
  · exact ⟨_, rfl, fun _ h => h⟩
  · exact ⟨_, rfl, fun _ h => h⟩
  · exact ⟨_, rfl, fun _ h => h⟩
  · exact ⟨_, rfl, fun _ h => h⟩
  · exact ⟨_, rfl, fun _ h => h⟩
  · exact ⟨_, rfl, fun _ h => h⟩
  · exact ⟨_, rfl, fun _ h => h⟩
  · exact ⟨_, rfl, fun _ h => h⟩
  · exact ⟨_, rfl, fun _ h => h⟩
  · exact ⟨_, rfl, fun _ h => h⟩
  · exact ⟨_, rfl, fun _ h => h⟩
  · exact ⟨_, rfl, fun _ h => h⟩
  · exact ⟨_, rfl, fun _ h => h⟩
  · exact ⟨_, rfl, fun _ h => h⟩
  · exact ⟨_, rfl, fun _ h => h⟩
  · exact ⟨_, rfl, fun _ h => h⟩
  · exact ⟨_, rfl, fun _ h => h⟩
  · exact ⟨_, rfl, fun _ h => h⟩
set_option maxRecDepth 100000 in
set_option maxHeartbeats 4000000 in
theorem at0_72 (D : va_G) (st : Nat → Nat) (I : Nat → ClassId) (ad : Nat) (g : Nat → Nat) (fj0 fp0 fj1 fp1 fj2 fp2 fs : Nat → Option Nat) (q2 r0 r1 r2 r3 r4 r5 r6 r7 r8 r9 rA rB rC : Nat) (had : ad = st 2) (hh : SWC g fj0 fp0 fj1 fp1 fj2 fp2 fs) : ∀ k, 72 ≤ k → k < 108 → AT0 D st I ad g fj0 fp0 fj1 fp1 fj2 fp2 fs q2 r0 r1 r2 r3 r4 r5 r6 r7 r8 r9 rA rB rC k := by
  obtain ⟨h1, h2, h3, h4, h5, h6, h7⟩ := hh
  subst had
  intro k ha hb
  rcases (show k = 72 ∨ k = 73 ∨ k = 74 ∨ k = 75 ∨ k = 76 ∨ k = 77 ∨ k = 78 ∨ k = 79 ∨ k = 80 ∨ k = 81 ∨ k = 82 ∨ k = 83 ∨ k = 84 ∨ k = 85 ∨ k = 86 ∨ k = 87 ∨ k = 88 ∨ k = 89 ∨ k = 90 ∨ k = 91 ∨ k = 92 ∨ k = 93 ∨ k = 94 ∨ k = 95 ∨ k = 96 ∨ k = 97 ∨ k = 98 ∨ k = 99 ∨ k = 100 ∨ k = 101 ∨ k = 102 ∨ k = 103 ∨ k = 104 ∨ k = 105 ∨ k = 106 ∨ k = 107 by omega) with rfl | rfl | rfl | rfl | rfl | rfl | rfl | rfl | rfl | rfl | rfl | rfl | rfl | rfl | rfl | rfl | rfl | rfl | rfl | rfl | rfl | rfl | rfl | rfl | rfl | rfl | rfl | rfl | rfl | rfl | rfl | rfl | rfl | rfl | rfl | rfl
  · exact ⟨_, rfl, fun _ h => h⟩
  · exact ⟨_, rfl, fun H => va_qc (fun j hj => (h5 j hj).trans (GG_lo (by omega) (by omega)))⟩
  · exact ⟨_, rfl, fun H => va_qc (fun j hj => (h6 j hj).trans (GG_lo (by omega) (by omega)))⟩
  · exact ⟨_, rfl, fun _ h => h⟩
  · exact ⟨_, rfl, fun _ h => h⟩
  · exact ⟨_, rfl, fun _ h => h⟩
  · exact ⟨_, rfl, fun _ h => h⟩
  · exact ⟨_, rfl, fun _ h => h⟩
  · exact ⟨_, rfl, fun _ h => h⟩
  · exact ⟨_, rfl, fun _ h => h⟩
  · exact ⟨_, rfl, fun _ h => h⟩
  · exact ⟨_, rfl, fun _ h => h⟩
  · exact ⟨_, rfl, fun _ h => h⟩
  · exact ⟨_, rfl, fun _ h => h⟩
  · exact ⟨_, rfl, fun _ h => h⟩
  · exact ⟨_, rfl, fun _ h => h⟩
  · exact ⟨_, rfl, fun _ h => h⟩
  · exact ⟨_, rfl, fun _ h => h⟩
  · exact ⟨_, rfl, fun _ h => h⟩
  · exact ⟨_, rfl, fun _ h => h⟩
  · exact ⟨_, rfl, fun _ h => h⟩
  · exact ⟨_, rfl, fun _ h => h⟩
  · exact ⟨_, rfl, fun _ h => h⟩
  · exact ⟨_, rfl, fun _ h => h⟩
  · exact ⟨_, rfl, fun _ h => h⟩
  · exact ⟨_, rfl, fun _ h => h⟩
  · exact ⟨_, rfl, fun _ h => h⟩
  · exact ⟨_, rfl, fun _ h => h⟩
  · exact ⟨_, rfl, fun _ h => h⟩
  · exact ⟨_, rfl, fun _ h => h⟩
  · exact ⟨_, rfl, fun _ h => h⟩
  · exact ⟨_, rfl, fun _ h => h⟩
  · exact ⟨_, rfl, fun _ h => h⟩
  · exact ⟨_, rfl, fun _ h => h⟩
  · exact ⟨_, rfl, fun _ h => h⟩
  · exact ⟨_, rfl, fun _ h => h⟩
set_option maxRecDepth 100000 in
set_option maxHeartbeats 4000000 in
theorem at0_108 (D : va_G) (st : Nat → Nat) (I : Nat → ClassId) (ad : Nat) (g : Nat → Nat) (fj0 fp0 fj1 fp1 fj2 fp2 fs : Nat → Option Nat) (q2 r0 r1 r2 r3 r4 r5 r6 r7 r8 r9 rA rB rC : Nat) (had : ad = st 2) (hh : SWC g fj0 fp0 fj1 fp1 fj2 fp2 fs) : ∀ k, 108 ≤ k → k < 143 → AT0 D st I ad g fj0 fp0 fj1 fp1 fj2 fp2 fs q2 r0 r1 r2 r3 r4 r5 r6 r7 r8 r9 rA rB rC k := by
  obtain ⟨h1, h2, h3, h4, h5, h6, h7⟩ := hh
  subst had
  intro k ha hb
  rcases (show k = 108 ∨ k = 109 ∨ k = 110 ∨ k = 111 ∨ k = 112 ∨ k = 113 ∨ k = 114 ∨ k = 115 ∨ k = 116 ∨ k = 117 ∨ k = 118 ∨ k = 119 ∨ k = 120 ∨ k = 121 ∨ k = 122 ∨ k = 123 ∨ k = 124 ∨ k = 125 ∨ k = 126 ∨ k = 127 ∨ k = 128 ∨ k = 129 ∨ k = 130 ∨ k = 131 ∨ k = 132 ∨ k = 133 ∨ k = 134 ∨ k = 135 ∨ k = 136 ∨ k = 137 ∨ k = 138 ∨ k = 139 ∨ k = 140 ∨ k = 141 ∨ k = 142 by omega) with rfl | rfl | rfl | rfl | rfl | rfl | rfl | rfl | rfl | rfl | rfl | rfl | rfl | rfl | rfl | rfl | rfl | rfl | rfl | rfl | rfl | rfl | rfl | rfl | rfl | rfl | rfl | rfl | rfl | rfl | rfl | rfl | rfl | rfl | rfl
  · exact ⟨_, rfl, fun _ h => h⟩
  · exact ⟨_, rfl, fun _ h => h⟩
  · exact ⟨_, rfl, fun _ h => h⟩
  · exact ⟨_, rfl, fun _ h => h⟩
  · exact ⟨_, rfl, fun _ h => h⟩
  · exact ⟨_, rfl, fun _ h => h⟩
  · exact ⟨_, rfl, fun _ h => h⟩
  · exact ⟨_, rfl, fun _ h => h⟩
  · exact ⟨_, rfl, fun _ h => h⟩
  · exact ⟨_, rfl, fun _ h => h⟩
  · exact ⟨_, rfl, fun _ h => h⟩
  · exact ⟨_, rfl, fun H => va_qc (fun j hj => (h7 j hj).trans (GG_lo (by omega) (by omega)))⟩
  · exact ⟨_, rfl, fun _ h => h⟩
  · exact ⟨_, rfl, fun _ h => h⟩
  · exact ⟨_, rfl, fun _ h => h⟩
  · exact ⟨_, rfl, fun _ h => h⟩
  · exact ⟨_, rfl, fun _ h => h⟩
  · exact ⟨_, rfl, fun _ h => h⟩
  · exact ⟨_, rfl, fun _ h => h⟩
  · exact ⟨_, rfl, fun _ h => h⟩
  · exact ⟨_, rfl, fun _ h => h⟩
  · exact ⟨_, rfl, fun _ h => h⟩
  · exact ⟨_, rfl, fun _ h => h⟩
  · exact ⟨_, rfl, fun _ h => h⟩
  · exact ⟨_, rfl, fun _ h => h⟩
  · exact ⟨_, rfl, fun _ h => h⟩
  · exact ⟨_, rfl, fun _ h => h⟩
  · exact ⟨_, rfl, fun _ h => h⟩
  · exact ⟨_, rfl, fun _ h => h⟩
  · exact ⟨_, rfl, fun _ h => h⟩
  · exact ⟨_, rfl, fun _ h => h⟩
  · exact ⟨_, rfl, fun _ h => h⟩
  · exact ⟨_, rfl, fun _ h => h⟩
  · exact ⟨_, rfl, fun _ h => h⟩
  · exact ⟨_, rfl, fun _ h => h⟩
theorem at0 (D : va_G) (st : Nat → Nat) (I : Nat → ClassId) (ad : Nat) (g : Nat → Nat) (fj0 fp0 fj1 fp1 fj2 fp2 fs : Nat → Option Nat) (q2 r0 r1 r2 r3 r4 r5 r6 r7 r8 r9 rA rB rC : Nat) (had : ad = st 2) (hh : SWC g fj0 fp0 fj1 fp1 fj2 fp2 fs) : ∀ k, k < 143 → AT0 D st I ad g fj0 fp0 fj1 fp1 fj2 fp2 fs q2 r0 r1 r2 r3 r4 r5 r6 r7 r8 r9 rA rB rC k := by
  intro k hk
  by_cases c1 : k < 36
  · exact at0_0 D st I ad g fj0 fp0 fj1 fp1 fj2 fp2 fs q2 r0 r1 r2 r3 r4 r5 r6 r7 r8 r9 rA rB rC had hh k (by omega) c1
  by_cases c2 : k < 72
  · exact at0_36 D st I ad g fj0 fp0 fj1 fp1 fj2 fp2 fs q2 r0 r1 r2 r3 r4 r5 r6 r7 r8 r9 rA rB rC had hh k (by omega) c2
  by_cases c3 : k < 108
  · exact at0_72 D st I ad g fj0 fp0 fj1 fp1 fj2 fp2 fs q2 r0 r1 r2 r3 r4 r5 r6 r7 r8 r9 rA rB rC had hh k (by omega) c3
  exact at0_108 D st I ad g fj0 fp0 fj1 fp1 fj2 fp2 fs q2 r0 r1 r2 r3 r4 r5 r6 r7 r8 r9 rA rB rC had hh k (by omega) hk
theorem st_P (D : va_G) (st : Nat → Nat) (I : Nat → ClassId) (ad : Nat) (g : Nat → Nat) (fj0 fp0 fj1 fp1 fj2 fp2 fs : Nat → Option Nat) (q2 r0 r1 r2 r3 r4 r5 r6 r7 r8 r9 rA rB rC : Nat) (had : ad = st 2) (hh : SWC g fj0 fp0 fj1 fp1 fj2 fp2 fs) {H : Heap} (hP : va_P D vwCl (WS0 I ad g fj0 fp0 fj1 fp1 fj2 fp2 fs q2 r0 r1 r2 r3 r4 r5 r6 r7 r8 r9 rA rB rC) H) : va_P D vwCl (wl (GG D I st g q2 r0 r1 r2 r3 r4 r5 r6 r7 r8 r9 rA rB rC) sg0) H := by
  intro k q hq
  obtain ⟨hk, rfl⟩ := wl_at hq
  obtain ⟨e, h1, h2⟩ := at0 D st I ad g fj0 fp0 fj1 fp1 fj2 fp2 fs q2 r0 r1 r2 r3 r4 r5 r6 r7 r8 r9 rA rB rC had hh k hk
  exact h2 H (hP _ _ h1)
theorem st_I (D : va_G) (st : Nat → Nat) (I : Nat → ClassId) (ad : Nat) (g : Nat → Nat) (fj0 fp0 fj1 fp1 fj2 fp2 fs : Nat → Option Nat) (q2 r0 r1 r2 r3 r4 r5 r6 r7 r8 r9 rA rB rC : Nat) (had : ad = st 2) (hh : SWC g fj0 fp0 fj1 fp1 fj2 fp2 fs) {A : Nat → Prop} (hD : va_D A (WS0 I ad g fj0 fp0 fj1 fp1 fj2 fp2 fs q2 r0 r1 r2 r3 r4 r5 r6 r7 r8 r9 rA rB rC)) : gI (GG D I st g q2 r0 r1 r2 r3 r4 r5 r6 r7 r8 r9 rA rB rC) ∧ ∀ i, i < 143 → A ((GG D I st g q2 r0 r1 r2 r3 r4 r5 r6 r7 r8 r9 rA rB rC).1 i) := by
  refine ⟨fun i j hi hj e => ?_, fun i hi => ?_⟩
  · obtain ⟨e1, h1, -⟩ := at0 D st I ad g fj0 fp0 fj1 fp1 fj2 fp2 fs q2 r0 r1 r2 r3 r4 r5 r6 r7 r8 r9 rA rB rC had hh i hi
    obtain ⟨e2, h2, -⟩ := at0 D st I ad g fj0 fp0 fj1 fp1 fj2 fp2 fs q2 r0 r1 r2 r3 r4 r5 r6 r7 r8 r9 rA rB rC had hh j hj
    exact pl0_i i hi j hj (hD.1 _ _ _ _ h1 h2 e)
  · obtain ⟨e1, h1, -⟩ := at0 D st I ad g fj0 fp0 fj1 fp1 fj2 fp2 fs q2 r0 r1 r2 r3 r4 r5 r6 r7 r8 r9 rA rB rC had hh i hi
    exact hD.2 _ _ h1

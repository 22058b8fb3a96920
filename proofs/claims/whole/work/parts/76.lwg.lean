set_option maxRecDepth 100000 in
set_option maxHeartbeats 4000000 in
theorem st_walk {l : Launch} {D : va_G} {I : Nat → ClassId} {ad b : Nat} {A : Nat → Prop} {K : KX} (X : FN D I ad A K cL_law RL ret wsL_law 4) (k : ∀ (g : Nat → Nat) (fj0 fp0 fj1 fp1 fj2 fp2 fs : Nat → Option Nat) (q2 r0 r1 r2 r3 r4 r5 r6 r7 r8 r9 rA rB rC : Nat), SWC g fj0 fp0 fj1 fp1 fj2 fp2 fs → VN l D room_1 A K 4 18 [(3, .int (nI 0)), (2, .ref q2), (1, .ref (g 108)), (0, .ref b)] [] (WS0 I ad g fj0 fp0 fj1 fp1 fj2 fp2 fs q2 r0 r1 r2 r3 r4 r5 r6 r7 r8 r9 rA rB rC) 143 3581) : VN l D room_1 A K 4 0 [(0, .ref b)] [] [] 0 0 := by
  refine n_new (ci := 8) (fs := [.null, .null, .null, .null, .null, .null, .null, .null, .int 0]) X inlX8 tyX8 tyX8_ok rfl (by decide) (mem_ix 0 rfl) (mem_ix 1 rfl) (mem_ix 2 rfl) (Nat.le_of_ble_eq_true rfl) (Nat.le_of_ble_eq_true rfl) dL_law_0 (fun q1 => ?_)
  refine n_dup X dL_law_3 rfl ?_
  refine n_callI (As := []) (rest := [.ref q1]) X (c_X8_init l D I ad q1 (X0 := [])) md_X8_init gL_law_X8_init (mem_ix 7 rfl) (mem_ix 2 rfl) (mem_ix 8 rfl) rfl (Nat.le_of_ble_eq_true rfl) (Nat.le_of_ble_eq_true rfl) rfl rfl (Nat.le_of_ble_eq_true rfl) (Nat.le_of_ble_eq_true rfl) (Nat.le_of_ble_eq_true rfl) dL_law_4 ?_
  rintro _ ⟨g, fj0, fp0, fj1, fp1, fj2, fp2, fs, hg, h1, h2, h3, h4, h5, h6, h7, rfl⟩
  refine n_astore_n (i := 1) (lv' := [(1, .ref q1), (0, .ref b)]) X dL_law_7 rfl (by decide) isr_ref rfl ?_
  refine n_new (ci := 9) (fs := [.null, .null, .null, .int 0, .null, .null, .null, .null, .null, .null, .null, .null, .int 0, .int 0, .int 0, .int 0, .int 0, .null, .null, .int 0, .int 0]) X inlX9 tyX9 tyX9_ok rfl (by decide) (mem_ix 3 rfl) (mem_ix 4 rfl) (mem_ix 5 rfl) (Nat.le_of_ble_eq_true rfl) (Nat.le_of_ble_eq_true rfl) dL_law_8 (fun q2 => ?_)
  refine n_dup X dL_law_11 rfl ?_
  refine n_callI (As := []) (rest := [.ref q2]) X (c_X9_init l D I ad q2 (X0 := (([] : va_W) ++ SW I ad g fj0 fp0 fj1 fp1 fj2 fp2 fs))) md_X9_init gL_law_X9_init (mem_ix 117 rfl) (mem_ix 5 rfl) (mem_ix 118 rfl) rfl (Nat.le_of_ble_eq_true rfl) (Nat.le_of_ble_eq_true rfl) rfl rfl (Nat.le_of_ble_eq_true rfl) (Nat.le_of_ble_eq_true rfl) (Nat.le_of_ble_eq_true rfl) dL_law_12 ?_
  rintro _ ⟨r0, r1, r2, r3, r4, r5, r6, r7, r8, r9, rA, rB, rC, rfl⟩
  refine n_astore_n (i := 2) (lv' := [(2, .ref q2), (1, .ref q1), (0, .ref b)]) X dL_law_15 rfl (by decide) isr_ref rfl ?_
  refine n_iconst (v := (0 : Int32)) X dL_law_16 (by decide) ?_
  refine n_istore_n (i := 3) (lv' := [(3, .int 0), (2, .ref q2), (1, .ref q1), (0, .ref b)]) X dL_law_17 rfl (by decide) rfl ?_
  subst hg
  exact n_to rfl rfl rfl (k g fj0 fp0 fj1 fp1 fj2 fp2 fs q2 r0 r1 r2 r3 r4 r5 r6 r7 r8 r9 rA rB rC ⟨h1, h2, h3, h4, h5, h6, h7⟩)
/-- YOUR PART: from the entry, for every script of at most 3072 ints, the law comes to its end with true ('hflags': the launch's flags, for a law that throws: no stack traces) -/
theorem whole_start {p : Program} {e : Env} {s : State} {m : MethodId} {below : List Frame} {meth : Method} {c : Code} (l : Launch) (hflags : l.flags = flags0) {b L : Nat} {xs : Nat → Int32} (hL : L ≤ 3072) (C0 : lw_At p s m meth c b L xs) : W p l e room_1 s m #[Value.ref b] below meth c s.heap [] 0 0 (lw_Z below #[Value.ref b] s) (entryFrame m ([Value.ref b] : List Value).toArray 4) := by
  obtain ⟨hx, hb, hr, hml, hown, hts, hX, hbl, hlocks, hgv⟩ := C0
  have ht : ∀ w ∈ wsL_law, w.before #[Value.ref b] s = true := fun w hw => hts w (wsL_law_in w hw)
  obtain ⟨D, I, hK⟩ := st_K hts
  obtain ⟨st, hE, hZ⟩ := st_E hts hgv
  have hl := lv_entry ([.ref b]) (n := 4) (Nat.le_of_ble_eq_true rfl)
  rw [lg_entry_eq]
  have X : FN D I (st 2) (LA s) (p, e, s, m, #[Value.ref b], below, meth, c, lw_Z below #[Value.ref b] s) cL_law RL ret wsL_law 4 := ⟨hx, hb, hr, hml, hown, ht, hlocks, hK, hZ, fun q h => h⟩
  have main : VN l D room_1 (LA s) (p, e, s, m, #[Value.ref b], below, meth, c, lw_Z below #[Value.ref b] s) 4 0 [(0, .ref b)] [] [] 0 0 := by
    refine st_walk X (fun g fj0 fp0 fj1 fp1 fj2 fp2 fs q2 r0 r1 r2 r3 r4 r5 r6 r7 r8 r9 rA rB rC hh => ?_)
    intro H locs ls hP hD hS hl
    obtain ⟨hI, hA⟩ := st_I D st I (st 2) g fj0 fp0 fj1 fp1 fj2 fp2 fs q2 r0 r1 r2 r3 r4 r5 r6 r7 r8 r9 rA rB rC rfl hh hD
    have Y : FL (GG D I st g q2 r0 r1 r2 r3 r4 r5 r6 r7 r8 r9 rA rB rC) (p, e, s, m, #[Value.ref b], below, meth, c, lw_Z below #[Value.ref b] s) b L xs := ⟨hx, hb, hr, hml, hown, ht, hlocks, ⟨hK, hI, (hE _ D I).1, (hE _ D I).2, hA⟩, hX, hbl⟩
    exact l_loop Y ⟨rfl, rfl⟩ hL L 0 sg0 (by omega) (by omega) GD_0 H locs ls (st_P D st I (st 2) g fj0 fp0 fj1 fp1 fj2 fp2 fs q2 r0 r1 r2 r3 r4 r5 r6 r7 r8 r9 rA rB rC rfl hh hP) hS hl
  exact main s.heap [] _ (fun k q h => by simp at h) ⟨fun i j p q h => by simp at h, fun k q h => by simp at h⟩ va_S.rf hl

/-- texts: class and reference in step -/
def PZ : Type := (Nat → Int32) × Nat × Nat
def PZ.T (z : PZ) : Nat → Int32 := z.1
def PZ.L (z : PZ) : Nat := z.2.1
def PZ.u (z : PZ) : Nat := z.2.2
def PZ.ok (z : PZ) : Prop := z.L ≤ 60 ∧ z.u ≤ 1 ∧ ∀ k, k < 60 → ∃ j, j ≤ 255 ∧ z.T k = nI j
/-- how many numbers lie on the pile behind k codes -/
def dA (w : Nat → Int32) : Nat → Nat
  | 0 => 0
  | k + 1 => if w k = 1 ∨ w k = 2 then dA w k + 1 else if w k = 3 then dA w k else dA w k - 1
theorem dA_s (w : Nat → Int32) (k : Nat) : dA w (k + 1) = if w k = 1 ∨ w k = 2 then dA w k + 1 else if w k = 3 then dA w k else dA w k - 1 := rfl
theorem dA_cg {w w' : Nat → Int32} : ∀ k, (∀ i, i < k → w' i = w i) → dA w' k = dA w k
  | 0, _ => rfl
  | k + 1, h => by
    have ih := dA_cg k (fun i hi => h i (by omega))
    unfold dA
    rw [h k (by omega), ih]
def okA (w v : Nat → Int32) (k : Nat) : Prop :=
  (w k = 1 ∧ ∃ j, j ≤ 9999 ∧ v k = nI j) ∨ (w k = 2 ∧ ∃ j, j ≤ 2 ∧ v k = nI j) ∨ (w k = 3 ∧ 1 ≤ dA w k) ∨ (SG (w k) ∧ 2 ≤ dA w k)
theorem okA_cg {w w' v v' : Nat → Int32} {k : Nat} (h : ∀ i, i ≤ k → w' i = w i) (h2 : v' k = v k) (o : okA w v k) : okA w' v' k := by
  unfold okA at o ⊢
  rw [h k (Nat.le_refl _), h2, dA_cg k (fun i hi => h i (by omega))]
  exact o
def RP (z : PZ) (p q : Nat) (σ : MM) : Prop := σ 109 1 = nI p ∧ σ 109 3 = nI z.L ∧ σ 109 4 = nI z.u ∧ σ 110 2 = nI q ∧ ∀ k, k < 60 → σ 9 k = z.T k
def RQ (z : PZ) (o p q : Nat) (σ τ : MM) : Prop := τ 129 13 = nI p ∧ τ 129 12 = nI q ∧ τ 129 14 = nI o ∧ τ 129 15 = 0 ∧ τ 129 16 = nI z.u ∧ τ 130 4 = nI z.L ∧ (∀ k, k < 60 → τ 130 (86 + k) = z.T k) ∧ ∀ k, k < q → σ 111 k = cdX (τ 137 k) (τ 138 k) ∧ okA (τ 137) (τ 138) k
def FO (σ σ' : MM) : Prop := ∀ i, i ≠ 109 → i ≠ 110 → i ≠ 111 → σ' i = σ i
def FY (τ τ' : MM) : Prop := (∀ i, i ≠ 129 → i ≠ 137 → i ≠ 138 → τ' i = τ i) ∧ τ' 129 3 = τ 129 3 ∧ τ' 129 19 = τ 129 19
def BD (z : PZ) (p : Nat) (τ : MM) : Prop := τ 129 13 = nI p ∧ τ 129 15 = 1 ∧ (∃ m, m ≤ 60 ∧ τ 129 12 = nI m) ∧ τ 130 4 = nI z.L
theorem FO.rf {σ : MM} : FO σ σ := fun _ _ _ _ => rfl
theorem FO.tr {σ σ' σ'' : MM} (h : FO σ σ') (h2 : FO σ' σ'') : FO σ σ'' := fun i a b c => (h2 i a b c).trans (h i a b c)
theorem FO.mu {σ : MM} {i k : Nat} {v : Int32} (h : i = 109 ∨ i = 110 ∨ i = 111) : FO σ (mu σ i k v) := fun j a b c => mu_off _ _ (by omega)
theorem FY.rf {σ : MM} : FY σ σ := ⟨fun _ _ _ _ => rfl, rfl, rfl⟩
theorem FY.tr {σ σ' σ'' : MM} (h : FY σ σ') (h2 : FY σ' σ'') : FY σ σ'' := ⟨fun i a b c => (h2.1 i a b c).trans (h.1 i a b c), h2.2.1.trans h.2.1, h2.2.2.trans h.2.2⟩
theorem FY.mu {σ : MM} {i k : Nat} {v : Int32} (h : i = 137 ∨ i = 138 ∨ (i = 129 ∧ k ≠ 3 ∧ k ≠ 19)) : FY σ (mu σ i k v) := by
  refine ⟨fun j a b c => mu_off _ _ (by omega), ?_, ?_⟩
  · rw [mu_at, if_neg (by omega)]
  · rw [mu_at, if_neg (by omega)]
/-- the byte that comes next -/
def bY (z : PZ) (p : Nat) : Int32 := if z.L ≤ p then -1 else z.T p
theorem next_eq {z : PZ} {p q : Nat} {σ : MM} (hz : z.ok) (h : RP z p q σ) (hp : p ≤ z.L) : f_X4_next σ = some (bY z p, σ) := by
  have := hz.1
  unfold f_X4_next bY
  rw [h.1, h.2.1, if_neg (nI_pos (by omega))]
  by_cases y : z.L ≤ p
  · rw [if_pos (nI_le y (by omega)), if_pos y]
  · rw [if_neg (nI_ge (by omega) (by omega)), if_neg (show ¬ (60 : Int32) ≤ nI p from nI_ge (show p < 60 by omega) (by decide)), if_neg (ixN (by omega) (by decide)), nI_cl (by omega), if_neg y, h.2.2.2.2 p (by omega)]
theorem look_eq {z : PZ} {o p q : Nat} {σ τ : MM} (hz : z.ok) (h : RQ z o p q σ τ) (hp : p ≤ z.L) : f_X9_look τ = some (bY z p, τ) := by
  have := hz.1
  obtain ⟨h1, -, -, -, -, h6, h7, -⟩ := h
  unfold f_X9_look bY
  rw [h1, h6]
  by_cases y : z.L ≤ p
  · rw [if_pos (nI_le y (by omega)), if_pos y]
  · rw [if_neg (nI_ge (by omega) (by omega)), lit 86, nI_add, if_neg (ixN (by omega) (by decide)), nI_cl (by omega), if_neg y, h7 p (by omega)]
theorem look_bd {z : PZ} {p : Nat} {τ : MM} (hz : z.ok) (h : BD z p τ) (hp : p ≤ z.L) : ∃ r, f_X9_look τ = some (r, τ) := by
  have := hz.1
  unfold f_X9_look
  rw [h.1, h.2.2.2]
  by_cases y : z.L ≤ p
  · rw [if_pos (nI_le y (by omega))]; exact ⟨_, rfl⟩
  · rw [if_neg (nI_ge (by omega) (by omega)), lit 86, nI_add, if_neg (ixN (by omega) (by decide))]; exact ⟨_, rfl⟩
/-- the byte is a number from 0 to 255, or -1 at the end -/
theorem bY_c {z : PZ} (hz : z.ok) {p : Nat} (hp : p ≤ z.L) : (∃ j, j ≤ 255 ∧ bY z p = nI j ∧ p < z.L) ∨ bY z p = -1 := by
  have := hz.1
  unfold bY
  by_cases y : z.L ≤ p
  · rw [if_pos y]; exact Or.inr rfl
  · rw [if_neg y]
    obtain ⟨j, h1, h2⟩ := hz.2.2 p (by omega)
    exact Or.inl ⟨j, h1, h2, by omega⟩
/-- the class reads on -/
theorem RP.on {z : PZ} {p q : Nat} {σ : MM} (h : RP z p q σ) : RP z (p + 1) q (mu σ 109 1 (nI (p + 1))) := by
  obtain ⟨h1, h2, h3, h4, h5⟩ := h
  refine ⟨mu_eq _ _ _ _, ?_, ?_, ?_, fun k hk => ?_⟩
  · rw [mu_at, if_neg (by omega)]; exact h2
  · rw [mu_at, if_neg (by omega)]; exact h3
  · rw [mu_off _ _ (by omega)]; exact h4
  · rw [mu_off _ _ (by omega)]; exact h5 k hk
theorem RQ.on {z : PZ} {o p q : Nat} {σ τ σ' : MM} (h : RQ z o p q σ τ) (hs : σ' 111 = σ 111) : RQ z o (p + 1) q σ' (mu τ 129 13 (nI (p + 1))) := by
  obtain ⟨h1, h2, h3, h4, h5, h6, h7, h8⟩ := h
  refine ⟨mu_eq _ _ _ _, ?_, ?_, ?_, ?_, ?_, fun k hk => ?_, fun k hk => ?_⟩
  · rw [mu_at, if_neg (by omega)]; exact h2
  · rw [mu_at, if_neg (by omega)]; exact h3
  · rw [mu_at, if_neg (by omega)]; exact h4
  · rw [mu_at, if_neg (by omega)]; exact h5
  · rw [mu_off _ _ (by omega)]; exact h6
  · rw [mu_off _ _ (by omega)]; exact h7 k hk
  · rw [hs, mu_off _ _ (by omega), mu_off _ _ (by omega)]; exact h8 k hk
/-- another count of open signs -/
theorem RQ.op {z : PZ} {o o' p q : Nat} {σ τ : MM} (h : RQ z o p q σ τ) : RQ z o' p q σ (mu τ 129 14 (nI o')) := by
  obtain ⟨h1, h2, h3, h4, h5, h6, h7, h8⟩ := h
  refine ⟨?_, ?_, mu_eq _ _ _ _, ?_, ?_, ?_, fun k hk => ?_, fun k hk => ?_⟩
  · rw [mu_at, if_neg (by omega)]; exact h1
  · rw [mu_at, if_neg (by omega)]; exact h2
  · rw [mu_at, if_neg (by omega)]; exact h4
  · rw [mu_at, if_neg (by omega)]; exact h5
  · rw [mu_off _ _ (by omega)]; exact h6
  · rw [mu_off _ _ (by omega)]; exact h7 k hk
  · rw [mu_off _ _ (by omega), mu_off _ _ (by omega)]; exact h8 k hk
/-- a code more, on both sides -/
theorem add_eq {q : Nat} {c : Int32} {σ : MM} (h : σ 110 2 = nI q) (hq : q < 60) : f_X6_add 110 c σ = some ((), mu (mu σ 111 q c) 110 2 (nI (q + 1))) := by
  unfold f_X6_add
  rw [h, if_neg (nI_pos (by omega)), if_neg (show ¬ (60 : Int32) ≤ nI q from nI_ge hq (by decide)), if_neg (ixN hq (by decide)), nI_cl (by omega)]
  simp only [lt_eq]
  rw [mu_off _ _ (show 110 ≠ 110 + 1 by omega), h, k1]
theorem RP.ad {z : PZ} {p q : Nat} {c : Int32} {σ : MM} (h : RP z p q σ) : RP z p (q + 1) (mu (mu σ 111 q c) 110 2 (nI (q + 1))) := by
  obtain ⟨h1, h2, h3, h4, h5⟩ := h
  refine ⟨?_, ?_, ?_, mu_eq _ _ _ _, fun k hk => ?_⟩
  · rw [mu_off _ _ (by omega), mu_off _ _ (by omega)]; exact h1
  · rw [mu_off _ _ (by omega), mu_off _ _ (by omega)]; exact h2
  · rw [mu_off _ _ (by omega), mu_off _ _ (by omega)]; exact h3
  · rw [mu_off _ _ (by omega), mu_off _ _ (by omega)]; exact h5 k hk
theorem lays_eq {q : Nat} {a b : Int32} {τ : MM} (h : τ 129 12 = nI q) (hq : q < 60) : f_X9_lays a b τ = some ((), mu (mu (mu τ 137 q a) 138 q b) 129 12 (nI (q + 1))) := by
  have e1 : (mu τ 137 q a) 129 12 = nI q := by rw [mu_off _ _ (by omega)]; exact h
  have e2 : (mu (mu τ 137 q a) 138 q b) 129 12 = nI q := by rw [mu_off _ _ (by omega)]; exact e1
  unfold f_X9_lays
  rw [h, if_neg (show ¬ (60 : Int32) ≤ nI q from nI_ge hq (by decide)), if_neg (ixN hq (by decide)), nI_cl (by omega)]
  rw [lt_eq, e1, if_neg (ixN hq (by decide)), nI_cl (by omega), lt_eq, e2, lt_eq, k1]
theorem lays_bd {z : PZ} {p : Nat} {a b : Int32} {τ : MM} (h : BD z p τ) : ∃ τ', f_X9_lays a b τ = some ((), τ') ∧ BD z p τ' ∧ FY τ τ' := by
  obtain ⟨h1, h2, ⟨m, hm, h3⟩, h4⟩ := h
  by_cases q : m = 60
  · subst q
    refine ⟨τ, ?_, ⟨h1, h2, ⟨60, hm, h3⟩, h4⟩, FY.rf⟩
    unfold f_X9_lays
    rw [h3, if_pos (by decide)]
  · refine ⟨_, lays_eq h3 (by omega), ⟨?_, ?_, ⟨m + 1, by omega, mu_eq _ _ _ _⟩, ?_⟩, ((FY.mu (by omega)).tr (FY.mu (by omega))).tr (FY.mu (by omega))⟩
    · rw [mu_at, if_neg (by omega), mu_off _ _ (by omega), mu_off _ _ (by omega)]; exact h1
    · rw [mu_at, if_neg (by omega), mu_off _ _ (by omega), mu_off _ _ (by omega)]; exact h2
    · rw [mu_off _ _ (by omega), mu_off _ _ (by omega), mu_off _ _ (by omega)]; exact h4
theorem RQ.ad {z : PZ} {o p q : Nat} {a b c : Int32} {σ τ : MM} (h : RQ z o p q σ τ) (hc : c = cdX a b) (ho : (a = 1 ∧ ∃ j, j ≤ 9999 ∧ b = nI j) ∨ (a = 2 ∧ ∃ j, j ≤ 2 ∧ b = nI j) ∨ (a = 3 ∧ 1 ≤ dA (τ 137) q) ∨ (SG a ∧ 2 ≤ dA (τ 137) q)) :
    RQ z o p (q + 1) (mu (mu σ 111 q c) 110 2 (nI (q + 1))) (mu (mu (mu τ 137 q a) 138 q b) 129 12 (nI (q + 1))) ∧ dA ((mu (mu (mu τ 137 q a) 138 q b) 129 12 (nI (q + 1))) 137) (q + 1) = if a = 1 ∨ a = 2 then dA (τ 137) q + 1 else if a = 3 then dA (τ 137) q else dA (τ 137) q - 1 := by
  obtain ⟨h1, h2, h3, h4, h5, h6, h7, h8⟩ := h
  have e7 : (mu (mu (mu τ 137 q a) 138 q b) 129 12 (nI (q + 1))) 137 = upd (τ 137) q a := by rw [mu_off _ _ (by omega), mu_off _ _ (by omega), mu_row]
  have e8 : (mu (mu (mu τ 137 q a) 138 q b) 129 12 (nI (q + 1))) 138 = upd (τ 138) q b := by rw [mu_off _ _ (by omega), mu_row, mu_off _ _ (by omega)]
  have e1 : (mu (mu σ 111 q c) 110 2 (nI (q + 1))) 111 = upd (σ 111) q c := by rw [mu_off _ _ (by omega), mu_row]
  have u7 : ∀ i, i < q → upd (τ 137) q a i = τ 137 i := fun i hi => by rw [upd_at, if_neg (by omega)]
  have d7 : dA (upd (τ 137) q a) q = dA (τ 137) q := dA_cg q u7
  refine ⟨⟨?_, mu_eq _ _ _ _, ?_, ?_, ?_, ?_, fun k hk => ?_, fun k hk => ?_⟩, ?_⟩
  · rw [mu_at, if_neg (by omega), mu_off _ _ (by omega), mu_off _ _ (by omega)]; exact h1
  · rw [mu_at, if_neg (by omega), mu_off _ _ (by omega), mu_off _ _ (by omega)]; exact h3
  · rw [mu_at, if_neg (by omega), mu_off _ _ (by omega), mu_off _ _ (by omega)]; exact h4
  · rw [mu_at, if_neg (by omega), mu_off _ _ (by omega), mu_off _ _ (by omega)]; exact h5
  · rw [mu_off _ _ (by omega), mu_off _ _ (by omega), mu_off _ _ (by omega)]; exact h6
  · rw [mu_off _ _ (by omega), mu_off _ _ (by omega), mu_off _ _ (by omega)]; exact h7 k hk
  · rw [e1, e7, e8]
    by_cases y : k = q
    · subst y
      refine ⟨by rw [upd_at, upd_at, upd_at, if_pos rfl, if_pos rfl, if_pos rfl]; exact hc, ?_⟩
      unfold okA
      rw [d7, upd_at, if_pos rfl, upd_at, if_pos rfl]
      exact ho
    · obtain ⟨g1, g2⟩ := h8 k (by omega)
      refine ⟨by rw [upd_at, upd_at, upd_at, if_neg y, if_neg y, if_neg y]; exact g1, okA_cg (fun i hi => u7 i (by omega)) (by rw [upd_at, if_neg y]) g2⟩
  · rw [e7, dA_s, d7, upd_at, if_pos rfl]
def dgP (r : Int32) : Int32 := if r < (48 : Int32) then 0 else if (57 : Int32) < r then 0 else 1
theorem isDigit_eq {r : Int32} {σ : MM} : f_X4_isDigit r σ = some (dgP r, σ) := by
  unfold f_X4_isDigit dgP
  split
  · rfl
  · split <;> rfl
theorem inD_eq {r : Int32} {σ : MM} : f_X9_in r (48 : Int32) (57 : Int32) σ = some (dgP r, σ) := in_ite
/-- a digit's number -/
theorem dg_c {z : PZ} (hz : z.ok) {p : Nat} (hp : p ≤ z.L) : (∃ j, 48 ≤ j ∧ j ≤ 57 ∧ bY z p = nI j ∧ p < z.L ∧ dgP (bY z p) = 1) ∨ dgP (bY z p) = 0 := by
  rcases bY_c hz hp with ⟨j, hj, e, hl⟩ | e
  · rw [e]
    unfold dgP
    by_cases h1 : j < 48
    · rw [if_pos (show nI j < (48 : Int32) from nI_lt h1 (by decide))]; exact Or.inr rfl
    · rw [if_neg (show ¬ nI j < (48 : Int32) from nI_nlt (show 48 ≤ j by omega) (by omega))]
      by_cases h2 : 57 < j
      · rw [if_pos (show (57 : Int32) < nI j from nI_lt (a := 57) h2 (by omega))]; exact Or.inr rfl
      · rw [if_neg (show ¬ (57 : Int32) < nI j from nI_nlt (show j ≤ 57 by omega) (by decide))]; exact Or.inl ⟨j, by omega, by omega, rfl, hl, rfl⟩
  · rw [e]; exact Or.inr rfl

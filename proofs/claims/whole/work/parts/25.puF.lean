/-- numbers of a sheet, as class and reference keep them: alike in all that is asked of them -/
def NR (c r : Int32) : Prop := c = r ∨ ((c < 0 ∨ (127 : Int32) < c) ∧ (r < 0 ∨ (127 : Int32) < r))
def SH (σ : MM) : Prop := ∀ s, s < 4 → (∃ n, n ≤ 24 ∧ σ (120 + s) 2 = nI n ∧ σ 135 s = nI n) ∧ σ (120 + s) 1 = σ 134 s ∧ (σ 134 s = 0 ∨ σ 134 s = 8 ∨ σ 134 s = 16 ∨ σ 134 s = 32) ∧ ∀ k, k < 24 → NR (σ (124 + s) k) (σ 136 (24 * s + k))
def TRc (σ : MM) : Prop := ∃ n, n ≤ 30 ∧ σ 113 0 = nI n ∧ σ 129 19 = nI n ∧ ∀ k, k < n → σ 114 k = σ 142 k
def GD (σ : MM) : Prop := (CR 0 σ (σ 130) ∧ IR (σ 130)) ∧ (PL 0 σ ∧ PL 36 σ ∧ PL 72 σ) ∧ (σ 108 8 = σ 129 3 ∧ (σ 129 3 ≠ 0 → CR 36 σ (σ 131) ∧ IR (σ 131))) ∧ SH σ ∧ (∀ k, k < 7 → σ 128 k = σ 133 k) ∧ TRc σ
/-- cells of which the relation says nothing, or speaks of single places alone -/
def JJ (i : Nat) : Prop := JK i ∨ (72 ≤ i ∧ i < 108) ∨ (109 ≤ i ∧ i ≤ 113) ∨ (115 ≤ i ∧ i ≤ 118) ∨ i = 129 ∨ i = 132 ∨ i = 137 ∨ i = 138 ∨ i = 141
def GE (σ σ' : MM) : Prop := (∀ i, ¬ JJ i → σ' i = σ i) ∧ (∀ j, j < 20 → σ' (83 + j) 0 = σ (83 + j) 0) ∧ σ' 113 0 = σ 113 0 ∧ σ' 129 3 = σ 129 3 ∧ σ' 129 19 = σ 129 19
theorem GE.rf {σ : MM} : GE σ σ := ⟨fun _ _ => rfl, fun _ _ => rfl, rfl, rfl, rfl⟩
theorem GE.tr {σ σ' σ'' : MM} (h : GE σ σ') (h2 : GE σ' σ'') : GE σ σ'' := ⟨fun i hi => (h2.1 i hi).trans (h.1 i hi), fun j hj => (h2.2.1 j hj).trans (h.2.1 j hj), h2.2.2.1.trans h.2.2.1, h2.2.2.2.1.trans h.2.2.2.1, h2.2.2.2.2.trans h.2.2.2.2⟩
theorem JE.ge {σ σ' : MM} (h : JE σ σ') : GE σ σ' := by
  refine ⟨fun i hi => h i (fun e => hi (Or.inl e)), fun j hj => ?_, ?_, ?_, ?_⟩
  · rw [h _ (by unfold JK; omega)]
  · rw [h _ (by unfold JK; omega)]
  · rw [h _ (by unfold JK; omega)]
  · rw [h _ (by unfold JK; omega)]
theorem GE.row {σ σ' : MM} (h : GE σ σ') {i : Nat} (hi : ¬ JJ i) : σ' i = σ i := h.1 i hi
theorem CR.ge {b : Nat} {σ σ' : MM} {ρ : Nat → Int32} (hb : b = 0 ∨ b = 36) (h : CR b σ ρ) (hj : GE σ σ') : CR b σ' ρ := by
  refine ⟨fun k hk => ?_, fun n hn hr k hk => ?_, fun n hn hr k hk => ?_⟩
  · rw [hj.1 _ ?_]; exact h.1 k hk
    obtain ⟨h1, h2⟩ := loc_lt (b := b) (k := k)
    obtain ⟨h3, h4, h5, h6⟩ := loc_J (b := b) hk
    unfold JJ JK
    rcases hb with rfl | rfl <;> omega
  · rw [hj.1 _ ?_]; exact h.2.1 n hn hr k hk
    unfold JJ JK
    rcases hb with rfl | rfl <;> omega
  · rw [hj.1 _ ?_]; exact h.2.2 n hn hr k hk
    unfold JJ JK
    rcases hb with rfl | rfl <;> omega
theorem GD.ge {σ σ' : MM} (h : GD σ) (hj : GE σ σ') : GD σ' := by
  obtain ⟨⟨h1, h2⟩, ⟨p1, p2, p3⟩, ⟨i1, i2⟩, h3, h4, n, hn, t1, t2, t3⟩ := h
  have e130 : σ' 130 = σ 130 := hj.row (by unfold JJ JK; omega)
  have e131 : σ' 131 = σ 131 := hj.row (by unfold JJ JK; omega)
  have e133 : σ' 133 = σ 133 := hj.row (by unfold JJ JK; omega)
  have e134 : σ' 134 = σ 134 := hj.row (by unfold JJ JK; omega)
  have e135 : σ' 135 = σ 135 := hj.row (by unfold JJ JK; omega)
  have e136 : σ' 136 = σ 136 := hj.row (by unfold JJ JK; omega)
  have e108 : σ' 108 = σ 108 := hj.row (by unfold JJ JK; omega)
  have e128 : σ' 128 = σ 128 := hj.row (by unfold JJ JK; omega)
  have e114 : σ' 114 = σ 114 := hj.row (by unfold JJ JK; omega)
  have e142 : σ' 142 = σ 142 := hj.row (by unfold JJ JK; omega)
  refine ⟨⟨by rw [e130]; exact h1.ge (Or.inl rfl) hj, by rw [e130]; exact h2⟩, ⟨fun j hj2 => ?_, fun j hj2 => ?_, fun j hj2 => ?_⟩, ⟨by rw [e108, hj.2.2.2.1]; exact i1, fun hne => ?_⟩, fun s hs => ?_, fun k hk => by rw [e128, e133]; exact h4 k hk, n, hn, by rw [hj.2.2.1]; exact t1, by rw [hj.2.2.2.2]; exact t2, fun k hk => by rw [e114, e142]; exact t3 k hk⟩
  · rw [hj.row (by unfold JJ JK; omega)]; exact p1 j hj2
  · rw [hj.row (by unfold JJ JK; omega)]; exact p2 j hj2
  · exact (hj.2.1 j hj2).trans (p3 j hj2)
  · rw [hj.2.2.2.1] at hne
    rw [e131]
    exact ⟨(i2 hne).1.ge (Or.inr rfl) hj, (i2 hne).2⟩
  · have e1 : σ' (120 + s) = σ (120 + s) := hj.row (by unfold JJ JK; omega)
    have e2 : σ' (124 + s) = σ (124 + s) := hj.row (by unfold JJ JK; omega)
    rw [e1, e2, e134, e135, e136]
    exact h3 s hs
/-- the two systems answer alike, and stay alike -/
def SIM {α : Type} (x : Option (α × MM)) (m : MM → Option (α × MM)) : Prop := ∃ (r : α) (σ1 σ2 : MM), x = some (r, σ1) ∧ m σ1 = some (r, σ2) ∧ GD σ2
theorem GD.err {σ : MM} (h : GD σ) {k : Nat} (hk : k < 7) : GD (mu (mu σ 128 k (σ 128 k + 1)) 133 k (σ 133 k + 1)) := by
  obtain ⟨⟨h1, h2⟩, ⟨p1, p2, p3⟩, ⟨i1, i2⟩, h3, h4, n, hn, t1, t2, t3⟩ := h
  have off : ∀ i, i ≠ 128 → i ≠ 133 → (mu (mu σ 128 k (σ 128 k + 1)) 133 k (σ 133 k + 1)) i = σ i := fun i a b => by rw [mu_off _ _ b, mu_off _ _ a]
  have e0 : ∀ b ρ, (b = 0 ∨ b = 36) → CR b σ ρ → CR b (mu (mu σ 128 k (σ 128 k + 1)) 133 k (σ 133 k + 1)) ρ := fun b ρ hb hc => hc.off (fun i h1 h2 => off i (by omega) (by omega))
  refine ⟨⟨by rw [off 130 (by decide) (by decide)]; exact e0 0 _ (Or.inl rfl) h1, by rw [off 130 (by decide) (by decide)]; exact h2⟩, ⟨fun j hj => by rw [off _ (by omega) (by omega)]; exact p1 j hj, fun j hj => by rw [off _ (by omega) (by omega)]; exact p2 j hj, fun j hj => by rw [off _ (by omega) (by omega)]; exact p3 j hj⟩, ⟨by rw [off _ (by decide) (by decide), off _ (by decide) (by decide)]; exact i1, fun hne => ?_⟩, fun s hs => ?_, fun j hj => ?_, n, hn, by rw [off _ (by decide) (by decide)]; exact t1, by rw [off _ (by decide) (by decide)]; exact t2, fun j hj => by rw [off _ (by decide) (by decide), off _ (by decide) (by decide)]; exact t3 j hj⟩
  · rw [off 129 (by decide) (by decide)] at hne
    rw [off 131 (by decide) (by decide)]
    exact ⟨e0 36 _ (Or.inr rfl) (i2 hne).1, (i2 hne).2⟩
  · rw [off (120 + s) (by omega) (by omega), off (124 + s) (by omega) (by omega), off 134 (by decide) (by decide), off 135 (by decide) (by decide), off 136 (by decide) (by decide)]
    exact h3 s hs
  · rw [mu_at, mu_at, mu_at, mu_at]
    by_cases e : j = k
    · subst e; simp [h4 j hj]
    · simp [e, h4 j hj]
theorem error8 {σ : MM} {k : Nat} {e : Int32} (hk : 1 ≤ k) (hk2 : k ≤ 6) (he : (-1000000000 : Int32) - e = nI k) : f_X8_error e σ = some (e, mu σ 128 k (σ 128 k + 1)) := by
  unfold f_X8_error
  rw [he, wi_t (show ¬ nI k < (1 : Int32) from nI_nlt hk (by omega)) (show ¬ (6 : Int32) < nI k from nI_nlt (show k ≤ 6 by omega) (by decide)), bd_some, if_neg (by decide), if_neg (ixN (by omega) (by decide)), nI_cl (by omega), lt_eq]
theorem error9 {σ : MM} {k : Nat} {e : Int32} (hk : 1 ≤ k) (hk2 : k ≤ 6) (he : (-1000000000 : Int32) - e = nI k) : f_X9_error e σ = some (e, mu σ 133 k (σ 133 k + 1)) := by
  unfold f_X9_error
  rw [he, if_neg (ixN (by omega) (by decide)), nI_cl (by omega), lt_eq]
theorem eB : (-1000000000 : Int32) - (-1000000001 : Int32) = nI 1 := by decide
theorem eN : (-1000000000 : Int32) - (-1000000002 : Int32) = nI 2 := by decide
theorem eS : (-1000000000 : Int32) - (-1000000003 : Int32) = nI 3 := by decide
theorem eF : (-1000000000 : Int32) - (-1000000004 : Int32) = nI 4 := by decide
theorem eK : (-1000000000 : Int32) - (-1000000005 : Int32) = nI 5 := by decide
theorem eP : (-1000000000 : Int32) - (-1000000006 : Int32) = nI 6 := by decide
/-- both answer the same error -/
theorem SIM.err {σ σ1 : MM} (h : GD σ) (hg : GE σ σ1) {k : Nat} {e : Int32} (hk : 1 ≤ k) (hk2 : k ≤ 6) (he : (-1000000000 : Int32) - e = nI k) {x : Option (Int32 × MM)} {m : MM → Option (Int32 × MM)} (hx : x = bd (f_X8_error e σ1) (fun r s => some (r, s))) (hm : ∀ s, (∀ i, 129 ≤ i → s i = σ i) → ∃ s1, GE s s1 ∧ m s = bd (f_X9_error e s1) (fun r s => some (r, s))) (h129 : ∀ i, 129 ≤ i → σ1 i = σ i) : SIM x m := by
  have hG1 := h.ge hg
  rw [error8 hk hk2 he, bd_some] at hx
  obtain ⟨s1, g1, hm1⟩ := hm (mu σ1 128 k (σ1 128 k + 1)) (fun i hi => by rw [mu_off _ _ (by omega)]; exact h129 i hi)
  rw [error9 hk hk2 he, bd_some] at hm1
  refine ⟨_, _, _, hx, hm1, ?_⟩
  have h2 := hG1.err (k := k) (by omega)
  have e133 : s1 133 = σ1 133 := by rw [g1.row (by unfold JJ JK; omega), mu_off _ _ (by decide)]
  rw [e133]
  refine h2.ge ?_
  obtain ⟨a1, a2, a3, a4, a5⟩ := g1
  refine ⟨fun i hi => ?_, fun j hj => ?_, ?_, ?_, ?_⟩
  · by_cases e : i = 133
    · subst e; rw [mu_row, mu_row, e133, mu_off _ _ (by decide)]
    · rw [mu_off _ _ e, mu_off _ _ e]; exact a1 i hi
  · rw [mu_off _ _ (by omega), mu_off _ _ (by omega)]; exact a2 j hj
  · rw [mu_off _ _ (by decide), mu_off _ _ (by decide)]; exact a3
  · rw [mu_off _ _ (by decide), mu_off _ _ (by decide)]; exact a4
  · rw [mu_off _ _ (by decide), mu_off _ _ (by decide)]; exact a5

theorem of_eq {s k : Nat} {σ : MM} (hs : s ≤ 40) (hk : k ≤ 2) : f_X9_of (nI s) (nI k) σ = some (σ 130 (6 + 3 * s + k), σ) := by
  unfold f_X9_of
  rw [show (6 : Int32) + (3 : Int32) * nI s + nI k = nI (6 + 3 * s + k) by rw [lit 3, lit 6, pk_mul, nI_add, nI_add], if_neg (ixN (by omega) (by decide)), nI_cl (by omega)]
theorem about_eq {p k : Nat} {σ : MM} (hs : p ≤ 40) (hk : k ≤ 3) : f_X9_about (nI p) (nI k) σ = some (σ 130 (66 + 4 * p + k), σ) := by
  unfold f_X9_about
  rw [show (66 : Int32) + (4 : Int32) * nI p + nI k = nI (66 + 4 * p + k) by rw [lit 4, lit 66, pk_mul, nI_add, nI_add], if_neg (ixN (by omega) (by decide)), nI_cl (by omega)]
theorem lets_eq {p k : Nat} {v : Int32} {σ : MM} (hs : p ≤ 40) (hk : k ≤ 3) : f_X9_lets (nI p) (nI k) v σ = some ((), mu σ 130 (66 + 4 * p + k) v) := by
  unfold f_X9_lets
  rw [show (66 : Int32) + (4 : Int32) * nI p + nI k = nI (66 + 4 * p + k) by rw [lit 4, lit 66, pk_mul, nI_add, nI_add], if_neg (ixN (by omega) (by decide)), nI_cl (by omega), lt_eq]
theorem becomes_eq {k : Nat} {v : Int32} {σ : MM} (hk : k < 412) : f_X9_becomes (nI k) v σ = some (σ 130 k, mu σ 130 k v) := by
  unfold f_X9_becomes
  rw [if_neg (ixN hk (by decide)), nI_cl (by omega), lt_eq]
theorem held_eq {v lo hi : Int32} {σ : MM} : f_X9_held v lo hi σ = some (if lo ≤ v then (if v ≤ hi then v else hi) else lo, σ) := by
  unfold f_X9_held
  split
  · split <;> rfl
  · rfl
/-- what a sign makes of two numbers -/
def twoP (g a b : Int32) : Int32 :=
  if g = 37 then (if b = 0 then 0 else a - a / b * b) else if g = 38 then (if a = 0 then 0 else if b = 0 then 0 else 1)
  else if g = 42 then a * b else if g = 43 then a + b else if g = 45 then a - b else if g = 47 then (if b = 0 then 0 else a / b)
  else if g = 60 then (if b ≤ a then 0 else 1) else if g = 61 then (if a = b then 1 else 0) else if g = 62 then (if a ≤ b then 0 else 1)
  else (if a = 0 then (if b = 0 then 0 else 1) else 1)
theorem two_eq {g a b : Int32} {σ : MM} : f_X9_twoOf g a b σ = some (twoP g a b, σ) := by
  unfold f_X9_twoOf u_X9_twoOf_203 twoP
  by_cases h1 : g = 37
  · rw [if_pos h1, if_pos h1]; by_cases h : b = 0 <;> simp [h]
  rw [if_neg h1, if_neg h1]
  by_cases h2 : g = 38
  · rw [if_pos h2, if_pos h2]; by_cases h : a = 0 <;> by_cases h' : b = 0 <;> simp [h, h']
  rw [if_neg h2, if_neg h2]
  by_cases h3 : g = 42
  · rw [if_pos h3, if_pos h3]
  rw [if_neg h3, if_neg h3]
  by_cases h4 : g = 43
  · rw [if_pos h4, if_pos h4]
  rw [if_neg h4, if_neg h4]
  by_cases h5 : g = 45
  · rw [if_pos h5, if_pos h5]
  rw [if_neg h5, if_neg h5]
  by_cases h6 : g = 47
  · rw [if_pos h6, if_pos h6]; by_cases h : b = 0 <;> simp [h]
  rw [if_neg h6, if_neg h6]
  by_cases h7 : g = 60
  · rw [if_pos h7, if_pos h7]; by_cases h : b ≤ a <;> simp [h]
  rw [if_neg h7, if_neg h7]
  by_cases h8 : g = 61
  · rw [if_pos h8, if_pos h8]; by_cases h : a = b <;> simp [h]
  rw [if_neg h8, if_neg h8]
  by_cases h9 : g = 62
  · rw [if_pos h9, if_pos h9]; by_cases h : a ≤ b <;> simp [h]
  rw [if_neg h9, if_neg h9]
  by_cases h : a = 0 <;> by_cases h' : b = 0 <;> simp [h, h']
theorem join_eq {g a b : Int32} {σ : MM} (hg : SG g) : f_X6_join g a b σ = some (twoP g a b, σ) := by
  unfold f_X6_join twoP
  rcases hg with rfl | rfl | rfl | rfl | rfl | rfl | rfl | rfl | rfl | rfl
  all_goals simp (config := { decide := true }) only [if_true, if_false]
  all_goals repeat' split
  all_goals first | rfl | contradiction
/-- the pile behind k steps of the law at a -/
def ev (ρ : Nat → Int32) (a : Nat) (F : Nat → Int32) : Nat → Nat → Int32
  | 0 => fun _ => 0
  | k + 1 =>
    if ρ (a + 1 + k) = 1 then upd (ev ρ a F k) (dp ρ a k) (ρ (a + 61 + k))
    else if ρ (a + 1 + k) = 2 then upd (ev ρ a F k) (dp ρ a k) (F (ρ (a + 61 + k)).toNatClampNeg)
    else if ρ (a + 1 + k) = 3 then upd (ev ρ a F k) (dp ρ a k - 1) (if ev ρ a F k (dp ρ a k - 1) = 0 then 1 else 0)
    else upd (ev ρ a F k) (dp ρ a k - 2) (twoP (ρ (a + 1 + k)) (ev ρ a F k (dp ρ a k - 2)) (ev ρ a F k (dp ρ a k - 1)))
theorem SG_ne {g : Int32} (h : SG g) : ¬ g = 1 ∧ ¬ g = 2 ∧ ¬ g = 3 := by
  rcases h with rfl | rfl | rfl | rfl | rfl | rfl | rfl | rfl | rfl | rfl <;> decide
theorem dp_s (ρ : Nat → Int32) (a k : Nat) : dp ρ a (k + 1) = if ρ (a + 1 + k) = 1 ∨ ρ (a + 1 + k) = 2 then dp ρ a k + 1 else if ρ (a + 1 + k) = 3 then dp ρ a k else dp ρ a k - 1 := rfl
theorem ev_s (ρ : Nat → Int32) (a : Nat) (F : Nat → Int32) (k : Nat) : ev ρ a F (k + 1) = if ρ (a + 1 + k) = 1 then upd (ev ρ a F k) (dp ρ a k) (ρ (a + 61 + k))
    else if ρ (a + 1 + k) = 2 then upd (ev ρ a F k) (dp ρ a k) (F (ρ (a + 61 + k)).toNatClampNeg)
    else if ρ (a + 1 + k) = 3 then upd (ev ρ a F k) (dp ρ a k - 1) (if ev ρ a F k (dp ρ a k - 1) = 0 then 1 else 0)
    else upd (ev ρ a F k) (dp ρ a k - 2) (twoP (ρ (a + 1 + k)) (ev ρ a F k (dp ρ a k - 2)) (ev ρ a F k (dp ρ a k - 1))) := rfl
/-- equal but for one cell -/
def E1 (c : Nat) (σ σ' : MM) : Prop := ∀ i, i ≠ c → σ' i = σ i
theorem E1.rf {c : Nat} {σ : MM} : E1 c σ σ := fun _ _ => rfl
theorem E1.tr {c : Nat} {σ σ' σ'' : MM} (h : E1 c σ σ') (h2 : E1 c σ' σ'') : E1 c σ σ'' := fun i hi => (h2 i hi).trans (h i hi)
theorem E1.mu {c k : Nat} {σ : MM} {v : Int32} : E1 c σ (mu σ c k v) := fun _ hi => mu_off _ _ hi
theorem nI_sub' {a b : Nat} (h : b ≤ a) : nI a - nI b = nI (a - b) := pk_sub h
/-- the reference works a law out -/
theorem works_loop {ρ F : Nat → Int32} {a n : Nat} (ha : a = 170 ∨ a = 291) (hn : n ≤ 60) (hr : ρ a = nI n) (hw : ∀ k, k < n → okc ρ a k) : ∀ (m k : Nat) (σ : MM), k ≤ n → n - k < m → σ 130 = ρ → (∀ j, j < 3 → σ 139 j = F j) → (∀ j, j < dp ρ a k → σ 140 j = ev ρ a F k j) → 1 ≤ dp ρ a n → ∃ σ', itr (fun _ _ _ _ => none) u_X9_works_4 m (nI a) (nI (dp ρ a k)) (nI k) σ = some (ev ρ a F n 0, σ') ∧ E1 140 σ σ' := by
  intro m
  induction m with
  | zero => intro k σ _ h; omega
  | succ m ih =>
    intro k σ hk hm h130 h139 h140 hd
    have hdk := dp_le ρ a k
    rw [itr_s]
    generalize itr (fun _ _ _ _ => none) u_X9_works_4 m = K at ih ⊢
    unfold u_X9_works_4
    rw [if_neg (ixN (by omega) (by decide)), nI_cl (by omega), h130, hr]
    by_cases hkn : k = n
    · subst hkn
      rw [if_pos (nI_le (Nat.le_refl _) (by omega)), h140 0 (by omega)]
      exact ⟨σ, rfl, E1.rf⟩
    · have hlt : k < n := by omega
      rw [if_neg (nI_ge hlt (by omega)), lit 1, nI_add, nI_add, if_neg (ixN (by omega) (by decide)), nI_cl (by omega), lt_eq]
      have hev := ev_s ρ a F k
      have hdp := dp_s ρ a k
      rcases hw k hlt with ⟨h1, j, hj, hv⟩ | ⟨h1, j, hj, hv⟩ | ⟨h1, h2⟩ | ⟨h1, h2⟩
      · rw [if_pos (by rw [h1]; rfl)]
        unfold u_X9_works_38
        rw [if_pos (by rw [h1]), lit 61, nI_add, nI_add, if_neg (ixN (by omega) (by decide)), nI_cl (by omega)]
        unfold u_X9_works_79
        rw [if_neg (ixN (by omega) (by decide)), nI_cl (by omega), lt_eq, h130]
        rw [if_pos (Or.inl h1)] at hdp
        rw [if_pos h1] at hev
        obtain ⟨σ', e, e2⟩ := ih (k + 1) (mu σ 140 (dp ρ a k) (ρ (a + 61 + k))) hlt (by omega) (by rw [mu_off _ _ (by decide), h130]) (by rw [mu_off _ _ (by decide)]; exact h139) (by
          intro q hq
          rw [hdp] at hq
          rw [mu_row, hev, upd_at, upd_at]
          by_cases hqe : q = dp ρ a k
          · rw [if_pos hqe, if_pos hqe]
          · rw [if_neg hqe, if_neg hqe]; exact h140 q (by omega)) hd
        refine ⟨σ', ?_, E1.tr E1.mu e2⟩
        rw [← e, hdp]
        simp only [lit 1, nI_add]
      · rw [if_neg (by rw [h1]; decide), if_pos (by rw [h1])]
        unfold u_X9_works_38
        rw [if_neg (by rw [h1]; decide), lit 61, nI_add, nI_add, if_neg (ixN (by omega) (by decide)), nI_cl (by omega), h130, hv, if_neg (ixN (by omega) (by decide)), nI_cl (by omega)]
        unfold u_X9_works_79
        rw [if_neg (ixN (by omega) (by decide)), nI_cl (by omega), lt_eq, h139 j (by omega)]
        rw [if_pos (Or.inr h1)] at hdp
        rw [if_neg (by rw [h1]; decide), if_pos h1, hv, nI_cl (by omega)] at hev
        obtain ⟨σ', e, e2⟩ := ih (k + 1) (mu σ 140 (dp ρ a k) (F j)) hlt (by omega) (by rw [mu_off _ _ (by decide), h130]) (by rw [mu_off _ _ (by decide)]; exact h139) (by
          intro q hq
          rw [hdp] at hq
          rw [mu_row, hev, upd_at, upd_at]
          by_cases hqe : q = dp ρ a k
          · rw [if_pos hqe, if_pos hqe]
          · rw [if_neg hqe, if_neg hqe]; exact h140 q (by omega)) hd
        refine ⟨σ', ?_, E1.tr E1.mu e2⟩
        rw [← e, hdp]
        simp only [lit 1, nI_add]
      · rw [if_neg (by rw [h1]; decide), if_neg (by rw [h1]; decide), if_pos (by rw [h1]), nI_sub' h2, if_neg (ixN (by omega) (by decide)), nI_cl (by omega), h140 _ (by omega)]
        rw [if_neg (by rw [h1]; decide), if_pos h1] at hdp
        rw [if_neg (by rw [h1]; decide), if_neg (by rw [h1]; decide), if_pos h1] at hev
        obtain ⟨σ', e, e2⟩ := ih (k + 1) (mu σ 140 (dp ρ a k - 1) (if ev ρ a F k (dp ρ a k - 1) = 0 then 1 else 0)) hlt (by omega) (by rw [mu_off _ _ (by decide), h130]) (by rw [mu_off _ _ (by decide)]; exact h139) (by
          intro q hq
          rw [hdp] at hq
          rw [mu_row, hev, upd_at, upd_at]
          by_cases hqe : q = dp ρ a k - 1
          · rw [if_pos hqe, if_pos hqe]
          · rw [if_neg hqe, if_neg hqe]; exact h140 q (by omega)) hd
        refine ⟨σ', ?_, E1.tr E1.mu e2⟩
        rw [← e, hdp]
        unfold u_X9_works_115
        by_cases hz : ev ρ a F k (dp ρ a k - 1) = 0
        · rw [if_pos hz, if_pos hz, if_neg (ixN (by omega) (by decide)), nI_cl (by omega), lt_eq, lit 1, nI_add]
        · rw [if_neg hz, if_neg hz, if_neg (ixN (by omega) (by decide)), nI_cl (by omega), lt_eq, lit 1, nI_add]
      · obtain ⟨n1, n2, n3⟩ := SG_ne h1
        rw [if_neg (show ¬ ρ (a + 1 + k) = nI 1 from n1), if_neg n2, if_neg n3]
        rw [if_neg (fun q => q.elim n1 n2), if_neg n3] at hdp
        rw [if_neg n1, if_neg n2, if_neg n3] at hev
        have e1 : nI (dp ρ a k) + -nI 1 = nI (dp ρ a k - 1) := by
          obtain ⟨x, hx⟩ : ∃ x, dp ρ a k = x + 1 := ⟨dp ρ a k - 1, by omega⟩
          rw [hx]
          exact pk_m1 x
        rw [e1, nI_sub' (show 1 ≤ dp ρ a k - 1 by omega), if_neg (ixN (by omega) (by decide)), if_neg (ixN (by omega) (by decide)), nI_cl (by omega), nI_cl (by omega), two_eq, bd_some, lt_eq, nI_add, h140 _ (by omega), h140 _ (by omega), show dp ρ a k - 1 - 1 = dp ρ a k - 2 by omega]
        obtain ⟨σ', e, e2⟩ := ih (k + 1) (mu σ 140 (dp ρ a k - 2) (twoP (ρ (a + 1 + k)) (ev ρ a F k (dp ρ a k - 2)) (ev ρ a F k (dp ρ a k - 1)))) hlt (by omega) (by rw [mu_off _ _ (by decide), h130]) (by rw [mu_off _ _ (by decide)]; exact h139) (by
          intro q hq
          rw [hdp] at hq
          rw [mu_row, hev, upd_at, upd_at]
          by_cases hqe : q = dp ρ a k - 2
          · rw [if_pos hqe, if_pos hqe]
          · rw [if_neg hqe, if_neg hqe]; exact h140 q (by omega)) hd
        refine ⟨σ', ?_, E1.tr E1.mu e2⟩
        rw [← e, hdp]

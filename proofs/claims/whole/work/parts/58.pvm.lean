/-- which of a use's names a byte is; 3: none -/
def nmP (u j : Nat) : Nat := if u = 0 then (if j = 119 then 0 else if j = 115 then 1 else if j = 109 then 2 else 3) else (if j = 98 then 0 else if j = 115 then 1 else if j = 107 then 2 else 3)
def nmI (u j : Nat) : Int32 := if nmP u j < 3 then nI (nmP u j) else -1
theorem c16 : ∀ j, j < 256 → ((nI j).toUInt32 % 65536).toInt32 = nI j := by decide +kernel
theorem c8 : ∀ j, j < 256 → ((119 : Int32) = (nI j).toInt8.toInt32 ↔ j = 119) ∧ ((115 : Int32) = (nI j).toInt8.toInt32 ↔ j = 115) ∧ ((109 : Int32) = (nI j).toInt8.toInt32 ↔ j = 109) ∧ ((98 : Int32) = (nI j).toInt8.toInt32 ↔ j = 98) ∧ ((107 : Int32) = (nI j).toInt8.toInt32 ↔ j = 107) := by decide +kernel
theorem ixL {u j f : Nat} {σ : MM} (hu : u ≤ 1) (hj : j < 256) : itr (fun _ _ _ _ _ => none) u_J1_indexOfChar_4cfef_7 (f + 4) (nI u) (3 : Int32) ((nI j).toInt8.toInt32) (nI 0) σ = some (nmI u j, σ) := by
  obtain ⟨c1, c2, c3, c4, c5⟩ := c8 j hj
  rw [show f + 4 = (((f + 1) + 1) + 1) + 1 from rfl, itr_s, itr_s, itr_s, itr_s]
  generalize itr (fun _ _ _ _ _ => none) u_J1_indexOfChar_4cfef_7 f = g
  generalize (nI j).toInt8.toInt32 = w at c1 c2 c3 c4 c5
  have st : ∀ (K : Int32 → Int32 → Int32 → Int32 → MM → Option (Int32 × MM)) (i : Nat), i < 3 → u_J1_indexOfChar_4cfef_7 K (nI u) 3 w (nI i) σ = if sbyt (nI u) i = w then some (nI i, σ) else K (nI u) 3 w (nI (i + 1)) σ := by
    intro K i hi
    unfold u_J1_indexOfChar_4cfef_7
    rw [if_neg (show ¬ (3 : Int32) ≤ nI i from nI_ge hi (by decide)), if_neg (ixN hi (by decide)), nI_cl (by omega), k1]
  have en : ∀ (K : Int32 → Int32 → Int32 → Int32 → MM → Option (Int32 × MM)), u_J1_indexOfChar_4cfef_7 K (nI u) 3 w (nI 3) σ = some (-1, σ) := by
    intro K
    unfold u_J1_indexOfChar_4cfef_7
    rw [if_pos (by decide)]
  rw [st _ 0 (by omega), st _ 1 (by omega), st _ 2 (by omega), en]
  unfold nmI nmP
  rcases (show u = 0 ∨ u = 1 by omega) with rfl | rfl
  · rw [show sbyt (nI 0) 0 = 119 from rfl, show sbyt (nI 0) 1 = 115 from rfl, show sbyt (nI 0) 2 = 109 from rfl, if_pos (show (0 : Nat) = 0 from rfl)]
    by_cases h1 : j = 119
    · rw [if_pos (c1.mpr h1), if_pos h1]; rfl
    · rw [if_neg (fun t => h1 (c1.mp t)), if_neg h1]
      by_cases h2 : j = 115
      · rw [if_pos (c2.mpr h2), if_pos h2]; rfl
      · rw [if_neg (fun t => h2 (c2.mp t)), if_neg h2]
        by_cases h3 : j = 109
        · rw [if_pos (c3.mpr h3), if_pos h3]; rfl
        · rw [if_neg (fun t => h3 (c3.mp t)), if_neg h3]; rfl
  · rw [show sbyt (nI 1) 0 = 98 from rfl, show sbyt (nI 1) 1 = 115 from rfl, show sbyt (nI 1) 2 = 107 from rfl, if_neg (show ¬ (1 : Nat) = 0 by omega)]
    by_cases h1 : j = 98
    · rw [if_pos (c4.mpr h1), if_pos h1]; rfl
    · rw [if_neg (fun t => h1 (c4.mp t)), if_neg h1]
      by_cases h2 : j = 115
      · rw [if_pos (c2.mpr h2), if_pos h2]; rfl
      · rw [if_neg (fun t => h2 (c2.mp t)), if_neg h2]
        by_cases h3 : j = 107
        · rw [if_pos (c5.mpr h3), if_pos h3]; rfl
        · rw [if_neg (fun t => h3 (c5.mp t)), if_neg h3]; rfl
theorem ixo {u j : Nat} {σ : MM} (hu : u ≤ 1) (hj : j < 256) : f_J0_indexOf_0f7a4 (nI u) (((nI j).toUInt32 % 65536).toInt32) σ = some (nmI u j, σ) := by
  rw [c16 j hj]
  unfold f_J0_indexOf_0f7a4 f_J0_indexOf_7cf53 f_J0_isLatin1_aae02 f_J0_length_8abf5 f_J0_coder_7d493
  rw [bd_some, if_neg n10, bd_some, bd_some]
  unfold f_J1_indexOf_4cfef f_J1_canEncode_9a6ad
  rw [if_neg (nI_pos (by omega)), if_neg (show ¬ (255 : Int32) < nI j from nI_nlt (show j ≤ 255 by omega) (by decide)), bd_some, if_neg n10, lt_eq, lt_eq]
  rw [if_pos (show (if (0 : Int32) < (0 : Int32) then (0 : Int32) else (0 : Int32)) < (if (3 : Int32) < ((3 : Int32) >>> ((0 : Int32) &&& 31)) then (3 : Int32) else ((3 : Int32) >>> ((0 : Int32) &&& 31))) by decide)]
  have e : f_J1_indexOfChar_4cfef (nI u) (nI j) (if (0 : Int32) < (0 : Int32) then (0 : Int32) else (0 : Int32)) (if (3 : Int32) < ((3 : Int32) >>> ((0 : Int32) &&& 31)) then (3 : Int32) else ((3 : Int32) >>> ((0 : Int32) &&& 31))) σ = some (nmI u j, σ) := ixL (f := 996) hu hj
  rw [e, bd_some, bd_some, bd_some]
theorem nm9 {u j : Nat} {τ : MM} (hu : u ≤ 1) (hj : j < 256) (h : τ 129 16 = nI u) : f_X9_nameOf (nI j) τ = some (nmI u j, τ) := by
  have q : ∀ c, c < 256 → (nI j = nI c ↔ j = c) := fun c hc => nI_eq (by omega) (by omega)
  unfold f_X9_nameOf u_X9_nameOf_77 u_X9_nameOf_52 nmI nmP
  rw [h]
  rcases (show u = 0 ∨ u = 1 by omega) with rfl | rfl
  · rw [if_pos (show (0 : Nat) = 0 from rfl), if_neg (show ¬ nI 0 = (1 : Int32) by decide), if_pos (show nI 0 = 0 from rfl)]
    by_cases h1 : j = 119
    · subst h1; rfl
    · rw [if_neg h1]
      by_cases h2 : j = 115
      · subst h2; rfl
      · rw [if_neg h2]
        by_cases h3 : j = 109
        · subst h3; rfl
        · rw [if_neg h3]
          have a1 : ¬ nI j = (119 : Int32) := fun t => h1 ((q 119 (by omega)).mp t)
          have a2 : ¬ nI j = (115 : Int32) := fun t => h2 ((q 115 (by omega)).mp t)
          have a3 : ¬ nI j = (109 : Int32) := fun t => h3 ((q 109 (by omega)).mp t)
          rw [if_neg a3, if_neg a2, if_neg a1, if_neg (show ¬ (3 : Nat) < 3 by omega)]
          split
          · rfl
          · split <;> rfl
  · rw [if_neg (show ¬ (1 : Nat) = 0 by omega), if_pos (show nI 1 = (1 : Int32) from rfl), if_neg (show ¬ nI 1 = 0 by decide)]
    by_cases h1 : j = 98
    · subst h1; rfl
    · rw [if_neg h1]
      by_cases h2 : j = 115
      · subst h2; rfl
      · rw [if_neg h2]
        by_cases h3 : j = 107
        · subst h3; rfl
        · rw [if_neg h3]
          have a1 : ¬ nI j = (98 : Int32) := fun t => h1 ((q 98 (by omega)).mp t)
          have a2 : ¬ nI j = (115 : Int32) := fun t => h2 ((q 115 (by omega)).mp t)
          have a3 : ¬ nI j = (107 : Int32) := fun t => h3 ((q 107 (by omega)).mp t)
          rw [if_neg a1, if_neg a3, if_neg a2, if_neg (show ¬ (3 : Nat) < 3 by omega)]
          split
          · rfl
          · split <;> rfl
theorem nmI_c (u j : Nat) : nmI u j = -1 ∨ ∃ i, i ≤ 2 ∧ nmI u j = nI i := by
  unfold nmI
  by_cases h : nmP u j < 3
  · rw [if_pos h]; exact Or.inr ⟨_, by omega, rfl⟩
  · rw [if_neg h]; exact Or.inl rfl
theorem nmI_d {u j : Nat} (h1 : 48 ≤ j) (h2 : j ≤ 57) : nmI u j = -1 := by
  unfold nmI nmP
  rw [if_neg (show ¬ j = 119 by omega), if_neg (show ¬ j = 115 by omega), if_neg (show ¬ j = 109 by omega), if_neg (show ¬ j = 98 by omega), if_neg (show ¬ j = 115 by omega), if_neg (show ¬ j = 107 by omega)]
  split <;> rfl
/-- what the byte is among the names, on both sides -/
theorem nm_c {z : PZ} (hz : z.ok) {p : Nat} (hp : p ≤ z.L) : ∃ nm : Int32, (nm = -1 ∨ ∃ i, i ≤ 2 ∧ nm = nI i ∧ p < z.L) ∧ (dgP (bY z p) = 1 → nm = -1) ∧
    (∀ (σ : MM) (q : Nat) (rl : Int32 → Int32 → MM → Option (Int32 × MM)) (v1 : Int32), RP z p q σ → (if 0 ≤ bY z p then if (σ 109 4) = 0 ∨ (σ 109 4) = 1 then bd (f_J0_indexOf_0f7a4 (σ 109 4) (((bY z p).toUInt32 % 65536).toInt32) σ) (fun r41 σ42 => u_X4_readLast_35 rl v1 (bY z p) r41 σ42) else none else u_X4_readLast_35 rl v1 (bY z p) (-1 : Int32) σ) = u_X4_readLast_35 rl v1 (bY z p) nm σ) ∧
    (∀ (o q : Nat) (σ τ : MM), RQ z o p q σ τ → f_X9_nameOf (bY z p) τ = some (nm, τ)) := by
  have hu := hz.2.1
  rcases bY_c hz hp with ⟨j, hj, e, hl⟩ | e
  · refine ⟨nmI z.u j, ?_, fun h => ?_, fun σ q rl v1 h => ?_, fun o q σ τ h => ?_⟩
    · rcases nmI_c z.u j with y | ⟨i, h1, h2⟩
      · exact Or.inl y
      · exact Or.inr ⟨i, h1, h2, hl⟩
    · rcases dg_c hz hp with ⟨j', h1, h2, e', _, _⟩ | e'
      · rw [e] at e'
        have : j = j' := nI_inj (by omega) (by omega) e'
        subst this
        exact nmI_d h1 h2
      · rw [e'] at h; exact absurd h (by decide)
    · have h01 : (nI z.u) = 0 ∨ (nI z.u) = 1 := by
        rcases (show z.u = 0 ∨ z.u = 1 by omega) with y | y
        · rw [y]; exact Or.inl rfl
        · rw [y]; exact Or.inr rfl
      rw [e, if_pos (nI_pos' (by omega)), h.2.2.1, if_pos h01, ixo hu (by omega), bd_some]
    · rw [e]
      exact nm9 hu (by omega) h.2.2.2.2.1
  · refine ⟨-1, Or.inl rfl, fun _ => rfl, fun σ q rl v1 h => ?_, fun o q σ τ h => ?_⟩
    · rw [e, if_neg (by decide)]
    · rw [e]; rfl
theorem RQ.bz {z : PZ} {o p q : Nat} {σ τ : MM} (h : RQ z o p q σ τ) : RQ z o p q σ (mu τ 129 15 0) := by
  obtain ⟨h1, h2, h3, h4, h5, h6, h7, h8⟩ := h
  refine ⟨?_, ?_, ?_, mu_eq _ _ _ _, ?_, ?_, fun k hk => ?_, fun k hk => ?_⟩
  · rw [mu_at, if_neg (by omega)]; exact h1
  · rw [mu_at, if_neg (by omega)]; exact h2
  · rw [mu_at, if_neg (by omega)]; exact h3
  · rw [mu_at, if_neg (by omega)]; exact h5
  · rw [mu_off _ _ (by omega)]; exact h6
  · rw [mu_off _ _ (by omega)]; exact h7 k hk
  · rw [mu_off _ _ (by omega), mu_off _ _ (by omega)]; exact h8 k hk
theorem RQ.bd1 {z : PZ} {o p q : Nat} {σ τ : MM} (h : RQ z o p q σ τ) (hq : q ≤ 60) : BD z p (mu τ 129 15 1) := by
  obtain ⟨h1, h2, h3, h4, h5, h6, h7, h8⟩ := h
  refine ⟨?_, mu_eq _ _ _ _, ⟨q, hq, ?_⟩, ?_⟩
  · rw [mu_at, if_neg (by omega)]; exact h1
  · rw [mu_at, if_neg (by omega)]; exact h2
  · rw [mu_off _ _ (by omega)]; exact h6
/-- the same state read against another memory of the class -/
theorem RQ.sg {z : PZ} {o p q : Nat} {σ σ' τ : MM} (h : RQ z o p q σ τ) (e : σ' 111 = σ 111) : RQ z o p q σ' τ := by
  obtain ⟨h1, h2, h3, h4, h5, h6, h7, h8⟩ := h
  exact ⟨h1, h2, h3, h4, h5, h6, h7, fun k hk => by rw [e]; exact h8 k hk⟩

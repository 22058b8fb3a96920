/-- the digits of a number -/
theorem numL {z : PZ} (hz : z.ok) : ∀ (f n v p : Nat), n ≤ 4 → 4 - n < f → p ≤ z.L → v < 10 ^ n →
    ∃ p' n' v', p ≤ p' ∧ p' ≤ z.L ∧ n ≤ n' ∧ n' + p = n + p' ∧ v' ≤ 9999 ∧ (n < 4 → dgP (bY z p) = 1 → n < n') ∧ (dgP (bY z p) = 0 → n' = n) ∧
      (∀ σ q, RP z p q σ → ∃ σ', itr (fun _ _ _ => none) u_X4_readNumber_4 f (nI v) (nI n) σ = u_X4_readNumber_48 (nI v') σ' ∧ RP z p' q σ' ∧ FO σ σ' ∧ σ' 111 = σ 111) ∧
      (∀ o q σ τ, RQ z o p q σ τ → ∃ τ', itr (fun _ _ _ => none) u_X9_number_4 f (nI v) (nI n) τ = u_X9_number_52 (nI v') (nI n') τ' ∧ RQ z o p' q σ τ' ∧ FY τ τ' ∧ τ' 137 = τ 137) := by
  intro f
  induction f with
  | zero => intro n _ _ _ h; omega
  | succ f ih =>
    intro n v p hn hf hp hv
    have hv4 : v ≤ 9999 := by
      have : 10 ^ n ≤ 10 ^ 4 := Nat.pow_le_pow_right (by decide) hn
      omega
    have stop : (4 ≤ n ∨ dgP (bY z p) = 0) → ∃ p' n' v', p ≤ p' ∧ p' ≤ z.L ∧ n ≤ n' ∧ n' + p = n + p' ∧ v' ≤ 9999 ∧ (n < 4 → dgP (bY z p) = 1 → n < n') ∧ (dgP (bY z p) = 0 → n' = n) ∧
      (∀ σ q, RP z p q σ → ∃ σ', itr (fun _ _ _ => none) u_X4_readNumber_4 (f + 1) (nI v) (nI n) σ = u_X4_readNumber_48 (nI v') σ' ∧ RP z p' q σ' ∧ FO σ σ' ∧ σ' 111 = σ 111) ∧
      (∀ o q σ τ, RQ z o p q σ τ → ∃ τ', itr (fun _ _ _ => none) u_X9_number_4 (f + 1) (nI v) (nI n) τ = u_X9_number_52 (nI v') (nI n') τ' ∧ RQ z o p' q σ τ' ∧ FY τ τ' ∧ τ' 137 = τ 137) := by
      intro h
      refine ⟨p, n, v, Nat.le_refl _, hp, Nat.le_refl _, rfl, hv4, fun h1 h2 => ?_, fun _ => rfl, fun σ q hr => ⟨σ, ?_, hr, FO.rf, rfl⟩, fun o q σ τ hr => ⟨τ, ?_, hr, FY.rf, rfl⟩⟩
      · rcases h with h | h
        · omega
        · rw [h] at h2; exact absurd h2 (by decide)
      · rw [itr_s]
        generalize itr (fun _ _ _ => none) u_X4_readNumber_4 f = g
        unfold u_X4_readNumber_4
        by_cases y : 4 ≤ n
        · rw [if_pos (show (4 : Int32) ≤ nI n from nI_le (a := 4) y (by omega))]
        · rw [if_neg (show ¬ (4 : Int32) ≤ nI n from nI_ge (show n < 4 by omega) (by decide)), next_eq hz hr hp, bd_some, isDigit_eq, bd_some, h.resolve_left y, if_pos rfl]
      · rw [itr_s]
        generalize itr (fun _ _ _ => none) u_X9_number_4 f = g
        unfold u_X9_number_4
        by_cases y : 4 ≤ n
        · rw [if_pos (show (4 : Int32) ≤ nI n from nI_le (a := 4) y (by omega))]
        · rw [if_neg (show ¬ (4 : Int32) ≤ nI n from nI_ge (show n < 4 by omega) (by decide)), look_eq hz hr hp, bd_some, inD_eq, bd_some, h.resolve_left y, if_pos rfl]
    by_cases h4 : 4 ≤ n
    · exact stop (Or.inl h4)
    · rcases dg_c hz hp with ⟨j, j1, j2, ej, hl, ed⟩ | ed
      · have hpow : 10 ^ (n + 1) = 10 ^ n * 10 := Nat.pow_succ 10 n
        obtain ⟨p', n', v', a1, a2, a3, a4, a5, -, -, a7, a8⟩ := ih (n + 1) (10 * v + j - 48) (p + 1) (by omega) (by omega) (by omega) (by omega)
        have ev : (((10 : Int32) * nI v) + nI j) - (48 : Int32) = nI (10 * v + j - 48) := by rw [lit 10, pk_mul, nI_add, lit 48, nI_sub' (by omega)]
        have n4 : ¬ (4 : Int32) ≤ nI n := nI_ge (show n < 4 by omega) (by decide)
        refine ⟨p', n', v', by omega, a2, by omega, by omega, a5, fun _ _ => by omega, fun h => by rw [h] at ed; exact absurd ed (by decide), fun σ q hr => ?_, fun o q σ τ hr => ?_⟩
        · obtain ⟨σ', b1, b2, b3, b4⟩ := a7 _ q hr.on
          refine ⟨σ', ?_, b2, (FO.mu (by omega)).tr b3, b4.trans (mu_off _ _ (by omega))⟩
          rw [itr_s]
          generalize itr (fun _ _ _ => none) u_X4_readNumber_4 f = g at b1 ⊢
          unfold u_X4_readNumber_4
          rw [if_neg n4, next_eq hz hr hp, bd_some, isDigit_eq, bd_some, ed, if_neg n10, next_eq hz hr hp, bd_some, ej, ev, lt_eq, lt_eq, hr.1, k1, k1]
          exact b1
        · obtain ⟨τ', b1, b2, b3, b4⟩ := a8 o q σ _ (hr.on rfl)
          refine ⟨τ', ?_, b2, (FY.mu (by omega)).tr b3, b4.trans (mu_off _ _ (by omega))⟩
          rw [itr_s]
          generalize itr (fun _ _ _ => none) u_X9_number_4 f = g at b1 ⊢
          unfold u_X9_number_4
          rw [if_neg n4, look_eq hz hr hp, bd_some, inD_eq, bd_some, ed, if_neg n10, look_eq hz hr hp, bd_some, ej, ev, lt_eq, lt_eq, hr.1, k1, k1]
          exact b1
      · exact stop (Or.inr ed)

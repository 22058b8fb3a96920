theorem cdX1 {w v : Int32} (h : w = 1) : cdX w v = v := by unfold cdX; rw [if_pos h]
theorem cdX2 {w v : Int32} (h : w = 2) : cdX w v = (-1 : Int32) - v := by subst h; rfl
theorem cdX3 {w v : Int32} (h : w = 3) : cdX w v = (10033 : Int32) := by subst h; rfl
theorem cdXg {w v : Int32} (h : SG w) : cdX w v = (10000 : Int32) + w := by
  obtain ⟨n1, n2, n3⟩ := SG_ne h
  unfold cdX
  rw [if_neg n1, if_neg n2, if_neg n3]
theorem SG_cd {w : Int32} (h : SG w) : (10000 : Int32) ≤ (10000 : Int32) + w ∧ ¬ ((10000 : Int32) + w = (10033 : Int32)) ∧ (10000 : Int32) + w - (10000 : Int32) = w := by
  rcases h with rfl | rfl | rfl | rfl | rfl | rfl | rfl | rfl | rfl | rfl <;> decide
theorem cd_name {j : Nat} (hj : j ≤ 2) : ¬ (10000 : Int32) ≤ (-1 : Int32) - nI j ∧ (-1 : Int32) - nI j < 0 ∧ (-1 : Int32) - ((-1 : Int32) - nI j) = nI j := by
  rcases (show j = 0 ∨ j = 1 ∨ j = 2 by omega) with rfl | rfl | rfl <;> decide
theorem nameAt_eq {F : Nat → Int32} {j : Nat} {σ : MM} (hj : j ≤ 2) : f_X6_nameAt (nI j) (F 0) (F 1) (F 2) σ = some (F j, σ) := by
  unfold f_X6_nameAt
  rcases (show j = 0 ∨ j = 1 ∨ j = 2 by omega) with rfl | rfl | rfl
  · rw [if_pos (by decide)]
  · rw [if_neg (by decide), if_pos (by decide)]
  · rw [if_neg (by decide), if_neg (by decide)]
/-- the class works a law out -/
theorem work_loop {ρ F : Nat → Int32} {a n t : Nat} (hn : n ≤ 60) (hw : ∀ k, k < n → okc ρ a k) : ∀ (m k : Nat) (σ : MM), k ≤ n → n - k < m → σ t 2 = nI n → (∀ j, j < n → σ (t + 1) j = cdX (ρ (a + 1 + j)) (ρ (a + 61 + j))) → (∀ j, j < dp ρ a k → σ (t + 2) j = ev ρ a F k j) → 1 ≤ dp ρ a n → ∃ σ', itr (fun _ _ _ _ _ _ _ => none) u_X6_work_6 m t (F 0) (F 1) (F 2) (nI (dp ρ a k)) (nI k) σ = some (ev ρ a F n 0, σ') ∧ E1 (t + 2) σ σ' := by
  intro m
  induction m with
  | zero => intro k σ _ h; omega
  | succ m ih =>
    intro k σ hk hm hl hc hp hd
    have hdk := dp_le ρ a k
    rw [itr_s]
    generalize itr (fun _ _ _ _ _ _ _ => none) u_X6_work_6 m = K at ih ⊢
    unfold u_X6_work_6
    rw [hl]
    by_cases hkn : k = n
    · subst hkn
      rw [if_pos (nI_le (Nat.le_refl _) (by omega)), hp 0 (by omega)]
      exact ⟨σ, rfl, E1.rf⟩
    · have hlt : k < n := by omega
      rw [if_neg (nI_ge hlt (by omega)), if_neg (show ¬ (60 : Int32) ≤ nI k from nI_ge (show k < 60 by omega) (by decide)), if_neg (ixN (by omega) (by decide)), nI_cl (by omega), hc k hlt]
      have hev := ev_s ρ a F k
      have hdp := dp_s ρ a k
      have ht0 : t ≠ t + 2 := by omega
      have ht1 : t + 1 ≠ t + 2 := by omega
      have h60 : ¬ (60 : Int32) ≤ nI (dp ρ a k) := nI_ge (show dp ρ a k < 60 by omega) (by decide)
      rcases hw k hlt with ⟨h1, j, hj, hv⟩ | ⟨h1, j, hj, hv⟩ | ⟨h1, h2⟩ | ⟨h1, h2⟩
      · rw [if_pos (Or.inl h1)] at hdp
        rw [if_pos h1] at hev
        rw [cdX1 h1, hv, if_neg (show ¬ (10000 : Int32) ≤ nI j from nI_ge (show j < 10000 by omega) (by decide)), if_neg h60, if_neg (nI_pos (by omega))]
        unfold u_X6_work_78
        rw [if_neg (ixN (by omega) (by decide)), nI_cl (by omega), lt_eq]
        obtain ⟨σ', e, e2⟩ := ih (k + 1) (mu σ (t + 2) (dp ρ a k) (nI j)) hlt (by omega) (by rw [mu_off _ _ ht0, hl]) (by rw [mu_off _ _ ht1]; exact hc) (by
          intro q hq
          rw [hdp] at hq
          rw [mu_row, hev, upd_at, upd_at]
          by_cases hqe : q = dp ρ a k
          · rw [if_pos hqe, if_pos hqe, hv]
          · rw [if_neg hqe, if_neg hqe]; exact hp q (by omega)) hd
        refine ⟨σ', ?_, E1.tr E1.mu e2⟩
        rw [← e, hdp, lit 1, nI_add, nI_add]
      · rw [if_pos (Or.inr h1)] at hdp
        rw [if_neg (by rw [h1]; decide), if_pos h1, hv, nI_cl (by omega)] at hev
        obtain ⟨c1, c2, c3⟩ := cd_name hj
        rw [cdX2 h1, hv, if_neg c1, if_neg h60, if_pos c2, c3, nameAt_eq hj, bd_some]
        unfold u_X6_work_78
        rw [if_neg (ixN (by omega) (by decide)), nI_cl (by omega), lt_eq]
        obtain ⟨σ', e, e2⟩ := ih (k + 1) (mu σ (t + 2) (dp ρ a k) (F j)) hlt (by omega) (by rw [mu_off _ _ ht0, hl]) (by rw [mu_off _ _ ht1]; exact hc) (by
          intro q hq
          rw [hdp] at hq
          rw [mu_row, hev, upd_at, upd_at]
          by_cases hqe : q = dp ρ a k
          · rw [if_pos hqe, if_pos hqe]
          · rw [if_neg hqe, if_neg hqe]; exact hp q (by omega)) hd
        refine ⟨σ', ?_, E1.tr E1.mu e2⟩
        rw [← e, hdp, lit 1, nI_add, nI_add]
      · rw [if_neg (by rw [h1]; decide), if_pos h1] at hdp
        rw [if_neg (by rw [h1]; decide), if_neg (by rw [h1]; decide), if_pos h1] at hev
        rw [cdX3 h1, if_pos (by decide)]
        unfold u_X6_work_85
        rw [if_pos (by decide), if_neg (show ¬ nI (dp ρ a k) < (1 : Int32) from nI_nlt h2 (by omega)), lit 1, nI_sub' h2, if_neg (ixN (by omega) (by decide)), nI_cl (by omega), hp _ (by omega)]
        obtain ⟨σ', e, e2⟩ := ih (k + 1) (mu σ (t + 2) (dp ρ a k - 1) (if ev ρ a F k (dp ρ a k - 1) = 0 then 1 else 0)) hlt (by omega) (by rw [mu_off _ _ ht0, hl]) (by rw [mu_off _ _ ht1]; exact hc) (by
          intro q hq
          rw [hdp] at hq
          rw [mu_row, hev, upd_at, upd_at]
          by_cases hqe : q = dp ρ a k - 1
          · rw [if_pos hqe, if_pos hqe]
          · rw [if_neg hqe, if_neg hqe]; exact hp q (by omega)) hd
        refine ⟨σ', ?_, E1.tr E1.mu e2⟩
        rw [← e, hdp]
        unfold u_X6_work_124
        by_cases hz : ev ρ a F k (dp ρ a k - 1) = 0
        · rw [if_pos hz, if_pos hz, if_neg (ixN (by omega) (by decide)), nI_cl (by omega), lt_eq, lit 1, nI_add]
        · rw [if_neg hz, if_neg hz, if_neg (ixN (by omega) (by decide)), nI_cl (by omega), lt_eq, lit 1, nI_add]
      · obtain ⟨n1, n2, n3⟩ := SG_ne h1
        obtain ⟨c1, c2, c3⟩ := SG_cd h1
        rw [if_neg (fun q => q.elim n1 n2), if_neg n3] at hdp
        rw [if_neg n1, if_neg n2, if_neg n3] at hev
        rw [cdXg h1, if_pos c1]
        unfold u_X6_work_85
        rw [if_neg c2]
        unfold u_X6_work_128
        have e1 : nI (dp ρ a k) + (-1 : Int32) = nI (dp ρ a k - 1) := by
          obtain ⟨x, hx⟩ : ∃ x, dp ρ a k = x + 1 := ⟨dp ρ a k - 1, by omega⟩
          rw [hx]
          exact pk_m1 x
        rw [if_neg (show ¬ nI (dp ρ a k) < (2 : Int32) from nI_nlt h2 (by omega)), e1, c3, lit 2, nI_sub' h2, if_neg (ixN (by omega) (by decide)), lit 1, nI_sub' (show 1 ≤ dp ρ a k by omega), if_neg (ixN (by omega) (by decide)), nI_cl (by omega), nI_cl (by omega), join_eq h1, bd_some, lt_eq, nI_add, hp _ (by omega), hp _ (by omega)]
        obtain ⟨σ', e, e2⟩ := ih (k + 1) (mu σ (t + 2) (dp ρ a k - 2) (twoP (ρ (a + 1 + k)) (ev ρ a F k (dp ρ a k - 2)) (ev ρ a F k (dp ρ a k - 1)))) hlt (by omega) (by rw [mu_off _ _ ht0, hl]) (by rw [mu_off _ _ ht1]; exact hc) (by
          intro q hq
          rw [hdp] at hq
          rw [mu_row, hev, upd_at, upd_at]
          by_cases hqe : q = dp ρ a k - 2
          · rw [if_pos hqe, if_pos hqe]
          · rw [if_neg hqe, if_neg hqe]; exact hp q (by omega)) hd
        refine ⟨σ', ?_, E1.tr E1.mu e2⟩
        rw [← e, hdp]

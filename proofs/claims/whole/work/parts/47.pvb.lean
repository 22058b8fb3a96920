theorem loc_c {k : Nat} : k = 0 ∨ k = 1 ∨ k = 2 ∨ k = 3 ∨ k = 4 ∨ k = 5 ∨ (∃ s m, s < 20 ∧ m < 3 ∧ k = 6 + 3 * s + m) ∨ (∃ p m, p < 5 ∧ m < 4 ∧ k = 66 + 4 * p + m) ∨ (∃ j, j < 60 ∧ k = 86 + j) ∨ (∃ j, j < 24 ∧ k = 146 + j) ∨ k = 170 ∨ 170 < k := by
  by_cases a : k < 6
  · omega
  by_cases c : k < 66
  · exact Or.inr (Or.inr (Or.inr (Or.inr (Or.inr (Or.inr (Or.inl ⟨(k - 6) / 3, (k - 6) % 3, by omega, by omega, by omega⟩))))))
  by_cases d : k < 86
  · exact Or.inr (Or.inr (Or.inr (Or.inr (Or.inr (Or.inr (Or.inr (Or.inl ⟨(k - 66) / 4, (k - 66) % 4, by omega, by omega, by omega⟩)))))))
  by_cases e : k < 146
  · exact Or.inr (Or.inr (Or.inr (Or.inr (Or.inr (Or.inr (Or.inr (Or.inr (Or.inl ⟨k - 86, by omega, by omega⟩))))))))
  by_cases f : k < 170
  · exact Or.inr (Or.inr (Or.inr (Or.inr (Or.inr (Or.inr (Or.inr (Or.inr (Or.inr (Or.inl ⟨k - 146, by omega, by omega⟩)))))))))
  · exact Or.inr (Or.inr (Or.inr (Or.inr (Or.inr (Or.inr (Or.inr (Or.inr (Or.inr (Or.inr (by omega))))))))))
theorem loc_PA (b : Nat) {k : Nat} (hk : dm k) : ∃ x s, x < 36 ∧ PA x s ∧ ∀ b, loc b k = (b + x, s) := by
  unfold dm at hk
  rcases loc_c (k := k) with rfl | rfl | rfl | rfl | rfl | rfl | ⟨s, m, hs, hm, rfl⟩ | ⟨p, m, hp, hm, rfl⟩ | ⟨j, hj, rfl⟩ | ⟨j, hj, rfl⟩ | rfl | h
  · exact ⟨0, 10, by omega, by unfold PA; omega, fun _ => rfl⟩
  · exact ⟨0, 11, by omega, by unfold PA; omega, fun _ => rfl⟩
  · exact ⟨0, 1, by omega, by unfold PA; omega, fun _ => rfl⟩
  · exact ⟨0, 3, by omega, by unfold PA; omega, fun _ => rfl⟩
  · exact ⟨0, 7, by omega, by unfold PA; omega, fun _ => rfl⟩
  · exact ⟨0, 9, by omega, by unfold PA; omega, fun _ => rfl⟩
  · exact ⟨11 + s, 1 + m, by omega, by unfold PA; omega, fun b => by rw [loc_j hs hm, show b + 11 + s = b + (11 + s) by omega]⟩
  · exact ⟨31 + p, m, by omega, by unfold PA; omega, fun b => by rw [loc_p hp hm, show b + 31 + p = b + (31 + p) by omega]⟩
  · exact ⟨9, j, by omega, by unfold PA; omega, fun b => loc_t hj⟩
  · exact ⟨10, j, by omega, by unfold PA; omega, fun b => loc_w hj⟩
  · exact ⟨3, 2, by omega, by unfold PA; omega, fun _ => rfl⟩
  · have : k = 291 := by omega
    subst this
    exact ⟨6, 2, by omega, by unfold PA; omega, fun _ => rfl⟩
theorem CR.cp {t0 t1 : Nat} {σ σ' : MM} {ρ : Nat → Int32} (h : CR t1 σ ρ) (p : PW t0 t1 PA σ σ') : CR t0 σ' ρ := by
  refine ⟨fun k hk => ?_, fun n hn hr q hq => ?_, fun n hn hr q hq => ?_⟩
  · obtain ⟨x, s, hx, hp, e⟩ := loc_PA 0 hk
    rw [← h.1 k hk, e t0, e t1]
    exact (p.1 x s hx).1 hp
  · have := (p.1 4 q (by omega)).1 (by unfold PA; omega)
    rw [show t0 + 3 + 1 = t0 + 4 from rfl, this]
    exact h.2.1 n hn hr q hq
  · have := (p.1 7 q (by omega)).1 (by unfold PA; omega)
    rw [show t0 + 6 + 1 = t0 + 7 from rfl, this]
    exact h.2.2 n hn hr q hq
theorem PL.cp {t0 t1 : Nat} {σ σ' : MM} (h : PL t0 σ) (p : PW t0 t1 PA σ σ') : PL t0 σ' := by
  intro j hj
  have := (p.1 (11 + j) 0 (by omega)).2 (by unfold PA; omega)
  rw [show t0 + (11 + j) = t0 + 11 + j by omega] at this
  rw [this]; exact h j hj
theorem copyAllL {a b : Nat} (hab : a ≠ b) : ∀ (f k : Nat) (σ : MM), k ≤ 412 → 412 - k < f → ∃ σ', itr (fun _ _ _ _ => none) u_X9_copyAll_2 f a b (nI k) σ = some ((), σ') ∧ (∀ j, k ≤ j → j < 412 → σ' b j = σ a j) ∧ (∀ j, j < k ∨ 412 ≤ j → σ' b j = σ b j) ∧ E1 b σ σ' := by
  intro f
  induction f with
  | zero => intro k _ _ hk; omega
  | succ f ih =>
    intro k σ hk hf
    rw [itr_s]
    generalize itr (fun _ _ _ _ => none) u_X9_copyAll_2 f = g at ih ⊢
    unfold u_X9_copyAll_2
    by_cases z : 412 ≤ k
    · rw [if_pos (show (412 : Int32) ≤ nI k from nI_le (a := 412) z (by omega))]
      exact ⟨σ, rfl, fun j h1 h2 => by omega, fun _ _ => rfl, E1.rf⟩
    · rw [if_neg (show ¬ (412 : Int32) ≤ nI k from nI_ge (show k < 412 by omega) (by decide)), if_neg (ixN (by omega) (by decide)), nI_cl (by omega), lt_eq, lit 1, nI_add]
      obtain ⟨σ', e1, e2, e3, e4⟩ := ih (k + 1) (mu σ b k (σ a k)) (by omega) (by omega)
      refine ⟨σ', e1, fun j h1 h2 => ?_, fun j hj => ?_, E1.mu.tr e4⟩
      · by_cases y : j = k
        · subst y; rw [e3 j (by omega), mu_at, if_pos ⟨rfl, rfl⟩]
        · rw [e2 j (by omega) h2, mu_off _ _ hab]
      · rw [e3 j (by omega), mu_at, if_neg (by omega)]
theorem copyAllF {a b : Nat} (hab : a ≠ b) (σ : MM) : ∃ σ', f_X9_copyAll a b σ = some ((), σ') ∧ (∀ j, j < 412 → σ' b j = σ a j) ∧ (∀ j, 412 ≤ j → σ' b j = σ b j) ∧ E1 b σ σ' := by
  obtain ⟨s, e1, e2, e3, e4⟩ := copyAllL hab FU 0 σ (by omega) (by rw [FU_eq]; omega)
  exact ⟨s, by unfold f_X9_copyAll l_X9_copyAll_2; rw [lit 0]; exact e1, fun j hj => e2 j (by omega) hj, fun j hj => e3 j (Or.inr hj), e4⟩
theorem CR.cg {b : Nat} {σ : MM} {ρ ρ' : Nat → Int32} (h : CR b σ ρ) (e : ∀ k, k < 412 → ρ' k = ρ k) : CR b σ ρ' := by
  refine ⟨fun k hk => ?_, fun n hn hr q hq => ?_, fun n hn hr q hq => ?_⟩
  · rw [e k (by unfold dm at hk; omega)]; exact h.1 k hk
  · rw [e _ (by omega)] at hr
    rw [e _ (by omega), e _ (by omega)]; exact h.2.1 n hn hr q hq
  · rw [e _ (by omega)] at hr
    rw [e _ (by omega), e _ (by omega)]; exact h.2.2 n hn hr q hq
theorem IR.cg {ρ ρ' : Nat → Int32} (h : IR ρ) (e : ∀ k, k < 412 → ρ' k = ρ k) : IR ρ' := by
  refine ⟨fun k hk => ?_, fun p hp => ?_, WF.cg (e _ (by omega)) (fun i hi => e _ (by omega)) (fun i hi => e _ (by omega)) h.2.2.1, WF.cg (e _ (by omega)) (fun i hi => e _ (by omega)) (fun i hi => e _ (by omega)) h.2.2.2⟩
  · rw [e k (by unfold di at hk; omega)]; exact h.1 k hk
  · rw [e _ (by omega), e _ (by omega)]; exact h.2.1 p hp
/-- promise 33 -/
theorem op_image {σ : MM} (h : GD σ) : SIM (f_X8_image σ) f_X9_image := by
  obtain ⟨s, e1, p⟩ := copyF (t0 := 36) (t1 := 0) (σ := σ) (Or.inr (by omega))
  have hC := h.1.1.cp p
  have hP := h.2.1.2.1.cp p
  have o : ∀ i, i < 36 ∨ 72 ≤ i → s i = σ i := fun i hi => p.2 i (by omega)
  obtain ⟨t, f1, f2, -, f4⟩ := copyAllF (a := 130) (b := 131) (by omega) (mu s 108 8 (s 108 8 + 1))
  have q130 : t 130 = σ 130 := by rw [f4 130 (by omega), mu_off _ _ (by omega), o 130 (by omega)]
  have q131 : ∀ k, k < 412 → t 131 k = σ 130 k := fun k hk => by rw [f2 k hk, mu_off _ _ (by omega), o 130 (by omega)]
  have low : ∀ i, i < 129 → i ≠ 108 → t i = s i := fun i hi h8 => by rw [f4 i (by omega), mu_off _ _ h8]
  have im : s 108 8 = t 129 3 := by rw [f4 129 (by omega), mu_off _ _ (by omega), o 129 (by omega), o 108 (by omega)]; exact h.2.2.1.1
  have u : ∀ i, 130 ≤ i → i ≠ 131 → t i = σ i := fun i hi h1 => by rw [f4 i h1, mu_off _ _ (by omega), o i (by omega)]
  refine ⟨t 129 3 + 1, mu s 108 8 (s 108 8 + 1), mu t 129 3 (t 129 3 + 1), ?_, ?_, ⟨⟨?_, ?_⟩, ⟨?_, ?_, ?_⟩, ⟨?_, fun _ => ⟨?_, ?_⟩⟩, ?_, ?_, ?_⟩⟩
  · unfold f_X8_image
    rw [e1, bd_some, lt_eq, mu_at, if_pos ⟨rfl, rfl⟩, im]
  · unfold f_X9_image
    rw [f1, bd_some, lt_eq, mu_at, if_pos ⟨rfl, rfl⟩]
  · rw [mu_off _ _ (by omega), q130]
    exact h.1.1.off (fun i _ hi => by rw [mu_off _ _ (by omega), low i (by omega) (by omega), o i (by omega)])
  · rw [mu_off _ _ (by omega), q130]; exact h.1.2
  · intro j hj; rw [mu_off _ _ (by omega), low _ (by omega) (by omega), o _ (by omega)]; exact h.2.1.1 j hj
  · intro j hj; rw [mu_off _ _ (by omega), low _ (by omega) (by omega)]; exact hP j hj
  · intro j hj; rw [mu_off _ _ (by omega), low _ (by omega) (by omega), o _ (by omega)]; exact h.2.1.2.2 j hj
  · rw [mu_off _ _ (by omega), f4 108 (by omega), mu_at, if_pos ⟨rfl, rfl⟩, mu_at, if_pos ⟨rfl, rfl⟩, im]
  · rw [mu_off _ _ (by omega)]
    exact (hC.cg q131).off (fun i _ hi => by rw [mu_off _ _ (by omega), low i (by omega) (by omega)])
  · rw [mu_off _ _ (by omega)]; exact h.1.2.cg q131
  · intro p' hp'
    obtain ⟨⟨m, hm, m1, m2⟩, b1, b2, b3⟩ := h.2.2.2.1 p' hp'
    have a1 : (mu t 129 3 (t 129 3 + 1)) (120 + p') = σ (120 + p') := by rw [mu_off _ _ (by omega), low (120 + p') (by omega) (by omega), o (120 + p') (by omega)]
    have a2 : (mu t 129 3 (t 129 3 + 1)) (124 + p') = σ (124 + p') := by rw [mu_off _ _ (by omega), low (124 + p') (by omega) (by omega), o (124 + p') (by omega)]
    have a3 : (mu t 129 3 (t 129 3 + 1)) 134 = σ 134 := by rw [mu_off _ _ (by omega), u 134 (by omega) (by omega)]
    have a4 : (mu t 129 3 (t 129 3 + 1)) 135 = σ 135 := by rw [mu_off _ _ (by omega), u 135 (by omega) (by omega)]
    have a5 : (mu t 129 3 (t 129 3 + 1)) 136 = σ 136 := by rw [mu_off _ _ (by omega), u 136 (by omega) (by omega)]
    rw [a1, a2, a3, a4, a5]
    exact ⟨⟨m, hm, m1, m2⟩, b1, b2, b3⟩
  · intro k hk; rw [mu_off _ _ (by omega), mu_off _ _ (by omega), low 128 (by omega) (by omega), u 133 (by omega) (by omega), o 128 (by omega)]; exact h.2.2.2.2.1 k hk
  · obtain ⟨n, hn, t1, t2, t3⟩ := h.2.2.2.2.2
    refine ⟨n, hn, ?_, ?_, fun k hk => ?_⟩
    · rw [mu_off _ _ (by omega), low 113 (by omega) (by omega), o 113 (by omega)]; exact t1
    · rw [mu_at, if_neg (by omega), f4 129 (by omega), mu_off _ _ (by omega), o 129 (by omega)]; exact t2
    · rw [mu_off _ _ (by omega), mu_off _ _ (by omega), low 114 (by omega) (by omega), o 114 (by omega), u 142 (by omega) (by omega)]; exact t3 k hk
/-- promise 34 -/
theorem op_restore {σ : MM} (h : GD σ) : SIM (f_X8_restore σ) f_X9_restore := by
  by_cases z : σ 129 3 = 0
  · refine SIM.B h (k := 2) (e := -1000000002) (by omega) (by omega) eN ?_ (fun t ht => ?_)
    · unfold f_X8_restore; rw [h.2.2.1.1, if_pos z]
    · unfold f_X9_restore; rw [ht 129 (by omega), if_pos z]
  · obtain ⟨k1, k2⟩ := h.2.2.1.2 z
    obtain ⟨s, e1, p⟩ := copyF (t0 := 0) (t1 := 36) (σ := σ) (Or.inl (by omega))
    have hC := k1.cp p
    have hP := h.2.1.1.cp p
    have o : ∀ i, 36 ≤ i → s i = σ i := fun i hi => p.2 i (by omega)
    obtain ⟨t, f1, f2, -, f4⟩ := copyAllF (a := 131) (b := 130) (by omega) s
    have q130 : ∀ k, k < 412 → t 130 k = σ 131 k := fun k hk => by rw [f2 k hk, o 131 (by omega)]
    have g1 : GO σ s := ⟨fun i _ hi _ => o i hi, fun j hj => by rw [o _ (by omega)], by rw [o _ (by omega)], by rw [o _ (by omega)], by rw [o _ (by omega)]⟩
    have g2 : GO s t := ⟨fun i _ _ h2 => f4 i h2, fun j hj => by rw [f4 _ (by omega)], by rw [f4 _ (by omega)], by rw [f4 _ (by omega)], by rw [f4 _ (by omega)]⟩
    refine SIM.mk (r := t 130 0) (σ1 := s) (σ2 := t) (ρ1 := t 130) h ?_ ?_ g1 g2 (hC.cg q130) hP (fun i hi _ => f4 i (by omega)) rfl (k2.cg q130)
    · unfold f_X8_restore
      rw [h.2.2.1.1, if_neg z, e1, bd_some, hC.hour, q130 0 (by omega)]
    · unfold f_X9_restore
      rw [o 129 (by omega), if_neg z, f1, bd_some]

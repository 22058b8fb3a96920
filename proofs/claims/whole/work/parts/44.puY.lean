theorem carryL {q n np ns : Nat} (hq : q < 4) (hn : n ≤ 24) (hp : np ≤ 5) (hs : ns ≤ 20) : ∀ (f k : Nat) (σ : MM) (ρ : Nat → Int32), k ≤ n → n - k < f → CR 0 σ ρ → PL 0 σ → IR ρ → ρ 3 = nI np → ρ 2 = nI ns → σ (120 + q) 2 = nI n → ∃ (r : Int32) (σ' : MM) (ρ' : Nat → Int32), itr (fun _ _ _ => none) u_X8_carries_33 f (120 + q) (nI k) σ = some (r, σ') ∧ CR 0 σ' ρ' ∧ PL 0 σ' ∧ FR 0 σ σ' ∧ IR ρ' ∧ ∀ τ : MM, τ 130 = ρ → τ 135 q = nI n → (∀ j, j < 24 → NR (σ (124 + q) j) (τ 136 (24 * q + j))) → ∃ τ', itr (fun _ _ _ => none) u_X9_carries_18 f (nI q) (nI k) τ = some (r, τ') ∧ τ' 130 = ρ' ∧ RO τ τ' := by
  have i4 : ¬ (nI q < 0 ∨ 4 ≤ (nI q).toNatClampNeg) := ixN hq (by decide)
  have c4 : (nI q).toNatClampNeg = q := nI_cl (by omega)
  intro f
  induction f with
  | zero => intro k _ _ _ hk; omega
  | succ f ih =>
    intro k σ ρ hk hf hC hP hI e3 e2 hl
    have u8 : ∀ s, itr (fun _ _ _ => none) u_X8_carries_33 (f + 1) (120 + q) (nI k) s = u_X8_carries_33 (itr (fun _ _ _ => none) u_X8_carries_33 f) (120 + q) (nI k) s := fun s => rfl
    have u9 : ∀ s, itr (fun _ _ _ => none) u_X9_carries_18 (f + 1) (nI q) (nI k) s = u_X9_carries_18 (itr (fun _ _ _ => none) u_X9_carries_18 f) (nI q) (nI k) s := fun s => rfl
    have e0 : σ 0 3 = nI np := hC.people.trans e3
    have s0 : σ 0 1 = nI ns := hC.steps.trans e2
    by_cases z : n ≤ k
    · have e : k = n := by omega
      subst e
      refine ⟨nI k, σ, ρ, ?_, hC, hP, FR.rf, hI, fun τ hτ ht _ => ⟨τ, ?_, hτ, RO.rf⟩⟩
      · rw [u8]; unfold u_X8_carries_33; rw [hl, if_pos (nI_le (Nat.le_refl _) (by omega))]
      · rw [u9]; unfold u_X9_carries_18; rw [if_neg i4, c4, ht, if_pos (nI_le (Nat.le_refl _) (by omega))]
    · have z1 : ¬ nI n ≤ nI k := nI_ge (by omega) (by omega)
      by_cases y : k < np
      · have hk5 : k < 5 := by omega
        obtain ⟨x1, x2, x3⟩ := c24 (k := k) hq (by omega)
        by_cases w : ∃ j, j ≤ ns ∧ σ (124 + q) k = nI j
        · obtain ⟨j, hj, ej⟩ := w
          have w1 : ¬ nI j < 0 := nI_pos (by omega)
          have w2 : ¬ nI ns < nI j := nI_nlt hj (by omega)
          obtain ⟨r, σ', ρ', a1, a2, a3, a4, a5, a6⟩ := ih (k + 1) (mu σ (0 + 31 + k) 0 (nI j)) (upd ρ (66 + 4 * k) (nI j)) (by omega) (by omega) (pput (k := 0) hC _ hk5 (by omega)) (hP.put (by omega)) (hI.at hk5 e2 hs hj) (by rw [upd_at, if_neg (by omega)]; exact e3) (by rw [upd_at, if_neg (by omega)]; exact e2) (by rw [mu_off _ _ (by omega)]; exact hl)
          refine ⟨r, σ', ρ', ?_, a2, a3, (FR.mu (by omega) (by omega)).tr a4, a5, fun τ hτ ht hc => ?_⟩
          · rw [u8]
            generalize itr (fun _ _ _ => none) u_X8_carries_33 f = g8 at a1 ⊢
            unfold u_X8_carries_33
            rw [hl, if_neg z1, personOf_t e0 hp y, bd_some, onO_some, if_pos (kd_p (Or.inl rfl) hk5), get_t hl hn (by omega), bd_some, ej, s0, wi_t w1 w2, bd_some, if_neg (by decide), get_t hl hn (by omega), bd_some, ej, lt_eq, lit 1, nI_add]
            exact a1
          · have ec : τ 136 (24 * q + k) = nI j := ((hc k (by omega)).eq (j := j) (by omega)).mp ej.symm
            obtain ⟨τ', b1, b2, b3⟩ := a6 (mu τ 130 (66 + 4 * k) (nI j)) (by rw [mu_row, hτ]) (by rw [mu_off _ _ (by omega)]; exact ht) (fun i hi => by rw [mu_off _ _ (by omega), mu_off _ _ (by omega)]; exact hc i hi)
            refine ⟨τ', ?_, b2, RO.mu.tr b3⟩
            rw [u9]
            generalize itr (fun _ _ _ => none) u_X9_carries_18 f = g9 at b1 ⊢
            unfold u_X9_carries_18
            rw [if_neg i4, c4, ht, if_neg z1, hτ, e3, if_neg (nI_ge y (by omega)), x1, if_neg x2, x3, ec, e2, in_t w1 w2, bd_some, if_neg (by decide), ec, lets0 (by omega), bd_some, lit 1, nI_add]
            exact b1
        · refine ⟨nI k, σ, ρ, ?_, hC, hP, FR.rf, hI, fun τ hτ ht hc => ⟨τ, ?_, hτ, RO.rf⟩⟩
          · have hb : σ (124 + q) k < 0 ∨ nI ns < σ (124 + q) k := by
              rcases btw_c (σ (124 + q) k) (n := ns) rfl (by omega) with ⟨j, hj, ej, -, -⟩ | hb
              · exact absurd ⟨j, hj, ej⟩ w
              · exact hb
            rw [u8]
            generalize itr (fun _ _ _ => none) u_X8_carries_33 f = g8
            unfold u_X8_carries_33
            rw [hl, if_neg z1, personOf_t e0 hp y, bd_some, onO_some, if_pos (kd_p (Or.inl rfl) hk5), get_t hl hn (by omega), bd_some, s0, wi_f hb, bd_some, if_pos rfl]
          · have hb : τ 136 (24 * q + k) < 0 ∨ nI ns < τ 136 (24 * q + k) := by
              rcases (hc k (by omega)).btw (n := ns) (by omega) with ⟨j, hj, ej, -⟩ | ⟨-, hb⟩
              · exact absurd ⟨j, hj, ej⟩ w
              · exact hb
            rw [u9]
            generalize itr (fun _ _ _ => none) u_X9_carries_18 f = g9
            unfold u_X9_carries_18
            rw [if_neg i4, c4, ht, if_neg z1, hτ, e3, if_neg (nI_ge y (by omega)), x1, if_neg x2, x3, e2, in_f hb, bd_some, if_pos rfl]
      · have y1 : nI np ≤ nI k := nI_le (by omega) (by omega)
        refine ⟨nI k, σ, ρ, ?_, hC, hP, FR.rf, hI, fun τ hτ ht hc => ⟨τ, ?_, hτ, RO.rf⟩⟩
        · rw [u8]
          generalize itr (fun _ _ _ => none) u_X8_carries_33 f = g8
          unfold u_X8_carries_33
          rw [hl, if_neg z1, personOf_f e0 (Or.inr y1), bd_some, onO_none]
        · rw [u9]
          generalize itr (fun _ _ _ => none) u_X9_carries_18 f = g9
          unfold u_X9_carries_18
          rw [if_neg i4, c4, ht, if_neg z1, hτ, e3, if_pos y1]
/-- promise 31 -/
theorem op_carries {a : Int32} {σ : MM} (h : GD σ) : SIM (f_X8_carries a σ) (f_X9_carries a) := by
  obtain ⟨np, hp, e3⟩ := people_b h.1.2
  obtain ⟨ns, hs, e2⟩ := step_b h.1.2
  rcases arg_c a (n := 4) (by omega) with ⟨q, hq, rfl⟩ | ha
  · obtain ⟨n, hn, hl⟩ := shL h hq
    by_cases z : σ 134 q = 0
    · refine SIM.se h ((SE.er 2 (e := -1000000002) (by omega) (by omega) eN).to (x' := f_X8_carries (nI q)) (y' := f_X9_carries (nI q)) (fun s g => ?_) (fun s g => ?_))
      · unfold f_X8_carries
        rw [sheetOf_t hq, bd_some, onO_some, if_pos (kd_s hq), miss_eq, bd_some, (shB h hq g).1, if_pos z, if_neg (by decide)]
      · unfold f_X9_carries
        rw [notThere_t hq, bd_some, (shB h hq g).2, if_pos z, if_neg (by decide)]
    · obtain ⟨r, σ1, ρ1, a1, a2, a3, a4, a5, a6⟩ := carryL hq hn hp hs FU 0 σ (σ 130) (by omega) (by rw [FU_eq]; omega) h.1.1 h.2.1.1 h.1.2 e3 e2 (hl σ GN.rf).1
      have e130 : σ1 130 = σ 130 := a4 130 (by unfold JK; omega) (by omega)
      have e134 : σ1 134 = σ 134 := a4 134 (by unfold JK; omega) (by omega)
      have e135 : σ1 135 = σ 135 := a4 135 (by unfold JK; omega) (by omega)
      have e136 : σ1 136 = σ 136 := a4 136 (by unfold JK; omega) (by omega)
      obtain ⟨σ2, b1, b2, b3⟩ := a6 σ1 e130 (by rw [e135]; exact (hl σ GN.rf).2) (fun j hj => by rw [e136]; exact shC h hq hj GN.rf GN.rf)
      refine SIM.mk (r := r) (σ1 := σ1) (σ2 := σ2) (ρ1 := ρ1) h ?_ ?_ a4.go b3.go a2 a3 (fun i hi hj => b3 i hj (by omega)) b2 a5
      · unfold f_X8_carries
        rw [sheetOf_t hq, bd_some, onO_some, if_pos (kd_s hq), miss_eq, bd_some, (shB h hq GN.rf).1, if_neg z, if_pos rfl]; exact a1
      · unfold f_X9_carries
        rw [notThere_t hq, bd_some, e134, if_neg z, if_pos rfl]; exact b1
  · refine SIM.se h ((SE.er 1 (e := -1000000001) (by omega) (by omega) eB).to (x' := f_X8_carries a) (y' := f_X9_carries a) (fun s g => ?_) (fun s g => ?_))
    · unfold f_X8_carries
      rw [sheetOf_f ha, bd_some, onO_none]
    · unfold f_X9_carries
      rw [notThere_f ha, bd_some, if_neg (by decide)]

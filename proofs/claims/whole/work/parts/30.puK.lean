def goP (s n l : Nat) : Int32 := if s < n ∧ 0 < l then 1 else 0
theorem canGo0 {b p s n l : Nat} {σ : MM} {ρ : Nat → Int32} (hC : CR b σ ρ) (hp : p < 5) (e2 : ρ 2 = nI n) (hn : n ≤ 20) (ea : ρ (66 + 4 * p) = nI s) (hs : s ≤ 20) (el : ρ (66 + 4 * p + 1) = nI l) (hl : l ≤ 999) : f_X0_canGo b (b + 31 + p) σ = some (goP s n l, σ) := by
  have a1 : σ (b + 31 + p) 0 = nI s := (hC.p hp (k := 0) (by omega)).trans ea
  have l1 : σ (b + 31 + p) 1 = nI l := (hC.p hp (k := 1) (by omega)).trans el
  unfold f_X0_canGo f_X0_isUp goP
  rw [a1, hC.steps, e2]
  by_cases h : s < n
  · rw [if_pos (nI_lt h (by omega)), bd_some, if_pos rfl, l1]
    by_cases h0 : 0 < l
    · rw [if_neg (nI_nle h0 (by omega)), if_pos ⟨h, h0⟩]
    · rw [if_pos (show nI l ≤ 0 from nI_le (b := 0) (by omega) (by omega)), if_neg (fun q => h0 q.2)]
  · rw [if_neg (nI_nlt (by omega) (by omega)), bd_some, if_neg (by decide), if_neg (fun q => h q.1)]
theorem canGo9 {p s n l : Nat} {σ : MM} (hp : p < 5) (e2 : σ 130 2 = nI n) (hn : n ≤ 20) (ea : σ 130 (66 + 4 * p) = nI s) (hs : s ≤ 20) (el : σ 130 (66 + 4 * p + 1) = nI l) (hl : l ≤ 999) : f_X9_canGo (nI p) σ = some (goP s n l, σ) := by
  unfold f_X9_canGo f_X9_isUp goP
  rw [about0 (by omega), bd_some, ea, e2]
  by_cases h : s < n
  · rw [if_pos (nI_lt h (by omega)), bd_some, if_pos rfl, about1 (by omega), bd_some, el]
    by_cases h0 : 0 < l
    · rw [if_neg (nI_nle h0 (by omega)), if_pos ⟨h, h0⟩]
    · rw [if_pos (show nI l ≤ 0 from nI_le (b := 0) (by omega) (by omega)), if_neg (fun q => h0 q.2)]
  · rw [if_neg (nI_nlt (by omega) (by omega)), bd_some, if_neg (by decide), if_neg (fun q => h q.1)]
/-- promise 7 -/
theorem op_personIs {a b : Int32} {σ : MM} (h : GD σ) : SIM (f_X8_personIs a b σ) (f_X9_personIs a b) := by
  obtain ⟨n, hn, e3⟩ := people_b h.1.2
  obtain ⟨q, hq, e2⟩ := step_b h.1.2
  have hC := h.1.1
  have e0 : σ 0 3 = nI n := hC.people.trans e3
  rcases arg_c a (n := n) (by omega) with ⟨p, hp, rfl⟩ | ha
  · rcases btw_c b (hi := 4) (n := 4) rfl (by decide) with ⟨j, hj, rfl, h1, h2⟩ | hb
    · have hp5 : p < 5 := by omega
      by_cases h4 : j = 4
      · subst h4
        obtain ⟨s, hs, ea⟩ := at_b h.1.2 hp5 e2 hq
        refine SIM.rd (r := if s < q then (0 : Int32) else 1) h ?_ (σ1 := σ) (σ2 := σ) ?_ GE.rf GE.rf
        · unfold f_X8_personIs f_X0_isUp
          rw [personOf_t e0 hn hp, bd_some, onO_some, if_pos (kd_p (Or.inl rfl) hp5), wi_t h1 h2, bd_some, if_neg (by decide), if_neg (by decide), if_neg (by decide), if_neg (by decide), if_neg (by decide), show σ (0 + 31 + p) 0 = nI s from (P0 h (k := 0) hp5 (by omega)).trans ea, show σ 0 1 = nI q from hC.steps.trans e2]
          by_cases hz : s < q
          · rw [if_pos (nI_lt hz (by omega)), bd_some, if_pos rfl, if_pos hz]
          · rw [if_neg (nI_nlt (by omega) (by omega)), bd_some, if_neg (by decide), if_neg hz]
        · unfold f_X9_personIs f_X9_isUp
          rw [isPerson_t e3 hn hp, bd_some, if_neg (by decide), in_t h1 h2, bd_some, if_neg (by decide), if_pos (by decide), about0 (by omega), bd_some, ea, e2]
          by_cases hz : s < q
          · rw [if_pos (nI_lt hz (by omega)), bd_some, if_pos rfl, if_pos hz]
          · rw [if_neg (nI_nlt (by omega) (by omega)), bd_some, if_neg (by decide), if_neg hz]
      · refine SIM.rd (r := σ 130 (66 + 4 * p + j)) h ?_ (σ1 := σ) (σ2 := σ) ?_ GE.rf GE.rf
        · unfold f_X8_personIs
          rw [personOf_t e0 hn hp, bd_some, onO_some, if_pos (kd_p (Or.inl rfl) hp5), wi_t h1 h2, bd_some, if_neg (by decide)]
          have hk := P0 h (s := p) (k := j) hp5 (by omega)
          rcases (show j = 0 ∨ j = 1 ∨ j = 2 ∨ j = 3 by omega) with rfl | rfl | rfl | rfl
          · rw [if_pos (by decide)]; exact congrArg (fun z => some (z, σ)) hk
          · rw [if_neg (by decide), if_pos (by decide)]; exact congrArg (fun z => some (z, σ)) hk
          · rw [if_neg (by decide), if_neg (by decide), if_pos (by decide)]; exact congrArg (fun z => some (z, σ)) hk
          · rw [if_neg (by decide), if_neg (by decide), if_neg (by decide), if_pos (by decide)]; exact congrArg (fun z => some (z, σ)) hk
        · unfold f_X9_personIs
          rw [isPerson_t e3 hn hp, bd_some, if_neg (by decide), in_t h1 h2, bd_some, if_neg (by decide), if_neg (show ¬ (4 : Int32) ≤ nI j from nI_ge (show j < 4 by omega) (by decide)), about_eq (by omega) (by omega), bd_some]
    · refine SIM.B h (k := 1) (e := -1000000001) (by omega) (by omega) eB ?_ (fun t ht => ?_)
      · unfold f_X8_personIs
        rw [personOf_t e0 hn hp, bd_some, onO_some, if_pos (kd_p (Or.inl rfl) (by omega)), wi_f hb, bd_some, if_pos rfl]; rfl
      · unfold f_X9_personIs
        rw [isPerson_t (by rw [ht 130 (by omega)]; exact e3) hn hp, bd_some, if_neg (by decide), in_f hb, bd_some, if_pos rfl]; rfl
  · refine SIM.B h (k := 1) (e := -1000000001) (by omega) (by omega) eB ?_ (fun t ht => ?_)
    · unfold f_X8_personIs
      rw [personOf_f e0 ha, bd_some, onO_none]; rfl
    · unfold f_X9_personIs
      rw [isPerson_f (by rw [ht 130 (by omega)]; exact e3) hn ha, bd_some, if_pos rfl]; rfl
/-- promise 8 -/
theorem op_rests {a b : Int32} {σ : MM} (h : GD σ) : SIM (f_X8_rests a b σ) (f_X9_rests a b) := by
  obtain ⟨n, hn, e3⟩ := people_b h.1.2
  have hC := h.1.1
  have e0 : σ 0 3 = nI n := hC.people.trans e3
  rcases arg_c a (n := n) (by omega) with ⟨p, hp, rfl⟩ | ha
  · rcases btw_c b (hi := 999) (n := 999) rfl (by decide) with ⟨j, hj, rfl, h1, h2⟩ | hb
    · have hp5 : p < 5 := by omega
      refine SIM.mk (r := σ 130 (66 + 4 * p + 1)) (σ1 := mu σ (0 + 31 + p) 1 (nI j)) (σ2 := mu (mu σ (0 + 31 + p) 1 (nI j)) 130 (66 + 4 * p + 1) (nI j)) (ρ1 := upd (σ 130) (66 + 4 * p + 1) (nI j)) h ?_ ?_ (GO.low (by omega)) GO.row ?_ ?_ ?_ ?_ ?_
      · unfold f_X8_rests
        rw [personOf_t e0 hn hp, bd_some, onO_some, if_pos (kd_p (Or.inl rfl) hp5), wi_t h1 h2, bd_some, if_neg (by decide), lt_eq]
        exact congrArg (fun z => some (z, _)) (P0 h (k := 1) hp5 (by omega))
      · have hu : UP σ (mu σ (0 + 31 + p) 1 (nI j)) := LOW_mu (by omega)
        generalize mu σ (0 + 31 + p) 1 (nI j) = t at hu ⊢
        have e130 := hu 130 (by omega)
        unfold f_X9_rests
        rw [isPerson_t (by rw [e130]; exact e3) hn hp, bd_some, if_neg (by decide), in_t h1 h2, bd_some, if_neg (by decide), lit 4, lit 66, pk_mul, nI_add, lit 1, nI_add, becomes_eq (by omega), bd_some, e130]
      · exact person_put (k := 1) hC _ hp5 (by omega)
      · exact PL.low h.2.1.1 (by omega)
      · intro i hi _; rw [mu_off _ _ (by omega)]
      · rw [mu_row, mu_off _ _ (by omega)]
      · exact h.1.2.p hp5 (by omega) (by omega) (by rw [bnd_p1 hp5]; exact hj)
    · refine SIM.B h (k := 1) (e := -1000000001) (by omega) (by omega) eB ?_ (fun t ht => ?_)
      · unfold f_X8_rests
        rw [personOf_t e0 hn hp, bd_some, onO_some, if_pos (kd_p (Or.inl rfl) (by omega)), wi_f hb, bd_some, if_pos rfl]; rfl
      · unfold f_X9_rests
        rw [isPerson_t (by rw [ht 130 (by omega)]; exact e3) hn hp, bd_some, if_neg (by decide), in_f hb, bd_some, if_pos rfl]; rfl
  · refine SIM.B h (k := 1) (e := -1000000001) (by omega) (by omega) eB ?_ (fun t ht => ?_)
    · unfold f_X8_rests
      rw [personOf_f e0 ha, bd_some, onO_none]; rfl
    · unfold f_X9_rests
      rw [isPerson_f (by rw [ht 130 (by omega)]; exact e3) hn ha, bd_some, if_pos rfl]; rfl
/-- promise 9 -/
theorem op_carry {a b : Int32} {σ : MM} (h : GD σ) : SIM (f_X8_carry a b σ) (f_X9_carry a b) := by
  obtain ⟨n, hn, e3⟩ := people_b h.1.2
  obtain ⟨q, hq, e2⟩ := step_b h.1.2
  have hC := h.1.1
  have e0 : σ 0 3 = nI n := hC.people.trans e3
  have s0 : σ 0 1 = nI q := hC.steps.trans e2
  rcases arg_c a (n := n) (by omega) with ⟨p, hp, rfl⟩ | ha
  · rcases btw_c b (hi := nI q) (n := q) rfl (by omega) with ⟨j, hj, rfl, h1, h2⟩ | hb
    · have hp5 : p < 5 := by omega
      refine SIM.mk (r := σ 130 (66 + 4 * p)) (σ1 := mu σ (0 + 31 + p) 0 (nI j)) (σ2 := mu (mu σ (0 + 31 + p) 0 (nI j)) 130 (66 + 4 * p) (nI j)) (ρ1 := upd (σ 130) (66 + 4 * p) (nI j)) h ?_ ?_ (GO.low (by omega)) GO.row ?_ ?_ ?_ ?_ ?_
      · unfold f_X8_carry
        rw [personOf_t e0 hn hp, bd_some, onO_some, if_pos (kd_p (Or.inl rfl) hp5), s0, wi_t h1 h2, bd_some, if_neg (by decide), lt_eq]
        exact congrArg (fun z => some (z, _)) (P0 h (k := 0) hp5 (by omega))
      · have hu : UP σ (mu σ (0 + 31 + p) 0 (nI j)) := LOW_mu (by omega)
        generalize mu σ (0 + 31 + p) 0 (nI j) = t at hu ⊢
        have e130 := hu 130 (by omega)
        unfold f_X9_carry
        rw [isPerson_t (by rw [e130]; exact e3) hn hp, bd_some, if_neg (by decide), e130, e2, in_t h1 h2, bd_some, if_neg (by decide), lit 4, lit 66, pk_mul, nI_add, lit 0, nI_add, becomes_eq (by omega), bd_some, e130]
        rfl
      · exact person_put (k := 0) hC _ hp5 (by omega)
      · exact PL.low h.2.1.1 (by omega)
      · intro i hi _; rw [mu_off _ _ (by omega)]
      · rw [mu_row, mu_off _ _ (by omega)]
      · exact h.1.2.at hp5 e2 hq hj
    · refine SIM.B h (k := 1) (e := -1000000001) (by omega) (by omega) eB ?_ (fun t ht => ?_)
      · unfold f_X8_carry
        rw [personOf_t e0 hn hp, bd_some, onO_some, if_pos (kd_p (Or.inl rfl) (by omega)), s0, wi_f hb, bd_some, if_pos rfl]; rfl
      · unfold f_X9_carry
        rw [isPerson_t (by rw [ht 130 (by omega)]; exact e3) hn hp, bd_some, if_neg (by decide), ht 130 (by omega), e2, in_f hb, bd_some, if_pos rfl]; rfl
  · refine SIM.B h (k := 1) (e := -1000000001) (by omega) (by omega) eB ?_ (fun t ht => ?_)
    · unfold f_X8_carry
      rw [personOf_f e0 ha, bd_some, onO_none]; rfl
    · unfold f_X9_carry
      rw [isPerson_f (by rw [ht 130 (by omega)]; exact e3) hn ha, bd_some, if_pos rfl]; rfl
theorem isWord8_t {j : Nat} {σ : MM} (h1 : ¬ nI j < 0) (h2 : ¬ (99 : Int32) < nI j) : f_X8_isWord (nI j) σ = some (1, σ) := by
  unfold f_X8_isWord; rw [wi_t h1 h2, bd_some, if_pos (Or.inr rfl)]
theorem isWord8_f {a : Int32} {σ : MM} (h : a < 0 ∨ (99 : Int32) < a) : f_X8_isWord a σ = some (0, σ) := by
  unfold f_X8_isWord; rw [wi_f h, bd_some, if_pos (Or.inl rfl)]
theorem isWord9_t {j : Nat} {σ : MM} (h1 : ¬ nI j < 0) (h2 : ¬ (99 : Int32) < nI j) : f_X9_isWord (nI j) σ = some (1, σ) := by
  unfold f_X9_isWord; rw [in_t h1 h2, bd_some, if_pos (Or.inr rfl)]
theorem isWord9_f {a : Int32} {σ : MM} (h : a < 0 ∨ (99 : Int32) < a) : f_X9_isWord a σ = some (0, σ) := by
  unfold f_X9_isWord; rw [in_f h, bd_some, if_pos (Or.inl rfl)]
/-- promise 10 -/
theorem op_content {a b : Int32} {σ : MM} (h : GD σ) : SIM (f_X8_content a b σ) (f_X9_content a b) := by
  obtain ⟨n, hn, e2⟩ := step_b h.1.2
  have hC := h.1.1
  have e0 : σ 0 1 = nI n := hC.steps.trans e2
  rcases arg_c a (n := n) (by omega) with ⟨s, hs, rfl⟩ | ha
  · rcases btw_c b (hi := 99) (n := 99) rfl (by decide) with ⟨j, hj, rfl, h1, h2⟩ | hb
    · obtain ⟨σ1, x1, g1⟩ := cont0 (b := 0) (s := s) (w := nI j) (Or.inl rfl) hC h.2.1.1 h.1.2 (by omega)
      have e130 : σ1 130 = σ 130 := g1.ge.row (by unfold JJ JK; omega)
      obtain ⟨σ2, x2, g2⟩ := cont9 (σ := σ1) (s := s) (w := nI j) (by rw [e130]; exact h.1.2) (by omega)
      rw [e130] at x2
      refine SIM.rd (r := if contP (σ 130) s (nI j) = 0 then (0 : Int32) else 1) h ?_ (σ1 := σ1) (σ2 := σ2) ?_ g1.ge g2.ge
      · unfold f_X8_content
        rw [judgeOn_t e0 hn hs, bd_some, onO_some, if_pos (kd_j (Or.inl rfl) (by omega)), isWord8_t h1 h2, bd_some, if_neg (by decide), x1, bd_some]
        split <;> rfl
      · unfold f_X9_content
        rw [isStep_t (by rw [e130]; exact e2) hn hs, bd_some, if_neg (by decide), isWord9_t h1 h2, bd_some, if_neg (by decide), x2, bd_some]
        split <;> rfl
    · refine SIM.B h (k := 1) (e := -1000000001) (by omega) (by omega) eB ?_ (fun t ht => ?_)
      · unfold f_X8_content
        rw [judgeOn_t e0 hn hs, bd_some, onO_some, if_pos (kd_j (Or.inl rfl) (by omega)), isWord8_f hb, bd_some, if_pos rfl]; rfl
      · unfold f_X9_content
        rw [isStep_t (by rw [ht 130 (by omega)]; exact e2) hn hs, bd_some, if_neg (by decide), isWord9_f hb, bd_some, if_pos rfl]; rfl
  · refine SIM.B h (k := 1) (e := -1000000001) (by omega) (by omega) eB ?_ (fun t ht => ?_)
    · unfold f_X8_content
      rw [judgeOn_f e0 ha, bd_some, onO_none]; rfl
    · unfold f_X9_content
      rw [isStep_f (by rw [ht 130 (by omega)]; exact e2) hn ha, bd_some, if_pos rfl]; rfl

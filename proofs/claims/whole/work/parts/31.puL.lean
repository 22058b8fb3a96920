theorem heR_cr {σ : MM} {ρ : Nat → Int32} (h : CR 0 σ ρ) : CR 0 σ ρ := h
/-- promise 11 -/
theorem op_say {a b : Int32} {σ : MM} (h : GD σ) : SIM (f_X8_say a b σ) (f_X9_say a b) := by
  obtain ⟨n, hn, e3⟩ := people_b h.1.2
  obtain ⟨q, hq, e2⟩ := step_b h.1.2
  have hC := h.1.1
  have e0 : σ 0 3 = nI n := hC.people.trans e3
  rcases arg_c a (n := n) (by omega) with ⟨p, hp, rfl⟩ | ha
  · have hp5 : p < 5 := by omega
    rcases btw_c b (hi := 99) (n := 99) rfl (by decide) with ⟨j, hj, rfl, h1, h2⟩ | hb
    · obtain ⟨s, hs, ea⟩ := at_b h.1.2 hp5 e2 hq
      obtain ⟨l, hl, el⟩ := legs_b h.1.2 hp5
      obtain ⟨f, hf, ef⟩ := falls_b h.1.2 hp5
      have c0 := canGo0 (b := 0) hC hp5 e2 hq ea (by omega) el hl
      by_cases hg : s < q ∧ 0 < l
      · have hgo : goP s q l = 1 := if_pos hg
        obtain ⟨hd, hhd, eh⟩ := heard_b h.1.2 (s := s) (by omega)
        obtain ⟨σ1, x1, C1, P1, F1⟩ := hear0 (w := nI j) (Or.inl rfl) hC h.2.1.1 h.1.2 hp5 e2 hq hg.1 ea eh hhd el hg.2 ef hf
        have e130 : σ1 130 = σ 130 := F1 130 (by unfold JK; omega) (by omega)
        obtain ⟨σ2, x2, r2, o2⟩ := says9 (σ := σ1) (w := nI j) (by rw [e130]; exact h.1.2) hp5 (by rw [e130]; exact e2) hq hg.1 (by rw [e130]; exact ea) (by rw [e130]; exact eh) hhd (by rw [e130]; exact el) hg.2 (by rw [e130]; exact ef) hf
        rw [e130] at x2 r2
        have hIR := IR.he (c := contP (σ 130) s (nI j)) (h := hd) h.1.2 hp5 e2 hq hg.1 hl hf
        generalize contP (σ 130) s (nI j) = c at x1 x2 C1 r2 hIR
        refine SIM.mk (r := σ1 (0 + 31 + p) 0) (σ1 := σ1) (σ2 := σ2) (ρ1 := heR (σ 130) p s hd l f c) h ?_ ?_ F1.go o2.go C1 P1 ?_ r2 hIR
        · unfold f_X8_say
          rw [personOf_t e0 hn hp, bd_some, onO_some, if_pos (kd_p (Or.inl rfl) hp5), isWord8_t h1 h2, bd_some, if_neg (by decide), c0, bd_some, hgo, if_neg (by decide), x1, bd_some]
        · unfold f_X9_say
          rw [isPerson_t (by rw [e130]; exact e3) hn hp, bd_some, if_neg (by decide), isWord9_t h1 h2, bd_some, if_neg (by decide), canGo9 hp5 (by rw [e130]; exact e2) hq (by rw [e130]; exact ea) (by omega) (by rw [e130]; exact el) hl, bd_some, hgo, if_neg (by decide), x2, bd_some, about0 (by omega), bd_some, r2]
          exact congrArg (fun z => some (z, σ2)) (C1.p hp5 (k := 0) (by omega)).symm
        · intro i hi hj; exact o2 i hj (by omega)
      · have hgo : goP s q l = 0 := if_neg hg
        refine SIM.B h (k := 3) (e := -1000000003) (by omega) (by omega) eS ?_ (fun t ht => ?_)
        · unfold f_X8_say
          rw [personOf_t e0 hn hp, bd_some, onO_some, if_pos (kd_p (Or.inl rfl) hp5), isWord8_t h1 h2, bd_some, if_neg (by decide), c0, bd_some, hgo, if_pos rfl]
        · have e130 := ht 130 (by omega)
          unfold f_X9_say
          rw [isPerson_t (by rw [e130]; exact e3) hn hp, bd_some, if_neg (by decide), isWord9_t h1 h2, bd_some, if_neg (by decide), canGo9 hp5 (by rw [e130]; exact e2) hq (by rw [e130]; exact ea) (by omega) (by rw [e130]; exact el) hl, bd_some, hgo, if_pos rfl]
    · refine SIM.B h (k := 1) (e := -1000000001) (by omega) (by omega) eB ?_ (fun t ht => ?_)
      · unfold f_X8_say
        rw [personOf_t e0 hn hp, bd_some, onO_some, if_pos (kd_p (Or.inl rfl) (by omega)), isWord8_f hb, bd_some, if_pos rfl]; rfl
      · unfold f_X9_say
        rw [isPerson_t (by rw [ht 130 (by omega)]; exact e3) hn hp, bd_some, if_neg (by decide), isWord9_f hb, bd_some, if_pos rfl]; rfl
  · refine SIM.B h (k := 1) (e := -1000000001) (by omega) (by omega) eB ?_ (fun t ht => ?_)
    · unfold f_X8_say
      rw [personOf_f e0 ha, bd_some, onO_none]; rfl
    · unfold f_X9_say
      rw [isPerson_f (by rw [ht 130 (by omega)]; exact e3) hn ha, bd_some, if_pos rfl]; rfl
theorem givP1_b (ρ : Nat → Int32) (a b c : Int32) : ∃ g, g ≤ 99 ∧ givP ρ 1 a b c = nI g := by
  have hh : ∀ v : Int32, ∃ g, g ≤ 99 ∧ holdP v 99 = nI g := by
    intro v
    unfold holdP
    by_cases h0 : (0 : Int32) ≤ v
    · rw [if_pos h0]
      by_cases h1 : v ≤ (99 : Int32)
      · rw [if_pos h1]
        obtain ⟨j, hj, e⟩ := nI_btw (a := v) (n := 99) (by decide) (fun q => absurd h0 (Int32.not_le.mpr q)) (fun q => absurd h1 (Int32.not_le.mpr q))
        exact ⟨j, hj, e⟩
      · rw [if_neg h1]; exact ⟨99, Nat.le_refl _, rfl⟩
    · rw [if_neg h0]; exact ⟨0, by omega, rfl⟩
  unfold givP
  exact hh _
theorem bribeP_b (ρ : Nat → Int32) (s : Nat) : ∃ g, g ≤ 99 ∧ bribeP ρ s = nI g := givP1_b ρ _ _ _
theorem minR {x g : Nat} (hx : x ≤ 99999) (hg : g ≤ 99) : (if nI x + nI g < (99999 : Int32) then nI x + nI g else (99999 : Int32)) = nI (min (x + g) 99999) := by
  rw [nI_add]
  by_cases q : x + g < 99999
  · rw [if_pos (show nI (x + g) < (99999 : Int32) from nI_lt q (by decide)), Nat.min_eq_left (by omega)]
  · rw [if_neg (show ¬ nI (x + g) < (99999 : Int32) from nI_nlt (show 99999 ≤ x + g by omega) (by omega)), Nat.min_eq_right (show 99999 ≤ x + g by omega)]; rfl
theorem heldR {x : Nat} (hx : x ≤ 200000) : (if (0 : Int32) ≤ nI x then (if nI x ≤ (99999 : Int32) then nI x else (99999 : Int32)) else 0) = nI (min x 99999) := by
  rw [if_pos (nI_pos' (by omega))]
  by_cases q : x ≤ 99999
  · rw [if_pos (show nI x ≤ (99999 : Int32) from nI_le q (by decide)), Nat.min_eq_left q]
  · rw [if_neg (show ¬ nI x ≤ (99999 : Int32) from nI_ge (show 99999 < x by omega) (by omega)), Nat.min_eq_right (show 99999 ≤ x by omega)]; rfl
/-- the row behind a bribe: paid, legs, at -/
def brR (ρ : Nat → Int32) (p s l d g : Nat) : Nat → Int32 :=
  upd (upd (upd ρ (66 + 4 * p + 2) (nI (min (d + g) 99999))) (66 + 4 * p + 1) (nI (l - 1))) (66 + 4 * p) (nI (s + 1))
/-- promise 12 -/
theorem op_bribe {a : Int32} {σ : MM} (h : GD σ) : SIM (f_X8_bribe a σ) (f_X9_bribe a) := by
  obtain ⟨n, hn, e3⟩ := people_b h.1.2
  obtain ⟨q, hq, e2⟩ := step_b h.1.2
  have hC := h.1.1
  have e0 : σ 0 3 = nI n := hC.people.trans e3
  rcases arg_c a (n := n) (by omega) with ⟨p, hp, rfl⟩ | ha
  · have hp5 : p < 5 := by omega
    obtain ⟨s, hs, ea⟩ := at_b h.1.2 hp5 e2 hq
    obtain ⟨l, hl, el⟩ := legs_b h.1.2 hp5
    obtain ⟨d, hd, ed⟩ := paid_b h.1.2 hp5
    have c0 := canGo0 (b := 0) hC hp5 e2 hq ea (by omega) el hl
    have a0 : σ (0 + 31 + p) 0 = nI s := (P0 h (k := 0) hp5 (by omega)).trans ea
    have s0 : σ 0 1 = nI q := hC.steps.trans e2
    by_cases hg : s < q ∧ 0 < l
    · have hgo : goP s q l = 1 := if_pos hg
      obtain ⟨σ0, x0, j0⟩ := bribe0 (b := 0) (s := s) (Or.inl rfl) hC h.2.1.1 h.1.2 (by omega)
      obtain ⟨g, hgg, eg⟩ := bribeP_b (σ 130) s
      have C0 := hC.je (Or.inl rfl) j0
      have Q0 := h.2.1.1.je (Or.inl rfl) j0
      have C1 := person_put (k := 2) C0 (nI (min (d + g) 99999)) hp5 (by omega)
      have C2 := person_put (k := 1) C1 (nI (l - 1)) hp5 (by omega)
      have C3 := person_put (k := 0) C2 (nI (s + 1)) hp5 (by omega)
      have Q3 : PL 0 (mu (mu (mu σ0 (0 + 31 + p) 2 (nI (min (d + g) 99999))) (0 + 31 + p) 1 (nI (l - 1))) (0 + 31 + p) 0 (nI (s + 1))) := PL.low (PL.low (PL.low Q0 (by omega)) (by omega)) (by omega)
      have g1 : GO σ (mu (mu (mu σ0 (0 + 31 + p) 2 (nI (min (d + g) 99999))) (0 + 31 + p) 1 (nI (l - 1))) (0 + 31 + p) 0 (nI (s + 1))) := ((j0.ge.go.tr (GO.low (by omega))).tr (GO.low (by omega))).tr (GO.low (by omega))
      have hu : (mu (mu (mu σ0 (0 + 31 + p) 2 (nI (min (d + g) 99999))) (0 + 31 + p) 1 (nI (l - 1))) (0 + 31 + p) 0 (nI (s + 1))) 130 = σ 130 := by
        rw [mu_off _ _ (by omega), mu_off _ _ (by omega), mu_off _ _ (by omega)]; exact j0 130 (by unfold JK; omega)
      have hx : f_X8_bribe (nI p) σ = some (nI g, mu (mu (mu σ0 (0 + 31 + p) 2 (nI (min (d + g) 99999))) (0 + 31 + p) 1 (nI (l - 1))) (0 + 31 + p) 0 (nI (s + 1))) := by
        have d1 := (C0.p hp5 (k := 2) (by omega)).trans ed
        have l1 := C1.p hp5 (k := 1) (by omega)
        rw [upd_at, if_neg (by omega), el] at l1
        have b1 := C2.p hp5 (k := 0) (by omega)
        rw [upd_at, upd_at, if_neg (by omega), if_neg (by omega)] at b1
        have b2 := b1.trans ea
        unfold f_X8_bribe
        rw [personOf_t e0 hn hp, bd_some, onO_some, if_pos (kd_p (Or.inl rfl) hp5), a0, judgeOn_t s0 hq hg.1, bd_some, onO_some, if_pos (kd_j (Or.inl rfl) (by omega)), c0, bd_some, hgo, if_neg (by decide), x0, bd_some, d1, eg, minR hd hgg, lt_eq, l1, pred1 hg.2, lt_eq, b2, lit 1, nI_add, lt_eq]
      generalize mu (mu (mu σ0 (0 + 31 + p) 2 (nI (min (d + g) 99999))) (0 + 31 + p) 1 (nI (l - 1))) (0 + 31 + p) 0 (nI (s + 1)) = σ1 at C3 Q3 g1 hu hx
      obtain ⟨σ2, x2, j2⟩ := bribe9 (σ := σ1) (s := s) (by rw [hu]; exact h.1.2) (by omega)
      rw [hu] at x2
      have u2 : σ2 130 = σ 130 := (j2 130 (by unfold JK; omega)).trans hu
      have r1 : (mu σ2 130 (66 + 4 * p + 2) (nI (min (d + g) 99999))) 130 = upd (σ 130) (66 + 4 * p + 2) (nI (min (d + g) 99999)) := by rw [mu_row, u2]
      have r2 : (mu (mu σ2 130 (66 + 4 * p + 2) (nI (min (d + g) 99999))) 130 (66 + 4 * p + 1) (nI (l - 1))) 130 = upd (upd (σ 130) (66 + 4 * p + 2) (nI (min (d + g) 99999))) (66 + 4 * p + 1) (nI (l - 1)) := by rw [mu_row, r1]
      refine SIM.mk (r := nI g) (σ1 := σ1) (σ2 := mu (mu (mu σ2 130 (66 + 4 * p + 2) (nI (min (d + g) 99999))) 130 (66 + 4 * p + 1) (nI (l - 1))) 130 (66 + 4 * p) (nI (s + 1))) (ρ1 := brR (σ 130) p s l d g) h hx ?_ g1 (((j2.ge.go.tr GO.row).tr GO.row).tr GO.row) C3 Q3 ?_ ?_ ?_
      · unfold f_X9_bribe
        rw [isPerson_t (by rw [hu]; exact e3) hn hp, bd_some, if_neg (by decide), canGo9 hp5 (by rw [hu]; exact e2) hq (by rw [hu]; exact ea) (by omega) (by rw [hu]; exact el) hl, bd_some, hgo, if_neg (by decide), about0 (by omega), bd_some, hu, ea, x2, bd_some, about2 (by omega), bd_some, u2, ed, eg, nI_add, held_eq, bd_some, heldR (by omega), lets2 (by omega), bd_some, about1 (by omega), bd_some, r1, upd_at, if_neg (by omega), el, pred1 hg.2, lets1 (by omega), bd_some, lit 1, nI_add, lets0 (by omega), bd_some]
      · intro i hi hj
        rw [mu_off _ _ (by omega), mu_off _ _ (by omega), mu_off _ _ (by omega)]
        exact j2 i hj
      · rw [mu_row, r2]; rfl
      · unfold brR
        refine ((h.1.2.p hp5 (k := 2) (by omega) (by omega) (by rw [bnd_p2 hp5]; omega)).p hp5 (k := 1) (by omega) (by omega) (by rw [bnd_p1 hp5]; omega)).at hp5 (m := q) ?_ hq (by omega)
        rw [upd_at, upd_at, if_neg (by omega), if_neg (by omega)]; exact e2
    · have hgo : goP s q l = 0 := if_neg hg
      refine SIM.B h (k := 3) (e := -1000000003) (by omega) (by omega) eS ?_ (fun t ht => ?_)
      · unfold f_X8_bribe
        rw [personOf_t e0 hn hp, bd_some, onO_some, if_pos (kd_p (Or.inl rfl) hp5), a0]
        by_cases hz : s < q
        · rw [judgeOn_t s0 hq hz, bd_some, onO_some, if_pos (kd_j (Or.inl rfl) (by omega)), c0, bd_some, hgo, if_pos rfl]; rfl
        · rw [judgeOn_f s0 (Or.inr (show nI q ≤ nI s from nI_le (by omega) (by omega))), bd_some, onO_none]; rfl
      · have e130 := ht 130 (by omega)
        unfold f_X9_bribe
        rw [isPerson_t (by rw [e130]; exact e3) hn hp, bd_some, if_neg (by decide), canGo9 hp5 (by rw [e130]; exact e2) hq (by rw [e130]; exact ea) (by omega) (by rw [e130]; exact el) hl, bd_some, hgo, if_pos rfl]
  · refine SIM.B h (k := 1) (e := -1000000001) (by omega) (by omega) eB ?_ (fun t ht => ?_)
    · unfold f_X8_bribe
      rw [personOf_f e0 ha, bd_some, onO_none]
    · unfold f_X9_bribe
      rw [isPerson_f (by rw [ht 130 (by omega)]; exact e3) hn ha, bd_some, if_pos rfl]

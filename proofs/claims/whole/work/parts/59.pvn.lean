theorem bd_u (x : Option (Unit × MM)) : bd x (fun _ s => some ((), s)) = x := by
  cases x with
  | none => rfl
  | some p => rfl
theorem BD.op {z : PZ} {p : Nat} {τ : MM} (v : Int32) (h : BD z p τ) : BD z p (mu τ 129 14 v) := by
  obtain ⟨h1, h2, ⟨m, hm, h3⟩, h4⟩ := h
  exact ⟨by rw [mu_at, if_neg (by omega)]; exact h1, by rw [mu_at, if_neg (by omega)]; exact h2, ⟨m, hm, by rw [mu_at, if_neg (by omega)]; exact h3⟩, by rw [mu_off _ _ (by omega)]; exact h4⟩
theorem u103 (op : Int32 → MM → Option (Unit × MM)) (τ : MM) : u_X9_opens_103 op τ = some ((), mu τ 129 14 (τ 129 14 - 1)) := rfl
/-- what is open isn't closed: bad -/
theorem u79b {z : PZ} {p m : Nat} {τ : MM} (op : Int32 → MM → Option (Unit × MM)) (h1 : τ 129 13 = nI p) (h2 : τ 129 12 = nI m) (hm : m ≤ 60) (h3 : τ 130 4 = nI z.L) : ∃ τ', u_X9_opens_79 op 1 τ = some ((), τ') ∧ BD z p τ' ∧ FY τ τ' := by
  have e1 : (mu τ 129 15 1) 129 13 = nI p := by rw [mu_at, if_neg (by omega)]; exact h1
  refine ⟨mu (mu (mu τ 129 15 1) 129 13 (nI p + 0)) 129 14 ((mu (mu τ 129 15 1) 129 13 (nI p + 0)) 129 14 - 1), ?_, ?_, ?_⟩
  · unfold u_X9_opens_79 u_X9_opens_99
    rw [if_pos (Or.inr rfl), lt_eq, mu_eq, if_neg n10, e1, lt_eq, u103]
  · refine BD.op _ ⟨by rw [mu_eq]; exact Int32.add_zero _, by rw [mu_at, if_neg (by omega), mu_eq], ⟨m, hm, ?_⟩, ?_⟩
    · rw [mu_at, if_neg (by omega), mu_at, if_neg (by omega)]; exact h2
    · rw [mu_off _ _ (by omega), mu_off _ _ (by omega)]; exact h3
  · exact ((FY.mu (by omega)).tr (FY.mu (by omega))).tr (FY.mu (by omega))
theorem RQ.q60 {z : PZ} {o p q : Nat} {σ τ : MM} (h : RQ z o p q σ τ) : τ 129 13 = nI p ∧ τ 129 12 = nI q ∧ τ 130 4 = nI z.L := ⟨h.1, h.2.1, h.2.2.2.2.2.1⟩
/-- a number, a name, or what ! and ( open -/
theorem oneX {z : PZ} {o : Nat} {rl : Int32 → Int32 → MM → Option (Int32 × MM)} {op : Int32 → MM → Option (Unit × MM)} (hz : z.ok) (ho : o ≤ 5) (hI : o < 5 → XP z (o + 1) (rl (nI 5) (nI (o + 1))) (f_X9_one op) ∧ XP z (o + 1) (rl (nI 0) (nI (o + 1))) (f_X9_any op)) :
    XP z o (fun σ => bd (f_X4_readLast rl (nI o) σ) (fun r s => if r = 0 ∨ r = 1 then some (r, s) else none)) (f_X9_one (g_X9_opens op)) := by
  intro σ p q hq hp hr
  have hz1 := hz.1
  obtain ⟨nm, n1, n2, n3, n4⟩ := nm_c hz hp
  have c0 : f_X4_readLast rl (nI o) σ = if dgP (bY z p) = 0 then u_X4_readLast_35 rl (nI o) (bY z p) nm σ else bd (f_X4_readNumber σ) (fun _ s => some ((1 : Int32), s)) := by
    unfold f_X4_readLast
    rw [next_eq hz hr hp, bd_some, isDigit_eq, bd_some]
    by_cases d : dgP (bY z p) = 0
    · rw [if_pos d, if_pos d]
      exact n3 σ q rl (nI o) hr
    · rw [if_neg d, if_neg d]
  have r0 : ∀ τ, RQ z o p q σ τ → f_X9_one (g_X9_opens op) τ = if nm < 0 then (if bY z p = 33 then g_X9_opens op (bY z p) τ else if bY z p = 40 then g_X9_opens op (bY z p) τ else f_X9_number τ) else f_X9_lays 2 nm (mu τ 129 13 (nI (p + 1))) := by
    intro τ ht
    unfold f_X9_one u_X9_one_46
    rw [look_eq hz ht hp, bd_some, n4 o q σ τ ht, bd_some, lt_eq, ht.1, k1, bd_u, bd_u, bd_u]
  -- a failure at once
  have fail : f_X4_readLast rl (nI o) σ = some (0, σ) → (∀ τ, RQ z o p q σ τ → ∃ τ', f_X9_one (g_X9_opens op) τ = some ((), τ') ∧ BD z p τ' ∧ FY τ τ') → ∃ (σ' : MM) (p' : Nat), p ≤ p' ∧ p' ≤ z.L ∧ FO σ σ' ∧
    ((∃ q', bd (f_X4_readLast rl (nI o) σ) (fun r s => if r = 0 ∨ r = 1 then some (r, s) else none) = some (1, σ') ∧ RP z p' q' σ' ∧ p < p' ∧ q' + p ≤ q + p' ∧ ∀ τ, RQ z o p q σ τ → ∃ τ', f_X9_one (g_X9_opens op) τ = some ((), τ') ∧ RQ z o p' q' σ' τ' ∧ FY τ τ' ∧ dA (τ' 137) q' = dA (τ 137) q + 1) ∨
     (bd (f_X4_readLast rl (nI o) σ) (fun r s => if r = 0 ∨ r = 1 then some (r, s) else none) = some (0, σ') ∧ σ' 109 1 = nI p' ∧ ∀ τ, RQ z o p q σ τ → ∃ τ', f_X9_one (g_X9_opens op) τ = some ((), τ') ∧ BD z p' τ' ∧ FY τ τ')) :=
    fun h1 h2 => ⟨σ, p, Nat.le_refl _, hp, FO.rf, Or.inr ⟨by rw [h1, bd_some, if_pos (Or.inl rfl)], hr.1, h2⟩⟩
  have five : o = 5 → ∀ (b : Int32) (τ : MM), RQ z o p q σ τ → ∃ τ', g_X9_opens op b τ = some ((), τ') ∧ BD z p τ' ∧ FY τ τ' := by
    intro o5 b τ ht
    refine ⟨_, ?_, ht.bd1 (by omega), FY.mu (by omega)⟩
    unfold g_X9_opens
    rw [ht.2.2.1, o5, if_pos (show nI 5 = (5 : Int32) from rfl), lt_eq]
  have o5i : ∀ h : ¬ o = 5, ¬ nI o = (5 : Int32) := fun h t => h (nI_inj (b := 5) (by omega) (by decide) t)
  have pl : ∀ c : Int32, c ≠ -1 → bY z p = c → p < z.L := by
    intro c hc e
    rcases bY_c hz hp with ⟨_, _, _, hl⟩ | y
    · exact hl
    · exact absurd (e.symm.trans y) hc
  rcases dg_c hz hp with ⟨j, j1, j2, ej, hl, ed⟩ | ed
  · -- a number
    obtain ⟨p', n', v', a1, a2, a3, a4, a5, a6, -, a8, a9⟩ := numL hz FU 0 0 p (by omega) (by rw [FU_eq]; omega) hp (by decide)
    have hn0 : 0 < n' := a6 (by omega) ed
    have nmv := n2 ed
    obtain ⟨σ1, b1, b2, b3, b4⟩ := a8 σ q hr
    have hq1 : q < 60 := by omega
    refine ⟨_, p', a1, a2, b3.tr ((FO.mu (by omega)).tr (FO.mu (by omega))), Or.inl ⟨q + 1, ?_, b2.ad (c := nI v'), by omega, by omega, fun τ ht => ?_⟩⟩
    · show bd (f_X4_readLast rl (nI o) σ) _ = _
      have e : f_X4_readNumber σ = u_X4_readNumber_48 (nI v') σ1 := b1
      rw [c0, if_neg (by rw [ed]; decide), e]
      unfold u_X4_readNumber_48
      rw [add_eq b2.2.2.2.1 hq1, bd_some, bd_some, bd_some, if_pos (Or.inr rfl)]
    · obtain ⟨τ1, w1, w2, w3, w4⟩ := a9 o q σ τ ht
      have e : f_X9_number τ = u_X9_number_52 (nI v') (nI n') τ1 := w1
      have z0 : ¬ nI n' = 0 := fun t => by have := nI_inj (b := 0) (by omega) (by decide) t; omega
      have w2' := (w2.sg b4).bz
      obtain ⟨g1, g2⟩ := w2'.ad (a := 1) (b := nI v') (c := nI v') (cdX1 rfl).symm (Or.inl ⟨rfl, v', a5, rfl⟩)
      refine ⟨_, ?_, g1, (w3.tr (FY.mu (by omega))).tr (((FY.mu (by omega)).tr (FY.mu (by omega))).tr (FY.mu (by omega))), ?_⟩
      · have i33 : ¬ bY z p = (33 : Int32) := fun t => by rw [ej] at t; have := nI_inj (b := 33) (by omega) (by decide) t; omega
        have i40 : ¬ bY z p = (40 : Int32) := fun t => by rw [ej] at t; have := nI_inj (b := 40) (by omega) (by decide) t; omega
        rw [r0 τ ht, nmv, if_pos (show (-1 : Int32) < 0 by decide), if_neg i33, if_neg i40, e]
        unfold u_X9_number_52 u_X9_number_62
        rw [if_neg z0, if_pos (Or.inl rfl), lt_eq, lays_eq w2'.2.1 hq1, bd_some]
      · rw [g2, if_pos (Or.inl rfl), mu_off _ _ (show 137 ≠ 129 by omega), w4]
  · by_cases hnm : nm = -1
    · have hlt : nm < 0 := by rw [hnm]; decide
      by_cases h33 : bY z p = 33
      · by_cases o5 : o = 5
        · refine fail ?_ (fun τ ht => ?_)
          · rw [c0, if_pos ed]
            unfold u_X4_readLast_35
            rw [if_pos hlt, o5, if_neg (by decide)]
          · rw [r0 τ ht, if_pos hlt, if_pos h33]
            exact five o5 _ τ ht
        · have hpl := pl 33 (by decide) h33
          obtain ⟨σ2, p2, b1, b2, b3, b4⟩ := (hI (by omega)).1 (mu σ 109 1 (nI (p + 1))) (p + 1) q (by omega) hpl hr.on
          have cN : f_X4_readLast rl (nI o) σ = bd (bd (rl (nI 5) (nI (o + 1)) (mu σ 109 1 (nI (p + 1)))) (fun r s => if r = 0 then some ((0 : Int32), s) else bd (f_X6_add 110 (10033 : Int32) s) (fun _ s => some ((1 : Int32), s)))) (fun r s => if r = 0 ∨ r = 1 then some (r, s) else none) := by
            rw [c0, if_pos ed]
            unfold u_X4_readLast_35 f_X4_readNot
            rw [if_pos hlt, if_pos (show nI o < (5 : Int32) from nI_lt (show o < 5 by omega) (by decide)), if_pos h33, lt_eq, hr.1, k1, k1]
            rfl
          have rN : ∀ τ, RQ z o p q σ τ → f_X9_one (g_X9_opens op) τ = bd (f_X9_one op (mu (mu τ 129 14 (nI (o + 1))) 129 13 (nI (p + 1)))) (fun _ s => bd (f_X9_lays 3 0 s) (fun _ t => u_X9_opens_103 op t)) := by
            intro τ ht
            rw [r0 τ ht, if_pos hlt, if_pos h33]
            unfold g_X9_opens
            rw [ht.2.2.1, if_neg (o5i o5), k1, lt_eq, mu_at, if_neg (by omega), ht.1, k1, lt_eq, if_pos h33]
          rcases b4 with ⟨q2, x1, r1, lt1, sl1, t1⟩ | ⟨x1, r1, t1⟩
          · have hq2 : q2 < 60 := by omega
            refine ⟨_, p2, by omega, b2, ((FO.mu (by omega)).tr b3).tr ((FO.mu (by omega)).tr (FO.mu (by omega))), Or.inl ⟨q2 + 1, ?_, r1.ad (c := (10033 : Int32)), by omega, by omega, fun τ ht => ?_⟩⟩
            · show bd (f_X4_readLast rl (nI o) σ) _ = _
              rw [cN, x1, bd_some, if_neg n10, add_eq r1.2.2.2.1 hq2, bd_some, bd_some, if_pos (Or.inr rfl), bd_some, if_pos (Or.inr rfl)]
            · obtain ⟨τ2, y1, y2, y3, y4⟩ := t1 (mu (mu τ 129 14 (nI (o + 1))) 129 13 (nI (p + 1))) ((ht.op (o' := o + 1)).on (mu_off _ _ (by omega)))
              rw [mu_off _ _ (show 137 ≠ 129 by omega), mu_off _ _ (show 137 ≠ 129 by omega)] at y4
              obtain ⟨g1, g2⟩ := y2.ad (a := 3) (b := 0) (c := (10033 : Int32)) (cdX3 rfl).symm (Or.inr (Or.inr (Or.inl ⟨rfl, by omega⟩)))
              have e14 : (mu (mu (mu τ2 137 q2 3) 138 q2 0) 129 12 (nI (q2 + 1))) 129 14 - 1 = nI o := by rw [g1.2.2.1]; exact nI_sub' (show 1 ≤ o + 1 by omega)
              refine ⟨mu (mu (mu (mu τ2 137 q2 3) 138 q2 0) 129 12 (nI (q2 + 1))) 129 14 (nI o), ?_, g1.op, ((((FY.mu (by omega)).tr (FY.mu (by omega))).tr y3).tr (((FY.mu (by omega)).tr (FY.mu (by omega))).tr (FY.mu (by omega)))).tr (FY.mu (by omega)), ?_⟩
              · rw [rN τ ht, y1, bd_some, lays_eq y2.2.1 hq2, bd_some, u103, e14]
              · rw [mu_off _ _ (show 137 ≠ 129 by omega), g2, if_neg (by decide), if_pos rfl, y4]
          · refine ⟨σ2, p2, by omega, b2, (FO.mu (by omega)).tr b3, Or.inr ⟨?_, r1, fun τ ht => ?_⟩⟩
            · show bd (f_X4_readLast rl (nI o) σ) _ = _
              rw [cN, x1, bd_some, if_pos rfl, bd_some, if_pos (Or.inl rfl), bd_some, if_pos (Or.inl rfl)]
            · obtain ⟨τ2, y1, y2, y3⟩ := t1 (mu (mu τ 129 14 (nI (o + 1))) 129 13 (nI (p + 1))) ((ht.op (o' := o + 1)).on (mu_off _ _ (by omega)))
              obtain ⟨τ3, v1, v2, v3⟩ := lays_bd (a := 3) (b := 0) y2
              refine ⟨mu τ3 129 14 (τ3 129 14 - 1), ?_, v2.op _, ((((FY.mu (by omega)).tr (FY.mu (by omega))).tr y3).tr v3).tr (FY.mu (by omega))⟩
              rw [rN τ ht, y1, bd_some, v1, bd_some, u103]
      · by_cases h40 : bY z p = 40
        · by_cases o5 : o = 5
          · refine fail ?_ (fun τ ht => ?_)
            · rw [c0, if_pos ed]
              unfold u_X4_readLast_35
              rw [if_pos hlt, o5, if_neg (by decide)]
            · rw [r0 τ ht, if_pos hlt, if_neg h33, if_pos h40]
              exact five o5 _ τ ht
          · have hpl := pl 40 (by decide) h40
            obtain ⟨σ2, p2, b1, b2, b3, b4⟩ := (hI (by omega)).2 (mu σ 109 1 (nI (p + 1))) (p + 1) q (by omega) hpl hr.on
            have cN : f_X4_readLast rl (nI o) σ = bd (bd (rl (nI 0) (nI (o + 1)) (mu σ 109 1 (nI (p + 1)))) (fun r15 σ16 => if r15 = 0 then some ((0 : Int32), σ16) else bd (f_X4_next σ16) (fun r19 σ20 => if r19 = (41 : Int32) then lt (mu σ20 109 1 ((σ20 109 1) + (1 : Int32))) (fun σ23 => some ((1 : Int32), σ23)) else some ((0 : Int32), σ20)))) (fun r s => if r = 0 then some ((0 : Int32), s) else some ((1 : Int32), s)) := by
              rw [c0, if_pos ed]
              unfold u_X4_readLast_35 f_X4_readInner
              rw [if_pos hlt, if_pos (show nI o < (5 : Int32) from nI_lt (show o < 5 by omega) (by decide)), if_neg h33, if_pos h40, lt_eq, hr.1, k1, k1]
              rfl
            have rN : ∀ τ, RQ z o p q σ τ → f_X9_one (g_X9_opens op) τ = bd (f_X9_any op (mu (mu τ 129 14 (nI (o + 1))) 129 13 (nI (p + 1)))) (fun _ σ38 => if (σ38 129 15) = 0 then bd (f_X9_look σ38) (fun r49 σ50 => if r49 = (41 : Int32) then u_X9_opens_79 op (0 : Int32) σ50 else u_X9_opens_79 op (1 : Int32) σ50) else u_X9_opens_79 op (1 : Int32) σ38) := by
              intro τ ht
              rw [r0 τ ht, if_pos hlt, if_neg h33, if_pos h40]
              unfold g_X9_opens
              rw [ht.2.2.1, if_neg (o5i o5), k1, lt_eq, mu_at, if_neg (by omega), ht.1, k1, lt_eq, if_neg h33]
            rcases b4 with ⟨q2, x1, r1, lt1, sl1, t1⟩ | ⟨x1, r1, t1⟩
            · by_cases h41 : bY z p2 = 41
              · have hpl2 : p2 < z.L := by
                  rcases bY_c hz b2 with ⟨_, _, _, hl⟩ | y
                  · exact hl
                  · rw [h41] at y; exact absurd y (by decide)
                refine ⟨mu σ2 109 1 (nI (p2 + 1)), p2 + 1, by omega, hpl2, ((FO.mu (by omega)).tr b3).tr (FO.mu (by omega)), Or.inl ⟨q2, ?_, r1.on, by omega, by omega, fun τ ht => ?_⟩⟩
                · show bd (f_X4_readLast rl (nI o) σ) _ = _
                  rw [cN, x1, bd_some, if_neg n10, next_eq hz r1 b2, bd_some, if_pos h41, lt_eq, r1.1, k1, bd_some, if_neg n10, bd_some, if_pos (Or.inr rfl)]
                · obtain ⟨τ2, y1, y2, y3, y4⟩ := t1 (mu (mu τ 129 14 (nI (o + 1))) 129 13 (nI (p + 1))) ((ht.op (o' := o + 1)).on (mu_off _ _ (by omega)))
                  rw [mu_off _ _ (show 137 ≠ 129 by omega), mu_off _ _ (show 137 ≠ 129 by omega)] at y4
                  have g := (y2.bz.on (σ' := mu σ2 109 1 (nI (p2 + 1))) (mu_off _ _ (by omega))).op (o' := o)
                  refine ⟨mu (mu (mu τ2 129 15 0) 129 13 (nI (p2 + 1))) 129 14 (nI o), ?_, g, (((((FY.mu (by omega)).tr (FY.mu (by omega))).tr y3).tr (FY.mu (by omega))).tr (FY.mu (by omega))).tr (FY.mu (by omega)), ?_⟩
                  · rw [rN τ ht, y1, bd_some, y2.2.2.2.1, if_pos rfl, look_eq hz y2 b2, bd_some, if_pos h41]
                    unfold u_X9_opens_79 u_X9_opens_99
                    have z13 : (mu τ2 129 15 0) 129 13 = nI p2 := y2.bz.1
                    have z14 : (mu (mu τ2 129 15 0) 129 13 (nI (p2 + 1))) 129 14 - 1 = nI o := by
                      rw [mu_at, if_neg (by omega), mu_at, if_neg (by omega), y2.2.2.1]; exact nI_sub' (show 1 ≤ o + 1 by omega)
                    rw [if_pos (Or.inl rfl), lt_eq, mu_eq, if_pos rfl, z13, k1, lt_eq, u103, z14]
                  · rw [mu_off _ _ (show 137 ≠ 129 by omega), mu_off _ _ (show 137 ≠ 129 by omega), mu_off _ _ (show 137 ≠ 129 by omega), y4]
              · refine ⟨σ2, p2, by omega, b2, (FO.mu (by omega)).tr b3, Or.inr ⟨?_, r1.1, fun τ ht => ?_⟩⟩
                · show bd (f_X4_readLast rl (nI o) σ) _ = _
                  rw [cN, x1, bd_some, if_neg n10, next_eq hz r1 b2, bd_some, if_neg h41, bd_some, if_pos rfl, bd_some, if_pos (Or.inl rfl)]
                · obtain ⟨τ2, y1, y2, y3, y4⟩ := t1 (mu (mu τ 129 14 (nI (o + 1))) 129 13 (nI (p + 1))) ((ht.op (o' := o + 1)).on (mu_off _ _ (by omega)))
                  obtain ⟨τ3, v1, v2, v3⟩ := u79b (z := z) op y2.1 y2.2.1 (by omega) y2.q60.2.2
                  refine ⟨τ3, ?_, v2, (((FY.mu (by omega)).tr (FY.mu (by omega))).tr y3).tr v3⟩
                  rw [rN τ ht, y1, bd_some, y2.2.2.2.1, if_pos rfl, look_eq hz y2 b2, bd_some, if_neg h41, v1]
            · refine ⟨σ2, p2, by omega, b2, (FO.mu (by omega)).tr b3, Or.inr ⟨?_, r1, fun τ ht => ?_⟩⟩
              · show bd (f_X4_readLast rl (nI o) σ) _ = _
                rw [cN, x1, bd_some, if_pos rfl, bd_some, if_pos rfl, bd_some, if_pos (Or.inl rfl)]
              · obtain ⟨τ2, y1, y2, y3⟩ := t1 (mu (mu τ 129 14 (nI (o + 1))) 129 13 (nI (p + 1))) ((ht.op (o' := o + 1)).on (mu_off _ _ (by omega)))
                obtain ⟨m, hm, y5⟩ := y2.2.2.1
                obtain ⟨τ3, v1, v2, v3⟩ := u79b (z := z) op y2.1 y5 hm y2.2.2.2
                refine ⟨τ3, ?_, v2, (((FY.mu (by omega)).tr (FY.mu (by omega))).tr y3).tr v3⟩
                rw [rN τ ht, y1, bd_some, y2.2.1, if_neg n10, v1]
        · -- no byte that goes on
          refine fail ?_ (fun τ ht => ?_)
          · rw [c0, if_pos ed]
            unfold u_X4_readLast_35
            rw [if_pos hlt, if_neg h33, if_neg h40]
            split <;> rfl
          · obtain ⟨p', n', v', a1, a2, a3, a4, a5, -, a7, a8, a9⟩ := numL hz FU 0 0 p (by omega) (by rw [FU_eq]; omega) hp (by decide)
            have en := a7 ed
            have ep : p' = p := by omega
            subst ep
            obtain ⟨τ1, w1, w2, w3, w4⟩ := a9 o q σ τ ht
            have e : f_X9_number τ = u_X9_number_52 (nI v') (nI n') τ1 := w1
            obtain ⟨τ2, v1, v2, v3⟩ := lays_bd (a := 1) (b := nI v') (w2.bd1 (by omega))
            refine ⟨τ2, ?_, v2, (w3.tr (FY.mu (by omega))).tr v3⟩
            rw [r0 τ ht, if_pos hlt, if_neg h33, if_neg h40, e, en]
            unfold u_X9_number_52 u_X9_number_62
            rw [if_pos (show nI 0 = 0 from rfl), if_pos (Or.inr rfl), lt_eq, v1, bd_some]
    · -- a name
      obtain ⟨i, hi, ei, hl⟩ := n1.resolve_left hnm
      have hge : ¬ nm < 0 := by rw [ei]; exact nI_pos (by omega)
      have hq1 : q < 60 := by omega
      have r1 := hr.on
      refine ⟨_, p + 1, by omega, hl, ((FO.mu (by omega)).tr (FO.mu (by omega))).tr (FO.mu (by omega)), Or.inl ⟨q + 1, ?_, r1.ad (c := (-1 : Int32) - nm), by omega, by omega, fun τ ht => ?_⟩⟩
      · show bd (f_X4_readLast rl (nI o) σ) _ = _
        rw [c0, if_pos ed]
        unfold u_X4_readLast_35
        rw [if_neg hge, lt_eq, hr.1, k1, add_eq r1.2.2.2.1 hq1, bd_some, bd_some, if_pos (Or.inr rfl)]
      · have y2 := ht.on (σ' := mu σ 109 1 (nI (p + 1))) (mu_off _ _ (by omega))
        obtain ⟨g1, g2⟩ := y2.ad (a := 2) (b := nm) (c := (-1 : Int32) - nm) (cdX2 rfl).symm (Or.inr (Or.inl ⟨rfl, i, hi, ei⟩))
        refine ⟨_, ?_, g1, (FY.mu (by omega)).tr (((FY.mu (by omega)).tr (FY.mu (by omega))).tr (FY.mu (by omega))), ?_⟩
        · rw [r0 τ ht, if_neg hge, lays_eq y2.2.1 hq1]
        · rw [g2, if_pos (Or.inr rfl), mu_off _ _ (show 137 ≠ 129 by omega)]
theorem lvS {l o d : Nat} (hl : l < 5) : f_X4_readLevel (d + 1) (nI l) (nI o) = lvF (f_X4_readLevel d) l o := by
  funext σ
  show g_X4_readLevel (f_X4_readLevel d) (nI l) (nI o) σ = _
  unfold g_X4_readLevel
  rw [if_pos (show nI l < (5 : Int32) from nI_lt hl (by decide)), k1]
  rfl
theorem lv5 {o d : Nat} (σ : MM) : f_X4_readLevel (d + 1) (nI 5) (nI o) σ = bd (f_X4_readLast (f_X4_readLevel d) (nI o) σ) (fun r s => if r = 0 ∨ r = 1 then some (r, s) else none) := by
  show g_X4_readLevel (f_X4_readLevel d) (nI 5) (nI o) σ = _
  unfold g_X4_readLevel
  rw [if_neg (by decide)]
theorem chainX {z : PZ} {o d : Nat} {op : Int32 → MM → Option (Unit × MM)} (hz : z.ok) (h : XP z o (f_X4_readLevel d (nI 5) (nI o)) (f_X9_one op)) : XP z o (f_X4_readLevel (d + 5) (nI 0) (nI o)) (f_X9_any op) := by
  have t4 := timesX (rl := f_X4_readLevel d) hz h
  rw [← lvS (l := 4) (by omega)] at t4
  have t3 := sumX (rl := f_X4_readLevel (d + 1)) hz t4
  rw [← lvS (l := 3) (by omega)] at t3
  have t2 := cmpX (rl := f_X4_readLevel (d + 1 + 1)) hz t3
  rw [← lvS (l := 2) (by omega)] at t2
  have t1 := allX (rl := f_X4_readLevel (d + 1 + 1 + 1)) hz t2
  rw [← lvS (l := 1) (by omega)] at t1
  have t0 := anyX (rl := f_X4_readLevel (d + 1 + 1 + 1 + 1)) hz t1
  rw [← lvS (l := 0) (by omega)] at t0
  exact t0
theorem sX {z : PZ} (hz : z.ok) : ∀ (n o D E : Nat), o + n = 5 → XP z o (f_X4_readLevel (D + 6 * n + 1) (nI 5) (nI o)) (f_X9_one (f_X9_opens (E + n + 1))) := by
  intro n
  induction n with
  | zero =>
    intro o D E h
    exact (oneX (rl := f_X4_readLevel (D + 6 * 0)) (op := f_X9_opens (E + 0)) hz (by omega) (fun h => by omega)).to (fun σ => lv5 σ) (fun _ => rfl)
  | succ n ih =>
    intro o D E h
    have i5 := ih (o + 1) (D + 5) E (by omega)
    have i0 := chainX hz (ih (o + 1) D E (by omega))
    rw [show D + 5 + 6 * n + 1 = D + 6 * (n + 1) by omega] at i5
    rw [show D + 6 * n + 1 + 5 = D + 6 * (n + 1) by omega] at i0
    exact (oneX (rl := f_X4_readLevel (D + 6 * (n + 1))) (op := f_X9_opens (E + n + 1)) hz (by omega) (fun _ => ⟨i5, i0⟩)).to (fun σ => lv5 σ) (fun _ => rfl)
theorem readX {z : PZ} (hz : z.ok) : XP z 0 (f_X4_readLevel 50 (nI 0) (nI 0)) (f_X9_any (f_X9_opens 7)) := chainX (d := 14 + 6 * 5 + 1) hz (sX hz 5 0 14 1 (by omega))

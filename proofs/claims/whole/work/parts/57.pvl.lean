def lvP (r : Int32) : Int32 := if r = 37 then 4 else if r = 38 then 1 else if r = 42 then 4 else if r = 43 then 3 else if r = 45 then 3 else if r = 47 then 4 else if r = 60 then 2 else if r = 61 then 2 else if r = 62 then 2 else if r = 124 then 0 else -1
theorem lvl_eq {r : Int32} {σ : MM} : f_X4_levelOf r σ = some (lvP r, σ) := by
  unfold f_X4_levelOf lvP
  repeat' split
  all_goals first | rfl | contradiction
theorem lv_sg {r : Int32} (h : ¬ lvP r = -1) : SG r := by
  unfold lvP at h
  unfold SG
  by_cases a1 : r = 37
  · exact Or.inl a1
  rw [if_neg a1] at h
  by_cases a2 : r = 38
  · exact Or.inr (Or.inl a2)
  rw [if_neg a2] at h
  by_cases a3 : r = 42
  · exact Or.inr (Or.inr (Or.inl a3))
  rw [if_neg a3] at h
  by_cases a4 : r = 43
  · exact Or.inr (Or.inr (Or.inr (Or.inl a4)))
  rw [if_neg a4] at h
  by_cases a5 : r = 45
  · exact Or.inr (Or.inr (Or.inr (Or.inr (Or.inl a5))))
  rw [if_neg a5] at h
  by_cases a6 : r = 47
  · exact Or.inr (Or.inr (Or.inr (Or.inr (Or.inr (Or.inl a6)))))
  rw [if_neg a6] at h
  by_cases a7 : r = 60
  · exact Or.inr (Or.inr (Or.inr (Or.inr (Or.inr (Or.inr (Or.inl a7))))))
  rw [if_neg a7] at h
  by_cases a8 : r = 61
  · exact Or.inr (Or.inr (Or.inr (Or.inr (Or.inr (Or.inr (Or.inr (Or.inl a8)))))))
  rw [if_neg a8] at h
  by_cases a9 : r = 62
  · exact Or.inr (Or.inr (Or.inr (Or.inr (Or.inr (Or.inr (Or.inr (Or.inr (Or.inl a9))))))))
  rw [if_neg a9] at h
  by_cases a0 : r = 124
  · exact Or.inr (Or.inr (Or.inr (Or.inr (Or.inr (Or.inr (Or.inr (Or.inr (Or.inr a0))))))))
  rw [if_neg a0] at h
  exact absurd rfl h
theorem nI_nm (l : Nat) (h : l ≤ 4) : ¬ nI l = -1 := by
  rcases (show l = 0 ∨ l = 1 ∨ l = 2 ∨ l = 3 ∨ l = 4 by omega) with rfl | rfl | rfl | rfl | rfl <;> decide
theorem lv_s {r : Int32} {l : Nat} (hl : l ≤ 4) (h : lvP r = nI l) : SG r := lv_sg (by rw [h]; exact nI_nm l hl)
theorem lv0 {r : Int32} : lvP r = nI 0 ↔ r = 124 := by
  refine ⟨fun h => ?_, fun h => by rw [h]; rfl⟩
  rcases lv_s (by omega) h with rfl | rfl | rfl | rfl | rfl | rfl | rfl | rfl | rfl | rfl <;> first | rfl | exact absurd h (by decide)
theorem lv1 {r : Int32} : lvP r = nI 1 ↔ r = 38 := by
  refine ⟨fun h => ?_, fun h => by rw [h]; rfl⟩
  rcases lv_s (by omega) h with rfl | rfl | rfl | rfl | rfl | rfl | rfl | rfl | rfl | rfl <;> first | rfl | exact absurd h (by decide)
theorem lv2 {r : Int32} : lvP r = nI 2 ↔ r = 60 ∨ r = 61 ∨ r = 62 := by
  refine ⟨fun h => ?_, fun h => by rcases h with rfl | rfl | rfl <;> rfl⟩
  rcases lv_s (by omega) h with rfl | rfl | rfl | rfl | rfl | rfl | rfl | rfl | rfl | rfl <;> first | exact Or.inl rfl | exact Or.inr (Or.inl rfl) | exact Or.inr (Or.inr rfl) | exact absurd h (by decide)
theorem lv3 {r : Int32} : lvP r = nI 3 ↔ r = 43 ∨ r = 45 := by
  refine ⟨fun h => ?_, fun h => by rcases h with rfl | rfl <;> rfl⟩
  rcases lv_s (by omega) h with rfl | rfl | rfl | rfl | rfl | rfl | rfl | rfl | rfl | rfl <;> first | exact Or.inl rfl | exact Or.inr rfl | exact absurd h (by decide)
theorem lv4 {r : Int32} : lvP r = nI 4 ↔ r = 42 ∨ r = 47 ∨ r = 37 := by
  refine ⟨fun h => ?_, fun h => by rcases h with rfl | rfl | rfl <;> rfl⟩
  rcases lv_s (by omega) h with rfl | rfl | rfl | rfl | rfl | rfl | rfl | rfl | rfl | rfl <;> first | exact Or.inl rfl | exact Or.inr (Or.inl rfl) | exact Or.inr (Or.inr rfl) | exact absurd h (by decide)
theorem lvT {z : PZ} {p l : Nat} (hl : l ≤ 4) (h : lvP (bY z p) = nI l) : p < z.L := by
  rcases Nat.lt_or_ge p z.L with y | y
  · exact y
  · unfold bY at h
    rw [if_pos y] at h
    exact absurd (h.symm.trans (by decide : lvP (-1) = -1)) (nI_nm l hl)
/-- class and reference read one thing alike -/
def XP (z : PZ) (o : Nat) (x : MM → Option (Int32 × MM)) (y : MM → Option (Unit × MM)) : Prop :=
  ∀ (σ : MM) (p q : Nat), q ≤ p → p ≤ z.L → RP z p q σ → ∃ (σ' : MM) (p' : Nat), p ≤ p' ∧ p' ≤ z.L ∧ FO σ σ' ∧
    ((∃ q', x σ = some (1, σ') ∧ RP z p' q' σ' ∧ p < p' ∧ q' + p ≤ q + p' ∧ ∀ τ, RQ z o p q σ τ → ∃ τ', y τ = some ((), τ') ∧ RQ z o p' q' σ' τ' ∧ FY τ τ' ∧ dA (τ' 137) q' = dA (τ 137) q + 1) ∨
     (x σ = some (0, σ') ∧ σ' 109 1 = nI p' ∧ ∀ τ, RQ z o p q σ τ → ∃ τ', y τ = some ((), τ') ∧ BD z p' τ' ∧ FY τ τ'))
theorem XP.to {z : PZ} {o : Nat} {x x' : MM → Option (Int32 × MM)} {y y' : MM → Option (Unit × MM)} (h : XP z o x y) (ex : ∀ σ, x' σ = x σ) (ey : ∀ τ, y' τ = y τ) : XP z o x' y' := by
  have e1 : x' = x := funext ex
  have e2 : y' = y := funext ey
  rw [e1, e2]
  exact h
/-- the rest of a level: signs and what they join -/
theorem lvlL {z : PZ} {o l : Nat} {rl : Int32 → Int32 → MM → Option (Int32 × MM)} {y : MM → Option (Unit × MM)} {Y : Nat → MM → Option (Unit × MM)} (hz : z.ok) (h4 : l ≤ 4) (h2 : l ≠ 2) (hX : XP z o (rl (nI (l + 1)) (nI o)) y)
    (hyes : ∀ (f p q : Nat) (σ τ : MM), p ≤ z.L → RQ z o p q σ τ → lvP (bY z p) = nI l → Y (f + 1) τ = bd (y (mu τ 129 13 (nI (p + 1)))) (fun _ t => bd (f_X9_lays (bY z p) 0 t) (fun _ t => Y f t)))
    (hno : ∀ (f p q : Nat) (σ τ : MM), p ≤ z.L → RQ z o p q σ τ → ¬ lvP (bY z p) = nI l → Y (f + 1) τ = some ((), τ))
    (hbad : ∀ (f p : Nat) (τ : MM), BD z p τ → Y (f + 1) τ = some ((), τ)) :
    ∀ (f i : Nat) (σ : MM) (p q : Nat), i + 1 ≤ p → q ≤ p → p ≤ z.L → z.L - p < f → RP z p q σ → ∃ (σ' : MM) (p' : Nat), p ≤ p' ∧ p' ≤ z.L ∧ FO σ σ' ∧
      ((∃ q', itr (fun _ _ _ _ _ => none) (u_X4_readLevel_29 rl) f (nI l) (nI o) 1 (nI i) σ = some (1, σ') ∧ RP z p' q' σ' ∧ q' + p ≤ q + p' ∧ ∀ τ, RQ z o p q σ τ → 1 ≤ dA (τ 137) q → ∃ τ', Y f τ = some ((), τ') ∧ RQ z o p' q' σ' τ' ∧ FY τ τ' ∧ dA (τ' 137) q' = dA (τ 137) q) ∨
       (itr (fun _ _ _ _ _ => none) (u_X4_readLevel_29 rl) f (nI l) (nI o) 1 (nI i) σ = some (0, σ') ∧ σ' 109 1 = nI p' ∧ ∀ τ, RQ z o p q σ τ → 1 ≤ dA (τ 137) q → ∃ τ', Y f τ = some ((), τ') ∧ BD z p' τ' ∧ FY τ τ')) := by
  have hne2 : ¬ nI l = (2 : Int32) := fun e => h2 (nI_inj (b := 2) (by omega) (by decide) e)
  have hz1 := hz.1
  intro f
  induction f with
  | zero => intro i σ p q _ _ _ h; omega
  | succ f ih =>
    intro i σ p q hi hq hp hf hr
    have cls : itr (fun _ _ _ _ _ => none) (u_X4_readLevel_29 rl) (f + 1) (nI l) (nI o) 1 (nI i) σ = if lvP (bY z p) = nI l then bd (rl (nI (l + 1)) (nI o) (mu σ 109 1 (nI (p + 1)))) (fun r s => if r = 0 then some ((0 : Int32), s) else bd (f_X6_add 110 ((10000 : Int32) + bY z p) s) (fun _ s => itr (fun _ _ _ _ _ => none) (u_X4_readLevel_29 rl) f (nI l) (nI o) 1 (nI (i + 1)) s)) else some ((1 : Int32), σ) := by
      rw [itr_s]
      generalize itr (fun _ _ _ _ _ => none) (u_X4_readLevel_29 rl) f = g
      unfold u_X4_readLevel_29
      rw [if_neg (show ¬ (60 : Int32) ≤ nI i from nI_ge (show i < 60 by omega) (by decide)), if_neg n10, next_eq hz hr hp, bd_some, lvl_eq, bd_some]
      by_cases e : lvP (bY z p) = nI l
      · rw [if_pos e, if_pos e, next_eq hz hr hp, bd_some, lt_eq, hr.1, k1 p, k1 l, k1 i]
        simp only [if_neg hne2]
      · rw [if_neg e, if_neg e]
    by_cases e : lvP (bY z p) = nI l
    · have hpl := lvT h4 e
      have sg := lv_s h4 e
      obtain ⟨n1, n2, n3⟩ := SG_ne sg
      obtain ⟨σ2, p2, b1, b2, b3, b4⟩ := hX (mu σ 109 1 (nI (p + 1))) (p + 1) q (by omega) hpl hr.on
      rcases b4 with ⟨q2, x1, r1, lt1, sl1, t1⟩ | ⟨x1, r1, t1⟩
      · have hq2 : q2 < 60 := by omega
        obtain ⟨σ3, p3, c1, c2, c3, c4⟩ := ih (i + 1) _ p2 (q2 + 1) (by omega) (by omega) b2 (by omega) (r1.ad (c := (10000 : Int32) + bY z p))
        have cv : itr (fun _ _ _ _ _ => none) (u_X4_readLevel_29 rl) (f + 1) (nI l) (nI o) 1 (nI i) σ = itr (fun _ _ _ _ _ => none) (u_X4_readLevel_29 rl) f (nI l) (nI o) 1 (nI (i + 1)) (mu (mu σ2 111 q2 ((10000 : Int32) + bY z p)) 110 2 (nI (q2 + 1))) := by
          rw [cls, if_pos e, x1, bd_some, if_neg n10, add_eq r1.2.2.2.1 hq2, bd_some]
        have ref : ∀ τ, RQ z o p q σ τ → 1 ≤ dA (τ 137) q → ∃ τ3, Y (f + 1) τ = Y f τ3 ∧ RQ z o p2 (q2 + 1) (mu (mu σ2 111 q2 ((10000 : Int32) + bY z p)) 110 2 (nI (q2 + 1))) τ3 ∧ FY τ τ3 ∧ dA (τ3 137) (q2 + 1) = dA (τ 137) q := by
          intro τ ht hd
          obtain ⟨τ2, y1, y2, y3, y4⟩ := t1 (mu τ 129 13 (nI (p + 1))) (ht.on (mu_off _ _ (by omega)))
          rw [mu_off _ _ (show 137 ≠ 129 by omega)] at y4
          obtain ⟨g1, g2⟩ := y2.ad (a := bY z p) (b := 0) (c := (10000 : Int32) + bY z p) (cdXg sg).symm (Or.inr (Or.inr (Or.inr ⟨sg, by omega⟩)))
          refine ⟨_, ?_, g1, (((FY.mu (by omega)).tr y3).tr ((FY.mu (by omega)).tr (FY.mu (by omega)))).tr (FY.mu (by omega)), ?_⟩
          · rw [hyes f p q σ τ hp ht e, y1, bd_some, lays_eq y2.2.1 hq2, bd_some]
          · rw [g2, if_neg (fun t => t.elim n1 n2), if_neg n3, y4]; omega
        refine ⟨σ3, p3, by omega, c2, ((FO.mu (by omega)).tr b3).tr (((FO.mu (by omega)).tr (FO.mu (by omega))).tr c3), ?_⟩
        rcases c4 with ⟨q3, d1, d2, d3, d4⟩ | ⟨d1, d2, d4⟩
        · refine Or.inl ⟨q3, by rw [cv]; exact d1, d2, by omega, fun τ ht hd => ?_⟩
          obtain ⟨τ3, m1, m2, m3, m4⟩ := ref τ ht hd
          obtain ⟨τ4, w1, w2, w3, w4⟩ := d4 τ3 m2 (by omega)
          exact ⟨τ4, by rw [m1]; exact w1, w2, m3.tr w3, by omega⟩
        · refine Or.inr ⟨by rw [cv]; exact d1, d2, fun τ ht hd => ?_⟩
          obtain ⟨τ3, m1, m2, m3, m4⟩ := ref τ ht hd
          obtain ⟨τ4, w1, w2, w3⟩ := d4 τ3 m2 (by omega)
          exact ⟨τ4, by rw [m1]; exact w1, w2, m3.tr w3⟩
      · refine ⟨σ2, p2, by omega, b2, (FO.mu (by omega)).tr b3, Or.inr ⟨by rw [cls, if_pos e, x1, bd_some, if_pos rfl], r1, fun τ ht hd => ?_⟩⟩
        obtain ⟨τ2, y1, y2, y3⟩ := t1 (mu τ 129 13 (nI (p + 1))) (ht.on (mu_off _ _ (by omega)))
        obtain ⟨τ3, w1, w2, w3⟩ := lays_bd (a := bY z p) (b := 0) y2
        obtain ⟨f', rfl⟩ : ∃ f', f = f' + 1 := ⟨f - 1, by omega⟩
        exact ⟨τ3, by rw [hyes _ p q σ τ hp ht e, y1, bd_some, w1, bd_some, hbad f' p2 τ3 w2], w2, ((FY.mu (by omega)).tr y3).tr w3⟩
    · exact ⟨σ, p, Nat.le_refl _, hp, FO.rf, Or.inl ⟨q, by rw [cls, if_neg e], hr, by omega, fun τ ht _ => ⟨τ, hno f p q σ τ hp ht e, ht, FY.rf, rfl⟩⟩⟩
def lvF (rl : Int32 → Int32 → MM → Option (Int32 × MM)) (l o : Nat) (σ : MM) : Option (Int32 × MM) := bd (rl (nI (l + 1)) (nI o) σ) (fun r s => if r = 0 then some ((0 : Int32), s) else itr (fun _ _ _ _ _ => none) (u_X4_readLevel_29 rl) FU (nI l) (nI o) 1 (nI 0) s)
theorem lvlX {z : PZ} {o l : Nat} {rl : Int32 → Int32 → MM → Option (Int32 × MM)} {y : MM → Option (Unit × MM)} {Y : Nat → MM → Option (Unit × MM)} (hz : z.ok) (h4 : l ≤ 4) (h2 : l ≠ 2) (hX : XP z o (rl (nI (l + 1)) (nI o)) y)
    (hyes : ∀ (f p q : Nat) (σ τ : MM), p ≤ z.L → RQ z o p q σ τ → lvP (bY z p) = nI l → Y (f + 1) τ = bd (y (mu τ 129 13 (nI (p + 1)))) (fun _ t => bd (f_X9_lays (bY z p) 0 t) (fun _ t => Y f t)))
    (hno : ∀ (f p q : Nat) (σ τ : MM), p ≤ z.L → RQ z o p q σ τ → ¬ lvP (bY z p) = nI l → Y (f + 1) τ = some ((), τ))
    (hbad : ∀ (f p : Nat) (τ : MM), BD z p τ → Y (f + 1) τ = some ((), τ)) : XP z o (lvF rl l o) (fun τ => bd (y τ) (fun _ t => Y FU t)) := by
  intro σ p q hq hp hr
  have hz1 := hz.1
  obtain ⟨σ1, p1, b1, b2, b3, b4⟩ := hX σ p q hq hp hr
  rcases b4 with ⟨q1, x1, r1, lt1, sl1, t1⟩ | ⟨x1, r1, t1⟩
  · obtain ⟨σ2, p2, c1, c2, c3, c4⟩ := lvlL hz h4 h2 hX hyes hno hbad FU 0 σ1 p1 q1 (by omega) (by omega) b2 (by rw [FU_eq]; omega) r1
    refine ⟨σ2, p2, by omega, c2, b3.tr c3, ?_⟩
    rcases c4 with ⟨q2, d1, d2, d3, d4⟩ | ⟨d1, d2, d4⟩
    · refine Or.inl ⟨q2, by unfold lvF; rw [x1, bd_some, if_neg n10]; exact d1, d2, by omega, by omega, fun τ ht => ?_⟩
      obtain ⟨τ1, y1, y2, y3, y4⟩ := t1 τ ht
      obtain ⟨τ2, w1, w2, w3, w4⟩ := d4 τ1 y2 (by omega)
      exact ⟨τ2, by show bd (y τ) _ = _; rw [y1, bd_some]; exact w1, w2, y3.tr w3, by omega⟩
    · refine Or.inr ⟨by unfold lvF; rw [x1, bd_some, if_neg n10]; exact d1, d2, fun τ ht => ?_⟩
      obtain ⟨τ1, y1, y2, y3, y4⟩ := t1 τ ht
      obtain ⟨τ2, w1, w2, w3⟩ := d4 τ1 y2 (by omega)
      exact ⟨τ2, by show bd (y τ) _ = _; rw [y1, bd_some]; exact w1, w2, y3.tr w3⟩
  · refine ⟨σ1, p1, b1, b2, b3, Or.inr ⟨by unfold lvF; rw [x1, bd_some, if_pos rfl], r1, fun τ ht => ?_⟩⟩
    obtain ⟨τ1, y1, y2, y3⟩ := t1 τ ht
    exact ⟨τ1, by show bd (y τ) _ = _; rw [y1, bd_some]; exact hbad 999 p1 τ1 y2, y2, y3⟩
theorem anyX {z : PZ} {o : Nat} {rl : Int32 → Int32 → MM → Option (Int32 × MM)} {op : Int32 → MM → Option (Unit × MM)} (hz : z.ok) (hX : XP z o (rl (nI 1) (nI o)) (f_X9_all op)) : XP z o (lvF rl 0 o) (f_X9_any op) := by
  refine lvlX (Y := fun f => itr (fun _ => none) (u_X9_any_4 op) f) hz (by omega) (by omega) hX (fun f p q σ τ hp h e => ?_) (fun f p q σ τ hp h e => ?_) (fun f p τ h => ?_)
  · show itr (fun _ => none) (u_X9_any_4 op) (f + 1) τ = _
    rw [itr_s]
    generalize itr (fun _ => none) (u_X9_any_4 op) f = g
    unfold u_X9_any_4
    have e' := lv0.mp e
    rw [h.2.2.2.1, if_pos rfl, look_eq hz h hp, bd_some, if_pos e', lt_eq, h.1, k1, e']
  · show itr (fun _ => none) (u_X9_any_4 op) (f + 1) τ = _
    rw [itr_s]
    generalize itr (fun _ => none) (u_X9_any_4 op) f = g
    unfold u_X9_any_4
    rw [h.2.2.2.1, if_pos rfl, look_eq hz h hp, bd_some, if_neg (fun t => e (lv0.mpr t))]
  · show itr (fun _ => none) (u_X9_any_4 op) (f + 1) τ = _
    rw [itr_s]
    generalize itr (fun _ => none) (u_X9_any_4 op) f = g
    unfold u_X9_any_4
    rw [h.2.1, if_neg n10]
theorem allX {z : PZ} {o : Nat} {rl : Int32 → Int32 → MM → Option (Int32 × MM)} {op : Int32 → MM → Option (Unit × MM)} (hz : z.ok) (hX : XP z o (rl (nI 2) (nI o)) (f_X9_compares op)) : XP z o (lvF rl 1 o) (f_X9_all op) := by
  refine lvlX (Y := fun f => itr (fun _ => none) (u_X9_all_4 op) f) hz (by omega) (by omega) hX (fun f p q σ τ hp h e => ?_) (fun f p q σ τ hp h e => ?_) (fun f p τ h => ?_)
  · show itr (fun _ => none) (u_X9_all_4 op) (f + 1) τ = _
    rw [itr_s]
    generalize itr (fun _ => none) (u_X9_all_4 op) f = g
    unfold u_X9_all_4
    have e' := lv1.mp e
    rw [h.2.2.2.1, if_pos rfl, look_eq hz h hp, bd_some, if_pos e', lt_eq, h.1, k1, e']
  · show itr (fun _ => none) (u_X9_all_4 op) (f + 1) τ = _
    rw [itr_s]
    generalize itr (fun _ => none) (u_X9_all_4 op) f = g
    unfold u_X9_all_4
    rw [h.2.2.2.1, if_pos rfl, look_eq hz h hp, bd_some, if_neg (fun t => e (lv1.mpr t))]
  · show itr (fun _ => none) (u_X9_all_4 op) (f + 1) τ = _
    rw [itr_s]
    generalize itr (fun _ => none) (u_X9_all_4 op) f = g
    unfold u_X9_all_4
    rw [h.2.1, if_neg n10]
theorem sumX {z : PZ} {o : Nat} {rl : Int32 → Int32 → MM → Option (Int32 × MM)} {op : Int32 → MM → Option (Unit × MM)} (hz : z.ok) (hX : XP z o (rl (nI 4) (nI o)) (f_X9_times op)) : XP z o (lvF rl 3 o) (f_X9_sum op) := by
  refine lvlX (Y := fun f => itr (fun _ => none) (u_X9_sum_4 op) f) hz (by omega) (by omega) hX (fun f p q σ τ hp h e => ?_) (fun f p q σ τ hp h e => ?_) (fun f p τ h => ?_)
  · show itr (fun _ => none) (u_X9_sum_4 op) (f + 1) τ = _
    rw [itr_s]
    generalize itr (fun _ => none) (u_X9_sum_4 op) f = g
    have e29 : u_X9_sum_29 op g τ = bd (f_X9_times op (mu τ 129 13 (nI (p + 1)))) (fun _ t => bd (f_X9_lays (bY z p) 0 t) (fun _ t => g t)) := by
      unfold u_X9_sum_29
      rw [look_eq hz h hp, bd_some, lt_eq, h.1, k1]
    unfold u_X9_sum_4
    rw [h.2.2.2.1, if_pos rfl, look_eq hz h hp, bd_some, look_eq hz h hp, bd_some, e29]
    rcases lv3.mp e with e' | e'
    · rw [if_pos e']
    · by_cases e2 : bY z p = 43
      · rw [if_pos e2]
      · rw [if_neg e2, if_pos e']
  · show itr (fun _ => none) (u_X9_sum_4 op) (f + 1) τ = _
    rw [itr_s]
    generalize itr (fun _ => none) (u_X9_sum_4 op) f = g
    unfold u_X9_sum_4
    rw [h.2.2.2.1, if_pos rfl, look_eq hz h hp, bd_some, look_eq hz h hp, bd_some, if_neg (fun t => e (lv3.mpr (Or.inl t))), if_neg (fun t => e (lv3.mpr (Or.inr t)))]
  · show itr (fun _ => none) (u_X9_sum_4 op) (f + 1) τ = _
    rw [itr_s]
    generalize itr (fun _ => none) (u_X9_sum_4 op) f = g
    unfold u_X9_sum_4
    rw [h.2.1, if_neg n10]
theorem timesX {z : PZ} {o : Nat} {rl : Int32 → Int32 → MM → Option (Int32 × MM)} {op : Int32 → MM → Option (Unit × MM)} (hz : z.ok) (hX : XP z o (rl (nI 5) (nI o)) (f_X9_one op)) : XP z o (lvF rl 4 o) (f_X9_times op) := by
  refine lvlX (Y := fun f => itr (fun _ => none) (u_X9_times_4 op) f) hz (by omega) (by omega) hX (fun f p q σ τ hp h e => ?_) (fun f p q σ τ hp h e => ?_) (fun f p τ h => ?_)
  · show itr (fun _ => none) (u_X9_times_4 op) (f + 1) τ = _
    rw [itr_s]
    generalize itr (fun _ => none) (u_X9_times_4 op) f = g
    have e38 : u_X9_times_38 op g τ = bd (f_X9_one op (mu τ 129 13 (nI (p + 1)))) (fun _ t => bd (f_X9_lays (bY z p) 0 t) (fun _ t => g t)) := by
      unfold u_X9_times_38
      rw [look_eq hz h hp, bd_some, lt_eq, h.1, k1]
    unfold u_X9_times_4
    rw [h.2.2.2.1, if_pos rfl, look_eq hz h hp, bd_some, look_eq hz h hp, bd_some, look_eq hz h hp, bd_some, e38]
    by_cases e1 : bY z p = 42
    · rw [if_pos e1]
    · rw [if_neg e1]
      by_cases e2 : bY z p = 47
      · rw [if_pos e2]
      · rw [if_neg e2, if_pos (((lv4.mp e).resolve_left e1).resolve_left e2)]
  · show itr (fun _ => none) (u_X9_times_4 op) (f + 1) τ = _
    rw [itr_s]
    generalize itr (fun _ => none) (u_X9_times_4 op) f = g
    unfold u_X9_times_4
    rw [h.2.2.2.1, if_pos rfl, look_eq hz h hp, bd_some, look_eq hz h hp, bd_some, look_eq hz h hp, bd_some, if_neg (fun t => e (lv4.mpr (Or.inl t))), if_neg (fun t => e (lv4.mpr (Or.inr (Or.inl t)))), if_neg (fun t => e (lv4.mpr (Or.inr (Or.inr t))))]
  · show itr (fun _ => none) (u_X9_times_4 op) (f + 1) τ = _
    rw [itr_s]
    generalize itr (fun _ => none) (u_X9_times_4 op) f = g
    unfold u_X9_times_4
    rw [h.2.1, if_neg n10]
theorem cmpX {z : PZ} {o : Nat} {rl : Int32 → Int32 → MM → Option (Int32 × MM)} {op : Int32 → MM → Option (Unit × MM)} (hz : z.ok) (hX : XP z o (rl (nI 3) (nI o)) (f_X9_sum op)) : XP z o (lvF rl 2 o) (f_X9_compares op) := by
  intro σ p q hq hp hr
  have hz1 := hz.1
  obtain ⟨σ1, p1, b1, b2, b3, b4⟩ := hX σ p q hq hp hr
  rcases b4 with ⟨q1, x1, r1, lt1, sl1, t1⟩ | ⟨x1, r1, t1⟩
  · have cls : lvF rl 2 o σ = if lvP (bY z p1) = nI 2 then bd (rl (nI 3) (nI o) (mu σ1 109 1 (nI (p1 + 1)))) (fun r s => if r = 0 then some ((0 : Int32), s) else bd (f_X6_add 110 ((10000 : Int32) + bY z p1) s) (fun _ s => some ((1 : Int32), s))) else some ((1 : Int32), σ1) := by
      have last : ∀ s : MM, itr (fun _ _ _ _ _ => none) (u_X4_readLevel_29 rl) 999 (nI 2) (nI o) 0 (nI 0 + 1) s = some (1, s) := by
        intro s
        rw [show (999 : Nat) = 998 + 1 from rfl, itr_s]
        generalize itr (fun _ _ _ _ _ => none) (u_X4_readLevel_29 rl) 998 = g
        unfold u_X4_readLevel_29
        rw [if_neg (by decide), if_pos rfl]
      unfold lvF
      rw [x1, bd_some, if_neg n10, FU_eq, itr_s]
      generalize itr (fun _ _ _ _ _ => none) (u_X4_readLevel_29 rl) 999 = g at last ⊢
      unfold u_X4_readLevel_29
      rw [if_neg (by decide), if_neg n10, next_eq hz r1 b2, bd_some, lvl_eq, bd_some]
      by_cases e : lvP (bY z p1) = nI 2
      · rw [if_pos e, if_pos e, next_eq hz r1 b2, bd_some, lt_eq, r1.1, k1 p1, k1 2]
        simp only [if_pos (show nI 2 = (2 : Int32) from rfl), last]
      · rw [if_neg e, if_neg e]
    by_cases e : lvP (bY z p1) = nI 2
    · have hpl := lvT (by omega) e
      have sg := lv_s (by omega) e
      obtain ⟨n1, n2, n3⟩ := SG_ne sg
      obtain ⟨σ2, p2, c1, c2, c3, c4⟩ := hX (mu σ1 109 1 (nI (p1 + 1))) (p1 + 1) q1 (by omega) hpl r1.on
      have ref : ∀ τ1, RQ z o p1 q1 σ1 τ1 → bd (f_X9_look τ1) (fun r22 σ23 => if (σ23 129 15) = 0 then if r22 = (60 : Int32) then u_X9_compares_34 op r22 σ23 else if r22 = (61 : Int32) then u_X9_compares_34 op r22 σ23 else if r22 = (62 : Int32) then u_X9_compares_34 op r22 σ23 else some ((), σ23) else some ((), σ23)) = bd (f_X9_sum op (mu τ1 129 13 (nI (p1 + 1)))) (fun _ t => bd (f_X9_lays (bY z p1) 0 t) (fun _ t => some ((), t))) := by
        intro τ1 h
        have e34 : u_X9_compares_34 op (bY z p1) τ1 = bd (f_X9_sum op (mu τ1 129 13 (nI (p1 + 1)))) (fun _ t => bd (f_X9_lays (bY z p1) 0 t) (fun _ t => some ((), t))) := by
          unfold u_X9_compares_34
          rw [lt_eq, h.1, k1]
        rw [look_eq hz h b2, bd_some, h.2.2.2.1, if_pos rfl, e34]
        by_cases e1 : bY z p1 = 60
        · rw [if_pos e1]
        · rw [if_neg e1]
          by_cases e2 : bY z p1 = 61
          · rw [if_pos e2]
          · rw [if_neg e2, if_pos (((lv2.mp e).resolve_left e1).resolve_left e2)]
      rcases c4 with ⟨q2, d1, d2, d3, d4, d5⟩ | ⟨d1, d2, d5⟩
      · have hq2 : q2 < 60 := by omega
        refine ⟨_, p2, by omega, c2, ((b3.tr (FO.mu (by omega))).tr c3).tr ((FO.mu (by omega)).tr (FO.mu (by omega))), Or.inl ⟨q2 + 1, by rw [cls, if_pos e, d1, bd_some, if_neg n10, add_eq d2.2.2.2.1 hq2, bd_some], d2.ad, by omega, by omega, fun τ ht => ?_⟩⟩
        obtain ⟨τ1, y1, y2, y3, y4⟩ := t1 τ ht
        obtain ⟨τ2, w1, w2, w3, w4⟩ := d5 (mu τ1 129 13 (nI (p1 + 1))) (y2.on (mu_off _ _ (by omega)))
        rw [mu_off _ _ (show 137 ≠ 129 by omega)] at w4
        obtain ⟨g1, g2⟩ := w2.ad (a := bY z p1) (b := 0) (c := (10000 : Int32) + bY z p1) (cdXg sg).symm (Or.inr (Or.inr (Or.inr ⟨sg, by omega⟩)))
        refine ⟨_, ?_, g1, ((y3.tr (FY.mu (by omega))).tr w3).tr (((FY.mu (by omega)).tr (FY.mu (by omega))).tr (FY.mu (by omega))), ?_⟩
        · unfold f_X9_compares
          rw [y1, bd_some, ref τ1 y2, w1, bd_some, lays_eq w2.2.1 hq2, bd_some]
        · rw [g2, if_neg (fun t => t.elim n1 n2), if_neg n3, w4, y4]; omega
      · refine ⟨σ2, p2, by omega, c2, (b3.tr (FO.mu (by omega))).tr c3, Or.inr ⟨by rw [cls, if_pos e, d1, bd_some, if_pos rfl], d2, fun τ ht => ?_⟩⟩
        obtain ⟨τ1, y1, y2, y3, y4⟩ := t1 τ ht
        obtain ⟨τ2, w1, w2, w3⟩ := d5 (mu τ1 129 13 (nI (p1 + 1))) (y2.on (mu_off _ _ (by omega)))
        obtain ⟨τ3, v1, v2, v3⟩ := lays_bd (a := bY z p1) (b := 0) w2
        refine ⟨τ3, ?_, v2, ((y3.tr (FY.mu (by omega))).tr w3).tr v3⟩
        unfold f_X9_compares
        rw [y1, bd_some, ref τ1 y2, w1, bd_some, v1, bd_some]
    · refine ⟨σ1, p1, b1, b2, b3, Or.inl ⟨q1, by rw [cls, if_neg e], r1, lt1, sl1, fun τ ht => ?_⟩⟩
      obtain ⟨τ1, y1, y2, y3, y4⟩ := t1 τ ht
      refine ⟨τ1, ?_, y2, y3, y4⟩
      unfold f_X9_compares
      rw [y1, bd_some, look_eq hz y2 b2, bd_some, y2.2.2.2.1, if_pos rfl, if_neg (fun t => e (lv2.mpr (Or.inl t))), if_neg (fun t => e (lv2.mpr (Or.inr (Or.inl t)))), if_neg (fun t => e (lv2.mpr (Or.inr (Or.inr t))))]
  · refine ⟨σ1, p1, b1, b2, b3, Or.inr ⟨by unfold lvF; rw [x1, bd_some, if_pos rfl], r1, fun τ ht => ?_⟩⟩
    obtain ⟨τ1, y1, y2, y3⟩ := t1 τ ht
    obtain ⟨r, l1⟩ := look_bd hz y2 b2
    refine ⟨τ1, ?_, y2, y3⟩
    unfold f_X9_compares
    rw [y1, bd_some, l1, bd_some, y2.2.1, if_neg n10]

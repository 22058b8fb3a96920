def ST (σ : MM) (x y : MM → Option (Int32 × MM)) : Prop := SR (fun _ => True) σ x y ∨ SE σ x y
theorem ST.to {σ : MM} {x x' y y' : MM → Option (Int32 × MM)} (h : ST σ x y) (ex : ∀ s, GN σ s → x' s = x s) (ey : ∀ s, GN σ s → y' s = y s) : ST σ x' y' := h.elim (fun h => Or.inl (h.to ex ey)) (fun h => Or.inr (h.to ex ey))
theorem ST.tn {α : Type} {P : α → Prop} {σ : MM} {x y : MM → Option (α × MM)} {k l : α → MM → Option (Int32 × MM)} (h : SR P σ x y) (hk : ∀ r, P r → ST σ (k r) (l r)) : ST σ (fun s => bd (x s) k) (fun s => bd (y s) l) := by
  obtain ⟨r, h1, h2, h3⟩ := h
  have h' : SR (fun z => z = r) σ x y := ⟨r, rfl, h2, h3⟩
  rcases hk r h1 with q | q
  · exact Or.inl (h'.tn (fun z hz => by subst hz; exact q))
  · exact Or.inr (SE.tn h' (fun z hz => by subst hz; exact q))
theorem SIM.st {σ : MM} {x y : MM → Option (Int32 × MM)} (h : GD σ) (s : ST σ x y) : SIM (x σ) y := s.elim (SIM.sr h) (SIM.se h)
theorem byL {σ : MM} (h : GD σ) {q n sn : Nat} (hq : q < 4) (hn : n ≤ 24) (hl : ∀ s, GN σ s → s (120 + q) 2 = nI n ∧ s 135 q = nI n) (hs : sn < 20) : ∀ (f k : Nat), k ≤ n → n - k < f → SR (fun r => r = 0 ∨ r = 1) σ (fun s => itr (fun _ _ _ _ => none) u_X8_isContentByAny_2 f (0 + 11 + sn) (120 + q) (nI k) s) (fun s => itr (fun _ _ _ _ => none) u_X9_isContentBy_2 f (nI sn) (nI q) (nI k) s) := by
  intro f
  induction f with
  | zero => intro k _ hk; omega
  | succ f ih =>
    intro k hk hf
    have u8 : ∀ s, itr (fun _ _ _ _ => none) u_X8_isContentByAny_2 (f + 1) (0 + 11 + sn) (120 + q) (nI k) s = u_X8_isContentByAny_2 (itr (fun _ _ _ _ => none) u_X8_isContentByAny_2 f) (0 + 11 + sn) (120 + q) (nI k) s := fun s => rfl
    have u9 : ∀ s, itr (fun _ _ _ _ => none) u_X9_isContentBy_2 (f + 1) (nI sn) (nI q) (nI k) s = u_X9_isContentBy_2 (itr (fun _ _ _ _ => none) u_X9_isContentBy_2 f) (nI sn) (nI q) (nI k) s := fun s => rfl
    have i4 : ¬ (nI q < 0 ∨ 4 ≤ (nI q).toNatClampNeg) := ixN hq (by decide)
    have c4 : (nI q).toNatClampNeg = q := nI_cl (by omega)
    by_cases z : n ≤ k
    · have e : k = n := by omega
      subst e
      refine (SR.rf (P := fun r : Int32 => r = 0 ∨ r = 1) (r := 0) (Or.inl rfl)).to (fun s g => ?_) (fun s g => ?_)
      · rw [u8]; unfold u_X8_isContentByAny_2
        rw [(hl s g).1, if_pos (nI_le (Nat.le_refl _) (by omega))]
      · rw [u9]; unfold u_X9_isContentBy_2
        rw [if_neg i4, c4, (hl s g).2, if_pos (nI_le (Nat.le_refl _) (by omega))]
    · have z1 : ¬ nI n ≤ nI k := nI_ge (by omega) (by omega)
      obtain ⟨x1, x2, x3⟩ := c24 (k := k) hq (by omega)
      have hnx := ih (k + 1) (by omega) (by omega)
      rcases (shC h hq (k := k) (by omega) GN.rf GN.rf).btw (n := 99) (by omega) with ⟨j, hj, e1, e2⟩ | ⟨b1, b2⟩
      · have w1 : ¬ nI j < 0 := nI_pos (by omega)
        have w2 : ¬ (99 : Int32) < nI j := nI_nlt hj (by decide)
        have key := (contS h hs (nI j)).tn (Q := fun r => r = 0 ∨ r = 1) (k := fun r s => if r = 0 then itr (fun _ _ _ _ => none) u_X8_isContentByAny_2 f (0 + 11 + sn) (120 + q) (nI (k + 1)) s else some (1, s)) (l := fun r s => if r = 0 then itr (fun _ _ _ _ => none) u_X9_isContentBy_2 f (nI sn) (nI q) (nI (k + 1)) s else some (1, s)) (fun r _ => by
          by_cases y : r = 0
          · exact hnx.to (fun s _ => if_pos y) (fun s _ => if_pos y)
          · exact (SR.rf (P := fun r : Int32 => r = 0 ∨ r = 1) (r := 1) (Or.inr rfl)).to (fun s _ => if_neg y) (fun s _ => if_neg y))
        refine key.to (fun s g => ?_) (fun s g => ?_)
        · rw [u8]
          generalize itr (fun _ _ _ _ => none) u_X8_isContentByAny_2 f = g8
          unfold u_X8_isContentByAny_2
          rw [(hl s g).1, if_neg z1, get_t (hl s g).1 hn (by omega), bd_some, g.s4 hq, e1, isWord8_t w1 w2, bd_some, if_neg (by decide), get_t (hl s g).1 hn (by omega), bd_some, g.s4 hq, e1, lit 1, nI_add]
        · rw [u9]
          generalize itr (fun _ _ _ _ => none) u_X9_isContentBy_2 f = g9
          unfold u_X9_isContentBy_2
          rw [if_neg i4, c4, (hl s g).2, if_neg z1, x1, if_neg x2, x3, lt_eq, g.r.2.2, e2, isWord9_t w1 w2, bd_some, if_neg (by decide), lit 1, nI_add]
      · refine hnx.to (fun s g => ?_) (fun s g => ?_)
        · rw [u8]
          generalize itr (fun _ _ _ _ => none) u_X8_isContentByAny_2 f = g8
          unfold u_X8_isContentByAny_2
          rw [(hl s g).1, if_neg z1, get_t (hl s g).1 hn (by omega), bd_some, g.s4 hq, isWord8_f b1, bd_some, if_pos rfl, lit 1, nI_add]
        · rw [u9]
          generalize itr (fun _ _ _ _ => none) u_X9_isContentBy_2 f = g9
          unfold u_X9_isContentBy_2
          rw [if_neg i4, c4, (hl s g).2, if_neg z1, x1, if_neg x2, x3, lt_eq, g.r.2.2, isWord9_f b2, bd_some, if_pos rfl, lit 1, nI_add]
theorem cheapL {σ : MM} (h : GD σ) {q n ns : Nat} {w : Int32} (hq : q < 4) (hn : n ≤ 24) (hl : ∀ s, GN σ s → s (120 + q) 2 = nI n ∧ s 135 q = nI n) (hs : ns ≤ 20) (e2 : σ 130 2 = nI ns) : ∀ (f k : Nat) (a b : Int32), ns - k < f → k ≤ 20 → SR (fun _ => True) σ (fun s => itr (fun _ _ _ _ _ _ => none) u_X8_cheapest_71 f w (120 + q) a b (nI k) s) (fun s => itr (fun _ _ _ _ _ _ => none) u_X9_cheapest_61 f (nI q) w a b (nI k) s) := by
  intro f
  induction f with
  | zero => intro k _ _ hk; omega
  | succ f ih =>
    intro k a b hf hk20
    have u8 : ∀ s, itr (fun _ _ _ _ _ _ => none) u_X8_cheapest_71 (f + 1) w (120 + q) a b (nI k) s = u_X8_cheapest_71 (itr (fun _ _ _ _ _ _ => none) u_X8_cheapest_71 f) w (120 + q) a b (nI k) s := fun s => rfl
    have u9 : ∀ s, itr (fun _ _ _ _ _ _ => none) u_X9_cheapest_61 (f + 1) (nI q) w a b (nI k) s = u_X9_cheapest_61 (itr (fun _ _ _ _ _ _ => none) u_X9_cheapest_61 f) (nI q) w a b (nI k) s := fun s => rfl
    by_cases z : ns ≤ k
    · refine (SR.rf (r := if w = 0 then a else b) trivial).to (fun s g => ?_) (fun s g => ?_)
      · rw [u8]; unfold u_X8_cheapest_71
        rw [(g.st h).1, e2, if_pos (nI_le z (by omega))]
        split <;> rfl
      · rw [u9]; unfold u_X9_cheapest_61
        rw [g.row, e2, if_pos (nI_le z (by omega))]
        split <;> rfl
    · have z1 : ¬ nI ns ≤ nI k := nI_ge (by omega) (by omega)
      have hk : k < 20 := by omega
      have key := (byL h hq hn hl hk FU 0 (by omega) (by rw [FU_eq]; omega)).tn (Q := fun _ => True) (k := fun r s => if r = 0 then bd (f_X0_bribeOf 0 (0 + 11 + k) s) (fun r81 s82 => itr (fun _ _ _ _ _ _ => none) u_X8_cheapest_71 f w (120 + q) (a + r81) (b ||| ((1 : Int32) <<< (nI k &&& 31))) (nI (k + 1)) s82) else itr (fun _ _ _ _ _ _ => none) u_X8_cheapest_71 f w (120 + q) a b (nI (k + 1)) s) (l := fun r s => if r = 0 then bd (f_X9_bribeOf (nI k) s) (fun r81 s82 => itr (fun _ _ _ _ _ _ => none) u_X9_cheapest_61 f (nI q) w (a + r81) (b ||| ((1 : Int32) <<< (nI k &&& 31))) (nI (k + 1)) s82) else itr (fun _ _ _ _ _ _ => none) u_X9_cheapest_61 f (nI q) w a b (nI (k + 1)) s) (fun r _ => by
        by_cases y : r = 0
        · exact ((bribeS h hk).tn (fun r' _ => ih (k + 1) (a + r') (b ||| ((1 : Int32) <<< (nI k &&& 31))) (by omega) (by omega))).to (fun s _ => if_pos y) (fun s _ => if_pos y)
        · exact (ih (k + 1) a b (by omega) (by omega)).to (fun s _ => if_neg y) (fun s _ => if_neg y))
      refine key.to (fun s g => ?_) (fun s g => ?_)
      · rw [u8]
        generalize itr (fun _ _ _ _ _ _ => none) u_X8_cheapest_71 f = g8
        unfold u_X8_cheapest_71
        rw [(g.st h).1, e2, if_neg z1, judgeOn_t ((g.st h).1.trans e2) hs (by omega), bd_some, onO_some, if_pos (kd_j (Or.inl rfl) hk), show nI k + 1 = nI (k + 1) by rw [lit 1, nI_add]]
        rfl
      · rw [u9]
        generalize itr (fun _ _ _ _ _ _ => none) u_X9_cheapest_61 f = g9
        unfold u_X9_cheapest_61
        rw [g.row, e2, if_neg z1, show nI k + 1 = nI (k + 1) by rw [lit 1, nI_add]]
        rfl
/-- promise 23 -/
theorem op_cheapest {a b c : Int32} {σ : MM} (h : GD σ) : SIM (f_X8_cheapest a b c σ) (f_X9_cheapest a b c) := by
  obtain ⟨np, hp, e3⟩ := people_b h.1.2
  obtain ⟨ns, hs, e2⟩ := step_b h.1.2
  have EB := SE.er (σ := σ) 1 (e := -1000000001) (by omega) (by omega) eB
  rcases arg_c a (n := np) (by omega) with ⟨p, hpp, rfl⟩ | ha
  · have hp5 : p < 5 := by omega
    rcases arg_c b (n := 4) (by omega) with ⟨q, hq, rfl⟩ | hb
    · rcases btw_c c (hi := 1) (n := 1) rfl (by decide) with ⟨j, hj, rfl, h1, h2⟩ | hc
      · obtain ⟨n, hn, hl⟩ := shL h hq
        obtain ⟨at', ha', ea⟩ := at_b h.1.2 hp5 e2 hs
        have i4 : ¬ (nI q < 0 ∨ 4 ≤ (nI q).toNatClampNeg) := ixN hq (by decide)
        have c4 : (nI q).toNatClampNeg = q := nI_cl (by omega)
        by_cases z : σ 134 q = 0
        · refine SIM.se h ((SE.er 2 (e := -1000000002) (by omega) (by omega) eN).to (x' := f_X8_cheapest (nI p) (nI q) (nI j)) (y' := f_X9_cheapest (nI p) (nI q) (nI j)) (fun s g => ?_) (fun s g => ?_))
          · unfold f_X8_cheapest
            rw [personOf_t ((g.st h).2.trans e3) hp hpp, bd_some, onO_some, if_pos (kd_p (Or.inl rfl) hp5), sheetOf_t hq, bd_some, onO_some, if_pos (kd_s hq), wi_t h1 h2, bd_some, if_neg (by decide), miss_eq, bd_some, (shB h hq g).1, if_pos z, if_neg (by decide)]
          · unfold f_X9_cheapest
            rw [isPerson_t (by rw [g.row]; exact e3) hp hpp, bd_some, if_neg (by decide), isSheet_t hq, bd_some, if_neg (by decide), in_t h1 h2, bd_some, if_neg (by decide), if_neg i4, c4, (shB h hq g).2, if_pos z]
        · refine SIM.sr h ((cheapL (w := nI j) h hq hn hl hs e2 FU at' 0 0 (by rw [FU_eq]; omega) (by omega)).to (x' := f_X8_cheapest (nI p) (nI q) (nI j)) (y' := f_X9_cheapest (nI p) (nI q) (nI j)) (fun s g => ?_) (fun s g => ?_))
          · unfold f_X8_cheapest
            rw [personOf_t ((g.st h).2.trans e3) hp hpp, bd_some, onO_some, if_pos (kd_p (Or.inl rfl) hp5), sheetOf_t hq, bd_some, onO_some, if_pos (kd_s hq), wi_t h1 h2, bd_some, if_neg (by decide), miss_eq, bd_some, (shB h hq g).1, if_neg z, if_pos rfl, atS h g hp5, ea]; rfl
          · unfold f_X9_cheapest
            rw [isPerson_t (by rw [g.row]; exact e3) hp hpp, bd_some, if_neg (by decide), isSheet_t hq, bd_some, if_neg (by decide), in_t h1 h2, bd_some, if_neg (by decide), if_neg i4, c4, (shB h hq g).2, if_neg z, about0 (by omega), bd_some, g.row, ea]; rfl
      · refine SIM.se h (EB.to (x' := f_X8_cheapest (nI p) (nI q) c) (y' := f_X9_cheapest (nI p) (nI q) c) (fun s g => ?_) (fun s g => ?_))
        · unfold f_X8_cheapest
          rw [personOf_t ((g.st h).2.trans e3) hp hpp, bd_some, onO_some, if_pos (kd_p (Or.inl rfl) hp5), sheetOf_t hq, bd_some, onO_some, if_pos (kd_s hq), wi_f hc, bd_some, if_pos rfl]; rfl
        · unfold f_X9_cheapest
          rw [isPerson_t (by rw [g.row]; exact e3) hp hpp, bd_some, if_neg (by decide), isSheet_t hq, bd_some, if_neg (by decide), in_f hc, bd_some, if_pos rfl]; rfl
    · refine SIM.se h (EB.to (x' := f_X8_cheapest (nI p) b c) (y' := f_X9_cheapest (nI p) b c) (fun s g => ?_) (fun s g => ?_))
      · unfold f_X8_cheapest
        rw [personOf_t ((g.st h).2.trans e3) hp hpp, bd_some, onO_some, if_pos (kd_p (Or.inl rfl) hp5), sheetOf_f hb, bd_some, onO_none]; rfl
      · unfold f_X9_cheapest
        rw [isPerson_t (by rw [g.row]; exact e3) hp hpp, bd_some, if_neg (by decide), isSheet_f hb, bd_some, if_pos rfl]; rfl
  · refine SIM.se h (EB.to (x' := f_X8_cheapest a b c) (y' := f_X9_cheapest a b c) (fun s g => ?_) (fun s g => ?_))
    · unfold f_X8_cheapest
      rw [personOf_f ((g.st h).2.trans e3) ha, bd_some, onO_none]
      rcases arg_c b (n := 4) (by omega) with ⟨q, hq, rfl⟩ | hb
      · rw [sheetOf_t hq, bd_some, onO_some, if_pos (kd_s hq)]; rfl
      · rw [sheetOf_f hb, bd_some, onO_none]; rfl
    · unfold f_X9_cheapest
      rw [isPerson_f (by rw [g.row]; exact e3) hp ha, bd_some, if_pos rfl]; rfl

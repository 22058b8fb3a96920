theorem oddsT {σ : MM} (h : GD σ) {p n ns at' A B : Nat} {w : Int32} (hp : p < 5) (ea : σ 130 (66 + 4 * p) = nI at') (hat : at' ≤ 20) (hs : ns ≤ 20) (e2 : σ 130 2 = nI ns) (hn : n ≤ 4) (hA : A ≤ 100000000) (hB1 : 0 < B) (hB : B ≤ 100000000) : ∀ (f i : Nat), i ≤ n → ns ≤ at' + i → n - i < f → SR (fun _ => True) σ (fun s => itr (fun _ _ _ _ _ _ _ => none) u_X8_odds_50 f (nI n) w (0 + 31 + p) (nL A) (nL B) (nI i) s) (u_X9_odds_98 w (nL A) (nL B)) := by
  intro f
  induction f with
  | zero => intro i _ _ hk; omega
  | succ f ih =>
    intro i hi hz hf
    have u8 : ∀ s, itr (fun _ _ _ _ _ _ _ => none) u_X8_odds_50 (f + 1) (nI n) w (0 + 31 + p) (nL A) (nL B) (nI i) s = u_X8_odds_50 (itr (fun _ _ _ _ _ _ _ => none) u_X8_odds_50 f) (nI n) w (0 + 31 + p) (nL A) (nL B) (nI i) s := fun s => rfl
    by_cases z : n ≤ i
    · refine (finS (w := w) hA hB1 hB).to (fun s g => ?_) (fun s g => rfl)
      rw [u8]; unfold u_X8_odds_50
      rw [if_pos (nI_le z (by omega))]
    · refine (ih (i + 1) (by omega) (by omega) (by omega)).to (fun s g => ?_) (fun s g => rfl)
      rw [u8]
      generalize itr (fun _ _ _ _ _ _ _ => none) u_X8_odds_50 f = g8
      unfold u_X8_odds_50
      rw [if_neg (nI_ge (by omega) (by omega)), atS h g hp, ea, nI_add, judgeOn_f ((g.st h).1.trans e2) (Or.inr (nI_le hz (by omega))), bd_some, onO_none, lit 1, nI_add]
theorem oddsL {σ : MM} (h : GD σ) {p n ns at' : Nat} {w : Int32} (hp : p < 5) (ea : σ 130 (66 + 4 * p) = nI at') (hat : at' ≤ 20) (hs : ns ≤ 20) (e2 : σ 130 2 = nI ns) (hn : n ≤ 4) : ∀ (f i A B : Nat), i ≤ n → n - i < f → A ≤ 100 ^ i → 0 < B → B ≤ 100 ^ i → SR (fun _ => True) σ (fun s => itr (fun _ _ _ _ _ _ _ => none) u_X8_odds_50 f (nI n) w (0 + 31 + p) (nL A) (nL B) (nI i) s) (fun s => itr (fun _ _ _ _ _ _ _ => none) u_X9_odds_52 f (nI n) w (nL A) (nL B) (nI at') (nI (at' + i)) s) := by
  intro f
  induction f with
  | zero => intro i _ _ _ hk; omega
  | succ f ih =>
    intro i A B hi hf hA hB1 hB
    have p4 : (100 : Nat) ^ i ≤ 100 ^ 4 := Nat.pow_le_pow_right (by omega) (by omega)
    have p5 : (100 : Nat) ^ 4 = 100000000 := by decide
    have u8 : ∀ s, itr (fun _ _ _ _ _ _ _ => none) u_X8_odds_50 (f + 1) (nI n) w (0 + 31 + p) (nL A) (nL B) (nI i) s = u_X8_odds_50 (itr (fun _ _ _ _ _ _ _ => none) u_X8_odds_50 f) (nI n) w (0 + 31 + p) (nL A) (nL B) (nI i) s := fun s => rfl
    have u9 : ∀ s, itr (fun _ _ _ _ _ _ _ => none) u_X9_odds_52 (f + 1) (nI n) w (nL A) (nL B) (nI at') (nI (at' + i)) s = u_X9_odds_52 (itr (fun _ _ _ _ _ _ _ => none) u_X9_odds_52 f) (nI n) w (nL A) (nL B) (nI at') (nI (at' + i)) s := fun s => rfl
    by_cases z : n ≤ i
    · refine (finS (w := w) (A := A) (B := B) (by omega) hB1 (by omega)).to (fun s g => ?_) (fun s g => ?_)
      · rw [u8]; unfold u_X8_odds_50
        rw [if_pos (nI_le z (by omega))]
      · rw [u9]
        generalize itr (fun _ _ _ _ _ _ _ => none) u_X9_odds_52 f = g9
        unfold u_X9_odds_52
        rw [nI_add, if_pos (nI_le (by omega) (by omega))]
    · have z1 : ¬ nI n ≤ nI i := nI_ge (by omega) (by omega)
      by_cases y : ns ≤ at' + i
      · refine (oddsT (w := w) (A := A) (B := B) h hp ea hat hs e2 hn (by omega) hB1 (by omega) (f + 1) i hi y (by omega)).to (fun s g => rfl) (fun s g => ?_)
        rw [u9]
        generalize itr (fun _ _ _ _ _ _ _ => none) u_X9_odds_52 f = g9
        unfold u_X9_odds_52
        rw [nI_add, if_neg (nI_ge (by omega) (by omega)), g.row, e2, if_pos (nI_le y (by omega))]
      · have hsn : at' + i < 20 := by omega
        have key := (wordsS h hsn).tn (Q := fun _ => True) (k := fun r s => itr (fun _ _ _ _ _ _ _ => none) u_X8_odds_50 f (nI n) w (0 + 31 + p) (nL A * r.toInt64) (nL B * (100 : Int64)) (nI (i + 1)) s) (l := fun r s => itr (fun _ _ _ _ _ _ _ => none) u_X9_odds_52 f (nI n) w (nL A * r.toInt64) (nL B * (100 : Int64)) (nI at') (nI (at' + (i + 1))) s) (fun r hr => by
          subst hr
          have hw := woN_le (σ 130) (at' + i)
          rw [nL_toI (by omega), nL_mul, show (100 : Int64) = nL 100 from rfl, nL_mul]
          refine ih (i + 1) _ _ (by omega) (by omega) ?_ (by omega) ?_
          · rw [Nat.pow_succ]; exact Nat.mul_le_mul hA hw
          · rw [Nat.pow_succ]; exact Nat.mul_le_mul hB (Nat.le_refl _))
        refine key.to (fun s g => ?_) (fun s g => ?_)
        · rw [u8]
          generalize itr (fun _ _ _ _ _ _ _ => none) u_X8_odds_50 f = g8
          unfold u_X8_odds_50
          rw [if_neg z1, atS h g hp, ea, nI_add, judgeOn_t ((g.st h).1.trans e2) hs (by omega), bd_some, onO_some, if_pos (kd_j (Or.inl rfl) hsn), show nI i + 1 = nI (i + 1) by rw [lit 1, nI_add]]
        · rw [u9]
          generalize itr (fun _ _ _ _ _ _ _ => none) u_X9_odds_52 f = g9
          unfold u_X9_odds_52
          rw [nI_add, if_neg (nI_ge (by omega) (by omega)), g.row, e2, if_neg (nI_ge (by omega) (by omega)), show nI (at' + i) + 1 = nI (at' + (i + 1)) by rw [lit 1, nI_add]; rfl]
theorem SIM.map {α β : Type} (f : α → β) {σ : MM} {x : Option (α × MM)} {m : MM → Option (α × MM)} (s : SIM x m) : SIM (bd x (fun r t => some (f r, t))) (fun t => bd (m t) (fun r t => some (f r, t))) := by
  obtain ⟨r, σ1, σ2, e1, e2, e3⟩ := s
  exact ⟨f r, σ1, σ2, by rw [e1, bd_some], by show bd (m σ1) _ = _; rw [e2, bd_some], e3⟩
theorem SIM.BL {σ : MM} (h : GD σ) {x : Option (Int64 × MM)} {m : MM → Option (Int64 × MM)} (hx : x = bd (f_X8_error (-1000000001) σ) (fun r s => some (r.toInt64, s))) (hm : ∀ s, UP σ s → m s = bd (f_X9_error (-1000000001) s) (fun r s => some (r.toInt64, s))) : SIM x m := by
  have hb := (SIM.B h (k := 1) (e := -1000000001) (by omega) (by omega) eB rfl (m := fun s => bd (f_X9_error (-1000000001) s) (fun r s => some (r, s))) (fun s _ => rfl)).map (σ := σ) Int32.toInt64
  obtain ⟨r, σ1, σ2, e1, e2, e3⟩ := hb
  have ex : f_X8_error (-1000000001) σ = some (-1000000001, mu σ 128 1 (σ 128 1 + 1)) := error8 (k := 1) (by omega) (by omega) eB
  rw [ex, bd_some, bd_some] at e1
  rw [ex, bd_some] at hx
  have hs1 : σ1 = mu σ 128 1 (σ 128 1 + 1) := by injection e1 with e1; exact (Prod.mk.inj e1).2.symm
  have hr : r = (-1000000001 : Int32).toInt64 := by injection e1 with e1; exact (Prod.mk.inj e1).1.symm
  refine ⟨r, σ1, σ2, by rw [hx, hs1, hr], ?_, e3⟩
  rw [hm σ1 (by rw [hs1]; exact LOW_mu (by omega))]
  have ey : f_X9_error (-1000000001) σ1 = some (-1000000001, mu σ1 133 1 (σ1 133 1 + 1)) := error9 (k := 1) (by omega) (by omega) eB
  change bd (bd (f_X9_error (-1000000001) σ1) _) _ = _ at e2
  rw [ey, bd_some, bd_some] at e2
  rw [ey, bd_some]; exact e2
/-- promise 24 -/
theorem op_odds {a b c : Int32} {σ : MM} (h : GD σ) : SIM (f_X8_odds a b c σ) (f_X9_odds a b c) := by
  obtain ⟨np, hp, e3⟩ := people_b h.1.2
  obtain ⟨ns, hs, e2⟩ := step_b h.1.2
  have e0 : σ 0 3 = nI np := h.1.1.people.trans e3
  rcases arg_c a (n := np) (by omega) with ⟨p, hpp, rfl⟩ | ha
  · have hp5 : p < 5 := by omega
    rcases btw_c b (hi := 4) (n := 4) rfl (by decide) with ⟨n, hn, rfl, b1, b2⟩ | hb
    · rcases btw_c c (hi := 1) (n := 1) rfl (by decide) with ⟨j, hj, rfl, h1, h2⟩ | hc
      · obtain ⟨at', ha', ea⟩ := at_b h.1.2 hp5 e2 hs
        refine SIM.sr h ((oddsL (w := nI j) h hp5 ea (by omega) hs e2 hn FU 0 1 1 (by omega) (by rw [FU_eq]; omega) (by omega) (by omega) (by omega)).to (x' := f_X8_odds (nI p) (nI n) (nI j)) (y' := f_X9_odds (nI p) (nI n) (nI j)) (fun s g => ?_) (fun s g => ?_))
        · unfold f_X8_odds
          rw [personOf_t ((g.st h).2.trans e3) hp hpp, bd_some, onO_some, if_pos (kd_p (Or.inl rfl) hp5), wi_t b1 b2, bd_some, if_neg (by decide), wi_t h1 h2, bd_some, if_neg (by decide)]; rfl
        · unfold f_X9_odds
          rw [isPerson_t (by rw [g.row]; exact e3) hp hpp, bd_some, if_neg (by decide), in_t b1 b2, bd_some, if_neg (by decide), in_t h1 h2, bd_some, if_neg (by decide), about0 (by omega), bd_some, g.row, ea]; rfl
      · refine SIM.BL h ?_ (fun t ht => ?_)
        · unfold f_X8_odds
          rw [personOf_t e0 hp hpp, bd_some, onO_some, if_pos (kd_p (Or.inl rfl) hp5), wi_t b1 b2, bd_some, if_neg (by decide), wi_f hc, bd_some, if_pos rfl]; rfl
        · unfold f_X9_odds
          rw [isPerson_t (by rw [ht 130 (by omega)]; exact e3) hp hpp, bd_some, if_neg (by decide), in_t b1 b2, bd_some, if_neg (by decide), in_f hc, bd_some, if_pos rfl]; rfl
    · refine SIM.BL h ?_ (fun t ht => ?_)
      · unfold f_X8_odds
        rw [personOf_t e0 hp hpp, bd_some, onO_some, if_pos (kd_p (Or.inl rfl) hp5), wi_f hb, bd_some, if_pos rfl]; rfl
      · unfold f_X9_odds
        rw [isPerson_t (by rw [ht 130 (by omega)]; exact e3) hp hpp, bd_some, if_neg (by decide), in_f hb, bd_some, if_pos rfl]; rfl
  · refine SIM.BL h ?_ (fun t ht => ?_)
    · unfold f_X8_odds
      rw [personOf_f e0 ha, bd_some, onO_none]; rfl
    · unfold f_X9_odds
      rw [isPerson_f (by rw [ht 130 (by omega)]; exact e3) hp ha, bd_some, if_pos rfl]; rfl

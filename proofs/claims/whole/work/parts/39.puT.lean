theorem told48 {K : Nat → Int32 → Int32 → MM → Option (Int32 × MM)} {t : Nat} {v w a b : Int32} {s : MM} : u_X8_isToldBy_48 K t v w a b s = if b = a then K t v (w + 1) s else some (0, s) := rfl
theorem so66 {K : Int32 → Int32 → Int32 → Int32 → MM → Option (Int32 × MM)} {t v w a b : Int32} {s : MM} : u_X9_isSo_66 K t v w a b s = if b = a then K t v 1 (w + 1) s else K t v 0 (w + 1) s := rfl
theorem NR.e01 {c r : Int32} (h : NR c r) {v : Int32} (hv : v = 0 ∨ v = 1) : c = v ↔ r = v := by
  rcases hv with rfl | rfl
  · exact ⟨fun e => (h.eq (j := 0) (by omega)).mp e.symm, fun e => ((h.eq (j := 0) (by omega)).mpr e).symm⟩
  · exact ⟨fun e => (h.eq (j := 1) (by omega)).mp e.symm, fun e => ((h.eq (j := 1) (by omega)).mpr e).symm⟩
theorem toldL {σ : MM} (h : GD σ) {q n ns : Nat} {w : Int32} (hq : q < 4) (hn : n ≤ 24) (hl : ∀ s, GN σ s → s (120 + q) 2 = nI n ∧ s 135 q = nI n) (hs : ns ≤ 20) (e2 : σ 130 2 = nI ns) (hns : n ≤ ns) : ∀ (f k : Nat), k ≤ n → n - k + 1 < f → SR (fun r => r = 0 ∨ r = 1) σ (fun s => itr (fun _ _ _ _ => none) u_X8_isToldBy_2 f (120 + q) w (nI k) s) (fun s => itr (fun _ _ _ _ _ => none) u_X9_isSo_24 f (nI q) w 1 (nI k) s) := by
  intro f
  induction f with
  | zero => intro k _ hk; omega
  | succ f ih =>
    intro k hk hf
    have u8 : ∀ s, itr (fun _ _ _ _ => none) u_X8_isToldBy_2 (f + 1) (120 + q) w (nI k) s = u_X8_isToldBy_2 (itr (fun _ _ _ _ => none) u_X8_isToldBy_2 f) (120 + q) w (nI k) s := fun s => rfl
    have u9 : ∀ s, itr (fun _ _ _ _ _ => none) u_X9_isSo_24 (f + 1) (nI q) w 1 (nI k) s = u_X9_isSo_24 (itr (fun _ _ _ _ _ => none) u_X9_isSo_24 f) (nI q) w 1 (nI k) s := fun s => rfl
    have i4 : ¬ (nI q < 0 ∨ 4 ≤ (nI q).toNatClampNeg) := ixN hq (by decide)
    have c4 : (nI q).toNatClampNeg = q := nI_cl (by omega)
    by_cases z : n ≤ k
    · have e : k = n := by omega
      subst e
      refine (SR.rf (P := fun r : Int32 => r = 0 ∨ r = 1) (r := 1) (Or.inr rfl)).to (fun s g => ?_) (fun s g => ?_)
      · rw [u8]; unfold u_X8_isToldBy_2
        rw [(hl s g).1, if_pos (nI_le (Nat.le_refl _) (by omega))]
      · rw [u9]; unfold u_X9_isSo_24
        rw [if_neg i4, c4, (hl s g).2, if_pos (nI_le (Nat.le_refl _) (by omega)), if_pos (Or.inr rfl)]
    · have z1 : ¬ nI n ≤ nI k := nI_ge (by omega) (by omega)
      have hk20 : k < 20 := by omega
      obtain ⟨x1, x2, x3⟩ := c24 (k := k) hq (by omega)
      have hnx := ih (k + 1) (by omega) (by omega)
      obtain ⟨f', rfl⟩ : ∃ f', f = f' + 1 := ⟨f - 1, by omega⟩
      have stop : ∀ s, GN σ s → itr (fun _ _ _ _ _ => none) u_X9_isSo_24 (f' + 1) (nI q) w 0 (nI (k + 1)) s = some (0, s) := by
        intro s g
        rw [show itr (fun _ _ _ _ _ => none) u_X9_isSo_24 (f' + 1) (nI q) w 0 (nI (k + 1)) s = u_X9_isSo_24 (itr (fun _ _ _ _ _ => none) u_X9_isSo_24 f') (nI q) w 0 (nI (k + 1)) s from rfl]
        unfold u_X9_isSo_24
        rw [if_neg i4, c4, (hl s g).2]
        simp
      have nr := shC h hq (k := k) (by omega) (GN.rf (σ := σ)) (GN.rf (σ := σ))
      have key := (contS h hk20 w).tn (Q := fun r => r = 0 ∨ r = 1) (k := fun r s => if r = 0 then u_X8_isToldBy_48 (itr (fun _ _ _ _ => none) u_X8_isToldBy_2 (f' + 1)) (120 + q) w (nI k) 0 (σ (124 + q) k) s else u_X8_isToldBy_48 (itr (fun _ _ _ _ => none) u_X8_isToldBy_2 (f' + 1)) (120 + q) w (nI k) 1 (σ (124 + q) k) s) (l := fun r s => if r = 0 then u_X9_isSo_66 (itr (fun _ _ _ _ _ => none) u_X9_isSo_24 (f' + 1)) (nI q) w (nI k) 0 (σ 136 (24 * q + k)) s else u_X9_isSo_66 (itr (fun _ _ _ _ _ => none) u_X9_isSo_24 (f' + 1)) (nI q) w (nI k) 1 (σ 136 (24 * q + k)) s) (fun r _ => by
        have br : ∀ v : Int32, v = 0 ∨ v = 1 → SR (fun r => r = 0 ∨ r = 1) σ (u_X8_isToldBy_48 (itr (fun _ _ _ _ => none) u_X8_isToldBy_2 (f' + 1)) (120 + q) w (nI k) v (σ (124 + q) k)) (u_X9_isSo_66 (itr (fun _ _ _ _ _ => none) u_X9_isSo_24 (f' + 1)) (nI q) w (nI k) v (σ 136 (24 * q + k))) := by
          intro v hv
          by_cases y : σ (124 + q) k = v
          · refine hnx.to (fun s g => ?_) (fun s g => ?_)
            · rw [told48, if_pos y, lit 1, nI_add]
            · rw [so66, if_pos ((nr.e01 hv).mp y), show nI k + 1 = nI (k + 1) by rw [lit 1, nI_add]]
          · refine (SR.rf (P := fun r : Int32 => r = 0 ∨ r = 1) (r := 0) (Or.inl rfl)).to (fun s g => ?_) (fun s g => ?_)
            · rw [told48, if_neg y]
            · rw [so66, if_neg (fun e => y ((nr.e01 hv).mpr e)), show nI k + 1 = nI (k + 1) by rw [lit 1, nI_add], stop s g]
        by_cases y : r = 0
        · exact (br 0 (Or.inl rfl)).to (fun s _ => if_pos y) (fun s _ => if_pos y)
        · exact (br 1 (Or.inr rfl)).to (fun s _ => if_neg y) (fun s _ => if_neg y))
      refine key.to (fun s g => ?_) (fun s g => ?_)
      · rw [u8]
        generalize itr (fun _ _ _ _ => none) u_X8_isToldBy_2 (f' + 1) = g8
        unfold u_X8_isToldBy_2
        rw [(hl s g).1, if_neg z1, judgeOn_t ((g.st h).1.trans e2) hs (by omega), bd_some, onO_some, if_pos (kd_j (Or.inl rfl) hk20), get_t (hl s g).1 hn (by omega), bd_some, g.s4 hq]
      · rw [u9]
        generalize itr (fun _ _ _ _ _ => none) u_X9_isSo_24 (f' + 1) = g9
        unfold u_X9_isSo_24
        rw [if_neg i4, c4, (hl s g).2, if_neg z1, if_neg (by decide), x1, if_neg x2, x3, g.r.2.2]
theorem toldF {σ : MM} (h : GD σ) {q n ns : Nat} {w : Int32} (hq : q < 4) (hn : n ≤ 24) (hl : ∀ s, GN σ s → s (120 + q) 2 = nI n ∧ s 135 q = nI n) (hs : ns ≤ 20) (e2 : σ 130 2 = nI ns) (hns : ns < n) : ∀ (f k : Nat), k ≤ ns → ns - k < f → SR (fun r => r = 0 ∨ r = 1) σ (fun s => itr (fun _ _ _ _ => none) u_X8_isToldBy_2 f (120 + q) w (nI k) s) (fun s => some (0, s)) := by
  intro f
  induction f with
  | zero => intro k _ hk; omega
  | succ f ih =>
    intro k hk hf
    have u8 : ∀ s, itr (fun _ _ _ _ => none) u_X8_isToldBy_2 (f + 1) (120 + q) w (nI k) s = u_X8_isToldBy_2 (itr (fun _ _ _ _ => none) u_X8_isToldBy_2 f) (120 + q) w (nI k) s := fun s => rfl
    have z1 : ¬ nI n ≤ nI k := nI_ge (by omega) (by omega)
    by_cases z : ns ≤ k
    · refine (SR.rf (P := fun r : Int32 => r = 0 ∨ r = 1) (r := 0) (Or.inl rfl)).to (fun s g => ?_) (fun s g => rfl)
      rw [u8]; unfold u_X8_isToldBy_2
      rw [(hl s g).1, if_neg z1, judgeOn_f ((g.st h).1.trans e2) (Or.inr (nI_le z (by omega))), bd_some, onO_none]
    · have hk20 : k < 20 := by omega
      have hnx := ih (k + 1) (by omega) (by omega)
      obtain ⟨r0, hr0, c1, c2⟩ := contS h hk20 w
      have key : SR (fun r => r = 0 ∨ r = 1) σ (fun s => bd (f_X0_isContent 0 (0 + 11 + k) w s) (fun r s => if r = 0 then u_X8_isToldBy_48 (itr (fun _ _ _ _ => none) u_X8_isToldBy_2 f) (120 + q) w (nI k) 0 (σ (124 + q) k) s else u_X8_isToldBy_48 (itr (fun _ _ _ _ => none) u_X8_isToldBy_2 f) (120 + q) w (nI k) 1 (σ (124 + q) k) s)) (fun s => bd (some (r0, s)) (fun _ s => some (0, s))) := by
        refine SR.tn (P := fun r => r = r0) (Q := fun r => r = 0 ∨ r = 1) ⟨r0, rfl, c1, fun s _ => ⟨s, rfl, GE.rf⟩⟩ (fun r _ => ?_)
        have br : ∀ v : Int32, SR (fun r => r = 0 ∨ r = 1) σ (u_X8_isToldBy_48 (itr (fun _ _ _ _ => none) u_X8_isToldBy_2 f) (120 + q) w (nI k) v (σ (124 + q) k)) (fun s => some (0, s)) := by
          intro v
          by_cases y : σ (124 + q) k = v
          · refine hnx.to (fun s g => ?_) (fun s g => rfl)
            rw [told48, if_pos y, lit 1, nI_add]
          · refine (SR.rf (P := fun r : Int32 => r = 0 ∨ r = 1) (r := 0) (Or.inl rfl)).to (fun s g => ?_) (fun s g => rfl)
            rw [told48, if_neg y]
        by_cases y : r = 0
        · exact (br 0).to (fun s _ => if_pos y) (fun s _ => rfl)
        · exact (br 1).to (fun s _ => if_neg y) (fun s _ => rfl)
      refine key.to (fun s g => ?_) (fun s g => rfl)
      rw [u8]
      generalize itr (fun _ _ _ _ => none) u_X8_isToldBy_2 f = g8
      unfold u_X8_isToldBy_2
      rw [(hl s g).1, if_neg z1, judgeOn_t ((g.st h).1.trans e2) hs (by omega), bd_some, onO_some, if_pos (kd_j (Or.inl rfl) hk20), get_t (hl s g).1 hn (by omega), bd_some, g.s4 hq]
theorem soS {σ : MM} (h : GD σ) {q : Nat} (w : Int32) (hq : q < 4) : SR (fun r => r = 0 ∨ r = 1) σ (f_X8_isToldBy (120 + q) w) (f_X9_isSo (nI q) w) := by
  obtain ⟨n, hn, hl⟩ := shL h hq
  obtain ⟨ns, hs, e2⟩ := step_b h.1.2
  have i4 : ¬ (nI q < 0 ∨ 4 ≤ (nI q).toNatClampNeg) := ixN hq (by decide)
  have c4 : (nI q).toNatClampNeg = q := nI_cl (by omega)
  by_cases z : n ≤ ns
  · refine (toldL (w := w) h hq hn hl hs e2 z FU 0 (by omega) (by rw [FU_eq]; omega)).to (fun s g => rfl) (fun s g => ?_)
    unfold f_X9_isSo
    rw [if_neg i4, c4, (hl s g).2, g.row, e2, if_neg (nI_nlt z (by omega))]; rfl
  · refine (toldF (w := w) h hq hn hl hs e2 (by omega) FU 0 (by omega) (by rw [FU_eq]; omega)).to (fun s g => rfl) (fun s g => ?_)
    unfold f_X9_isSo l_X9_isSo_24
    rw [if_neg i4, c4, (hl s g).2, g.row, e2, if_pos (nI_lt (by omega) (by omega)), FU_eq, itr_s]
    generalize itr (fun _ _ _ _ _ => none) u_X9_isSo_24 999 = g9
    unfold u_X9_isSo_24
    rw [if_neg i4, c4, (hl s g).2]
    simp
def wD (m : Nat) : Int32 := if m = 0 then -1 else nI (m - 1)
theorem wD_s (m : Nat) : wD (m + 1) = nI m := by unfold wD; rw [if_neg (by omega)]; rfl
theorem wD_p {m : Nat} (hm : m ≤ 100) : nI m + (-1 : Int32) = wD m := by
  unfold wD
  rcases m with _ | m
  · rfl
  · rw [if_neg (by omega), ← Int32.sub_eq_add_neg]
    exact nI_sub' (a := m + 1) (b := 1) (by omega)
theorem fitsL {σ : MM} (h : GD σ) {q : Nat} {w : Int32} (hq : q < 4) : ∀ (f m c : Nat) (l : Int32), m < f → m + c ≤ 100 → ((c = 0 ∧ l = -1) ∨ (0 < c ∧ ∃ j, j ≤ 99 ∧ l = nI j)) → ST σ (fun s => itr (fun _ _ _ _ _ _ => none) u_X8_fits_50 f w (120 + q) (nI c) l (wD m) s) (fun s => itr (fun _ _ _ _ _ _ => none) u_X9_fits_48 f (nI q) w (nI c) l (wD m) s) := by
  intro f
  induction f with
  | zero => intro m _ _ hm; omega
  | succ f ih =>
    intro m c l hf hm hc
    have u8 : ∀ s, itr (fun _ _ _ _ _ _ => none) u_X8_fits_50 (f + 1) w (120 + q) (nI c) l (wD m) s = u_X8_fits_50 (itr (fun _ _ _ _ _ _ => none) u_X8_fits_50 f) w (120 + q) (nI c) l (wD m) s := fun s => rfl
    have u9 : ∀ s, itr (fun _ _ _ _ _ _ => none) u_X9_fits_48 (f + 1) (nI q) w (nI c) l (wD m) s = u_X9_fits_48 (itr (fun _ _ _ _ _ _ => none) u_X9_fits_48 f) (nI q) w (nI c) l (wD m) s := fun s => rfl
    rcases m with _ | m
    · have d0 : wD 0 < 0 := by decide
      by_cases y : w = 0
      · refine Or.inl ((SR.rf (r := nI c) trivial).to (fun s g => ?_) (fun s g => ?_))
        · rw [u8]; unfold u_X8_fits_50; rw [if_pos d0, if_pos y]
        · rw [u9]; unfold u_X9_fits_48; rw [if_pos d0, if_pos y]
      · rcases hc with ⟨rfl, rfl⟩ | ⟨hc, j, hj, rfl⟩
        · refine Or.inr ((SE.er 2 (e := -1000000002) (by omega) (by omega) eN).to (fun s g => ?_) (fun s g => ?_))
          · rw [u8]; unfold u_X8_fits_50; rw [if_pos d0, if_neg y, if_pos (show nI 0 = 0 from rfl)]
          · rw [u9]; unfold u_X9_fits_48; rw [if_pos d0, if_neg y, if_neg (by decide)]
        · refine Or.inl ((SR.rf (r := nI j) trivial).to (fun s g => ?_) (fun s g => ?_))
          · rw [u8]; unfold u_X8_fits_50; rw [if_pos d0, if_neg y, if_neg (fun e => by have := nI_inj (b := 0) (by omega) (by decide) e; omega)]
          · rw [u9]; unfold u_X9_fits_48; rw [if_pos d0, if_neg y, if_pos (nI_pos' (by omega))]
    · have hd : ¬ wD (m + 1) < 0 := by rw [wD_s]; exact nI_pos (by omega)
      have key := ST.tn (k := fun r s => if r = 0 then itr (fun _ _ _ _ _ _ => none) u_X8_fits_50 f w (120 + q) (nI c) l (wD m) s else itr (fun _ _ _ _ _ _ => none) u_X8_fits_50 f w (120 + q) (nI (c + 1)) (nI m) (wD m) s) (l := fun r s => if r = 0 then itr (fun _ _ _ _ _ _ => none) u_X9_fits_48 f (nI q) w (nI c) l (wD m) s else itr (fun _ _ _ _ _ _ => none) u_X9_fits_48 f (nI q) w (nI (c + 1)) (nI m) (wD m) s) (soS h (nI m) hq) (fun r _ => by
        by_cases y : r = 0
        · exact (ih m c l (by omega) (by omega) hc).to (fun s _ => if_pos y) (fun s _ => if_pos y)
        · exact (ih m (c + 1) (nI m) (by omega) (by omega) (Or.inr ⟨by omega, m, by omega, rfl⟩)).to (fun s _ => if_neg y) (fun s _ => if_neg y))
      refine key.to (fun s g => ?_) (fun s g => ?_)
      · rw [u8]
        generalize itr (fun _ _ _ _ _ _ => none) u_X8_fits_50 f = g8
        unfold u_X8_fits_50
        rw [if_neg hd, wD_s, wD_p (by omega), show nI c + 1 = nI (c + 1) by rw [lit 1, nI_add]]
      · rw [u9]
        generalize itr (fun _ _ _ _ _ _ => none) u_X9_fits_48 f = g9
        unfold u_X9_fits_48 u_X9_fits_73
        rw [if_neg hd, wD_s, wD_p (by omega), show nI c + 1 = nI (c + 1) by rw [lit 1, nI_add], show nI c + 0 = nI c from Int32.add_zero _]
        congr 1
        funext r t
        by_cases y : r = 0
        · rw [if_pos y, if_pos y, if_pos y]
        · rw [if_neg y, if_neg y, if_neg y]
/-- promise 25 -/
theorem op_fits {a b : Int32} {σ : MM} (h : GD σ) : SIM (f_X8_fits a b σ) (f_X9_fits a b) := by
  have EB := SE.er (σ := σ) 1 (e := -1000000001) (by omega) (by omega) eB
  rcases arg_c a (n := 4) (by omega) with ⟨q, hq, rfl⟩ | ha
  · rcases btw_c b (hi := 1) (n := 1) rfl (by decide) with ⟨j, hj, rfl, h1, h2⟩ | hb
    · have i4 : ¬ (nI q < 0 ∨ 4 ≤ (nI q).toNatClampNeg) := ixN hq (by decide)
      have c4 : (nI q).toNatClampNeg = q := nI_cl (by omega)
      by_cases z : σ 134 q = 0
      · refine SIM.se h ((SE.er 2 (e := -1000000002) (by omega) (by omega) eN).to (x' := f_X8_fits (nI q) (nI j)) (y' := f_X9_fits (nI q) (nI j)) (fun s g => ?_) (fun s g => ?_))
        · unfold f_X8_fits
          rw [sheetOf_t hq, bd_some, onO_some, if_pos (kd_s hq), wi_t h1 h2, bd_some, if_neg (by decide), miss_eq, bd_some, (shB h hq g).1, if_pos z, if_neg (by decide)]
        · unfold f_X9_fits
          rw [isSheet_t hq, bd_some, if_neg (by decide), in_t h1 h2, bd_some, if_neg (by decide), if_neg i4, c4, (shB h hq g).2, if_pos z]
      · refine SIM.st h ((fitsL (w := nI j) h hq FU 100 0 (-1) (by rw [FU_eq]; omega) (by omega) (Or.inl ⟨rfl, rfl⟩)).to (x' := f_X8_fits (nI q) (nI j)) (y' := f_X9_fits (nI q) (nI j)) (fun s g => ?_) (fun s g => ?_))
        · unfold f_X8_fits
          rw [sheetOf_t hq, bd_some, onO_some, if_pos (kd_s hq), wi_t h1 h2, bd_some, if_neg (by decide), miss_eq, bd_some, (shB h hq g).1, if_neg z, if_pos rfl]; rfl
        · unfold f_X9_fits
          rw [isSheet_t hq, bd_some, if_neg (by decide), in_t h1 h2, bd_some, if_neg (by decide), if_neg i4, c4, (shB h hq g).2, if_neg z]; rfl
    · refine SIM.se h (EB.to (x' := f_X8_fits (nI q) b) (y' := f_X9_fits (nI q) b) (fun s g => ?_) (fun s g => ?_))
      · unfold f_X8_fits
        rw [sheetOf_t hq, bd_some, onO_some, if_pos (kd_s hq), wi_f hb, bd_some, if_pos rfl]; rfl
      · unfold f_X9_fits
        rw [isSheet_t hq, bd_some, if_neg (by decide), in_f hb, bd_some, if_pos rfl]; rfl
  · refine SIM.se h (EB.to (x' := f_X8_fits a b) (y' := f_X9_fits a b) (fun s g => ?_) (fun s g => ?_))
    · unfold f_X8_fits
      rw [sheetOf_f ha, bd_some, onO_none]; rfl
    · unfold f_X9_fits
      rw [isSheet_f ha, bd_some, if_pos rfl]; rfl

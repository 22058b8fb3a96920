theorem notThere_t {q : Nat} {s : MM} (hq : q < 4) : f_X9_notThere (nI q) s = some (if s 134 q = 0 then -1000000002 else 0, s) := by
  unfold f_X9_notThere
  rw [isSheet_t hq, bd_some, if_neg (by decide), if_neg (ixN hq (by decide)), nI_cl (by omega)]
  split <;> rfl
theorem notThere_f {a : Int32} {s : MM} (h : a < 0 ∨ nI 4 ≤ a) : f_X9_notThere a s = some (-1000000001, s) := by
  unfold f_X9_notThere
  rw [isSheet_f h, bd_some, if_pos rfl]
theorem shL {σ : MM} (h : GD σ) {q : Nat} (hq : q < 4) : ∃ n, n ≤ 24 ∧ ∀ s, GN σ s → s (120 + q) 2 = nI n ∧ s 135 q = nI n := by
  obtain ⟨n, hn, e1, e2⟩ := (h.2.2.2.1 q hq).1
  refine ⟨n, hn, fun s g => ⟨by rw [g.s1 hq]; exact e1, by rw [g.r.2.1]; exact e2⟩⟩
theorem shB {σ : MM} (h : GD σ) {q : Nat} (hq : q < 4) {s : MM} (g : GN σ s) : s (120 + q) 1 = σ 134 q ∧ s 134 q = σ 134 q := by
  exact ⟨by rw [g.s1 hq]; exact (h.2.2.2.1 q hq).2.1, by rw [g.r.1]⟩
theorem shC {σ : MM} (h : GD σ) {q k : Nat} (hq : q < 4) (hk : k < 24) {s t : MM} (g : GN σ s) (g2 : GN σ t) : NR (s (124 + q) k) (t 136 (24 * q + k)) := by
  rw [g.s4 hq, g2.r.2.2]; exact (h.2.2.2.1 q hq).2.2.2 k hk
theorem GN.st {σ s : MM} (h : GD σ) (g : GN σ s) : s 0 1 = σ 130 2 ∧ s 0 3 = σ 130 3 := ⟨(h.1.1.gn g).steps, (h.1.1.gn g).people⟩
theorem atS {σ s : MM} (h : GD σ) (g : GN σ s) {p : Nat} (hp : p < 5) : s (0 + 31 + p) 0 = σ 130 (66 + 4 * p) := (h.1.1.gn g).p (k := 0) hp (by omega)
theorem judgeL {σ : MM} (h : GD σ) {q n np : Nat} (hq : q < 4) (hn : n ≤ 24) (hl : ∀ s, GN σ s → s (120 + q) 2 = nI n ∧ s 135 q = nI n) (hp : np ≤ 5) (e3 : σ 130 3 = nI np) : ∀ (f k : Nat), k ≤ n → n - k < f → SR (fun _ => True) σ (fun s => itr (fun _ _ _ => none) u_X8_judge_33 f (120 + q) (nI k) s) (fun s => itr (fun _ _ _ => none) u_X9_judge_18 f (nI q) (nI k) s) := by
  intro f
  induction f with
  | zero => intro k _ hk; omega
  | succ f ih =>
    intro k hk hf
    have u8 : ∀ s, itr (fun _ _ _ => none) u_X8_judge_33 (f + 1) (120 + q) (nI k) s = u_X8_judge_33 (itr (fun _ _ _ => none) u_X8_judge_33 f) (120 + q) (nI k) s := fun s => rfl
    have u9 : ∀ s, itr (fun _ _ _ => none) u_X9_judge_18 (f + 1) (nI q) (nI k) s = u_X9_judge_18 (itr (fun _ _ _ => none) u_X9_judge_18 f) (nI q) (nI k) s := fun s => rfl
    have i4 : ¬ (nI q < 0 ∨ 4 ≤ (nI q).toNatClampNeg) := ixN hq (by decide)
    have c4 : (nI q).toNatClampNeg = q := nI_cl (by omega)
    by_cases z : n ≤ k
    · have e : k = n := by omega
      subst e
      refine (SR.rf (r := nI k) trivial).to (fun s g => ?_) (fun s g => ?_)
      · rw [u8]; unfold u_X8_judge_33
        rw [(hl s g).1, if_pos (nI_le (Nat.le_refl _) (by omega))]
      · rw [u9]; unfold u_X9_judge_18
        rw [if_neg i4, c4, (hl s g).2, if_pos (nI_le (Nat.le_refl _) (by omega))]
    · have z1 : ¬ nI n ≤ nI k := nI_ge (by omega) (by omega)
      by_cases y : k < np
      · have hk5 : k < 5 := by omega
        obtain ⟨x1, x2, x3⟩ := c24 (k := k) hq (by omega)
        obtain ⟨sn, hsn, e2⟩ := step_b h.1.2
        obtain ⟨a, ha, ea⟩ := at_b h.1.2 hk5 e2 hsn
        by_cases v : nI a = σ (124 + q) k
        · refine (ih (k + 1) (by omega) (by omega)).to (fun s g => ?_) (fun s g => ?_)
          · rw [u8]
            generalize itr (fun _ _ _ => none) u_X8_judge_33 f = g8
            unfold u_X8_judge_33
            rw [(hl s g).1, if_neg z1, personOf_t ((g.st h).2.trans e3) hp y, bd_some, onO_some, if_pos (kd_p (Or.inl rfl) hk5), get_t (hl s g).1 hn (by omega), bd_some, atS h g hk5, ea, g.s4 hq, if_pos v, lit 1, nI_add]
          · rw [u9]
            generalize itr (fun _ _ _ => none) u_X9_judge_18 f = g9
            unfold u_X9_judge_18
            rw [if_neg i4, c4, (hl s g).2, if_neg z1, g.row, e3, if_neg (nI_ge y (by omega)), x1, if_neg x2, x3, about0 (by omega), bd_some, g.row, ea, if_pos (((shC h hq (by omega) GN.rf g).eq (by omega)).mp v), lit 1, nI_add]
        · refine (SR.rf (r := nI k) trivial).to (fun s g => ?_) (fun s g => ?_)
          · rw [u8]
            generalize itr (fun _ _ _ => none) u_X8_judge_33 f = g8
            unfold u_X8_judge_33
            rw [(hl s g).1, if_neg z1, personOf_t ((g.st h).2.trans e3) hp y, bd_some, onO_some, if_pos (kd_p (Or.inl rfl) hk5), get_t (hl s g).1 hn (by omega), bd_some, atS h g hk5, ea, g.s4 hq, if_neg v]
          · rw [u9]
            generalize itr (fun _ _ _ => none) u_X9_judge_18 f = g9
            unfold u_X9_judge_18
            rw [if_neg i4, c4, (hl s g).2, if_neg z1, g.row, e3, if_neg (nI_ge y (by omega)), x1, if_neg x2, x3, about0 (by omega), bd_some, g.row, ea, if_neg (fun w => v (((shC h hq (by omega) GN.rf g).eq (by omega)).mpr w))]
      · have y1 : nI np ≤ nI k := nI_le (by omega) (by omega)
        refine (SR.rf (r := nI k) trivial).to (fun s g => ?_) (fun s g => ?_)
        · rw [u8]; unfold u_X8_judge_33
          rw [(hl s g).1, if_neg z1, personOf_f ((g.st h).2.trans e3) (Or.inr y1), bd_some, onO_none]
        · rw [u9]; unfold u_X9_judge_18
          rw [if_neg i4, c4, (hl s g).2, if_neg z1, g.row, e3, if_pos y1]
/-- promise 32 -/
theorem op_judge {a : Int32} {σ : MM} (h : GD σ) : SIM (f_X8_judge a σ) (f_X9_judge a) := by
  obtain ⟨np, hp, e3⟩ := people_b h.1.2
  rcases arg_c a (n := 4) (by omega) with ⟨q, hq, rfl⟩ | ha
  · obtain ⟨n, hn, hl⟩ := shL h hq
    by_cases z : σ 134 q = 0
    · refine SIM.se h ((SE.er 2 (e := -1000000002) (by omega) (by omega) eN).to (x' := f_X8_judge (nI q)) (y' := f_X9_judge (nI q)) (fun s g => ?_) (fun s g => ?_))
      · unfold f_X8_judge
        rw [sheetOf_t hq, bd_some, onO_some, if_pos (kd_s hq), miss_eq, bd_some, (shB h hq g).1, if_pos z, if_neg (by decide)]
      · unfold f_X9_judge
        rw [notThere_t hq, bd_some, (shB h hq g).2, if_pos z, if_neg (by decide)]
    · refine SIM.sr h ((judgeL h hq hn hl hp e3 FU 0 (by omega) (by rw [FU_eq]; omega)).to (x' := f_X8_judge (nI q)) (y' := f_X9_judge (nI q)) (fun s g => ?_) (fun s g => ?_))
      · unfold f_X8_judge
        rw [sheetOf_t hq, bd_some, onO_some, if_pos (kd_s hq), miss_eq, bd_some, (shB h hq g).1, if_neg z, if_pos rfl]; rfl
      · unfold f_X9_judge
        rw [notThere_t hq, bd_some, (shB h hq g).2, if_neg z, if_pos rfl]; rfl
  · refine SIM.se h ((SE.er 1 (e := -1000000001) (by omega) (by omega) eB).to (x' := f_X8_judge a) (y' := f_X9_judge a) (fun s g => ?_) (fun s g => ?_))
    · unfold f_X8_judge
      rw [sheetOf_f ha, bd_some, onO_none]
    · unfold f_X9_judge
      rw [notThere_f ha, bd_some, if_neg (by decide)]

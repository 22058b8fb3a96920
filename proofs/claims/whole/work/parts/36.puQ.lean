/-- alike but for junk and the errors of the class -/
def GN (σ s : MM) : Prop := (∀ i, ¬ JJ i → i ≠ 128 → s i = σ i) ∧ (∀ j, j < 20 → s (83 + j) 0 = σ (83 + j) 0) ∧ s 113 0 = σ 113 0 ∧ s 129 3 = σ 129 3 ∧ s 129 19 = σ 129 19
theorem GE.gn {σ s : MM} (h : GE σ s) : GN σ s := ⟨fun i a _ => h.1 i a, h.2⟩
theorem GN.rf {σ : MM} : GN σ σ := GE.rf.gn
theorem GN.ge {σ s t : MM} (h : GN σ s) (h2 : GE s t) : GN σ t := ⟨fun i a b => (h2.1 i a).trans (h.1 i a b), fun j hj => (h2.2.1 j hj).trans (h.2.1 j hj), h2.2.2.1.trans h.2.2.1, h2.2.2.2.1.trans h.2.2.2.1, h2.2.2.2.2.trans h.2.2.2.2⟩
theorem GN.er {σ s : MM} {k : Nat} {v : Int32} (h : GN σ s) : GN σ (mu s 128 k v) := ⟨fun i a b => by rw [mu_off _ _ b]; exact h.1 i a b, fun j hj => by rw [mu_off _ _ (by omega)]; exact h.2.1 j hj, by rw [mu_off _ _ (by omega)]; exact h.2.2.1, by rw [mu_off _ _ (by omega)]; exact h.2.2.2.1, by rw [mu_off _ _ (by omega)]; exact h.2.2.2.2⟩
theorem CR.gn {σ s : MM} {ρ : Nat → Int32} (h : CR 0 σ ρ) (g : GN σ s) : CR 0 s ρ := by
  refine ⟨fun j hj => ?_, fun n hn hr q hq => ?_, fun n hn hr q hq => ?_⟩
  · have h1 := loc_lt (b := 0) (k := j)
    obtain ⟨h3, h4, h5, h6⟩ := loc_J (b := 0) hj
    rw [g.1 _ (by unfold JJ JK; omega) (by omega)]; exact h.1 j hj
  · rw [g.1 _ (by unfold JJ JK; omega) (by omega)]; exact h.2.1 n hn hr q hq
  · rw [g.1 _ (by unfold JJ JK; omega) (by omega)]; exact h.2.2 n hn hr q hq
theorem PL.gn {σ s : MM} (h : PL 0 σ) (g : GN σ s) : PL 0 s := fun j hj => by rw [g.1 _ (by unfold JJ JK; omega) (by omega)]; exact h j hj
theorem GN.row {σ s : MM} (g : GN σ s) : s 130 = σ 130 := g.1 130 nJ130 (by omega)
theorem GN.at {σ s : MM} (g : GN σ s) {i : Nat} (h : ¬ JJ i) (h2 : i ≠ 128) : s i = σ i := g.1 i h h2
/-- both only read: from every memory that shows what σ shows they answer the same, with P -/
def SR {α : Type} (P : α → Prop) (σ : MM) (x : MM → Option (α × MM)) (y : MM → Option (α × MM)) : Prop :=
  ∃ r : α, P r ∧ (∀ s, GN σ s → ∃ s', x s = some (r, s') ∧ GE s s') ∧ (∀ s, GN σ s → ∃ s', y s = some (r, s') ∧ GE s s')
/-- both tell the same error -/
def SE (σ : MM) (x : MM → Option (Int32 × MM)) (y : MM → Option (Int32 × MM)) : Prop :=
  ∃ (k : Nat) (e : Int32), 1 ≤ k ∧ k ≤ 6 ∧ (-1000000000 : Int32) - e = nI k ∧ (∀ s, GN σ s → ∃ s', GE s s' ∧ x s = bd (f_X8_error e s') (fun r t => some (r, t))) ∧ (∀ s, GN σ s → ∃ s', GE s s' ∧ y s = bd (f_X9_error e s') (fun r t => some (r, t)))
theorem SR.rf {α : Type} {P : α → Prop} {σ : MM} {r : α} (h : P r) : SR P σ (fun s => some (r, s)) (fun s => some (r, s)) := ⟨r, h, fun s _ => ⟨s, rfl, GE.rf⟩, fun s _ => ⟨s, rfl, GE.rf⟩⟩
theorem SR.to {α : Type} {P : α → Prop} {σ : MM} {x x' y y' : MM → Option (α × MM)} (h : SR P σ x y) (ex : ∀ s, GN σ s → x' s = x s) (ey : ∀ s, GN σ s → y' s = y s) : SR P σ x' y' := by
  obtain ⟨r, h1, h2, h3⟩ := h
  exact ⟨r, h1, fun s hs => by rw [ex s hs]; exact h2 s hs, fun s hs => by rw [ey s hs]; exact h3 s hs⟩
theorem SR.tn {α β : Type} {P : α → Prop} {Q : β → Prop} {σ : MM} {x y : MM → Option (α × MM)} {k l : α → MM → Option (β × MM)} (h : SR P σ x y) (hk : ∀ r, P r → SR Q σ (k r) (l r)) : SR Q σ (fun s => bd (x s) k) (fun s => bd (y s) l) := by
  obtain ⟨r, h1, h2, h3⟩ := h
  obtain ⟨r2, g1, g2, g3⟩ := hk r h1
  refine ⟨r2, g1, fun s hs => ?_, fun s hs => ?_⟩
  · obtain ⟨s1, e1, q1⟩ := h2 s hs
    obtain ⟨s2, e2, q2⟩ := g2 s1 (hs.ge q1)
    exact ⟨s2, by show bd (x s) k = _; rw [e1]; exact e2, q1.tr q2⟩
  · obtain ⟨s1, e1, q1⟩ := h3 s hs
    obtain ⟨s2, e2, q2⟩ := g3 s1 (hs.ge q1)
    exact ⟨s2, by show bd (y s) l = _; rw [e1]; exact e2, q1.tr q2⟩
theorem SE.to {σ : MM} {x x' y y' : MM → Option (Int32 × MM)} (h : SE σ x y) (ex : ∀ s, GN σ s → x' s = x s) (ey : ∀ s, GN σ s → y' s = y s) : SE σ x' y' := by
  obtain ⟨k, e, h1, h2, h3, h4, h5⟩ := h
  exact ⟨k, e, h1, h2, h3, fun s hs => by rw [ex s hs]; exact h4 s hs, fun s hs => by rw [ey s hs]; exact h5 s hs⟩
theorem SE.tn {α : Type} {P : α → Prop} {σ : MM} {x y : MM → Option (α × MM)} {k l : α → MM → Option (Int32 × MM)} (h : SR P σ x y) (hk : ∀ r, P r → SE σ (k r) (l r)) : SE σ (fun s => bd (x s) k) (fun s => bd (y s) l) := by
  obtain ⟨r, h1, h2, h3⟩ := h
  obtain ⟨n, e, g1, g2, g3, g4, g5⟩ := hk r h1
  refine ⟨n, e, g1, g2, g3, fun s hs => ?_, fun s hs => ?_⟩
  · obtain ⟨s1, e1, q1⟩ := h2 s hs
    obtain ⟨s2, q2, e2⟩ := g4 s1 (hs.ge q1)
    exact ⟨s2, q1.tr q2, by show bd (x s) k = _; rw [e1]; exact e2⟩
  · obtain ⟨s1, e1, q1⟩ := h3 s hs
    obtain ⟨s2, q2, e2⟩ := g5 s1 (hs.ge q1)
    exact ⟨s2, q1.tr q2, by show bd (y s) l = _; rw [e1]; exact e2⟩
theorem SE.er {σ : MM} (k : Nat) {e : Int32} (h1 : 1 ≤ k) (h2 : k ≤ 6) (he : (-1000000000 : Int32) - e = nI k) : SE σ (fun s => bd (f_X8_error e s) (fun r t => some (r, t))) (fun s => bd (f_X9_error e s) (fun r t => some (r, t))) := ⟨k, e, h1, h2, he, fun s _ => ⟨s, GE.rf, rfl⟩, fun s _ => ⟨s, GE.rf, rfl⟩⟩
theorem SIM.sr {α : Type} {P : α → Prop} {σ : MM} {x y : MM → Option (α × MM)} (h : GD σ) (s : SR P σ x y) : SIM (x σ) y := by
  obtain ⟨r, -, h2, h3⟩ := s
  obtain ⟨σ1, e1, g1⟩ := h2 σ GN.rf
  obtain ⟨σ2, e2, g2⟩ := h3 σ1 g1.gn
  exact SIM.rd h e1 e2 g1 g2
theorem SIM.se {σ : MM} {x y : MM → Option (Int32 × MM)} (h : GD σ) (s : SE σ x y) : SIM (x σ) y := by
  obtain ⟨k, e, h1, h2, he, h4, h5⟩ := s
  obtain ⟨σ1, g1, e1⟩ := h4 σ GN.rf
  have hG1 := h.ge g1
  rw [error8 h1 h2 he, bd_some] at e1
  obtain ⟨s2, g2, e2⟩ := h5 (mu σ1 128 k (σ1 128 k + 1)) g1.gn.er
  rw [error9 h1 h2 he, bd_some] at e2
  refine ⟨_, _, _, e1, e2, ?_⟩
  have hb := hG1.err (k := k) (by omega)
  have e133 : s2 133 = σ1 133 := by rw [g2.row (by unfold JJ JK; omega), mu_off _ _ (by decide)]
  rw [e133]
  refine hb.ge ?_
  obtain ⟨a1, a2, a3, a4, a5⟩ := g2
  refine ⟨fun i hi => ?_, fun j hj => ?_, ?_, ?_, ?_⟩
  · by_cases e : i = 133
    · subst e; rw [mu_row, mu_row, e133, mu_off _ _ (by omega)]
    · rw [mu_off _ _ e, mu_off _ _ e]; exact a1 i hi
  · rw [mu_off _ _ (by omega), mu_off _ _ (by omega)]; exact a2 j hj
  · rw [mu_off _ _ (by omega), mu_off _ _ (by omega)]; exact a3
  · rw [mu_off _ _ (by omega), mu_off _ _ (by omega)]; exact a4
  · rw [mu_off _ _ (by omega), mu_off _ _ (by omega)]; exact a5
/-- content, on both sides -/
theorem contS {σ : MM} (h : GD σ) {s : Nat} (hs : s < 20) (w : Int32) : SR (fun r => r = contP (σ 130) s w) σ (f_X0_isContent 0 (0 + 11 + s) w) (f_X9_isContent (nI s) w) := by
  refine ⟨contP (σ 130) s w, rfl, fun t ht => ?_, fun t ht => ?_⟩
  · obtain ⟨t', e, j⟩ := cont0 (b := 0) (w := w) (Or.inl rfl) (h.1.1.gn ht) (h.2.1.1.gn ht) h.1.2 hs
    exact ⟨t', e, j.ge⟩
  · obtain ⟨t', e, j⟩ := cont9 (σ := t) (s := s) (w := w) (by rw [ht.row]; exact h.1.2) (by omega)
    rw [ht.row] at e
    exact ⟨t', e, j.ge⟩
theorem bribeS {σ : MM} (h : GD σ) {s : Nat} (hs : s < 20) : SR (fun r => r = bribeP (σ 130) s) σ (f_X0_bribeOf 0 (0 + 11 + s)) (f_X9_bribeOf (nI s)) := by
  refine ⟨bribeP (σ 130) s, rfl, fun t ht => ?_, fun t ht => ?_⟩
  · obtain ⟨t', e, j⟩ := bribe0 (b := 0) (s := s) (Or.inl rfl) (h.1.1.gn ht) (h.2.1.1.gn ht) h.1.2 hs
    exact ⟨t', e, j.ge⟩
  · obtain ⟨t', e, j⟩ := bribe9 (σ := t) (s := s) (by rw [ht.row]; exact h.1.2) (by omega)
    rw [ht.row] at e
    exact ⟨t', e, j.ge⟩
theorem wordsS {σ : MM} (h : GD σ) {s : Nat} (hs : s < 20) : SR (fun r => r = nI (woN (σ 130) s)) σ (f_X0_contentWords 0 (0 + 11 + s)) (f_X9_wordsOf (nI s)) := by
  refine ⟨nI (woN (σ 130) s), rfl, fun t ht => ?_, fun t ht => ?_⟩
  · obtain ⟨t', e, j⟩ := cw0 (s := s) (h.1.1.gn ht) (h.2.1.1.gn ht) h.1.2 hs
    exact ⟨t', e, j.ge⟩
  · obtain ⟨t', e, j⟩ := cw9 (σ := t) (s := s) (by rw [ht.row]; exact h.1.2) (by omega)
    rw [ht.row] at e
    exact ⟨t', e, j.ge⟩
/-- what a sheet holds, on both sides -/
theorem NR.btw {c r : Int32} (h : NR c r) {n : Nat} (hn : n ≤ 127) : (∃ j, j ≤ n ∧ c = nI j ∧ r = nI j) ∨ ((c < 0 ∨ nI n < c) ∧ (r < 0 ∨ nI n < r)) := by
  have big : ∀ v : Int32, (127 : Int32) < v → nI n < v := fun v q => Int32.lt_of_le_of_lt (show nI n ≤ (127 : Int32) from nI_le hn (by decide)) q
  rcases h with h | ⟨h1, h2⟩
  · subst h
    rcases btw_c c (n := n) rfl (by omega) with ⟨j, hj, e, -, -⟩ | q
    · exact Or.inl ⟨j, hj, e, e⟩
    · exact Or.inr ⟨q, q⟩
  · exact Or.inr ⟨h1.elim Or.inl (fun q => Or.inr (big _ q)), h2.elim Or.inl (fun q => Or.inr (big _ q))⟩
theorem NR.eq {c r : Int32} (h : NR c r) {j : Nat} (hj : j ≤ 127) : nI j = c ↔ r = nI j := by
  rcases h.btw (n := 127) (by omega) with ⟨i, _, e1, e2⟩ | ⟨h1, h2⟩
  · rw [e1, e2]; exact eq_comm
  · refine ⟨fun e => ?_, fun e => ?_⟩
    · subst e
      rcases h1 with q | q
      · exact absurd q (nI_pos (by omega))
      · exact absurd q (nI_nlt hj (by decide))
    · subst e
      rcases h2 with q | q
      · exact absurd q (nI_pos (by omega))
      · exact absurd q (nI_nlt hj (by decide))
theorem sheetOf_t {q : Nat} {s : MM} (hq : q < 4) : f_X8_sheetOf (nI q) s = some (some (120 + q), s) := by
  unfold f_X8_sheetOf
  rw [if_neg (nI_pos (by omega)), if_neg (show ¬ (4 : Int32) ≤ nI q from nI_ge hq (by decide)), if_neg (ixN hq (by decide)), nI_cl (by omega)]
theorem sheetOf_f {a : Int32} {s : MM} (h : a < 0 ∨ nI 4 ≤ a) : f_X8_sheetOf a s = some (none, s) := by
  unfold f_X8_sheetOf
  by_cases q : a < 0
  · rw [if_pos q]
  · rw [if_neg q, if_pos (show (4 : Int32) ≤ a from h.resolve_left q)]
theorem isSheet_t {q : Nat} {s : MM} (hq : q < 4) : f_X9_isSheet (nI q) s = some (1, s) := by
  unfold f_X9_isSheet
  rw [in_t (nI_pos (by omega)) (show ¬ (3 : Int32) < nI q from nI_nlt (show q ≤ 3 by omega) (by decide)), bd_some, if_pos (Or.inr rfl)]
theorem isSheet_f {a : Int32} {s : MM} (h : a < 0 ∨ nI 4 ≤ a) : f_X9_isSheet a s = some (0, s) := by
  unfold f_X9_isSheet
  rw [in_f (h.elim Or.inl (fun q => Or.inr (Int32.lt_of_lt_of_le (show (3 : Int32) < nI 4 by decide) q))), bd_some, if_pos (Or.inl rfl)]
theorem kd_s {q : Nat} (hq : q < 4) : kd (120 + q) = 5 := by
  rcases (show q = 0 ∨ q = 1 ∨ q = 2 ∨ q = 3 by omega) with rfl | rfl | rfl | rfl <;> rfl
theorem shJ {q : Nat} (hq : q < 4) : ¬ JJ (120 + q) ∧ ¬ JJ (124 + q) := by unfold JJ JK; omega
theorem GN.s1 {σ s : MM} (g : GN σ s) {q : Nat} (hq : q < 4) : s (120 + q) = σ (120 + q) := g.1 _ (shJ hq).1 (by omega)
theorem GN.s4 {σ s : MM} (g : GN σ s) {q : Nat} (hq : q < 4) : s (124 + q) = σ (124 + q) := g.1 _ (shJ hq).2 (by omega)
theorem GN.r {σ s : MM} (g : GN σ s) : s 134 = σ 134 ∧ s 135 = σ 135 ∧ s 136 = σ 136 := ⟨g.1 _ (by unfold JJ JK; omega) (by omega), g.1 _ (by unfold JJ JK; omega) (by omega), g.1 _ (by unfold JJ JK; omega) (by omega)⟩
theorem get_t {q k n : Nat} {s : MM} (e : s (120 + q) 2 = nI n) (hn : n ≤ 24) (hk : k < n) : f_X5_get (120 + q) (nI k) s = some (s (124 + q) k, s) := by
  unfold f_X5_get
  rw [if_neg (nI_pos (by omega)), e, if_neg (nI_ge hk (by omega)), if_neg (show ¬ (24 : Int32) ≤ nI k from nI_ge (show k < 24 by omega) (by decide)), if_neg (ixN (by omega) (by decide)), nI_cl (by omega), show 120 + q + 4 = 124 + q by omega]
theorem miss_eq {i : Nat} {s : MM} : f_X5_isMissing i s = some (if s i 1 = 0 then 1 else 0, s) := by
  unfold f_X5_isMissing; split <;> rfl
theorem c24 {q k : Nat} (hq : q < 4) (hk : k < 24) : ((24 : Int32) * nI q) + nI k = nI (24 * q + k) ∧ ¬ (nI (24 * q + k) < 0 ∨ 96 ≤ (nI (24 * q + k)).toNatClampNeg) ∧ (nI (24 * q + k)).toNatClampNeg = 24 * q + k := by
  refine ⟨by rw [lit 24, pk_mul, nI_add], ixN (by omega) (by decide), nI_cl (by omega)⟩
/-- promise 29 -/
theorem op_body {a : Int32} {σ : MM} (h : GD σ) : SIM (f_X8_body a σ) (f_X9_body a) := by
  obtain ⟨n, hn, t1, t2, t3⟩ := h.2.2.2.2.2
  rcases arg_c a (n := n) (by omega) with ⟨k, hk, rfl⟩ | ha
  · refine SIM.rd (r := σ 142 k) h (σ1 := σ) (σ2 := σ) ?_ ?_ GE.rf GE.rf
    · unfold f_X8_body f_X7_bodyAt
      rw [t1, wi_t (nI_pos (by omega)) (pred_nlt (by omega) hk), bd_some, if_neg (by decide), if_neg (nI_pos (by omega)), t1, if_neg (nI_ge hk (by omega)), if_neg (show ¬ (30 : Int32) ≤ nI k from nI_ge (show k < 30 by omega) (by decide)), if_neg (ixN (by omega) (by decide)), nI_cl (by omega), bd_some, t3 k hk]
    · unfold f_X9_body
      rw [t2, in_t (nI_pos (by omega)) (pred_nlt (by omega) hk), bd_some, if_neg (by decide), if_neg (ixN (by omega) (by decide)), nI_cl (by omega)]
  · have hb : a < 0 ∨ nI n - 1 < a := by
      by_cases q : a < 0
      · exact Or.inl q
      · exact Or.inr (pred_lt (by omega) q (ha.resolve_left q))
    refine SIM.B h (k := 2) (e := -1000000002) (by omega) (by omega) eN ?_ (fun t ht => ?_)
    · unfold f_X8_body
      rw [t1, wi_f hb, bd_some, if_pos rfl]
    · unfold f_X9_body
      rw [ht 129 (by omega), t2, in_f hb, bd_some, if_pos rfl]

theorem dp_congr {ρ ρ' : Nat → Int32} {a : Nat} (ha : 170 ≤ a) (h : ∀ i, 170 ≤ i → ρ' i = ρ i) : ∀ k, dp ρ' a k = dp ρ a k
  | 0 => rfl
  | k + 1 => by rw [dp_s, dp_s, h _ (by omega), dp_congr ha h k]
theorem WF.congr {ρ ρ' : Nat → Int32} {a : Nat} (ha : 170 ≤ a) (h : ∀ i, 170 ≤ i → ρ' i = ρ i) (hw : WF ρ a) : WF ρ' a := by
  intro n hn hr
  rw [h a ha] at hr
  obtain ⟨h1, h2⟩ := hw n hn hr
  refine ⟨fun k hk => ?_, fun h0 => by rw [dp_congr ha h]; exact h2 h0⟩
  have := h1 k hk
  unfold okc at this ⊢
  rw [h _ (by omega), h _ (by omega), dp_congr ha h]
  exact this
theorem IB.any {ρ : Nat → Int32} (h : IB ρ) {k : Nat} (v : Int32) (hk : ¬ di k) : IB (upd ρ k v) := by
  intro i hi
  obtain ⟨x, h1, h2⟩ := h i hi
  refine ⟨x, h1, ?_⟩
  have hne : i ≠ k := fun e => hk (e ▸ hi)
  rw [upd_at, if_neg hne]
  exact h2
theorem AT.pt {ρ : Nat → Int32} (h : AT ρ) {k : Nat} (v : Int32) (h2 : k ≠ 2) (hp : ∀ p, p < 5 → k ≠ 66 + 4 * p) : AT (upd ρ k v) := by
  intro p hp2
  rw [upd_at, upd_at, if_neg (fun e => hp p hp2 e.symm), if_neg (fun e => h2 e.symm)]
  exact h p hp2
theorem IR.put {ρ : Nat → Int32} (h : IR ρ) {k : Nat} {v : Int32} (hk : k < 170) (hv : ¬ di k ∨ ∃ j, j ≤ bnd k ∧ v = nI j) (hat : AT (upd ρ k v)) : IR (upd ρ k v) := by
  have hc : ∀ i, 170 ≤ i → upd ρ k v i = ρ i := fun i hi => by rw [upd_at, if_neg (by omega)]
  refine ⟨?_, hat, h.2.2.1.congr (by omega) hc, h.2.2.2.congr (by omega) hc⟩
  rcases hv with hv | ⟨j, hj, rfl⟩
  · exact h.1.any v hv
  · exact h.1.pt hj
/-- alike but for the court in use and the reference's row -/
def GO (σ σ' : MM) : Prop := (∀ i, ¬ JJ i → 36 ≤ i → i ≠ 130 → σ' i = σ i) ∧ (∀ j, j < 20 → σ' (83 + j) 0 = σ (83 + j) 0) ∧ σ' 113 0 = σ 113 0 ∧ σ' 129 3 = σ 129 3 ∧ σ' 129 19 = σ 129 19
theorem GO.rf {σ : MM} : GO σ σ := ⟨fun _ _ _ _ => rfl, fun _ _ => rfl, rfl, rfl, rfl⟩
theorem GO.tr {σ σ' σ'' : MM} (h : GO σ σ') (h2 : GO σ' σ'') : GO σ σ'' := ⟨fun i a b c => (h2.1 i a b c).trans (h.1 i a b c), fun j hj => (h2.2.1 j hj).trans (h.2.1 j hj), h2.2.2.1.trans h.2.2.1, h2.2.2.2.1.trans h.2.2.2.1, h2.2.2.2.2.trans h.2.2.2.2⟩
theorem GE.go {σ σ' : MM} (h : GE σ σ') : GO σ σ' := ⟨fun i a _ _ => h.1 i a, h.2.1, h.2.2.1, h.2.2.2.1, h.2.2.2.2⟩
theorem GO.low {σ : MM} {i k : Nat} {v : Int32} (hi : i < 36) : GO σ (mu σ i k v) := by
  refine ⟨fun j _ h1 _ => mu_off _ _ (by omega), fun j hj => ?_, ?_, ?_, ?_⟩
  all_goals rw [mu_off _ _ (by omega)]
theorem GO.row {σ : MM} {k : Nat} {v : Int32} : GO σ (mu σ 130 k v) := by
  refine ⟨fun j _ _ h2 => mu_off _ _ h2, fun j hj => ?_, ?_, ?_, ?_⟩
  all_goals rw [mu_off _ _ (by omega)]
theorem GD.go {σ σ' : MM} (h : GD σ) (hj : GO σ σ') (hC : CR 0 σ' (σ' 130)) (hI : IR (σ' 130)) (hP : PL 0 σ') : GD σ' := by
  obtain ⟨⟨h1, h2⟩, ⟨p1, p2, p3⟩, ⟨i1, i2⟩, h3, h4, n, hn, t1, t2, t3⟩ := h
  have row : ∀ i, ¬ JJ i → 36 ≤ i → i ≠ 130 → σ' i = σ i := hj.1
  have e131 : σ' 131 = σ 131 := row _ (by unfold JJ JK; omega) (by omega) (by omega)
  have e133 : σ' 133 = σ 133 := row _ (by unfold JJ JK; omega) (by omega) (by omega)
  have e134 : σ' 134 = σ 134 := row _ (by unfold JJ JK; omega) (by omega) (by omega)
  have e135 : σ' 135 = σ 135 := row _ (by unfold JJ JK; omega) (by omega) (by omega)
  have e136 : σ' 136 = σ 136 := row _ (by unfold JJ JK; omega) (by omega) (by omega)
  have e108 : σ' 108 = σ 108 := row _ (by unfold JJ JK; omega) (by omega) (by omega)
  have e128 : σ' 128 = σ 128 := row _ (by unfold JJ JK; omega) (by omega) (by omega)
  have e114 : σ' 114 = σ 114 := row _ (by unfold JJ JK; omega) (by omega) (by omega)
  have e142 : σ' 142 = σ 142 := row _ (by unfold JJ JK; omega) (by omega) (by omega)
  refine ⟨⟨hC, hI⟩, ⟨hP, fun j hj2 => ?_, fun j hj2 => ?_⟩, ⟨by rw [e108, hj.2.2.2.1]; exact i1, fun hne => ?_⟩, fun s hs => ?_, fun k hk => by rw [e128, e133]; exact h4 k hk, n, hn, by rw [hj.2.2.1]; exact t1, by rw [hj.2.2.2.2]; exact t2, fun k hk => by rw [e114, e142]; exact t3 k hk⟩
  · rw [row _ (by unfold JJ JK; omega) (by omega) (by omega)]; exact p2 j hj2
  · exact (hj.2.1 j hj2).trans (p3 j hj2)
  · rw [hj.2.2.2.1] at hne
    rw [e131]
    refine ⟨⟨fun k hk => ?_, fun n hn hr k hk => ?_, fun n hn hr k hk => ?_⟩, (i2 hne).2⟩
    · obtain ⟨h1, h2⟩ := loc_lt (b := 36) (k := k)
      obtain ⟨h3, h4, h5, h6⟩ := loc_J (b := 36) hk
      rw [row _ (by unfold JJ JK; omega) (by omega) (by omega)]; exact (i2 hne).1.1 k hk
    · rw [row _ (by unfold JJ JK; omega) (by omega) (by omega)]; exact (i2 hne).1.2.1 n hn hr k hk
    · rw [row _ (by unfold JJ JK; omega) (by omega) (by omega)]; exact (i2 hne).1.2.2 n hn hr k hk
  · have e1 : σ' (120 + s) = σ (120 + s) := row _ (by unfold JJ JK; omega) (by omega) (by omega)
    have e2 : σ' (124 + s) = σ (124 + s) := row _ (by unfold JJ JK; omega) (by omega) (by omega)
    rw [e1, e2, e134, e135, e136]
    exact h3 s hs
/-- the class does its part, then the reference its own -/
theorem SIM.mk {α : Type} {x : Option (α × MM)} {m : MM → Option (α × MM)} {r : α} {σ σ1 σ2 : MM} {ρ1 : Nat → Int32} (h : GD σ) (hx : x = some (r, σ1)) (hm : m σ1 = some (r, σ2)) (g1 : GO σ σ1) (g2 : GO σ1 σ2) (hC : CR 0 σ1 ρ1) (hP : PL 0 σ1) (hlow : ∀ i, i < 36 → ¬ JK i → σ2 i = σ1 i) (h130 : σ2 130 = ρ1) (hI : IR ρ1) : SIM x m := by
  refine ⟨r, σ1, σ2, hx, hm, h.go (g1.tr g2) ?_ (h130 ▸ hI) ?_⟩
  · rw [h130]
    refine ⟨fun k hk => ?_, fun n hn hr k hk => ?_, fun n hn hr k hk => ?_⟩
    · obtain ⟨h1, h2⟩ := loc_lt (b := 0) (k := k)
      obtain ⟨h3, h4, h5, h6⟩ := loc_J (b := 0) hk
      rw [hlow _ (by omega) (by unfold JK; omega)]; exact hC.1 k hk
    · rw [hlow _ (by omega) (by unfold JK; omega)]; exact hC.2.1 n hn hr k hk
    · rw [hlow _ (by omega) (by unfold JK; omega)]; exact hC.2.2 n hn hr k hk
  · intro j hj
    rw [hlow _ (by omega) (by unfold JK; omega)]; exact hP j hj
/-- nothing changes but what nobody asks for -/
theorem SIM.rd {α : Type} {x : Option (α × MM)} {m : MM → Option (α × MM)} {r : α} {σ σ1 σ2 : MM} (h : GD σ) (hx : x = some (r, σ1)) (hm : m σ1 = some (r, σ2)) (g1 : GE σ σ1) (g2 : GE σ1 σ2) : SIM x m := ⟨r, σ1, σ2, hx, hm, h.ge (g1.tr g2)⟩
theorem PL.low {σ : MM} {i k : Nat} {v : Int32} (h : PL 0 σ) (hk : k ≠ 0 ∨ i < 11 ∨ 31 ≤ i) : PL 0 (mu σ i k v) := by
  intro j hj
  rw [mu_at, if_neg (by omega)]
  exact h j hj
theorem step_b {ρ : Nat → Int32} (h : IR ρ) : ∃ n, n ≤ 20 ∧ ρ 2 = nI n := h.1 2 (Or.inl ⟨by omega, by omega⟩)
theorem people_b {ρ : Nat → Int32} (h : IR ρ) : ∃ n, n ≤ 5 ∧ ρ 3 = nI n := h.1 3 (Or.inl ⟨by omega, by omega⟩)
theorem hour_b {ρ : Nat → Int32} (h : IR ρ) : ∃ n, n ≤ 9999 ∧ ρ 0 = nI n := h.1 0 (Or.inl ⟨by omega, by omega⟩)
theorem kd_j {b s : Nat} (hb : BB b) (hs : s < 20) : kd (b + 11 + s) = 2 := by
  have h : ∀ s, s < 20 → kd (0 + 11 + s) = 2 ∧ kd (36 + 11 + s) = 2 ∧ kd (72 + 11 + s) = 2 := by decide +kernel
  rcases hb with rfl | rfl | rfl
  · exact (h s hs).1
  · exact (h s hs).2.1
  · exact (h s hs).2.2
theorem kd_p {b s : Nat} (hb : BB b) (hs : s < 5) : kd (b + 31 + s) = 3 := by
  have h : ∀ s, s < 5 → kd (0 + 31 + s) = 3 ∧ kd (36 + 31 + s) = 3 ∧ kd (72 + 31 + s) = 3 := by decide +kernel
  rcases hb with rfl | rfl | rfl
  · exact (h s hs).1
  · exact (h s hs).2.1
  · exact (h s hs).2.2
theorem judgeOn_t {b s n : Nat} {σ : MM} (e : σ b 1 = nI n) (hn : n ≤ 20) (hs : s < n) : f_X0_judgeOn b (nI s) σ = some (some (b + 11 + s), σ) := by
  unfold f_X0_judgeOn
  rw [if_neg (nI_pos (by omega)), e, if_neg (nI_ge hs (by omega)), if_neg (show ¬ (20 : Int32) ≤ nI s from nI_ge (show s < 20 by omega) (by decide)), if_neg (ixN (by omega) (by decide)), nI_cl (by omega), show b + 1 + 10 + s = b + 11 + s by omega]
theorem judgeOn_f {b n : Nat} {a : Int32} {σ : MM} (e : σ b 1 = nI n) (h : a < 0 ∨ nI n ≤ a) : f_X0_judgeOn b a σ = some (none, σ) := by
  unfold f_X0_judgeOn
  by_cases h0 : a < 0
  · rw [if_pos h0]
  · rw [if_neg h0, e, if_pos (h.resolve_left h0)]
theorem personOf_t {b s n : Nat} {σ : MM} (e : σ b 3 = nI n) (hn : n ≤ 5) (hs : s < n) : f_X0_personOf b (nI s) σ = some (some (b + 31 + s), σ) := by
  unfold f_X0_personOf
  rw [if_neg (nI_pos (by omega)), e, if_neg (nI_ge hs (by omega)), if_neg (show ¬ (5 : Int32) ≤ nI s from nI_ge (show s < 5 by omega) (by decide)), if_neg (ixN (by omega) (by decide)), nI_cl (by omega), show b + 2 + 29 + s = b + 31 + s by omega]
theorem personOf_f {b n : Nat} {a : Int32} {σ : MM} (e : σ b 3 = nI n) (h : a < 0 ∨ nI n ≤ a) : f_X0_personOf b a σ = some (none, σ) := by
  unfold f_X0_personOf
  by_cases h0 : a < 0
  · rw [if_pos h0]
  · rw [if_neg h0, e, if_pos (h.resolve_left h0)]
theorem pred_lt {n : Nat} {a : Int32} (hn : n < 2 ^ 30) (h0 : ¬ a < 0) (h : nI n ≤ a) : nI n - 1 < a := by
  rw [lit 1, Int32.lt_iff_toInt_lt, pk_sub_toInt hn (by decide)]
  rw [Int32.le_iff_toInt_le, nI_toInt (by omega)] at h
  omega
theorem pred_nlt {n s : Nat} (hn : n < 2 ^ 30) (h : s < n) : ¬ nI n - 1 < nI s := by
  rw [lit 1, Int32.lt_iff_toInt_lt, pk_sub_toInt hn (by decide), nI_toInt (by omega)]
  omega
theorem isStep_t {s n : Nat} {σ : MM} (e : σ 130 2 = nI n) (hn : n ≤ 20) (hs : s < n) : f_X9_isStep (nI s) σ = some (1, σ) := by
  unfold f_X9_isStep
  rw [e, in_t (nI_pos (by omega)) (pred_nlt (by omega) hs), bd_some, if_pos (Or.inr rfl)]
theorem isStep_f {n : Nat} {a : Int32} {σ : MM} (e : σ 130 2 = nI n) (hn : n ≤ 20) (h : a < 0 ∨ nI n ≤ a) : f_X9_isStep a σ = some (0, σ) := by
  unfold f_X9_isStep
  have h2 : a < 0 ∨ nI n - 1 < a := by
    by_cases h0 : a < 0
    · exact Or.inl h0
    · exact Or.inr (pred_lt (by omega) h0 (h.resolve_left h0))
  rw [e, in_f h2, bd_some, if_pos (Or.inl rfl)]
theorem isPerson_t {s n : Nat} {σ : MM} (e : σ 130 3 = nI n) (hn : n ≤ 5) (hs : s < n) : f_X9_isPerson (nI s) σ = some (1, σ) := by
  unfold f_X9_isPerson
  rw [e, in_t (nI_pos (by omega)) (pred_nlt (by omega) hs), bd_some, if_pos (Or.inr rfl)]
theorem isPerson_f {n : Nat} {a : Int32} {σ : MM} (e : σ 130 3 = nI n) (hn : n ≤ 5) (h : a < 0 ∨ nI n ≤ a) : f_X9_isPerson a σ = some (0, σ) := by
  unfold f_X9_isPerson
  have h2 : a < 0 ∨ nI n - 1 < a := by
    by_cases h0 : a < 0
    · exact Or.inl h0
    · exact Or.inr (pred_lt (by omega) h0 (h.resolve_left h0))
  rw [e, in_f h2, bd_some, if_pos (Or.inl rfl)]
/-- a number is below n, or it isn't -/
theorem arg_c (a : Int32) {n : Nat} (hn : n < 2 ^ 31) : (∃ s, s < n ∧ a = nI s) ∨ (a < 0 ∨ nI n ≤ a) := by
  rcases pk_ix a hn with h | h | h
  · exact Or.inr (Or.inl h)
  · exact Or.inr (Or.inr h)
  · exact Or.inl h
/-- a number is between nought and n, or it isn't -/
theorem btw_c (a : Int32) {n : Nat} {hi : Int32} (e : hi = nI n) (hn : n < 2 ^ 31) : (∃ s, s ≤ n ∧ a = nI s ∧ ¬ a < 0 ∧ ¬ hi < a) ∨ (a < 0 ∨ hi < a) := by
  subst e
  by_cases h1 : a < 0
  · exact Or.inr (Or.inl h1)
  · by_cases h2 : nI n < a
    · exact Or.inr (Or.inr h2)
    · obtain ⟨j, hj, e⟩ := nI_btw hn h1 h2
      exact Or.inl ⟨j, hj, e, h1, h2⟩

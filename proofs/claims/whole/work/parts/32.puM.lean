theorem nI_inj {a b : Nat} (ha : a < 2 ^ 31) (hb : b < 2 ^ 31) (h : nI a = nI b) : a = b := by
  have := congrArg Int32.toNatClampNeg h
  rw [nI_cl ha, nI_cl hb] at this; exact this
/-- promise 16 -/
theorem op_law {a x y z : Int32} {σ : MM} (h : GD σ) : SIM (f_X8_law a x y z σ) (f_X9_law a x y z) := by
  rcases btw_c a (hi := 1) (n := 1) rfl (by decide) with ⟨u, hu, rfl, h1, h2⟩ | hb
  · obtain ⟨σ1, x1, g1⟩ := gives0 (b := 0) (u := u) (a1 := x) (b1 := y) (c1 := z) (Or.inl rfl) h.1.1 h.1.2 hu
    have e130 : σ1 130 = σ 130 := g1 130 (by unfold JK; omega)
    obtain ⟨σ2, x2, g2⟩ := gives9 (σ := σ1) (u := u) (a := x) (b := y) (c := z) (by rw [e130]; exact h.1.2) hu
    rw [e130] at x2
    refine SIM.rd h (r := givP (σ 130) u x y z) (σ1 := σ1) (σ2 := σ2) ?_ ?_ g1.ge g2.ge
    · unfold f_X8_law
      rw [wi_t h1 h2, bd_some, if_neg (by decide), x1, bd_some]
    · unfold f_X9_law
      rw [in_t h1 h2, bd_some, if_neg (by decide), x2, bd_some]
  · refine SIM.B h (k := 1) (e := -1000000001) (by omega) (by omega) eB ?_ (fun t ht => ?_)
    · unfold f_X8_law
      rw [wi_f hb, bd_some, if_pos rfl]
    · unfold f_X9_law
      rw [in_f hb, bd_some, if_pos rfl]
/-- promise 19 -/
theorem op_seed {a : Int32} {σ : MM} (h : GD σ) : SIM (f_X8_seed a σ) (f_X9_seed a) := by
  refine SIM.mk (r := σ 130 1) (σ1 := mu σ 0 11 a) (σ2 := mu (mu σ 0 11 a) 130 1 a) (ρ1 := upd (σ 130) 1 a) h ?_ ?_ (GO.low (by omega)) GO.row ?_ ?_ ?_ ?_ ?_
  · unfold f_X8_seed
    rw [lt_eq, h.1.1.z]
  · unfold f_X9_seed
    rw [show f_X9_becomes 1 a (mu σ 0 11 a) = _ from becomes_eq (k := 1) (by omega), bd_some, mu_off _ _ (by omega)]
  · exact h.1.1.put a (Or.inl (by omega)) (by omega) rfl
  · exact PL.low h.2.1.1 (by omega)
  · intro i hi _; rw [mu_off _ _ (by omega)]
  · rw [mu_row, mu_off _ _ (by omega)]
  · exact h.1.2.put (by omega) (Or.inl (by unfold di; omega)) (h.1.2.2.1.pt _ (by omega) (fun p hp => by omega))
/-- promise 36 -/
theorem op_count {a : Int32} {σ : MM} (h : GD σ) : SIM (f_X8_count a σ) (f_X9_count a) := by
  have hC := h.1.1
  obtain ⟨tn, -, t1, t2, -⟩ := h.2.2.2.2.2
  by_cases a0 : a = 0
  · exact SIM.rd h (r := σ 130 2) (by unfold f_X8_count; rw [if_pos a0, hC.steps]) (by unfold f_X9_count; rw [if_pos a0]) GE.rf GE.rf
  by_cases a1 : a = 1
  · exact SIM.rd h (r := σ 130 3) (by unfold f_X8_count; rw [if_neg a0, if_pos a1, hC.people]) (by unfold f_X9_count; rw [if_neg a0, if_pos a1]) GE.rf GE.rf
  by_cases a2 : a = 2
  · exact SIM.rd h (r := σ 130 0) (by unfold f_X8_count; rw [if_neg a0, if_neg a1, if_pos a2, hC.hour]) (by unfold f_X9_count; rw [if_neg a0, if_neg a1, if_pos a2]) GE.rf GE.rf
  by_cases a3 : a = 3
  · exact SIM.rd h (r := σ 130 4) (by unfold f_X8_count; rw [if_neg a0, if_neg a1, if_neg a2, if_pos a3, hC.taped]) (by unfold f_X9_count; rw [if_neg a0, if_neg a1, if_neg a2, if_pos a3]) GE.rf GE.rf
  by_cases a4 : a = 4
  · exact SIM.rd h (r := σ 130 5) (by unfold f_X8_count; rw [if_neg a0, if_neg a1, if_neg a2, if_neg a3, if_pos a4, hC.waits]) (by unfold f_X9_count; rw [if_neg a0, if_neg a1, if_neg a2, if_neg a3, if_pos a4]) GE.rf GE.rf
  by_cases a5 : a = 5
  · exact SIM.rd h (r := nI tn) (by unfold f_X8_count; rw [if_neg a0, if_neg a1, if_neg a2, if_neg a3, if_neg a4, if_pos a5, t1]) (by unfold f_X9_count; rw [if_neg a0, if_neg a1, if_neg a2, if_neg a3, if_neg a4, if_pos a5, t2]) GE.rf GE.rf
  by_cases a6 : a = 6
  · exact SIM.rd h (r := σ 130 1) (by unfold f_X8_count; rw [if_neg a0, if_neg a1, if_neg a2, if_neg a3, if_neg a4, if_neg a5, if_pos a6, hC.z]) (by unfold f_X9_count; rw [if_neg a0, if_neg a1, if_neg a2, if_neg a3, if_neg a4, if_neg a5, if_pos a6]) GE.rf GE.rf
  · refine SIM.B h (k := 1) (e := -1000000001) (by omega) (by omega) eB ?_ (fun t ht => ?_)
    · unfold f_X8_count
      rw [if_neg a0, if_neg a1, if_neg a2, if_neg a3, if_neg a4, if_neg a5, if_neg a6]
    · unfold f_X9_count
      rw [if_neg a0, if_neg a1, if_neg a2, if_neg a3, if_neg a4, if_neg a5, if_neg a6]
theorem btw1 (a : Int32) {n : Nat} {hi : Int32} (e : hi = nI n) (hn : n < 2 ^ 31) : (∃ s, 1 ≤ s ∧ s ≤ n ∧ a = nI s ∧ ¬ a < 1 ∧ ¬ hi < a) ∨ (a < 1 ∨ hi < a) := by
  by_cases q : a < 1
  · exact Or.inr (Or.inl q)
  rcases btw_c a e hn with ⟨s, hs, ea, h1, h2⟩ | hb
  · refine Or.inl ⟨s, ?_, hs, ea, q, h2⟩
    rcases Nat.eq_zero_or_pos s with z | z
    · subst z; subst ea; exact absurd (show nI 0 < (1 : Int32) by decide) q
    · exact z
  · rcases hb with hb | hb
    · exact absurd (show a < 1 from Int32.lt_trans hb (by decide)) q
    · exact Or.inr (Or.inr hb)
/-- promise 37 -/
theorem op_told {a : Int32} {σ : MM} (h : GD σ) : SIM (f_X8_told a σ) (f_X9_told a) := by
  rcases btw1 a (hi := 6) (n := 6) rfl (by decide) with ⟨u, hu1, hu, rfl, h1, h2⟩ | hb
  · refine SIM.rd h (r := σ 133 u) (σ1 := σ) (σ2 := σ) ?_ ?_ GE.rf GE.rf
    · unfold f_X8_told
      rw [wi_t h1 h2, bd_some, if_neg (by decide), if_neg (ixN (by omega) (by decide)), nI_cl (by omega), h.2.2.2.2.1 u (by omega)]
    · unfold f_X9_told
      rw [in_t h1 h2, bd_some, if_neg (by decide), if_neg (ixN (by omega) (by decide)), nI_cl (by omega)]
  · refine SIM.B h (k := 1) (e := -1000000001) (by omega) (by omega) eB ?_ (fun t ht => ?_)
    · unfold f_X8_told
      rw [wi_f hb, bd_some, if_pos rfl]
    · unfold f_X9_told
      rw [in_f hb, bd_some, if_pos rfl]
theorem waits_b {ρ : Nat → Int32} (h : IR ρ) : ∃ n, n ≤ 24 ∧ ρ 5 = nI n := h.1 5 (Or.inl ⟨by omega, by omega⟩)
theorem taped_b {ρ : Nat → Int32} (h : IR ρ) : ∃ n, n ≤ 60 ∧ ρ 4 = nI n := h.1 4 (Or.inl ⟨by omega, by omega⟩)
theorem loc_w {b k : Nat} (h : k < 24) : loc b (146 + k) = (b + 10, k) := by
  unfold loc
  repeat' split
  all_goals first | omega | (refine Prod.ext ?_ ?_ <;> simp only <;> omega)
theorem loc_t {b k : Nat} (h : k < 60) : loc b (86 + k) = (b + 9, k) := by
  unfold loc
  repeat' split
  all_goals first | omega | (refine Prod.ext ?_ ?_ <;> simp only <;> omega)
theorem CR.w {b k : Nat} {σ : MM} {ρ : Nat → Int32} (h : CR b σ ρ) (hk : k < 24) : σ (b + 10) k = ρ (146 + k) := by
  have := h.1 (146 + k) (Or.inl (by omega)); rw [loc_w hk] at this; exact this
theorem CR.t {b k : Nat} {σ : MM} {ρ : Nat → Int32} (h : CR b σ ρ) (hk : k < 60) : σ (b + 9) k = ρ (86 + k) := by
  have := h.1 (86 + k) (Or.inl (by omega)); rw [loc_t hk] at this; exact this
/-- promise 34 -/
theorem op_tell {a : Int32} {σ : MM} (h : GD σ) : SIM (f_X8_tell a σ) (f_X9_tell a) := by
  obtain ⟨n, hn, e5⟩ := waits_b h.1.2
  have w0 : σ 0 9 = nI n := h.1.1.waits.trans e5
  by_cases hz : n = 24
  · subst hz
    refine SIM.B h (k := 4) (e := -1000000004) (by omega) (by omega) eF ?_ (fun t ht => ?_)
    · unfold f_X8_tell
      rw [w0, if_pos (by decide)]; rfl
    · unfold f_X9_tell
      rw [ht 130 (by omega), e5, if_pos (show nI 24 = (24 : Int32) from rfl)]
  · have hn' : n < 24 := by omega
    have C1 := h.1.1.put a (b := 0) (k := 146 + n) (Or.inl (by omega)) (by omega) (loc_w hn')
    have C2 := C1.put (nI (n + 1)) (k := 5) (i := 0) (s := 9) (Or.inl (by omega)) (by omega) rfl
    refine SIM.mk (r := nI (n + 1)) (σ1 := mu (mu σ (0 + 10) n a) 0 9 (nI (n + 1))) (σ2 := mu (mu (mu (mu σ (0 + 10) n a) 0 9 (nI (n + 1))) 130 (146 + n) a) 130 5 (nI (n + 1))) (ρ1 := upd (upd (σ 130) (146 + n) a) 5 (nI (n + 1))) h ?_ ?_ ((GO.low (by omega)).tr (GO.low (by omega))) (GO.row.tr GO.row) C2 (PL.low (PL.low h.2.1.1 (by omega)) (by omega)) ?_ ?_ ?_
    · unfold f_X8_tell
      rw [w0, if_neg (show ¬ (24 : Int32) ≤ nI n from nI_ge hn' (by decide)), if_pos (show nI n < (24 : Int32) from nI_lt hn' (by decide)), if_neg (ixN hn' (by decide)), nI_cl (by omega), lt_eq, mu_at, if_neg (by omega), w0, lit 1, nI_add, lt_eq, mu_at, if_pos ⟨rfl, rfl⟩]
    · unfold f_X9_tell
      have e130 : (mu (mu σ (0 + 10) n a) 0 9 (nI (n + 1))) 130 = σ 130 := by rw [mu_off _ _ (by omega), mu_off _ _ (by omega)]
      rw [e130, e5, if_neg (show ¬ nI n = (24 : Int32) from fun q => hz (nI_inj (by omega) (by decide) q)), lit 146, nI_add, if_neg (ixN (by omega) (by decide)), nI_cl (by omega), lt_eq, mu_row, upd_at, if_neg (by omega), e130, e5, lit 1, nI_add, lt_eq, mu_row, upd_at, if_pos rfl]
    · intro i hi _; rw [mu_off _ _ (by omega), mu_off _ _ (by omega)]
    · rw [mu_row, mu_row, mu_off _ _ (by omega), mu_off _ _ (by omega)]
    · refine IR.put (h.1.2.put (k := 146 + n) (by omega) (Or.inl (by unfold di; omega)) (h.1.2.2.1.pt _ (by omega) (fun p hp => by omega))) (by omega) (Or.inr ⟨n + 1, by unfold bnd; simp; omega, rfl⟩) ?_
      exact AT.pt (h.1.2.2.1.pt _ (by omega) (fun p hp => by omega)) _ (by omega) (fun p hp => by omega)
theorem IR.wt {ρ : Nat → Int32} (h : IR ρ) {n : Nat} (hn : n ≤ 24) : IR (upd ρ 5 (nI n)) := h.put (by omega) (Or.inr ⟨n, by unfold bnd; simp; omega, rfl⟩) (h.2.1.pt _ (by omega) (fun p hp => by omega))
theorem check0 {σ τ : MM} {m : Nat} (h : ∃ n, n ≤ 5 ∧ σ 0 3 = nI n ∧ τ 130 3 = nI n) (hw : ∀ k, k < 24 → σ 10 k = τ 130 (146 + k)) (hp : ∀ p, p < 5 → σ (0 + 31 + p) 1 = τ 130 (66 + 4 * p + 1)) (hm : m ≤ 24) : ∀ (f k : Nat), k ≤ m → m - k < f →
    ∃ r : Int32, itr (fun _ _ _ => none) u_X8_check_29 f (nI m) (nI k) σ = some (r, σ) ∧ itr (fun _ _ _ => none) u_X9_check_16 f (nI m) (nI k) τ = some (r, τ) := by
  obtain ⟨n, hn, e0, e9⟩ := h
  intro f
  induction f with
  | zero => intro k _ hk; omega
  | succ f ih =>
    intro k hk hf
    rw [itr_s, itr_s]
    generalize hg8 : itr (fun _ _ _ => none) u_X8_check_29 f = g8 at ih ⊢
    generalize hg9 : itr (fun _ _ _ => none) u_X9_check_16 f = g9 at ih ⊢
    unfold u_X8_check_29 u_X9_check_16
    by_cases q : m ≤ k
    · rw [if_pos (nI_le q (by omega)), if_pos (nI_le q (by omega))]
      exact ⟨0, rfl, rfl⟩
    · rw [if_neg (nI_ge (by omega) (by omega)), if_neg (nI_ge (by omega) (by omega))]
      by_cases hkn : k < n
      · rw [personOf_t e0 hn hkn, bd_some, onO_some, if_pos (kd_p (Or.inl rfl) (by omega)), if_neg (ixN (by omega) (by decide)), nI_cl (by omega), hw k (by omega), hp k (by omega), isPerson_t e9 hn hkn, bd_some, if_neg (show ¬ (1 : Int32) = 0 by decide), lit 146, nI_add, if_neg (ixN (by omega) (by decide)), nI_cl (by omega), about1 (by omega), bd_some]
        by_cases hv : τ 130 (66 + 4 * k + 1) = τ 130 (146 + k)
        · rw [if_pos hv, if_pos hv.symm, lit 1, nI_add]
          exact ih (k + 1) (by omega) (by omega)
        · rw [if_neg hv, if_neg (fun z => hv z.symm)]
          exact ⟨_, rfl, rfl⟩
      · rw [personOf_f e0 (Or.inr (nI_le (by omega) (by omega))), bd_some, onO_none, isPerson_f e9 hn (Or.inr (nI_le (by omega) (by omega))), bd_some, if_pos rfl]
        exact ⟨_, rfl, rfl⟩
/-- promise 35 -/
theorem op_check {σ : MM} (h : GD σ) : SIM (f_X8_check σ) f_X9_check := by
  obtain ⟨m, hm, e5⟩ := waits_b h.1.2
  obtain ⟨n, hn, e3⟩ := people_b h.1.2
  have w0 : σ 0 9 = nI m := h.1.1.waits.trans e5
  have C1 := h.1.1.put (nI 0) (b := 0) (k := 5) (i := 0) (s := 9) (Or.inl (by omega)) (by omega) rfl
  have hU : UP σ (mu σ 0 9 (nI 0)) := LOW_mu (by omega)
  have e130 := hU 130 (by omega)
  obtain ⟨r, y8, y9⟩ := check0 (σ := mu σ 0 9 (nI 0)) (τ := mu (mu σ 0 9 (nI 0)) 130 5 (nI 0)) (m := m) ⟨n, hn, by rw [mu_at, if_neg (by omega)]; exact h.1.1.people.trans e3, by rw [mu_row, upd_at, if_neg (by omega), e130]; exact e3⟩ (fun k hk => by rw [mu_at, if_neg (by omega), mu_row, upd_at, if_neg (by omega), e130]; exact h.1.1.w hk) (fun p hp => by rw [mu_at, if_neg (by omega), mu_row, upd_at, if_neg (by omega), e130]; exact h.1.1.p (k := 1) hp (by omega)) hm FU 0 (by omega) (by rw [FU_eq]; omega)
  refine SIM.mk (r := r) (σ1 := mu σ 0 9 (nI 0)) (σ2 := mu (mu σ 0 9 (nI 0)) 130 5 (nI 0)) (ρ1 := upd (σ 130) 5 (nI 0)) h ?_ ?_ (GO.low (by omega)) GO.row C1 (PL.low h.2.1.1 (by omega)) ?_ ?_ (h.1.2.wt (by omega))
  · unfold f_X8_check l_X8_check_29
    rw [w0, if_neg (show ¬ (24 : Int32) < nI m from nI_nlt hm (by decide)), lt_eq, lit 0, lt_eq]
    exact y8
  · unfold f_X9_check l_X9_check_16
    rw [lt_eq, e130, e5]
    exact y9
  · intro i hi _; rw [mu_off _ _ (by omega)]
  · rw [mu_row, e130]
/-- a law is taken back -/
theorem untell_CR {b u : Nat} {σ : MM} {ρ : Nat → Int32} (h : CR b σ ρ) (hu : u ≤ 1) : CR b (mu σ (b + 3 + 3 * u) 2 0) (upd ρ (170 + 121 * u) 0) := by
  have hl : loc b (170 + 121 * u) = (b + 3 + 3 * u, 2) := by
    rcases (show u = 0 ∨ u = 1 by omega) with rfl | rfl <;> rfl
  have hz : ∀ n : Nat, n ≤ 60 → (0 : Int32) = nI n → n = 0 := fun n hn e => (nI_inj (a := 0) (by decide) (by omega) e).symm
  have hd : dm (170 + 121 * u) := by unfold dm; omega
  refine ⟨fun j hj => ?_, fun n hn hr q hq => ?_, fun n hn hr q hq => ?_⟩
  · rw [mu_at, upd_at]
    by_cases hjk : j = 170 + 121 * u
    · subst hjk
      rw [if_pos rfl, if_pos ⟨by rw [hl], by rw [hl]⟩]
    · rw [if_neg hjk, if_neg ?_]
      · exact h.1 j hj
      · intro hc
        refine hjk (loc_inj (b := b) hj hd ?_)
        rw [hl]
        exact Prod.ext hc.1 hc.2
  · by_cases e : u = 0
    · subst e
      rw [upd_at, if_pos rfl] at hr
      have := hz n hn hr; omega
    · rw [upd_at, if_neg (by omega)] at hr
      rw [upd_at, upd_at, if_neg (by omega), if_neg (by omega), mu_at, if_neg (by omega)]
      exact h.2.1 n hn hr q hq
  · by_cases e : u = 1
    · subst e
      rw [upd_at, if_pos rfl] at hr
      have := hz n hn hr; omega
    · rw [upd_at, if_neg (by omega)] at hr
      rw [upd_at, upd_at, if_neg (by omega), if_neg (by omega), mu_at, if_neg (by omega)]
      exact h.2.2 n hn hr q hq
theorem dp_cg {ρ ρ' : Nat → Int32} {a : Nat} {m : Nat} (h : ∀ i, i < m → ρ' (a + 1 + i) = ρ (a + 1 + i)) : ∀ k, k ≤ m → dp ρ' a k = dp ρ a k
  | 0, _ => rfl
  | k + 1, hk => by rw [dp_s, dp_s, dp_cg h k (by omega), h k (by omega)]
theorem WF.cg {ρ ρ' : Nat → Int32} {a : Nat} (h0 : ρ' a = ρ a) (h1 : ∀ i, i < 60 → ρ' (a + 1 + i) = ρ (a + 1 + i)) (h2 : ∀ i, i < 60 → ρ' (a + 61 + i) = ρ (a + 61 + i)) (hw : WF ρ a) : WF ρ' a := by
  intro n hn hr
  rw [h0] at hr
  obtain ⟨w1, w2⟩ := hw n hn hr
  refine ⟨fun k hk => ?_, fun q => ?_⟩
  · have := w1 k hk
    unfold okc at this ⊢
    rw [h1 k (by omega), h2 k (by omega), dp_cg (m := 60) h1 k (by omega)]
    exact this
  · rw [dp_cg (m := 60) h1 n hn]; exact w2 q
theorem WF.z {ρ : Nat → Int32} {a : Nat} (h : ρ a = 0) : WF ρ a := by
  intro n hn hr
  have : n = 0 := (nI_inj (a := 0) (by decide) (by omega) (h.symm.trans hr)).symm
  subst this
  exact ⟨fun k hk => by omega, fun q => by omega⟩
theorem untell_IR {u : Nat} {ρ : Nat → Int32} (h : IR ρ) (hu : u ≤ 1) : IR (upd ρ (170 + 121 * u) 0) := by
  refine ⟨h.1.pt (j := 0) (by omega), h.2.1.pt _ (by omega) (fun p hp => by omega), ?_, ?_⟩
  · by_cases e : u = 0
    · subst e; exact WF.z (by rw [upd_at, if_pos rfl])
    · exact WF.cg (by rw [upd_at, if_neg (by omega)]) (fun i hi => by rw [upd_at, if_neg (by omega)]) (fun i hi => by rw [upd_at, if_neg (by omega)]) h.2.2.1
  · by_cases e : u = 1
    · subst e; exact WF.z (by rw [upd_at, if_pos rfl])
    · exact WF.cg (by rw [upd_at, if_neg (by omega)]) (fun i hi => by rw [upd_at, if_neg (by omega)]) (fun i hi => by rw [upd_at, if_neg (by omega)]) h.2.2.2
theorem textOf_t {u : Nat} {σ : MM} (hu : u ≤ 1) : f_X0_textOf 0 (nI u) σ = some (some (0 + 3 + 3 * u), σ) := by
  unfold f_X0_textOf
  rcases (show u = 0 ∨ u = 1 by omega) with rfl | rfl
  · rw [if_pos (show nI 0 = 0 from rfl)]
  · rw [if_neg (by decide), if_pos (show nI 1 = 1 from rfl)]
theorem textOf_f {a : Int32} {σ : MM} (h : a < 0 ∨ (1 : Int32) < a) : f_X0_textOf 0 a σ = some (none, σ) := by
  unfold f_X0_textOf
  rw [if_neg ?_, if_neg ?_]
  · rintro rfl; rcases h with h | h <;> exact absurd h (by decide)
  · rintro rfl; rcases h with h | h <;> exact absurd h (by decide)
theorem kd_t {u : Nat} (hu : u ≤ 1) : kd (0 + 3 + 3 * u) = 6 := by
  rcases (show u = 0 ∨ u = 1 by omega) with rfl | rfl <;> rfl
theorem CR.len {b u : Nat} {σ : MM} {ρ : Nat → Int32} (h : CR b σ ρ) (hu : u ≤ 1) : σ (b + 3 + 3 * u) 2 = ρ (170 + 121 * u) := by
  rcases (show u = 0 ∨ u = 1 by omega) with rfl | rfl
  · exact h.1 170 (Or.inl (by omega))
  · exact h.1 291 (Or.inr rfl)
/-- promise 15 -/
theorem op_untell {a : Int32} {σ : MM} (h : GD σ) : SIM (f_X8_untell a σ) (f_X9_untell a) := by
  rcases btw_c a (hi := 1) (n := 1) rfl (by decide) with ⟨u, hu, rfl, h1, h2⟩ | hb
  · refine SIM.mk (r := if σ 130 (170 + 121 * u) ≤ 0 then 0 else 1) (σ1 := mu σ (0 + 3 + 3 * u) 2 0) (σ2 := mu (mu σ (0 + 3 + 3 * u) 2 0) 130 (170 + 121 * u) 0) (ρ1 := upd (σ 130) (170 + 121 * u) 0) h ?_ ?_ (GO.low (by omega)) GO.row (untell_CR h.1.1 hu) (PL.low h.2.1.1 (by omega)) ?_ ?_ (untell_IR h.1.2 hu)
    · unfold f_X8_untell f_X6_isThere
      rw [textOf_t hu, bd_some, onO_some, if_pos (kd_t hu), h.1.1.len hu]
      by_cases q : σ 130 (170 + 121 * u) ≤ 0
      · rw [if_pos q, if_pos q, bd_some, if_pos rfl]; rfl
      · rw [if_neg q, if_neg q, bd_some, if_neg (by decide)]; rfl
    · unfold f_X9_untell
      rw [in_t h1 h2, bd_some, if_neg (by decide), lit 121, pk_mul, lit 170, nI_add, becomes_eq (by omega), bd_some, mu_off _ _ (by omega)]
      by_cases q : σ 130 (170 + 121 * u) ≤ 0
      · rw [if_pos q, if_pos q]
      · rw [if_neg q, if_neg q]
    · intro i hi _; rw [mu_off _ _ (by omega)]
    · rw [mu_row, mu_off _ _ (by omega)]
  · refine SIM.B h (k := 1) (e := -1000000001) (by omega) (by omega) eB ?_ (fun t ht => ?_)
    · unfold f_X8_untell
      rw [textOf_f hb, bd_some, onO_none]
    · unfold f_X9_untell
      rw [in_f hb, bd_some, if_pos rfl]

/-- the reference's memory where the class has done its part -/
def UP (σ s : MM) : Prop := ∀ i, 129 ≤ i → s i = σ i
theorem UP.e {σ s : MM} (h : UP σ s) {i : Nat} (hi : 129 ≤ i) : s i = σ i := h i hi
theorem LOW_mu {σ : MM} {i k : Nat} {v : Int32} (hi : i < 129) : UP σ (mu σ i k v) := fun j hj => mu_off _ _ (by omega)
theorem UP.tr {σ s t : MM} (h : UP σ s) (h2 : UP s t) : UP σ t := fun i hi => (h2 i hi).trans (h i hi)
theorem UP.je {b : Nat} {σ s : MM} (h : E1 b σ s) (hb : b < 129) : UP σ s := fun i hi => h i (by omega)
theorem d10 {j : Nat} (hj : j ≤ 69) : nI j / (10 : Int32) = nI (j / 10) := pk_div (d := 10) (by omega) (by decide) (by decide)
theorem m10 {j : Nat} (hj : j ≤ 69) : nI j - nI j / (10 : Int32) * (10 : Int32) = nI (j % 10) := pk_rem (d := 10) (by omega) (by decide) (by decide)
theorem bnd_j0 {n : Nat} (h : n < 20) : bnd (6 + 3 * n) = 6 := by
  unfold bnd
  rw [if_neg (by omega), if_neg (by omega), if_neg (by omega), if_neg (by omega), if_neg (by omega), if_pos (by omega), if_pos (by omega)]
theorem bnd_j1 {n : Nat} (h : n < 20) : bnd (6 + 3 * n + 1) = 9 := by
  unfold bnd
  rw [if_neg (by omega), if_neg (by omega), if_neg (by omega), if_neg (by omega), if_neg (by omega), if_pos (by omega), if_neg (by omega), if_pos (by omega)]
theorem bnd_j2 {n : Nat} (h : n < 20) : bnd (6 + 3 * n + 2) = 9999 := by
  unfold bnd
  rw [if_neg (by omega), if_neg (by omega), if_neg (by omega), if_neg (by omega), if_neg (by omega), if_pos (by omega), if_neg (by omega), if_neg (by omega)]
theorem bnd_p0 {n : Nat} (h : n < 5) : bnd (66 + 4 * n) = 20 := by
  unfold bnd
  rw [if_neg (by omega), if_neg (by omega), if_neg (by omega), if_neg (by omega), if_neg (by omega), if_neg (by omega), if_pos (by omega), if_pos (by omega)]
theorem bnd_p1 {n : Nat} (h : n < 5) : bnd (66 + 4 * n + 1) = 999 := by
  unfold bnd
  rw [if_neg (by omega), if_neg (by omega), if_neg (by omega), if_neg (by omega), if_neg (by omega), if_neg (by omega), if_pos (by omega), if_neg (by omega), if_pos (by omega)]
theorem bnd_p2 {n : Nat} (h : n < 5) : bnd (66 + 4 * n + 2) = 99999 := by
  unfold bnd
  rw [if_neg (by omega), if_neg (by omega), if_neg (by omega), if_neg (by omega), if_neg (by omega), if_neg (by omega), if_pos (by omega), if_neg (by omega), if_neg (by omega), if_pos (by omega)]
theorem bnd_p3 {n : Nat} (h : n < 5) : bnd (66 + 4 * n + 3) = 9999 := by
  unfold bnd
  rw [if_neg (by omega), if_neg (by omega), if_neg (by omega), if_neg (by omega), if_neg (by omega), if_neg (by omega), if_pos (by omega), if_neg (by omega), if_neg (by omega), if_neg (by omega)]
theorem isKm_t {j : Nat} {σ : MM} (h1 : ¬ nI j < 0) (h2 : ¬ (69 : Int32) < nI j) : f_X9_isKm (nI j) σ = some (1, σ) := by
  unfold f_X9_isKm
  rw [in_t h1 h2, bd_some, if_pos (Or.inr rfl)]
theorem isKm_f {a : Int32} {σ : MM} (h : a < 0 ∨ (69 : Int32) < a) : f_X9_isKm a σ = some (0, σ) := by
  unfold f_X9_isKm
  rw [in_f h, bd_some, if_pos (Or.inl rfl)]
theorem judge_put {σ : MM} {ρ : Nat → Int32} (h : CR 0 σ ρ) {n k : Nat} (v : Int32) (hn : n < 20) (hk : k < 3) : CR 0 (mu σ (0 + 11 + n) (1 + k) v) (upd ρ (6 + 3 * n + k) v) := h.put v (Or.inl (by omega)) (by omega) (loc_j hn hk)
theorem person_put {σ : MM} {ρ : Nat → Int32} (h : CR 0 σ ρ) {n k : Nat} (v : Int32) (hn : n < 5) (hk : k < 4) : CR 0 (mu σ (0 + 31 + n) k v) (upd ρ (66 + 4 * n + k) v) := h.put v (Or.inl (by omega)) (by omega) (loc_p hn hk)
theorem IR.j {ρ : Nat → Int32} (h : IR ρ) {n k j : Nat} (hn : n < 20) (hk : k < 3) (hj : j ≤ bnd (6 + 3 * n + k)) : IR (upd ρ (6 + 3 * n + k) (nI j)) := h.put (by omega) (Or.inr ⟨j, hj, rfl⟩) (h.2.1.pt _ (by omega) (fun p hp => by omega))
theorem AT.at {ρ : Nat → Int32} (h : AT ρ) {n j m : Nat} (hn : n < 5) (hm : ρ 2 = nI m) (hm2 : m ≤ 20) (hj : j ≤ m) : AT (upd ρ (66 + 4 * n) (nI j)) := by
  intro p hp
  rw [upd_at, upd_at, if_neg (show ¬ 2 = 66 + 4 * n by omega)]
  by_cases e : 66 + 4 * p = 66 + 4 * n
  · rw [if_pos e, hm, nI_cl (by omega), nI_cl (by omega)]; exact hj
  · rw [if_neg e]; exact h p hp
theorem IR.at {ρ : Nat → Int32} (h : IR ρ) {n j m : Nat} (hn : n < 5) (hm : ρ 2 = nI m) (hm2 : m ≤ 20) (hj : j ≤ m) : IR (upd ρ (66 + 4 * n) (nI j)) := h.put (by omega) (Or.inr ⟨j, by rw [bnd_p0 hn]; omega, rfl⟩) (h.2.1.at hn hm hm2 hj)
theorem IR.p {ρ : Nat → Int32} (h : IR ρ) {n k j : Nat} (hn : n < 5) (hk : k < 4) (h0 : 0 < k) (hj : j ≤ bnd (66 + 4 * n + k)) : IR (upd ρ (66 + 4 * n + k) (nI j)) := h.put (by omega) (Or.inr ⟨j, hj, rfl⟩) (h.2.1.pt _ (by omega) (fun p hp => by omega))
theorem IR.stp {ρ : Nat → Int32} (h : IR ρ) {n : Nat} (e : ρ 2 = nI n) (hn : n < 20) : IR (upd ρ 2 (nI (n + 1))) := by
  refine h.put (by omega) (Or.inr ⟨n + 1, by show n + 1 ≤ 20; omega, rfl⟩) ?_
  intro p hp
  rw [upd_at, upd_at, if_neg (show ¬ 66 + 4 * p = 2 by omega), if_pos rfl, nI_cl (by omega)]
  have := h.2.1 p hp
  rw [e, nI_cl (by omega)] at this
  omega
/-- promise 2 -/
theorem op_step {a : Int32} {σ : MM} (h : GD σ) : SIM (f_X8_step a σ) (f_X9_step a) := by
  obtain ⟨n, hn, e2⟩ := step_b h.1.2
  have hC := h.1.1
  have e0 : σ 0 1 = nI n := hC.steps.trans e2
  rcases btw_c a (hi := 69) (n := 69) rfl (by decide) with ⟨j, hj, rfl, h1, h2⟩ | hb
  · by_cases h20 : n = 20
    · subst h20
      refine SIM.err (σ1 := σ) h GE.rf (k := 4) (e := -1000000004) (by omega) (by omega) eF ?_ (fun s hs => ⟨s, GE.rf, ?_⟩) (fun _ _ => rfl)
      · unfold f_X8_step
        rw [wi_t h1 h2, bd_some, if_neg (by decide), e0, if_neg (by decide)]
      · unfold f_X9_step
        rw [isKm_t h1 h2, bd_some, if_neg (by decide), hs 130 (by omega), e2, if_pos (by decide)]
    · have hlt : n < 20 := by omega
      refine SIM.mk (σ1 := mu (mu (mu (mu σ (0 + 11 + n) 1 (nI (j / 10))) (0 + 11 + n) 2 (nI (j % 10))) (0 + 11 + n) 3 (nI 0)) 0 1 (nI (n + 1))) (r := nI n) (σ2 := ?_) (ρ1 := upd (upd (upd (upd (σ 130) (6 + 3 * n + 0) (nI (j / 10))) (6 + 3 * n + 1) (nI (j % 10))) (6 + 3 * n + 2) (nI 0)) 2 (nI (n + 1))) h ?_ ?_ ?_ ?_ ?_ ?_ ?_ ?_ ?_
      · exact mu (mu (mu (mu (mu (mu (mu (mu σ (0 + 11 + n) 1 (nI (j / 10))) (0 + 11 + n) 2 (nI (j % 10))) (0 + 11 + n) 3 (nI 0)) 0 1 (nI (n + 1))) 130 2 (nI (n + 1))) 130 (6 + 3 * n) (nI (j / 10))) 130 (6 + 3 * n + 1) (nI (j % 10))) 130 (6 + 3 * n + 2) (nI 0)
      · unfold f_X8_step
        rw [wi_t h1 h2, bd_some, if_neg (by decide), e0, if_pos (show nI n < (20 : Int32) from nI_lt hlt (by decide)), m10 hj, d10 hj]
        unfold f_X0_addStep
        rw [e0, if_neg (nI_pos (by omega)), if_neg (show ¬ (20 : Int32) ≤ nI n from nI_ge hlt (by decide)), if_neg (ixN (by omega) (by decide)), nI_cl (by omega), show 0 + 1 + 10 + n = 0 + 11 + n by omega]
        simp only [lt_eq]
        rw [mu_off _ _ (show 0 ≠ 0 + 11 + n by omega), mu_off _ _ (show 0 ≠ 0 + 11 + n by omega), mu_off _ _ (show 0 ≠ 0 + 11 + n by omega), e0, bd_some, lit 1, nI_add, lit 0]
      · have hu : UP σ (mu (mu (mu (mu σ (0 + 11 + n) 1 (nI (j / 10))) (0 + 11 + n) 2 (nI (j % 10))) (0 + 11 + n) 3 (nI 0)) 0 1 (nI (n + 1))) := fun i hi => by rw [mu_off _ _ (by omega), mu_off _ _ (by omega), mu_off _ _ (by omega), mu_off _ _ (by omega)]
        generalize (mu (mu (mu (mu σ (0 + 11 + n) 1 (nI (j / 10))) (0 + 11 + n) 2 (nI (j % 10))) (0 + 11 + n) 3 (nI 0)) 0 1 (nI (n + 1))) = s at hu ⊢
        have es : s 130 2 = nI n := by rw [hu 130 (by omega)]; exact e2
        unfold f_X9_step
        rw [isKm_t h1 h2, bd_some, if_neg (by decide), es, if_neg (show ¬ nI n = (20 : Int32) from fun q => by have := (nI_eq (a := n) (b := 20) (by omega) (by decide)).mp q; omega), lt_eq, m10 hj, d10 hj, lit 3, lit 6, pk_mul, nI_add, lit 1, nI_add, nI_add, lit 2, nI_add, if_neg (ixN (by omega) (by decide)), nI_cl (by omega), lt_eq, if_neg (ixN (by omega) (by decide)), nI_cl (by omega), lt_eq, if_neg (ixN (by omega) (by decide)), nI_cl (by omega), lt_eq, lit 0]
      · exact (GO.low (by omega)).tr ((GO.low (by omega)).tr ((GO.low (by omega)).tr (GO.low (by omega))))
      · exact GO.row.tr (GO.row.tr (GO.row.tr GO.row))
      · exact CR.put (judge_put (k := 2) (judge_put (k := 1) (judge_put (k := 0) hC _ hlt (by omega)) _ hlt (by omega)) _ hlt (by omega)) _ (Or.inl (by omega)) (by omega) rfl
      · exact PL.low (PL.low (PL.low (PL.low h.2.1.1 (by omega)) (by omega)) (by omega)) (by omega)
      · intro i hi _
        rw [mu_off _ _ (by omega), mu_off _ _ (by omega), mu_off _ _ (by omega), mu_off _ _ (by omega)]
      · rw [mu_row, mu_row, mu_row, mu_row]
        rw [mu_off _ _ (show 130 ≠ 0 by decide), mu_off _ _ (show 130 ≠ 0 + 11 + n by omega), mu_off _ _ (show 130 ≠ 0 + 11 + n by omega), mu_off _ _ (show 130 ≠ 0 + 11 + n by omega)]
        rw [upd_comm _ _ (show 2 ≠ 6 + 3 * n by omega), upd_comm _ _ (show 2 ≠ 6 + 3 * n + 1 by omega), upd_comm _ _ (show 2 ≠ 6 + 3 * n + 2 by omega)]
        rfl
      · refine IR.stp (((h.1.2.j hlt (by omega) ?_).j hlt (by omega) ?_).j hlt (by omega) ?_) ?_ hlt
        · show j / 10 ≤ bnd (6 + 3 * n); rw [bnd_j0 hlt]; omega
        · rw [bnd_j1 hlt]; omega
        · omega
        · rw [upd_at, upd_at, upd_at, if_neg (by omega), if_neg (by omega), if_neg (by omega)]; exact e2
  · refine SIM.err (σ1 := σ) h GE.rf (k := 1) (e := -1000000001) (by omega) (by omega) eB ?_ (fun s hs => ⟨s, GE.rf, ?_⟩) (fun _ _ => rfl)
    · unfold f_X8_step
      rw [wi_f hb, bd_some, if_pos rfl]
    · unfold f_X9_step
      rw [isKm_f hb, bd_some, if_pos rfl]

/-- both refuse at once -/
theorem SIM.B {σ : MM} (h : GD σ) {k : Nat} {e : Int32} (hk : 1 ≤ k) (hk2 : k ≤ 6) (he : (-1000000000 : Int32) - e = nI k) {x : Option (Int32 × MM)} {m : MM → Option (Int32 × MM)} (hx : x = bd (f_X8_error e σ) (fun r s => some (r, s))) (hm : ∀ s, UP σ s → m s = bd (f_X9_error e s) (fun r s => some (r, s))) : SIM x m :=
  SIM.err (σ1 := σ) h GE.rf hk hk2 he hx (fun s hs => ⟨s, GE.rf, hm s hs⟩) (fun _ _ => rfl)
theorem J0 {σ : MM} (h : GD σ) {s k : Nat} (hs : s < 20) (hk : k < 3) : σ (0 + 11 + s) (1 + k) = σ 130 (6 + 3 * s + k) := h.1.1.j hs hk
theorem P0 {σ : MM} (h : GD σ) {s k : Nat} (hs : s < 5) (hk : k < 4) : σ (0 + 31 + s) k = σ 130 (66 + 4 * s + k) := h.1.1.p hs hk
/-- promise 3 -/
theorem op_stepIs {a b : Int32} {σ : MM} (h : GD σ) : SIM (f_X8_stepIs a b σ) (f_X9_stepIs a b) := by
  obtain ⟨n, hn, e2⟩ := step_b h.1.2
  have hC := h.1.1
  have e0 : σ 0 1 = nI n := hC.steps.trans e2
  rcases arg_c a (n := n) (by omega) with ⟨s, hs, rfl⟩ | ha
  · rcases btw_c b (hi := 3) (n := 3) rfl (by decide) with ⟨j, hj, rfl, h1, h2⟩ | hb
    · by_cases h3 : j = 3
      · subst h3
        obtain ⟨σ1, x1, g1⟩ := bribe0 (b := 0) (s := s) (Or.inl rfl) hC h.2.1.1 h.1.2 (by omega)
        have e130 : σ1 130 = σ 130 := g1.ge.row (by unfold JJ JK; omega)
        obtain ⟨σ2, x2, g2⟩ := bribe9 (σ := σ1) (s := s) (by rw [e130]; exact h.1.2) (by omega)
        rw [e130] at x2
        refine SIM.rd (r := bribeP (σ 130) s) h ?_ (σ1 := σ1) (σ2 := σ2) ?_ g1.ge g2.ge
        · unfold f_X8_stepIs
          rw [judgeOn_t e0 hn hs, bd_some, onO_some, if_pos (kd_j (Or.inl rfl) (by omega)), wi_t h1 h2, bd_some, if_neg (by decide), if_neg (by decide), if_neg (by decide), if_neg (by decide), x1, bd_some]
        · unfold f_X9_stepIs
          rw [isStep_t (by rw [e130]; exact e2) hn hs, bd_some, if_neg (by decide), in_t h1 h2, bd_some, if_neg (by decide), if_pos (by decide), x2, bd_some]
      · refine SIM.rd (r := σ 130 (6 + 3 * s + j)) h ?_ (σ1 := σ) (σ2 := σ) ?_ GE.rf GE.rf
        · unfold f_X8_stepIs
          rw [judgeOn_t e0 hn hs, bd_some, onO_some, if_pos (kd_j (Or.inl rfl) (by omega)), wi_t h1 h2, bd_some, if_neg (by decide)]
          have hk := J0 h (s := s) (k := j) (by omega) (by omega)
          rcases (show j = 0 ∨ j = 1 ∨ j = 2 by omega) with rfl | rfl | rfl
          · rw [if_pos (by decide)]; exact congrArg (fun z => some (z, σ)) hk
          · rw [if_neg (by decide), if_pos (by decide)]; exact congrArg (fun z => some (z, σ)) hk
          · rw [if_neg (by decide), if_neg (by decide), if_pos (by decide)]; exact congrArg (fun z => some (z, σ)) hk
        · unfold f_X9_stepIs
          rw [isStep_t e2 hn hs, bd_some, if_neg (by decide), in_t h1 h2, bd_some, if_neg (by decide), if_neg (show ¬ (3 : Int32) ≤ nI j from nI_ge (show j < 3 by omega) (by decide)), of_eq (by omega) (by omega), bd_some]
    · refine SIM.B h (k := 1) (e := -1000000001) (by omega) (by omega) eB ?_ (fun t ht => ?_)
      · unfold f_X8_stepIs
        rw [judgeOn_t e0 hn hs, bd_some, onO_some, if_pos (kd_j (Or.inl rfl) (by omega)), wi_f hb, bd_some, if_pos rfl]; rfl
      · unfold f_X9_stepIs
        rw [isStep_t (by rw [ht 130 (by omega)]; exact e2) hn hs, bd_some, if_neg (by decide), in_f hb, bd_some, if_pos rfl]; rfl
  · refine SIM.B h (k := 1) (e := -1000000001) (by omega) (by omega) eB ?_ (fun t ht => ?_)
    · unfold f_X8_stepIs
      rw [judgeOn_f e0 ha, bd_some, onO_none]; rfl
    · unfold f_X9_stepIs
      rw [isStep_f (by rw [ht 130 (by omega)]; exact e2) hn ha, bd_some, if_pos rfl]; rfl
/-- promise 4 -/
theorem op_become {a b : Int32} {σ : MM} (h : GD σ) : SIM (f_X8_become a b σ) (f_X9_become a b) := by
  obtain ⟨n, hn, e2⟩ := step_b h.1.2
  have hC := h.1.1
  have e0 : σ 0 1 = nI n := hC.steps.trans e2
  rcases arg_c a (n := n) (by omega) with ⟨s, hs, rfl⟩ | ha
  · rcases btw_c b (hi := 69) (n := 69) rfl (by decide) with ⟨j, hj, rfl, h1, h2⟩ | hb
    · have hs20 : s < 20 := by omega
      refine SIM.mk (r := σ 130 (6 + 3 * s)) (σ1 := mu (mu σ (0 + 11 + s) 1 (nI (j / 10))) (0 + 11 + s) 2 (nI (j % 10))) (σ2 := mu (mu (mu (mu σ (0 + 11 + s) 1 (nI (j / 10))) (0 + 11 + s) 2 (nI (j % 10))) 130 (6 + 3 * s + 1) (nI (j % 10))) 130 (6 + 3 * s) (nI (j / 10))) (ρ1 := upd (upd (σ 130) (6 + 3 * s + 0) (nI (j / 10))) (6 + 3 * s + 1) (nI (j % 10))) h ?_ ?_ ?_ ?_ ?_ ?_ ?_ ?_ ?_
      · unfold f_X8_become
        rw [judgeOn_t e0 hn hs, bd_some, onO_some, if_pos (kd_j (Or.inl rfl) (by omega)), wi_t h1 h2, bd_some, if_neg (by decide), lt_eq, lt_eq, m10 hj, d10 hj]
        exact congrArg (fun z => some (z, _)) (J0 h (k := 0) hs20 (by omega))
      · have hu : UP σ (mu (mu σ (0 + 11 + s) 1 (nI (j / 10))) (0 + 11 + s) 2 (nI (j % 10))) := (LOW_mu (by omega)).tr (LOW_mu (by omega))
        generalize (mu (mu σ (0 + 11 + s) 1 (nI (j / 10))) (0 + 11 + s) 2 (nI (j % 10))) = t at hu ⊢
        have e130 := hu 130 (by omega)
        unfold f_X9_become
        rw [isStep_t (by rw [e130]; exact e2) hn hs, bd_some, if_neg (by decide), isKm_t h1 h2, bd_some, if_neg (by decide), m10 hj, d10 hj, lit 3, lit 6, pk_mul, nI_add, lit 1, nI_add, if_neg (ixN (by omega) (by decide)), nI_cl (by omega), lt_eq, becomes_eq (by omega), bd_some, mu_row, upd_at, if_neg (by omega), e130]
      · exact (GO.low (by omega)).tr (GO.low (by omega))
      · exact GO.row.tr GO.row
      · exact judge_put (k := 1) (judge_put (k := 0) hC _ hs20 (by omega)) _ hs20 (by omega)
      · exact PL.low (PL.low h.2.1.1 (by omega)) (by omega)
      · intro i hi _
        rw [mu_off _ _ (by omega), mu_off _ _ (by omega)]
      · rw [mu_row, mu_row, mu_off _ _ (show 130 ≠ 0 + 11 + s by omega), mu_off _ _ (show 130 ≠ 0 + 11 + s by omega), upd_comm _ _ (show 6 + 3 * s + 1 ≠ 6 + 3 * s by omega)]; rfl
      · refine (h.1.2.j hs20 (by omega) ?_).j hs20 (by omega) ?_
        · show j / 10 ≤ bnd (6 + 3 * s); rw [bnd_j0 hs20]; omega
        · rw [bnd_j1 hs20]; omega
    · refine SIM.B h (k := 1) (e := -1000000001) (by omega) (by omega) eB ?_ (fun t ht => ?_)
      · unfold f_X8_become
        rw [judgeOn_t e0 hn hs, bd_some, onO_some, if_pos (kd_j (Or.inl rfl) (by omega)), wi_f hb, bd_some, if_pos rfl]; rfl
      · unfold f_X9_become
        rw [isStep_t (by rw [ht 130 (by omega)]; exact e2) hn hs, bd_some, if_neg (by decide), isKm_f hb, bd_some, if_pos rfl]; rfl
  · refine SIM.B h (k := 1) (e := -1000000001) (by omega) (by omega) eB ?_ (fun t ht => ?_)
    · unfold f_X8_become
      rw [judgeOn_f e0 ha, bd_some, onO_none]; rfl
    · unfold f_X9_become
      rw [isStep_f (by rw [ht 130 (by omega)]; exact e2) hn ha, bd_some, if_pos rfl]; rfl

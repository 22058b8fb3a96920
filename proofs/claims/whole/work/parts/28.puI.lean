def undP (k o : Nat) : Int32 := if o = 0 ∨ o = k ∨ (o = 1 ∧ k = 4) ∨ (o = 2 ∧ k = 5) then 1 else 0
set_option maxRecDepth 100000 in
theorem isUnder_eq {k o : Nat} {σ : MM} (hk : k ≤ 6) (ho : o ≤ 6) : f_X8_isUnder (nI k) (nI o) σ = some (undP k o, σ) := by
  rcases (show k = 0 ∨ k = 1 ∨ k = 2 ∨ k = 3 ∨ k = 4 ∨ k = 5 ∨ k = 6 by omega) with rfl | rfl | rfl | rfl | rfl | rfl | rfl <;>
  rcases (show o = 0 ∨ o = 1 ∨ o = 2 ∨ o = 3 ∨ o = 4 ∨ o = 5 ∨ o = 6 by omega) with rfl | rfl | rfl | rfl | rfl | rfl | rfl <;> rfl
theorem kind_b {ρ : Nat → Int32} (h : IR ρ) {s : Nat} (hs : s < 20) : ∃ j, j ≤ 6 ∧ ρ (6 + 3 * s) = nI j := by
  obtain ⟨j, h1, h2⟩ := h.1 (6 + 3 * s) (Or.inl ⟨by omega, by omega⟩)
  rw [bnd_j0 hs] at h1
  exact ⟨j, h1, h2⟩
theorem m_b {ρ : Nat → Int32} (h : IR ρ) {s : Nat} (hs : s < 20) : ∃ j, j ≤ 9 ∧ ρ (6 + 3 * s + 1) = nI j := by
  obtain ⟨j, h1, h2⟩ := h.1 (6 + 3 * s + 1) (Or.inl ⟨by omega, by omega⟩)
  rw [bnd_j1 hs] at h1
  exact ⟨j, h1, h2⟩
theorem heard_b {ρ : Nat → Int32} (h : IR ρ) {s : Nat} (hs : s < 20) : ∃ j, j ≤ 9999 ∧ ρ (6 + 3 * s + 2) = nI j := by
  obtain ⟨j, h1, h2⟩ := h.1 (6 + 3 * s + 2) (Or.inl ⟨by omega, by omega⟩)
  rw [bnd_j2 hs] at h1
  exact ⟨j, h1, h2⟩
theorem at_b {ρ : Nat → Int32} (h : IR ρ) {p n : Nat} (hp : p < 5) (e : ρ 2 = nI n) (hn : n ≤ 20) : ∃ j, j ≤ n ∧ ρ (66 + 4 * p) = nI j := by
  obtain ⟨j, h1, h2⟩ := h.1 (66 + 4 * p) (Or.inl ⟨by omega, by omega⟩)
  rw [bnd_p0 hp] at h1
  refine ⟨j, ?_, h2⟩
  have := h.2.1 p hp
  rw [h2, e, nI_cl (by omega), nI_cl (by omega)] at this
  exact this
theorem legs_b {ρ : Nat → Int32} (h : IR ρ) {p : Nat} (hp : p < 5) : ∃ j, j ≤ 999 ∧ ρ (66 + 4 * p + 1) = nI j := by
  obtain ⟨j, h1, h2⟩ := h.1 (66 + 4 * p + 1) (Or.inl ⟨by omega, by omega⟩)
  rw [bnd_p1 hp] at h1
  exact ⟨j, h1, h2⟩
theorem paid_b {ρ : Nat → Int32} (h : IR ρ) {p : Nat} (hp : p < 5) : ∃ j, j ≤ 99999 ∧ ρ (66 + 4 * p + 2) = nI j := by
  obtain ⟨j, h1, h2⟩ := h.1 (66 + 4 * p + 2) (Or.inl ⟨by omega, by omega⟩)
  rw [bnd_p2 hp] at h1
  exact ⟨j, h1, h2⟩
theorem falls_b {ρ : Nat → Int32} (h : IR ρ) {p : Nat} (hp : p < 5) : ∃ j, j ≤ 9999 ∧ ρ (66 + 4 * p + 3) = nI j := by
  obtain ⟨j, h1, h2⟩ := h.1 (66 + 4 * p + 3) (Or.inl ⟨by omega, by omega⟩)
  rw [bnd_p3 hp] at h1
  exact ⟨j, h1, h2⟩
theorem as66 {s : Nat} {may : Int32} {σ : MM} (hs : s < 20) : u_X9_as_66 (nI s) may σ = if may = 0 then bd (f_X9_error (-1000000005 : Int32) σ) (fun r t => some (r, t)) else some (σ 130 (6 + 3 * s + 1), σ) := by
  unfold u_X9_as_66
  split
  · rfl
  · rw [of1 (by omega), bd_some]
theorem as9 {s k o n : Nat} {σ : MM} (e2 : σ 130 2 = nI n) (hn : n ≤ 20) (hs : s < n) (hk : σ 130 (6 + 3 * s) = nI k) (hk6 : k ≤ 6) (ho : o ≤ 6) (h1 : ¬ nI o < 0) (h2 : ¬ (6 : Int32) < nI o) : f_X9_as (nI s) (nI o) σ = if undP k o = 0 then bd (f_X9_error (-1000000005 : Int32) σ) (fun r t => some (r, t)) else some (σ 130 (6 + 3 * s + 1), σ) := by
  unfold f_X9_as
  rw [isStep_t e2 hn hs, bd_some, if_neg (by decide), in_t h1 h2, bd_some, if_neg (by decide), of0 (by omega), bd_some, hk]
  unfold u_X9_as_51
  simp only [as66 (show s < 20 by omega)]
  rcases (show k = 0 ∨ k = 1 ∨ k = 2 ∨ k = 3 ∨ k = 4 ∨ k = 5 ∨ k = 6 by omega) with rfl | rfl | rfl | rfl | rfl | rfl | rfl <;>
  rcases (show o = 0 ∨ o = 1 ∨ o = 2 ∨ o = 3 ∨ o = 4 ∨ o = 5 ∨ o = 6 by omega) with rfl | rfl | rfl | rfl | rfl | rfl | rfl <;> rfl
/-- promise 5 -/
theorem op_as {a b : Int32} {σ : MM} (h : GD σ) : SIM (f_X8_as a b σ) (f_X9_as a b) := by
  obtain ⟨n, hn, e2⟩ := step_b h.1.2
  have hC := h.1.1
  have e0 : σ 0 1 = nI n := hC.steps.trans e2
  rcases arg_c a (n := n) (by omega) with ⟨s, hs, rfl⟩ | ha
  · rcases btw_c b (hi := 6) (n := 6) rfl (by decide) with ⟨j, hj, rfl, h1, h2⟩ | hb
    · have hs20 : s < 20 := by omega
      obtain ⟨k, hk, ek⟩ := kind_b h.1.2 hs20
      have x8 : f_X8_as (nI s) (nI j) σ = if undP k j = 0 then bd (f_X8_error (-1000000005 : Int32) σ) (fun r t => some (r, t)) else some (σ 130 (6 + 3 * s + 1), σ) := by
        unfold f_X8_as
        rw [judgeOn_t e0 hn hs, bd_some, onO_some, if_pos (kd_j (Or.inl rfl) (by omega)), wi_t h1 h2, bd_some, if_neg (by decide), show σ (0 + 11 + s) 1 = nI k from (J0 h (k := 0) hs20 (by omega)).trans ek, isUnder_eq hk hj, bd_some]
        split
        · rfl
        · exact congrArg (fun z => some (z, σ)) (J0 h (k := 1) hs20 (by omega))
      by_cases hu : undP k j = 0
      · refine SIM.B h (k := 5) (e := -1000000005) (by omega) (by omega) eK ?_ (fun t ht => ?_)
        · rw [x8, if_pos hu]
        · rw [as9 (k := k) (by rw [ht 130 (by omega)]; exact e2) hn hs (by rw [ht 130 (by omega)]; exact ek) hk hj h1 h2, if_pos hu]
      · refine SIM.rd (r := σ 130 (6 + 3 * s + 1)) h ?_ (σ1 := σ) (σ2 := σ) ?_ GE.rf GE.rf
        · rw [x8, if_neg hu]
        · rw [as9 (k := k) e2 hn hs ek hk hj h1 h2, if_neg hu]
    · refine SIM.B h (k := 1) (e := -1000000001) (by omega) (by omega) eB ?_ (fun t ht => ?_)
      · unfold f_X8_as
        rw [judgeOn_t e0 hn hs, bd_some, onO_some, if_pos (kd_j (Or.inl rfl) (by omega)), wi_f hb, bd_some, if_pos rfl]; rfl
      · unfold f_X9_as
        rw [isStep_t (by rw [ht 130 (by omega)]; exact e2) hn hs, bd_some, if_neg (by decide), in_f hb, bd_some, if_pos rfl]; rfl
  · refine SIM.B h (k := 1) (e := -1000000001) (by omega) (by omega) eB ?_ (fun t ht => ?_)
    · unfold f_X8_as
      rw [judgeOn_f e0 ha, bd_some, onO_none]; rfl
    · unfold f_X9_as
      rw [isStep_f (by rw [ht 130 (by omega)]; exact e2) hn ha, bd_some, if_pos rfl]; rfl
theorem IR.ppl {ρ : Nat → Int32} (h : IR ρ) {n : Nat} (hn : n ≤ 5) : IR (upd ρ 3 (nI n)) := h.put (by omega) (Or.inr ⟨n, hn, rfl⟩) (h.2.1.pt _ (by omega) (fun p hp => by omega))
theorem lets0 {p : Nat} {v : Int32} {σ : MM} (hs : p ≤ 40) : f_X9_lets (nI p) 0 v σ = some ((), mu σ 130 (66 + 4 * p) v) := lets_eq (k := 0) hs (by omega)
theorem lets1 {p : Nat} {v : Int32} {σ : MM} (hs : p ≤ 40) : f_X9_lets (nI p) 1 v σ = some ((), mu σ 130 (66 + 4 * p + 1) v) := lets_eq (k := 1) hs (by omega)
theorem lets2 {p : Nat} {v : Int32} {σ : MM} (hs : p ≤ 40) : f_X9_lets (nI p) 2 v σ = some ((), mu σ 130 (66 + 4 * p + 2) v) := lets_eq (k := 2) hs (by omega)
theorem lets3 {p : Nat} {v : Int32} {σ : MM} (hs : p ≤ 40) : f_X9_lets (nI p) 3 v σ = some ((), mu σ 130 (66 + 4 * p + 3) v) := lets_eq (k := 3) hs (by omega)
theorem about0 {p : Nat} {σ : MM} (hs : p ≤ 40) : f_X9_about (nI p) 0 σ = some (σ 130 (66 + 4 * p), σ) := about_eq (k := 0) hs (by omega)
theorem about1 {p : Nat} {σ : MM} (hs : p ≤ 40) : f_X9_about (nI p) 1 σ = some (σ 130 (66 + 4 * p + 1), σ) := about_eq (k := 1) hs (by omega)
theorem about2 {p : Nat} {σ : MM} (hs : p ≤ 40) : f_X9_about (nI p) 2 σ = some (σ 130 (66 + 4 * p + 2), σ) := about_eq (k := 2) hs (by omega)
theorem about3 {p : Nat} {σ : MM} (hs : p ≤ 40) : f_X9_about (nI p) 3 σ = some (σ 130 (66 + 4 * p + 3), σ) := about_eq (k := 3) hs (by omega)
/-- promise 6 -/
theorem op_person {a : Int32} {σ : MM} (h : GD σ) : SIM (f_X8_person a σ) (f_X9_person a) := by
  obtain ⟨n, hn, e3⟩ := people_b h.1.2
  obtain ⟨q, hq, e2⟩ := step_b h.1.2
  have hC := h.1.1
  have e0 : σ 0 3 = nI n := hC.people.trans e3
  rcases btw_c a (hi := 999) (n := 999) rfl (by decide) with ⟨j, hj, rfl, h1, h2⟩ | hb
  · by_cases h5 : n = 5
    · subst h5
      refine SIM.B h (k := 4) (e := -1000000004) (by omega) (by omega) eF ?_ (fun t ht => ?_)
      · unfold f_X8_person
        rw [wi_t h1 h2, bd_some, if_neg (by decide), e0, if_neg (by decide)]
      · unfold f_X9_person
        rw [in_t h1 h2, bd_some, if_neg (by decide), ht 130 (by omega), e3, if_pos (by decide)]
    · have hlt : n < 5 := by omega
      have en0 : nI 0 = 0 := rfl
      refine SIM.mk (r := nI n) (σ1 := mu (mu (mu (mu (mu σ (0 + 31 + n) 0 (nI 0)) (0 + 31 + n) 1 (nI j)) (0 + 31 + n) 2 (nI 0)) (0 + 31 + n) 3 (nI 0)) 0 3 (nI (n + 1))) (σ2 := mu (mu (mu (mu (mu (mu (mu (mu (mu (mu σ (0 + 31 + n) 0 (nI 0)) (0 + 31 + n) 1 (nI j)) (0 + 31 + n) 2 (nI 0)) (0 + 31 + n) 3 (nI 0)) 0 3 (nI (n + 1))) 130 3 (nI (n + 1))) 130 (66 + 4 * n) (nI 0)) 130 (66 + 4 * n + 1) (nI j)) 130 (66 + 4 * n + 2) (nI 0)) 130 (66 + 4 * n + 3) (nI 0)) (ρ1 := upd (upd (upd (upd (upd (σ 130) (66 + 4 * n + 0) (nI 0)) (66 + 4 * n + 1) (nI j)) (66 + 4 * n + 2) (nI 0)) (66 + 4 * n + 3) (nI 0)) 3 (nI (n + 1))) h ?_ ?_ ?_ ?_ ?_ ?_ ?_ ?_ ?_
      · unfold f_X8_person
        rw [wi_t h1 h2, bd_some, if_neg (by decide), e0, if_pos (show nI n < (5 : Int32) from nI_lt hlt (by decide))]
        unfold f_X0_addPerson
        rw [e0, if_neg (nI_pos (by omega)), if_neg (show ¬ (5 : Int32) ≤ nI n from nI_ge hlt (by decide)), if_neg (ixN (by omega) (by decide)), nI_cl (by omega), show 0 + 2 + 29 + n = 0 + 31 + n by omega]
        simp only [lt_eq]
        rw [mu_off _ _ (show 0 ≠ 0 + 31 + n by omega), mu_off _ _ (show 0 ≠ 0 + 31 + n by omega), mu_off _ _ (show 0 ≠ 0 + 31 + n by omega), mu_off _ _ (show 0 ≠ 0 + 31 + n by omega), e0, bd_some, lit 1, nI_add, lit 0]
      · have hu : UP σ (mu (mu (mu (mu (mu σ (0 + 31 + n) 0 (nI 0)) (0 + 31 + n) 1 (nI j)) (0 + 31 + n) 2 (nI 0)) (0 + 31 + n) 3 (nI 0)) 0 3 (nI (n + 1))) := (LOW_mu (by omega)).tr ((LOW_mu (by omega)).tr ((LOW_mu (by omega)).tr ((LOW_mu (by omega)).tr (LOW_mu (by omega)))))
        generalize (mu (mu (mu (mu (mu σ (0 + 31 + n) 0 (nI 0)) (0 + 31 + n) 1 (nI j)) (0 + 31 + n) 2 (nI 0)) (0 + 31 + n) 3 (nI 0)) 0 3 (nI (n + 1))) = t at hu ⊢
        have et : t 130 3 = nI n := by rw [hu 130 (by omega)]; exact e3
        unfold f_X9_person
        rw [in_t h1 h2, bd_some, if_neg (by decide), et, if_neg (show ¬ nI n = (5 : Int32) from fun q => by have := (nI_eq (a := n) (b := 5) (by omega) (by decide)).mp q; omega), lt_eq, lets0 (by omega), bd_some, lets1 (by omega), bd_some, lets2 (by omega), bd_some, lets3 (by omega), bd_some, lit 1, nI_add]
        rfl
      · exact (GO.low (by omega)).tr ((GO.low (by omega)).tr ((GO.low (by omega)).tr ((GO.low (by omega)).tr (GO.low (by omega)))))
      · exact GO.row.tr (GO.row.tr (GO.row.tr (GO.row.tr GO.row)))
      · exact CR.put (person_put (k := 3) (person_put (k := 2) (person_put (k := 1) (person_put (k := 0) hC _ hlt (by omega)) _ hlt (by omega)) _ hlt (by omega)) _ hlt (by omega)) _ (Or.inl (by omega)) (by omega) rfl
      · exact PL.low (PL.low (PL.low (PL.low (PL.low h.2.1.1 (by omega)) (by omega)) (by omega)) (by omega)) (by omega)
      · intro i hi _
        rw [mu_off _ _ (by omega), mu_off _ _ (by omega), mu_off _ _ (by omega), mu_off _ _ (by omega), mu_off _ _ (by omega)]
      · rw [mu_row, mu_row, mu_row, mu_row, mu_row]
        rw [mu_off _ _ (show 130 ≠ 0 by decide), mu_off _ _ (show 130 ≠ 0 + 31 + n by omega), mu_off _ _ (show 130 ≠ 0 + 31 + n by omega), mu_off _ _ (show 130 ≠ 0 + 31 + n by omega), mu_off _ _ (show 130 ≠ 0 + 31 + n by omega)]
        rw [upd_comm _ _ (show 3 ≠ 66 + 4 * n by omega), upd_comm _ _ (show 3 ≠ 66 + 4 * n + 1 by omega), upd_comm _ _ (show 3 ≠ 66 + 4 * n + 2 by omega), upd_comm _ _ (show 3 ≠ 66 + 4 * n + 3 by omega)]
        rfl
      · refine IR.ppl ((((h.1.2.at hlt e2 hq (Nat.zero_le _)).p hlt (k := 1) (by omega) (by omega) ?_).p hlt (k := 2) (by omega) (by omega) (Nat.zero_le _)).p hlt (k := 3) (by omega) (by omega) (Nat.zero_le _)) (by omega)
        rw [bnd_p1 hlt]; exact hj
  · refine SIM.B h (k := 1) (e := -1000000001) (by omega) (by omega) eB ?_ (fun t ht => ?_)
    · unfold f_X8_person
      rw [wi_f hb, bd_some, if_pos rfl]
    · unfold f_X9_person
      rw [in_f hb, bd_some, if_pos rfl]

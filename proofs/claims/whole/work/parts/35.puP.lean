/-- how many of the m words from k on content the judge on s -/
def cnN (ρ : Nat → Int32) (s : Nat) : Nat → Nat → Nat
  | 0, _ => 0
  | m + 1, k => (if contP ρ s (nI k) = 0 then 0 else 1) + cnN ρ s m (k + 1)
theorem cnN_s (ρ : Nat → Int32) (s m k : Nat) : cnN ρ s (m + 1) k = (if contP ρ s (nI k) = 0 then 0 else 1) + cnN ρ s m (k + 1) := rfl
theorem cnN_le (ρ : Nat → Int32) (s : Nat) : ∀ m k, cnN ρ s m k ≤ m
  | 0, _ => Nat.le_refl _
  | m + 1, k => by have := cnN_le ρ s m (k + 1); unfold cnN; split <;> omega
def lsN (ρ : Nat → Int32) (s : Nat) : Nat → Nat → Option Nat
  | 0, _ => none
  | m + 1, k => if contP ρ s (nI k) = 0 then lsN ρ s m (k + 1) else some k
theorem lsN_s (ρ : Nat → Int32) (s m k : Nat) : lsN ρ s (m + 1) k = if contP ρ s (nI k) = 0 then lsN ρ s m (k + 1) else some k := rfl
theorem words0 {s : Nat} {ρ : Nat → Int32} (hI : IR ρ) (hs : s < 20) : ∀ (f m k x : Nat) (σ : MM), m + k = 100 → m < f → CR 0 σ ρ → PL 0 σ → ∃ σ', itr (fun _ _ _ _ _ => none) u_X0_contentWords_4 f 0 (0 + 11 + s) (nI x) (nI k) σ = some (nI (x + cnN ρ s m k), σ') ∧ JE σ σ' := by
  intro f
  induction f with
  | zero => intro m _ _ _ _ hm; omega
  | succ f ih =>
    intro m k x σ hm hf hC hP
    rw [itr_s]
    generalize itr (fun _ _ _ _ _ => none) u_X0_contentWords_4 f = g8 at ih ⊢
    unfold u_X0_contentWords_4
    rcases m with _ | m
    · rw [if_pos (show (100 : Int32) ≤ nI k from nI_le (a := 100) (by omega) (by omega))]
      exact ⟨σ, rfl, JE.rf⟩
    · rw [if_neg (show ¬ (100 : Int32) ≤ nI k from nI_ge (show k < 100 by omega) (by decide))]
      obtain ⟨σ1, x1, j1⟩ := cont0 (b := 0) (w := nI k) (Or.inl rfl) hC hP hI hs
      rw [x1, bd_some, show nI k + 1 = nI (k + 1) by rw [lit 1, nI_add], show nI x + 1 = nI (x + 1) by rw [lit 1, nI_add]]
      by_cases q : contP ρ s (nI k) = 0
      · obtain ⟨σ2, x2, j2⟩ := ih m (k + 1) x σ1 (by omega) (by omega) (hC.je (Or.inl rfl) j1) (hP.je (Or.inl rfl) j1)
        rw [if_pos q, x2]
        refine ⟨σ2, ?_, j1.tr j2⟩
        rw [cnN_s, if_pos q, Nat.zero_add]
      · obtain ⟨σ2, x2, j2⟩ := ih m (k + 1) (x + 1) σ1 (by omega) (by omega) (hC.je (Or.inl rfl) j1) (hP.je (Or.inl rfl) j1)
        rw [if_neg q, x2]
        refine ⟨σ2, ?_, j1.tr j2⟩
        rw [show cnN ρ s (m + 1) k = 1 + cnN ρ s m (k + 1) by rw [cnN_s, if_neg q], Nat.add_assoc]
theorem words9 {s : Nat} (hs : s < 20) : ∀ (f m k x : Nat) (σ : MM), m + k = 100 → m < f → IR (σ 130) → ∃ σ', itr (fun _ _ _ _ => none) u_X9_wordsOf_4 f (nI s) (nI x) (nI k) σ = some (nI (x + cnN (σ 130) s m k), σ') ∧ JE σ σ' := by
  intro f
  induction f with
  | zero => intro m _ _ _ _ hm; omega
  | succ f ih =>
    intro m k x σ hm hf hI
    rw [itr_s]
    generalize itr (fun _ _ _ _ => none) u_X9_wordsOf_4 f = g8 at ih ⊢
    unfold u_X9_wordsOf_4
    rcases m with _ | m
    · rw [if_pos (show (100 : Int32) ≤ nI k from nI_le (a := 100) (by omega) (by omega))]
      exact ⟨σ, rfl, JE.rf⟩
    · rw [if_neg (show ¬ (100 : Int32) ≤ nI k from nI_ge (show k < 100 by omega) (by decide))]
      obtain ⟨σ1, x1, j1⟩ := cont9 (s := s) (w := nI k) hI (by omega)
      have e130 : σ1 130 = σ 130 := j1 130 (by unfold JK; omega)
      rw [x1, bd_some, show nI k + 1 = nI (k + 1) by rw [lit 1, nI_add], show nI x + 1 = nI (x + 1) by rw [lit 1, nI_add], show nI x + 0 = nI (x + 0) by rw [lit 0, nI_add]]
      by_cases q : contP (σ 130) s (nI k) = 0
      · obtain ⟨σ2, x2, j2⟩ := ih m (k + 1) (x + 0) σ1 (by omega) (by omega) (by rw [e130]; exact hI)
        rw [if_pos q, x2, e130]
        refine ⟨σ2, ?_, j1.tr j2⟩
        rw [show cnN (σ 130) s (m + 1) k = 0 + cnN (σ 130) s m (k + 1) by rw [cnN_s, if_pos q], ← Nat.add_assoc]
      · obtain ⟨σ2, x2, j2⟩ := ih m (k + 1) (x + 1) σ1 (by omega) (by omega) (by rw [e130]; exact hI)
        rw [if_neg q, x2, e130]
        refine ⟨σ2, ?_, j1.tr j2⟩
        rw [show cnN (σ 130) s (m + 1) k = 1 + cnN (σ 130) s m (k + 1) by rw [cnN_s, if_neg q], ← Nat.add_assoc]
def woN (ρ : Nat → Int32) (s : Nat) : Nat := cnN ρ s 100 0
theorem woN_le (ρ : Nat → Int32) (s : Nat) : woN ρ s ≤ 100 := cnN_le _ _ _ _
theorem cw0 {s : Nat} {σ : MM} {ρ : Nat → Int32} (hC : CR 0 σ ρ) (hP : PL 0 σ) (hI : IR ρ) (hs : s < 20) : ∃ σ', f_X0_contentWords 0 (0 + 11 + s) σ = some (nI (woN ρ s), σ') ∧ JE σ σ' := by
  obtain ⟨σ', x, j⟩ := words0 hI hs FU 100 0 0 σ (by omega) (by rw [FU_eq]; omega) hC hP
  refine ⟨σ', ?_, j⟩
  unfold f_X0_contentWords l_X0_contentWords_4
  rw [Nat.zero_add (cnN _ _ _ _)] at x
  unfold woN
  rw [lit 0]
  exact x
theorem cw9 {s : Nat} {σ : MM} (hI : IR (σ 130)) (hs : s < 20) : ∃ σ', f_X9_wordsOf (nI s) σ = some (nI (woN (σ 130) s), σ') ∧ JE σ σ' := by
  obtain ⟨σ', x, j⟩ := words9 hs FU 100 0 0 σ (by omega) (by rw [FU_eq]; omega) hI
  refine ⟨σ', ?_, j⟩
  unfold f_X9_wordsOf l_X9_wordsOf_4
  rw [Nat.zero_add (cnN _ _ _ _)] at x
  unfold woN
  rw [lit 0]
  exact x
theorem least0 {s : Nat} {ρ : Nat → Int32} (hI : IR ρ) (hs : s < 20) : ∀ (f m k : Nat) (σ : MM), m + k = 100 → m < f → CR 0 σ ρ → PL 0 σ → ∃ σ', itr (fun _ _ _ _ => none) u_X0_leastContent_2 f 0 (0 + 11 + s) (nI k) σ = some ((lsN ρ s m k).elim (-1) nI, σ') ∧ JE σ σ' := by
  intro f
  induction f with
  | zero => intro m _ _ _ hm; omega
  | succ f ih =>
    intro m k σ hm hf hC hP
    rw [itr_s]
    generalize itr (fun _ _ _ _ => none) u_X0_leastContent_2 f = g8 at ih ⊢
    unfold u_X0_leastContent_2
    rcases m with _ | m
    · rw [if_pos (show (100 : Int32) ≤ nI k from nI_le (a := 100) (by omega) (by omega))]
      exact ⟨σ, rfl, JE.rf⟩
    · rw [if_neg (show ¬ (100 : Int32) ≤ nI k from nI_ge (show k < 100 by omega) (by decide))]
      obtain ⟨σ1, x1, j1⟩ := cont0 (b := 0) (w := nI k) (Or.inl rfl) hC hP hI hs
      rw [x1, bd_some, show nI k + 1 = nI (k + 1) by rw [lit 1, nI_add]]
      rw [lsN_s]
      by_cases q : contP ρ s (nI k) = 0
      · obtain ⟨σ2, x2, j2⟩ := ih m (k + 1) σ1 (by omega) (by omega) (hC.je (Or.inl rfl) j1) (hP.je (Or.inl rfl) j1)
        rw [if_pos q, if_pos q, x2]
        exact ⟨σ2, rfl, j1.tr j2⟩
      · rw [if_neg q, if_neg q]
        exact ⟨σ1, rfl, j1⟩
theorem least9 {s : Nat} (hs : s < 20) : ∀ (f m k : Nat) (σ : MM), m + k = 100 → m < f → IR (σ 130) → ∃ σ', itr (fun _ _ _ => none) u_X9_words_36 f (nI s) (nI k) σ = (lsN (σ 130) s m k).elim (bd (f_X9_error (-1000000002 : Int32) σ') (fun r t => some (r, t))) (fun j => some (nI j, σ')) ∧ JE σ σ' := by
  intro f
  induction f with
  | zero => intro m _ _ _ hm; omega
  | succ f ih =>
    intro m k σ hm hf hI
    rw [itr_s]
    generalize itr (fun _ _ _ => none) u_X9_words_36 f = g8 at ih ⊢
    unfold u_X9_words_36
    rcases m with _ | m
    · rw [if_pos (show (100 : Int32) ≤ nI k from nI_le (a := 100) (by omega) (by omega))]
      exact ⟨σ, rfl, JE.rf⟩
    · rw [if_neg (show ¬ (100 : Int32) ≤ nI k from nI_ge (show k < 100 by omega) (by decide))]
      obtain ⟨σ1, x1, j1⟩ := cont9 (s := s) (w := nI k) hI (by omega)
      have e130 : σ1 130 = σ 130 := j1 130 (by unfold JK; omega)
      rw [x1, bd_some, show nI k + 1 = nI (k + 1) by rw [lit 1, nI_add]]
      rw [lsN_s]
      by_cases q : contP (σ 130) s (nI k) = 0
      · obtain ⟨σ2, x2, j2⟩ := ih m (k + 1) σ1 (by omega) (by omega) (by rw [e130]; exact hI)
        rw [if_pos q, if_pos q, x2, e130]
        exact ⟨σ2, rfl, j1.tr j2⟩
      · rw [if_neg q, if_neg q]
        exact ⟨σ1, rfl, j1⟩
/-- an error, behind works that leave no trace on either side -/
theorem SIM.E {σ σ1 : MM} (h : GD σ) (hg : GE σ σ1) {k : Nat} {e : Int32} (hk : 1 ≤ k) (hk2 : k ≤ 6) (he : (-1000000000 : Int32) - e = nI k) {x : Option (Int32 × MM)} {m : MM → Option (Int32 × MM)} (hx : x = bd (f_X8_error e σ1) (fun r s => some (r, s))) (hm : ∀ s, (∀ i, 129 ≤ i → ¬ JJ i → s i = σ i) → ∃ s1, GE s s1 ∧ m s = bd (f_X9_error e s1) (fun r s => some (r, s))) : SIM x m := by
  have hG1 := h.ge hg
  rw [error8 hk hk2 he, bd_some] at hx
  obtain ⟨s1, g1, hm1⟩ := hm (mu σ1 128 k (σ1 128 k + 1)) (fun i hi hj => by rw [mu_off _ _ (by omega)]; exact hg.row hj)
  rw [error9 hk hk2 he, bd_some] at hm1
  refine ⟨_, _, _, hx, hm1, ?_⟩
  have h2 := hG1.err (k := k) (by omega)
  have e133 : s1 133 = σ1 133 := by rw [g1.row (by unfold JJ JK; omega), mu_off _ _ (by decide)]
  rw [e133]
  refine h2.ge ?_
  obtain ⟨a1, a2, a3, a4, a5⟩ := g1
  refine ⟨fun i hi => ?_, fun j hj => ?_, ?_, ?_, ?_⟩
  · by_cases e : i = 133
    · subst e; rw [mu_row, mu_row, e133, mu_off _ _ (by omega)]
    · rw [mu_off _ _ e, mu_off _ _ e]; exact a1 i hi
  · rw [mu_off _ _ (by omega), mu_off _ _ (by omega)]; exact a2 j hj
  · rw [mu_off _ _ (by omega), mu_off _ _ (by omega)]; exact a3
  · rw [mu_off _ _ (by omega), mu_off _ _ (by omega)]; exact a4
  · rw [mu_off _ _ (by omega), mu_off _ _ (by omega)]; exact a5
theorem nJ130 : ¬ JJ 130 := by unfold JJ JK; omega
/-- promise 20 -/
theorem op_words {a b : Int32} {σ : MM} (h : GD σ) : SIM (f_X8_words a b σ) (f_X9_words a b) := by
  obtain ⟨n, hn, e2⟩ := step_b h.1.2
  have hC := h.1.1
  have e0 : σ 0 1 = nI n := hC.steps.trans e2
  rcases arg_c a (n := n) (by omega) with ⟨s, hs, rfl⟩ | ha
  · have hs20 : s < 20 := by omega
    rcases btw_c b (hi := 1) (n := 1) rfl (by decide) with ⟨j, hj, rfl, h1, h2⟩ | hb
    · by_cases hz : j = 0
      · subst hz
        obtain ⟨σ1, x1, g1⟩ := cw0 hC h.2.1.1 h.1.2 hs20
        have e130 : σ1 130 = σ 130 := g1 130 (by unfold JK; omega)
        obtain ⟨σ2, x2, g2⟩ := cw9 (σ := σ1) (s := s) (by rw [e130]; exact h.1.2) hs20
        rw [e130] at x2
        refine SIM.rd (r := nI (woN (σ 130) s)) h (σ1 := σ1) (σ2 := σ2) ?_ ?_ g1.ge g2.ge
        · unfold f_X8_words
          rw [judgeOn_t e0 hn hs, bd_some, onO_some, if_pos (kd_j (Or.inl rfl) hs20), wi_t h1 h2, bd_some, if_neg (by decide), if_pos (show nI 0 = 0 from rfl), x1, bd_some]
        · unfold f_X9_words
          rw [isStep_t (by rw [e130]; exact e2) hn hs, bd_some, if_neg (by decide), in_t h1 h2, bd_some, if_neg (by decide), if_pos (show nI 0 = 0 from rfl), x2, bd_some]
      · have hj1 : ¬ nI j = 0 := fun e => hz (nI_inj (b := 0) (by omega) (by decide) e)
        obtain ⟨σ1, x1, g1⟩ := least0 h.1.2 hs20 FU 100 0 σ (by omega) (by rw [FU_eq]; omega) hC h.2.1.1
        have e130 : σ1 130 = σ 130 := g1 130 (by unfold JK; omega)
        have y8 : f_X8_words (nI s) (nI j) σ = if 0 ≤ (lsN (σ 130) s 100 0).elim (-1) nI then some ((lsN (σ 130) s 100 0).elim (-1) nI, σ1) else bd (f_X8_error (-1000000002 : Int32) σ1) (fun r t => some (r, t)) := by
          unfold f_X8_words f_X0_leastContent l_X0_leastContent_2
          rw [judgeOn_t e0 hn hs, bd_some, onO_some, if_pos (kd_j (Or.inl rfl) hs20), wi_t h1 h2, bd_some, if_neg (by decide), if_neg hj1]
          change bd (itr (fun _ _ _ _ => none) u_X0_leastContent_2 FU 0 (0 + 11 + s) (nI 0) σ) _ = _
          rw [x1, bd_some]
        have y9 : ∀ t : MM, t 130 = σ 130 → f_X9_words (nI s) (nI j) t = itr (fun _ _ _ => none) u_X9_words_36 FU (nI s) (nI 0) t := by
          intro t ht
          unfold f_X9_words
          rw [isStep_t (by rw [ht]; exact e2) hn hs, bd_some, if_neg (by decide), in_t h1 h2, bd_some, if_neg (by decide), if_neg hj1]; rfl
        cases hl : lsN (σ 130) s 100 0 with
        | none =>
          rw [hl] at y8
          refine SIM.E (σ1 := σ1) (k := 2) (e := -1000000002) h g1.ge (by omega) (by omega) eN ?_ (fun t ht => ?_)
          · rw [y8, if_neg (by decide)]
          · obtain ⟨t1, z1, z2⟩ := least9 hs20 FU 100 0 t (by omega) (by rw [FU_eq]; omega) (by rw [ht 130 (by omega) nJ130]; exact h.1.2)
            rw [ht 130 (by omega) nJ130, hl] at z1
            refine ⟨t1, z2.ge, ?_⟩
            rw [y9 t (ht 130 (by omega) nJ130), z1]; rfl
        | some w =>
          rw [hl] at y8
          obtain ⟨t1, z1, z2⟩ := least9 hs20 FU 100 0 σ1 (by omega) (by rw [FU_eq]; omega) (by rw [e130]; exact h.1.2)
          rw [e130, hl] at z1
          have hw : w ≤ 100 := by
            have : ∀ m k w, lsN (σ 130) s m k = some w → m + k = 100 → w ≤ 100 := by
              intro m
              induction m with
              | zero => intro k w hh; exact absurd hh (by unfold lsN; simp)
              | succ m ih =>
                intro k w hh hmk
                unfold lsN at hh
                by_cases q : contP (σ 130) s (nI k) = 0
                · rw [if_pos q] at hh; exact ih (k + 1) w hh (by omega)
                · rw [if_neg q] at hh; injection hh with hh; omega
            exact this 100 0 w hl (by omega)
          refine SIM.rd (r := nI w) h (σ1 := σ1) (σ2 := t1) ?_ ?_ g1.ge z2.ge
          · rw [y8]; exact if_pos (show (0 : Int32) ≤ nI w from nI_pos' (by omega))
          · rw [y9 σ1 e130, z1]; rfl
    · refine SIM.B h (k := 1) (e := -1000000001) (by omega) (by omega) eB ?_ (fun t ht => ?_)
      · unfold f_X8_words
        rw [judgeOn_t e0 hn hs, bd_some, onO_some, if_pos (kd_j (Or.inl rfl) hs20), wi_f hb, bd_some, if_pos rfl]; rfl
      · unfold f_X9_words
        rw [isStep_t (by rw [ht 130 (by omega)]; exact e2) hn hs, bd_some, if_neg (by decide), in_f hb, bd_some, if_pos rfl]; rfl
  · refine SIM.B h (k := 1) (e := -1000000001) (by omega) (by omega) eB ?_ (fun t ht => ?_)
    · unfold f_X8_words
      rw [judgeOn_f e0 ha, bd_some, onO_none]; rfl
    · unfold f_X9_words
      rw [isStep_f (by rw [ht 130 (by omega)]; exact e2) hn ha, bd_some, if_pos rfl]; rfl

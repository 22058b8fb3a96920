def F3 (a b c : Int32) : Nat → Int32 := fun j => if j = 0 then a else if j = 1 then b else c
def holdP (v hi : Int32) : Int32 := if 0 ≤ v then (if v ≤ hi then v else hi) else 0
theorem hold_eq {v hi : Int32} {σ : MM} (hh : 0 ≤ hi) : f_X0_hold v hi σ = some (holdP v hi, σ) := by
  unfold f_X0_hold holdP
  congr 2
  have h0 : (0 : Int32).toInt = 0 := rfl
  simp only [Int32.le_iff_toInt_le, Int32.lt_iff_toInt_lt, h0] at hh ⊢
  by_cases h1 : v.toInt < hi.toInt
  · simp only [if_pos h1]
    by_cases h2 : 0 < v.toInt
    · rw [if_pos h2, if_pos (by omega), if_pos (by omega)]
    · rw [if_neg h2]
      by_cases h3 : 0 ≤ v.toInt
      · rw [if_pos h3, if_pos (by omega)]
        exact (Int32.toInt_inj.mp (by rw [h0]; omega)).symm
      · rw [if_neg h3]
  · simp only [if_neg h1]
    rw [if_pos (by omega : 0 ≤ v.toInt)]
    by_cases h2 : 0 < hi.toInt
    · rw [if_pos h2]
      by_cases h3 : v.toInt ≤ hi.toInt
      · rw [if_pos h3]; exact Int32.toInt_inj.mp (by omega)
      · rw [if_neg h3]
    · rw [if_neg h2]
      have h4 : hi = 0 := Int32.toInt_inj.mp (by rw [h0]; omega)
      by_cases h3 : v.toInt ≤ hi.toInt
      · rw [if_pos h3]; exact (Int32.toInt_inj.mp (by rw [h0]; omega)).symm
      · rw [if_neg h3, h4]
/-- what a law of use u gives -/
def givP (ρ : Nat → Int32) (u : Nat) (a b c : Int32) : Int32 :=
  holdP (if ρ (170 + 121 * u) ≤ 0 then (if u = 0 then 1 else a) else ev ρ (170 + 121 * u) (F3 a b c) (ρ (170 + 121 * u)).toNatClampNeg 0) (if u = 0 then 1 else 99)
theorem FU_eq : FU = 999 + 1 := rfl
theorem E1.je {c : Nat} {σ σ' : MM} (hc : JK c) (h : E1 c σ σ') : JE σ σ' := fun i hi => h i (fun e => hi (e ▸ hc))
theorem IR.wf {ρ : Nat → Int32} (h : IR ρ) {u : Nat} (hu : u ≤ 1) : WF ρ (170 + 121 * u) := by
  rcases (show u = 0 ∨ u = 1 by omega) with rfl | rfl
  · exact h.2.2.1
  · exact h.2.2.2
theorem IR.len {ρ : Nat → Int32} (h : IR ρ) {u : Nat} (hu : u ≤ 1) : ∃ n, n ≤ 60 ∧ ρ (170 + 121 * u) = nI n := by
  rcases (show u = 0 ∨ u = 1 by omega) with rfl | rfl
  · obtain ⟨n, h1, h2⟩ := h.1 170 (Or.inr (Or.inl rfl)); exact ⟨n, h1, h2⟩
  · obtain ⟨n, h1, h2⟩ := h.1 291 (Or.inr (Or.inr rfl)); exact ⟨n, h1, h2⟩
/-- the reference: what a law gives -/
theorem gives9 {σ : MM} {u : Nat} {a b c : Int32} (hI : IR (σ 130)) (hu : u ≤ 1) : ∃ σ', f_X9_gives (nI u) a b c σ = some (givP (σ 130) u a b c, σ') ∧ JE σ σ' := by
  have hw := hI.wf hu
  obtain ⟨n, hn, hr⟩ := hI.len hu
  have hwn := hw n hn hr
  have tl : ∀ (v : Int32) (σ1 : MM), u_X9_gives_60 (nI u) v σ1 = some (holdP v (if u = 0 then 1 else 99), σ1) := by
    intro v σ1
    unfold u_X9_gives_60
    rcases (show u = 0 ∨ u = 1 by omega) with rfl | rfl
    · rw [if_pos (by decide), held_eq, bd_some, if_pos rfl]; rfl
    · rw [if_neg (by decide), held_eq, bd_some]; rfl
  unfold f_X9_gives
  simp only [lt_eq]
  have e1 : (170 : Int32) + (121 : Int32) * nI u = nI (170 + 121 * u) := by rw [lit 121, lit 170, pk_mul, nI_add]
  rw [e1, if_neg (ixN (by omega) (by decide)), nI_cl (by omega)]
  have h130 : (mu (mu (mu σ 139 0 a) 139 1 b) 139 2 c) 130 = σ 130 := by rw [mu_off _ _ (by decide), mu_off _ _ (by decide), mu_off _ _ (by decide)]
  have hj : JE σ (mu (mu (mu σ 139 0 a) 139 1 b) 139 2 c) := by
    have h139 : JK 139 := by unfold JK; omega
    exact (JE.mu h139).tr ((JE.mu h139).tr (JE.mu h139))
  rw [h130]
  unfold givP
  by_cases h0 : σ 130 (170 + 121 * u) ≤ 0
  · rw [if_pos h0, if_pos h0]
    rcases (show u = 0 ∨ u = 1 by omega) with rfl | rfl
    · rw [if_pos (by decide), tl]; exact ⟨_, rfl, hj⟩
    · rw [if_neg (by decide), tl]; exact ⟨_, rfl, hj⟩
  · rw [if_neg h0, if_neg h0]
    have hn0 : 0 < n := by
      rcases Nat.eq_zero_or_pos n with e | e
      · subst e; rw [hr] at h0; exact absurd (by decide) h0
      · exact e
    unfold f_X9_works l_X9_works_4
    obtain ⟨σ', e, e2⟩ := works_loop (ρ := σ 130) (F := F3 a b c) (a := 170 + 121 * u) (n := n) (by omega) hn hr hwn.1 FU 0 (mu (mu (mu σ 139 0 a) 139 1 b) 139 2 c) (Nat.zero_le _) (by rw [FU_eq]; omega) h130 (by
      intro j hj
      rw [mu_at, mu_at, mu_at]
      rcases (show j = 0 ∨ j = 1 ∨ j = 2 by omega) with rfl | rfl | rfl <;> rfl) (by intro j hj; unfold dp at hj; omega) (hwn.2 hn0)
    have e3 : dp (σ 130) (170 + 121 * u) 0 = 0 := rfl
    rw [e3] at e
    rw [show (0 : Int32) = nI 0 from rfl, e, bd_some, tl, hr, nI_cl (by omega)]
    exact ⟨σ', rfl, hj.tr (e2.je (by unfold JK; omega))⟩
/-- the class: what a law gives -/
theorem gives0 {b : Nat} {σ : MM} {ρ : Nat → Int32} {u : Nat} {a1 b1 c1 : Int32} (hb : BB b) (hC : CR b σ ρ) (hI : IR ρ) (hu : u ≤ 1) : ∃ σ', f_X0_gives b (nI u) a1 b1 c1 σ = some (givP ρ u a1 b1 c1, σ') ∧ JE σ σ' := by
  have hw := hI.wf hu
  obtain ⟨n, hn, hr⟩ := hI.len hu
  have hwn := hw n hn hr
  have t1 : ∀ (v : Int32) (σ1 : MM), u_X0_gives_29 v σ1 = some (holdP v 1, σ1) := by
    intro v σ1; unfold u_X0_gives_29; rw [hold_eq (by decide), bd_some]
  have t2 : ∀ (v : Int32) (σ1 : MM), u_X0_gives_59 v σ1 = some (holdP v 99, σ1) := by
    intro v σ1; unfold u_X0_gives_59; rw [hold_eq (by decide), bd_some]
  unfold f_X0_gives givP
  rcases (show u = 0 ∨ u = 1 by omega) with rfl | rfl
  · have hlen : σ (b + 3) 2 = ρ 170 := hC.1 170 (Or.inl (Nat.le_refl _))
    rw [if_pos (by decide)]
    unfold f_X6_isThere
    rw [hlen]
    by_cases h0 : ρ 170 ≤ 0
    · rw [if_pos h0, bd_some, if_pos rfl, t1, if_pos h0]; exact ⟨σ, rfl, JE.rf⟩
    · rw [if_neg h0, bd_some, if_neg (by decide), if_neg h0]
      have hn0 : 0 < n := by
        rcases Nat.eq_zero_or_pos n with e | e
        · subst e; rw [show ρ 170 = nI 0 from hr] at h0; exact absurd (by decide) h0
        · exact e
      unfold f_X6_work l_X6_work_6
      obtain ⟨σ', e, e2⟩ := work_loop (ρ := ρ) (F := F3 a1 b1 c1) (a := 170) (n := n) (t := b + 3) hn hwn.1 FU 0 σ (Nat.zero_le _) (by rw [FU_eq]; omega) (hlen.trans hr) (fun j hj => hC.2.1 n hn hr j hj) (by intro j hj; unfold dp at hj; omega) (hwn.2 hn0)
      have e3 : dp ρ 170 0 = 0 := rfl
      rw [e3] at e
      have e' : itr (fun _ _ _ _ _ _ _ => none) u_X6_work_6 FU (b + 3) a1 b1 c1 0 0 σ = _ := e
      rw [e', bd_some, t1, show ρ (170 + 121 * 0) = nI n from hr, nI_cl (by omega)]
      exact ⟨σ', rfl, e2.je (by unfold JK; rcases hb with rfl | rfl | rfl <;> omega)⟩
  · have hlen : σ (b + 6) 2 = ρ 291 := hC.1 291 (Or.inr rfl)
    rw [if_neg (by decide)]
    unfold f_X6_isThere
    rw [hlen]
    by_cases h0 : ρ 291 ≤ 0
    · rw [if_pos h0, bd_some, if_pos rfl, t2, if_pos h0]; exact ⟨σ, rfl, JE.rf⟩
    · rw [if_neg h0, bd_some, if_neg (by decide), if_neg h0]
      have hn0 : 0 < n := by
        rcases Nat.eq_zero_or_pos n with e | e
        · subst e; rw [show ρ 291 = nI 0 from hr] at h0; exact absurd (by decide) h0
        · exact e
      unfold f_X6_work l_X6_work_6
      obtain ⟨σ', e, e2⟩ := work_loop (ρ := ρ) (F := F3 a1 b1 c1) (a := 291) (n := n) (t := b + 6) hn hwn.1 FU 0 σ (Nat.zero_le _) (by rw [FU_eq]; omega) (hlen.trans hr) (fun j hj => hC.2.2 n hn hr j hj) (by intro j hj; unfold dp at hj; omega) (hwn.2 hn0)
      have e3 : dp ρ 291 0 = 0 := rfl
      rw [e3] at e
      have e' : itr (fun _ _ _ _ _ _ _ => none) u_X6_work_6 FU (b + 6) a1 b1 c1 0 0 σ = _ := e
      rw [e', bd_some, t2, show ρ (170 + 121 * 1) = nI n from hr, nI_cl (by omega)]
      exact ⟨σ', rfl, e2.je (by unfold JK; rcases hb with rfl | rfl | rfl <;> omega)⟩

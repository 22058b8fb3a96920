/-- the class from σ and the reference from any memory with the row ρ answer the same and end with the same row -/
def SB {α : Type} (Q : (Nat → Int32) → Prop) (ρ : Nat → Int32) (σ : MM) (x : Option (α × MM)) (y : MM → Option (α × MM)) : Prop :=
  ∃ (r : α) (σ' : MM) (ρ' : Nat → Int32), x = some (r, σ') ∧ CR 0 σ' ρ' ∧ PL 0 σ' ∧ FR 0 σ σ' ∧ IR ρ' ∧ Q ρ' ∧ ∀ τ : MM, τ 130 = ρ → ∃ τ', y τ = some (r, τ') ∧ τ' 130 = ρ' ∧ RO τ τ'
theorem SB.tn {α β : Type} {Q Q' : (Nat → Int32) → Prop} {ρ : Nat → Int32} {σ : MM} {x : Option (α × MM)} {y : MM → Option (α × MM)} {k : α → MM → Option (β × MM)} {l : α → MM → Option (β × MM)} (h : SB Q ρ σ x y) (hk : ∀ r σ' ρ', CR 0 σ' ρ' → PL 0 σ' → IR ρ' → Q ρ' → SB Q' ρ' σ' (k r σ') (l r)) : SB Q' ρ σ (bd x k) (fun τ => bd (y τ) l) := by
  obtain ⟨r, σ', ρ', rfl, h1, h2, h3, h4, h5, h6⟩ := h
  obtain ⟨r2, σ2, ρ2, e, g1, g2, g3, g4, g5, g6⟩ := hk r σ' ρ' h1 h2 h4 h5
  refine ⟨r2, σ2, ρ2, by rw [bd_some, e], g1, g2, h3.tr g3, g4, g5, fun τ hτ => ?_⟩
  obtain ⟨τ', e1, e2, e3⟩ := h6 τ hτ
  obtain ⟨τ2, e4, e5, e6⟩ := g6 τ' e2
  exact ⟨τ2, by show bd (y τ) l = _; rw [e1, bd_some, e4], e5, e3.tr e6⟩
theorem SB.rf {α : Type} {Q : (Nat → Int32) → Prop} {ρ : Nat → Int32} {σ : MM} {r : α} (h1 : CR 0 σ ρ) (h2 : PL 0 σ) (h3 : IR ρ) (h4 : Q ρ) : SB Q ρ σ (some (r, σ)) (fun τ => some (r, τ)) := ⟨r, σ, ρ, rfl, h1, h2, FR.rf, h3, h4, fun τ hτ => ⟨τ, rfl, hτ, RO.rf⟩⟩
theorem SB.to {α : Type} {Q : (Nat → Int32) → Prop} {ρ : Nat → Int32} {σ : MM} {x x' : Option (α × MM)} {y y' : MM → Option (α × MM)} (h : SB Q ρ σ x y) (ex : x' = x) (ey : ∀ τ, τ 130 = ρ → y' τ = y τ) : SB Q ρ σ x' y' := by
  subst ex
  obtain ⟨r, σ', ρ', e, h1, h2, h3, h4, h5, h6⟩ := h
  refine ⟨r, σ', ρ', e, h1, h2, h3, h4, h5, fun τ hτ => ?_⟩
  rw [ey τ hτ]; exact h6 τ hτ
/-- both change the row to ρ' first -/
theorem SB.st {α : Type} {Q : (Nat → Int32) → Prop} {ρ ρ' : Nat → Int32} {σ σ' : MM} {x : Option (α × MM)} {y : MM → Option (α × MM)} {z : MM → Option (α × MM)} (h : SB Q ρ' σ' x y) (f : FR 0 σ σ') (g : ∀ τ, τ 130 = ρ → ∃ τ', z τ = y τ' ∧ τ' 130 = ρ' ∧ RO τ τ') : SB Q ρ σ x z := by
  obtain ⟨r, σ2, ρ2, e, h1, h2, h3, h4, h5, h6⟩ := h
  refine ⟨r, σ2, ρ2, e, h1, h2, f.tr h3, h4, h5, fun τ hτ => ?_⟩
  obtain ⟨τ', e1, e2, e3⟩ := g τ hτ
  obtain ⟨τ2, e4, e5, e6⟩ := h6 τ' e2
  exact ⟨τ2, by rw [e1]; exact e4, e5, e3.tr e6⟩
theorem SIM.sb {α : Type} {Q : (Nat → Int32) → Prop} {σ : MM} {x : Option (α × MM)} {y : MM → Option (α × MM)} (h : GD σ) (s : SB Q (σ 130) σ x y) : SIM x y := by
  obtain ⟨r, σ1, ρ1, e, h1, h2, h3, h4, -, h6⟩ := s
  have e130 : σ1 130 = σ 130 := h3 130 (by unfold JK; omega) (by omega)
  obtain ⟨σ2, e1, e2, e3⟩ := h6 σ1 e130
  exact SIM.mk (r := r) (σ1 := σ1) (σ2 := σ2) (ρ1 := ρ1) h e e1 h3.go e3.go h1 h2 (fun i hi hj => e3 i hj (by omega)) e2 h4
theorem r5 {s : Nat} (hs : s ≤ 20) : nI s - nI s / (5 : Int32) * (5 : Int32) = nI (s % 5) := pk_rem (d := 5) (by omega) (by decide) (by decide)
theorem min999 {l : Nat} (hl : l ≤ 999) : (if nI l + 1 < (999 : Int32) then nI l + 1 else (999 : Int32)) = nI (min (l + 1) 999) := by
  rw [lit 1, nI_add]
  by_cases q : l + 1 < 999
  · rw [if_pos (show nI (l + 1) < (999 : Int32) from nI_lt q (by decide)), Nat.min_eq_left (by omega)]
  · rw [if_neg (show ¬ nI (l + 1) < (999 : Int32) from nI_nlt (show 999 ≤ l + 1 by omega) (by omega)), Nat.min_eq_right (show 999 ≤ l + 1 by omega)]; rfl
theorem held999 {x : Nat} (hx : x ≤ 2000) : (if (0 : Int32) ≤ nI x then (if nI x ≤ (999 : Int32) then nI x else (999 : Int32)) else 0) = nI (min x 999) := by
  rw [if_pos (nI_pos' (by omega))]
  by_cases q : x ≤ 999
  · rw [if_pos (show nI x ≤ (999 : Int32) from nI_le q (by decide)), Nat.min_eq_left q]
  · rw [if_neg (show ¬ nI x ≤ (999 : Int32) from nI_ge (show 999 < x by omega) (by omega)), Nat.min_eq_right (show 999 ≤ x by omega)]; rfl
def HQ (h n : Nat) (ρ : Nat → Int32) : Prop := ρ 0 = nI h ∧ ρ 3 = nI n
theorem goes28 {p l c : Nat} {K : Int32 → MM → Option (Unit × MM)} {τ : MM} (hp : p < 5) (el : τ 130 (66 + 4 * p + 1) = nI l) (hl : l ≤ 999) (hc : c ≤ 1) : u_X9_goes_28 K (nI p) (nI c) τ = K (nI (p + 1)) (mu τ 130 (66 + 4 * p + 1) (nI (min (l + c) 999))) := by
  unfold u_X9_goes_28
  rw [about1 (by omega), bd_some, el, nI_add, held_eq, bd_some, held999 (by omega), lets1 (by omega), bd_some, lit 1, nI_add]
theorem pass {n h : Nat} (hn : n ≤ 5) (hh : h + 1 ≤ 9999) : ∀ (f k : Nat) (σ : MM) (ρ : Nat → Int32), k ≤ n → n - k < f → CR 0 σ ρ → PL 0 σ → IR ρ → HQ h n ρ → SB (HQ (h + 1) n) ρ σ (itr (fun _ _ _ => none) u_X0_passHour_2 f 0 (nI k) σ) (fun τ => itr (fun _ _ => none) u_X9_goes_2 f (nI k) τ) := by
  intro f
  induction f with
  | zero => intro k _ _ _ hk; omega
  | succ f ih =>
    intro k σ ρ hk hf hC hP hI hq
    have e3 : σ 0 3 = nI n := hC.people.trans hq.2
    by_cases q : n ≤ k
    · have C1 := hC.put (nI (h + 1)) (k := 0) (i := 0) (s := 10) (Or.inl (by omega)) (by omega) rfl
      refine ⟨(), mu σ 0 10 (nI (h + 1)), upd ρ 0 (nI (h + 1)), ?_, C1, hP.put (by omega), FR.mu (by omega) (by omega), hI.put (by omega) (Or.inr ⟨h + 1, by unfold bnd; simp; omega, rfl⟩) (hI.2.1.pt _ (by omega) (fun p hp => by omega)), ⟨by rw [upd_at, if_pos rfl], by rw [upd_at, if_neg (by omega)]; exact hq.2⟩, fun τ hτ => ?_⟩
      · rw [itr_s]
        generalize itr (fun _ _ _ => none) u_X0_passHour_2 f = g8
        unfold u_X0_passHour_2 u_X0_passHour_57
        rw [e3, if_pos (nI_le q (by omega)), hC.hour, hq.1, lit 1, nI_add, lt_eq]
      · refine ⟨mu τ 130 0 (nI (h + 1)), ?_, by rw [mu_row, hτ], RO.mu⟩
        show itr (fun _ _ => none) u_X9_goes_2 (f + 1) (nI k) τ = _
        rw [itr_s]
        generalize itr (fun _ _ => none) u_X9_goes_2 f = g9
        unfold u_X9_goes_2
        rw [hτ, hq.2, if_pos (nI_le q (by omega)), hq.1, lit 1, nI_add, lt_eq]
    · have hk5 : k < 5 := by omega
      obtain ⟨l, hl, el⟩ := legs_b hI hk5
      obtain ⟨sn, hsn, e2⟩ := step_b hI
      obtain ⟨s, hs, ea⟩ := at_b hI hk5 e2 hsn
      have a0 : σ (0 + 31 + k) 0 = nI s := (hC.p hk5 (k := 0) (by omega)).trans ea
      have l0 : σ (0 + 31 + k) 1 = nI l := (hC.p hk5 (k := 1) (by omega)).trans el
      by_cases z : s % 5 = 0
      · refine ((ih (k + 1) (mu σ (0 + 31 + k) 1 (nI (min (l + 1) 999))) (upd ρ (66 + 4 * k + 1) (nI (min (l + 1) 999))) (by omega) (by omega) (pput (k := 1) hC _ hk5 (by omega)) (hP.put (by omega)) (hI.p hk5 (by omega) (by omega) (by rw [bnd_p1 hk5]; omega)) ⟨by rw [upd_at, if_neg (by omega)]; exact hq.1, by rw [upd_at, if_neg (by omega)]; exact hq.2⟩).st (FR.mu (by omega) (by omega)) (z := fun τ => itr (fun _ _ => none) u_X9_goes_2 (f + 1) (nI k) τ) (fun τ hτ => ⟨mu τ 130 (66 + 4 * k + 1) (nI (min (l + 1) 999)), ?_, by rw [mu_row, hτ], RO.mu⟩)).to ?_ (fun τ _ => rfl)
        · show itr (fun _ _ => none) u_X9_goes_2 (f + 1) (nI k) τ = _
          rw [itr_s]
          generalize itr (fun _ _ => none) u_X9_goes_2 f = g9
          unfold u_X9_goes_2
          rw [hτ, hq.2, if_neg (nI_ge (by omega) (by omega)), about0 (by omega), bd_some, hτ, ea, r5 (by omega), z, if_pos (show nI 0 = 0 from rfl), show (1 : Int32) = nI 1 from rfl, goes28 hk5 (by rw [hτ]; exact el) hl (by omega)]
        · rw [itr_s]
          generalize itr (fun _ _ _ => none) u_X0_passHour_2 f = g8
          unfold u_X0_passHour_2
          rw [e3, if_neg (nI_ge (by omega) (by omega)), if_neg (show ¬ (5 : Int32) ≤ nI k from nI_ge hk5 (by decide)), if_neg (ixN hk5 (by decide)), nI_cl (by omega), show (0 + 2) + 29 + k = 0 + 31 + k by omega, a0, r5 (by omega), z, if_pos (show nI 0 = 0 from rfl), l0, min999 hl, lt_eq, lit 1, nI_add]
      · refine ((ih (k + 1) σ ρ (by omega) (by omega) hC hP hI hq).st FR.rf (z := fun τ => itr (fun _ _ => none) u_X9_goes_2 (f + 1) (nI k) τ) (fun τ hτ => ⟨mu τ 130 (66 + 4 * k + 1) (nI l), ?_, by rw [mu_row, hτ, ← el]; exact upd_same, RO.mu⟩)).to ?_ (fun τ _ => rfl)
        · show itr (fun _ _ => none) u_X9_goes_2 (f + 1) (nI k) τ = _
          rw [itr_s]
          generalize itr (fun _ _ => none) u_X9_goes_2 f = g9
          unfold u_X9_goes_2
          rw [hτ, hq.2, if_neg (nI_ge (by omega) (by omega)), about0 (by omega), bd_some, hτ, ea, r5 (by omega), if_neg (show ¬ nI (s % 5) = 0 from fun e => z (nI_inj (b := 0) (by omega) (by decide) e)), show u_X9_goes_28 g9 (nI k) 0 τ = _ from goes28 (c := 0) hk5 (by rw [hτ]; exact el) hl (by omega), show min (l + 0) 999 = l from Nat.min_eq_left hl]
        · rw [itr_s]
          generalize itr (fun _ _ _ => none) u_X0_passHour_2 f = g8
          unfold u_X0_passHour_2
          rw [e3, if_neg (nI_ge (by omega) (by omega)), if_neg (show ¬ (5 : Int32) ≤ nI k from nI_ge hk5 (by decide)), if_neg (ixN hk5 (by decide)), nI_cl (by omega), show (0 + 2) + 29 + k = 0 + 31 + k by omega, a0, r5 (by omega), if_neg (show ¬ nI (s % 5) = 0 from fun e => z (nI_inj (b := 0) (by omega) (by decide) e)), lit 1, nI_add]

/-- the memory behind the constructors -/
def zl : List (Nat → Int32) := [upd (fun _ => 0) 11 1, fun _ => 0, fun _ => 0, fun _ => 0, fun _ => 0, fun _ => 0, fun _ => 0, fun _ => 0, fun _ => 0, fun _ => 0, fun _ => 0, upd (fun _ => 0) 0 0, upd (fun _ => 0) 0 1, upd (fun _ => 0) 0 2, upd (fun _ => 0) 0 3, upd (fun _ => 0) 0 4, upd (fun _ => 0) 0 5, upd (fun _ => 0) 0 6, upd (fun _ => 0) 0 7, upd (fun _ => 0) 0 8, upd (fun _ => 0) 0 9, upd (fun _ => 0) 0 10, upd (fun _ => 0) 0 11, upd (fun _ => 0) 0 12, upd (fun _ => 0) 0 13, upd (fun _ => 0) 0 14, upd (fun _ => 0) 0 15, upd (fun _ => 0) 0 16, upd (fun _ => 0) 0 17, upd (fun _ => 0) 0 18, upd (fun _ => 0) 0 19, fun _ => 0, fun _ => 0, fun _ => 0, fun _ => 0, fun _ => 0, upd (fun _ => 0) 11 1, fun _ => 0, fun _ => 0, fun _ => 0, fun _ => 0, fun _ => 0, fun _ => 0, fun _ => 0, fun _ => 0, fun _ => 0, fun _ => 0, upd (fun _ => 0) 0 0, upd (fun _ => 0) 0 1, upd (fun _ => 0) 0 2, upd (fun _ => 0) 0 3, upd (fun _ => 0) 0 4, upd (fun _ => 0) 0 5, upd (fun _ => 0) 0 6, upd (fun _ => 0) 0 7, upd (fun _ => 0) 0 8, upd (fun _ => 0) 0 9, upd (fun _ => 0) 0 10, upd (fun _ => 0) 0 11, upd (fun _ => 0) 0 12, upd (fun _ => 0) 0 13, upd (fun _ => 0) 0 14, upd (fun _ => 0) 0 15, upd (fun _ => 0) 0 16, upd (fun _ => 0) 0 17, upd (fun _ => 0) 0 18, upd (fun _ => 0) 0 19, fun _ => 0, fun _ => 0, fun _ => 0, fun _ => 0, fun _ => 0, upd (fun _ => 0) 11 1, fun _ => 0, fun _ => 0, fun _ => 0, fun _ => 0, fun _ => 0, fun _ => 0, fun _ => 0, fun _ => 0, fun _ => 0, fun _ => 0, upd (fun _ => 0) 0 0, upd (fun _ => 0) 0 1, upd (fun _ => 0) 0 2, upd (fun _ => 0) 0 3, upd (fun _ => 0) 0 4, upd (fun _ => 0) 0 5, upd (fun _ => 0) 0 6, upd (fun _ => 0) 0 7, upd (fun _ => 0) 0 8, upd (fun _ => 0) 0 9, upd (fun _ => 0) 0 10, upd (fun _ => 0) 0 11, upd (fun _ => 0) 0 12, upd (fun _ => 0) 0 13, upd (fun _ => 0) 0 14, upd (fun _ => 0) 0 15, upd (fun _ => 0) 0 16, upd (fun _ => 0) 0 17, upd (fun _ => 0) 0 18, upd (fun _ => 0) 0 19, fun _ => 0, fun _ => 0, fun _ => 0, fun _ => 0, fun _ => 0, fun _ => 0, fun _ => 0, fun _ => 0, fun _ => 0, fun _ => 0, fun _ => 0, fun _ => 0, fun _ => 0, fun _ => 0, fun _ => 0, fun _ => 0, fun _ => 0, fun _ => 0, fun _ => 0, fun _ => 0, fun _ => 0, fun _ => 0, fun _ => 0, fun _ => 0, fun _ => 0, fun _ => 0, fun _ => 0, upd (fun _ => 0) 1 1, fun _ => 0, fun _ => 0, fun _ => 0, fun _ => 0, fun _ => 0, fun _ => 0, fun _ => 0, fun _ => 0, fun _ => 0, fun _ => 0, fun _ => 0, fun _ => 0]
def sg0 : MM := fun i => zl.getD i (fun _ => 0)
theorem sg_130 : sg0 130 = upd (fun _ => 0) 1 1 := rfl
theorem r0_z {k : Nat} (h : k ≠ 1) : sg0 130 k = 0 := by rw [sg_130]; simp [upd_at, h]
theorem wf_z {ρ : Nat → Int32} {a : Nat} (h : ρ a = 0) : WF ρ a := by
  intro n hn e
  have : n = 0 := by
    rw [h] at e
    have := congrArg Int32.toInt e
    rw [nI_toInt (by omega)] at this
    simp at this
    omega
  subst this
  exact ⟨fun k hk => absurd hk (by omega), fun q => absurd q (by omega)⟩
theorem tc_z {σ : MM} {t : Nat} {ρ : Nat → Int32} {a : Nat} (h : ρ a = 0) : TC σ t ρ a := by
  intro n hn e k hk
  have : n = 0 := by
    rw [h] at e
    have := congrArg Int32.toInt e
    rw [nI_toInt (by omega)] at this
    simp at this
    omega
  omega
set_option maxRecDepth 100000 in
theorem g_c0 : ∀ k, k < 171 → sg0 (loc 0 k).1 (loc 0 k).2 = sg0 130 k := by decide +kernel
set_option maxRecDepth 100000 in
theorem g_pl : (∀ j, j < 20 → sg0 (0 + 11 + j) 0 = nI j) ∧ (∀ j, j < 20 → sg0 (36 + 11 + j) 0 = nI j) ∧ (∀ j, j < 20 → sg0 (72 + 11 + j) 0 = nI j) := by decide +kernel
theorem GD_0 : GD sg0 := by
  have ir : IR (sg0 130) := ⟨fun k hk => ⟨0, Nat.zero_le _, r0_z (fun e => by subst e; unfold di at hk; omega)⟩, fun p hp => by rw [r0_z (by omega)]; exact Nat.zero_le _, wf_z (r0_z (by omega)), wf_z (r0_z (by omega))⟩
  refine ⟨⟨⟨fun k hk => ?_, tc_z (r0_z (by omega)), tc_z (r0_z (by omega))⟩, ir⟩, ⟨g_pl.1, g_pl.2.1, g_pl.2.2⟩, ⟨rfl, fun h => absurd rfl h⟩, ?_, ?_, ?_⟩
  · rcases hk with h | rfl
    · exact g_c0 k (by omega)
    · decide +kernel
  · intro s hs
    refine ⟨⟨0, Nat.zero_le _, ?_, rfl⟩, ?_, Or.inl rfl, fun k hk => Or.inl ?_⟩
    · rcases (show s = 0 ∨ s = 1 ∨ s = 2 ∨ s = 3 by omega) with rfl | rfl | rfl | rfl <;> rfl
    · rcases (show s = 0 ∨ s = 1 ∨ s = 2 ∨ s = 3 by omega) with rfl | rfl | rfl | rfl <;> rfl
    · rcases (show s = 0 ∨ s = 1 ∨ s = 2 ∨ s = 3 by omega) with rfl | rfl | rfl | rfl <;> rfl
  · intro k _
    rfl
  · exact ⟨0, Nat.zero_le _, rfl, rfl, fun k hk => absurd hk (by omega)⟩

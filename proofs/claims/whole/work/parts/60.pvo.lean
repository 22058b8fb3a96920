theorem FO.go {σ s : MM} (h : FO σ s) : GO σ s := by
  refine ⟨fun i hi _ _ => h i (by unfold JJ at hi; omega) (by unfold JJ at hi; omega) (by unfold JJ at hi; omega), fun j hj => ?_, ?_, ?_, ?_⟩
  all_goals rw [h _ (by omega) (by omega) (by omega)]
theorem FY.go {σ s : MM} (h : FY σ s) : GO σ s := by
  refine ⟨fun i hi _ _ => h.1 i (by unfold JJ at hi; omega) (by unfold JJ at hi; omega) (by unfold JJ at hi; omega), fun j hj => ?_, ?_, h.2.1, h.2.2⟩
  all_goals rw [h.1 _ (by omega) (by omega) (by omega)]
theorem dp_dA {ρ w : Nat → Int32} {a : Nat} : ∀ k, (∀ i, i < k → ρ (a + 1 + i) = w i) → dp ρ a k = dA w k
  | 0, _ => rfl
  | k + 1, h => by rw [dp_s, dA_s, h k (by omega), dp_dA k (fun i hi => h i (by omega))]
theorem loc_36 {k : Nat} (h : k < 170) : (loc 0 k).1 ≠ 3 ∧ (loc 0 k).1 ≠ 6 := by
  unfold loc
  repeat' split
  all_goals (refine ⟨?_, ?_⟩ <;> simp only <;> omega)
theorem bnd_a {u : Nat} (hu : u ≤ 1) : bnd (170 + 121 * u) = 60 := by
  rcases (show u = 0 ∨ u = 1 by omega) with rfl | rfl <;> decide
/-- the row behind a new text -/
def NT (ρ ρ1 : Nat → Int32) (u m : Nat) (w v : Nat → Int32) : Prop := (∀ j, j ≠ 4 → (j < 170 + 121 * u ∨ 170 + 121 * u + 121 ≤ j) → ρ1 j = ρ j) ∧ ρ1 4 = nI 0 ∧ ρ1 (170 + 121 * u) = nI m ∧ ∀ k, k < m → ρ1 (170 + 121 * u + 1 + k) = w k ∧ ρ1 (170 + 121 * u + 61 + k) = v k
theorem NT.ir {ρ ρ1 : Nat → Int32} {u m : Nat} {w v : Nat → Int32} (hu : u ≤ 1) (hm : m ≤ 60) (n : NT ρ ρ1 u m w v) (h : IR ρ) (ho : ∀ k, k < m → okA w v k) (hd : dA w m = 1) : IR ρ1 := by
  obtain ⟨n1, n2, n3, n4⟩ := n
  have own : WF ρ1 (170 + 121 * u) := by
    intro k hk hr
    have e : k = m := nI_inj (by omega) (by omega) (hr.symm.trans n3)
    subst e
    have ed : ∀ i, i ≤ k → dp ρ1 (170 + 121 * u) i = dA w i := fun i hi => dp_dA i (fun j hj => (n4 j (by omega)).1)
    refine ⟨fun i hi => ?_, fun _ => by rw [ed k (Nat.le_refl _), hd]; omega⟩
    have := ho i hi
    unfold okA at this
    unfold okc
    rw [(n4 i hi).1, (n4 i hi).2, ed i (by omega)]
    exact this
  refine ⟨fun k hk => ?_, fun p hp => ?_, ?_, ?_⟩
  · by_cases e4 : k = 4
    · subst e4; exact ⟨0, by omega, n2⟩
    · by_cases ea : k = 170 + 121 * u
      · subst ea; exact ⟨m, by rw [bnd_a hu]; exact hm, n3⟩
      · rw [n1 k e4 (by unfold di at hk; omega)]; exact h.1 k hk
  · rw [n1 _ (by omega) (by omega), n1 2 (by omega) (by omega)]; exact h.2.1 p hp
  · by_cases e : u = 0
    · subst e; exact own
    · exact WF.cg (n1 _ (by omega) (by omega)) (fun i hi => n1 _ (by omega) (by omega)) (fun i hi => n1 _ (by omega) (by omega)) h.2.2.1
  · by_cases e : u = 1
    · subst e; exact own
    · exact WF.cg (n1 _ (by omega) (by omega)) (fun i hi => n1 _ (by omega) (by omega)) (fun i hi => n1 _ (by omega) (by omega)) h.2.2.2
theorem NT.cr {ρ ρ1 : Nat → Int32} {u m : Nat} {w v : Nat → Int32} {σ s : MM} (hu : u ≤ 1) (hm : m ≤ 60) (n : NT ρ ρ1 u m w v) (h : CR 0 σ ρ) (hs : ∀ i k, i < 36 → i ≠ 3 + 3 * u → i ≠ 3 + 3 * u + 1 → ¬ (i = 0 ∧ k = 7) → s i k = σ i k) (h7 : s 0 7 = nI 0) (hl : s (3 + 3 * u) 2 = nI m) (hc : ∀ k, k < m → s (3 + 3 * u + 1) k = cdX (w k) (v k)) : CR 0 s ρ1 := by
  obtain ⟨n1, n2, n3, n4⟩ := n
  have own : TC s (3 + 3 * u) ρ1 (170 + 121 * u) := by
    intro k hk hr i hi
    have e : k = m := nI_inj (by omega) (by omega) (hr.symm.trans n3)
    subst e
    rw [hc i hi, (n4 i hi).1, (n4 i hi).2]
  refine ⟨fun k hk => ?_, ?_, ?_⟩
  · by_cases e4 : k = 4
    · subst e4; exact h7.trans n2.symm
    · by_cases ea : k = 170 + 121 * u
      · rcases (show u = 0 ∨ u = 1 by omega) with rfl | rfl
        · subst ea; exact hl.trans n3.symm
        · subst ea; exact hl.trans n3.symm
      · rw [n1 k e4 (by unfold dm at hk; omega), ← h.1 k hk]
        have q4 : ¬ ((loc 0 k).1 = 0 ∧ (loc 0 k).2 = 7) := fun t => e4 (loc_inj (b := 0) hk (by unfold dm; omega) (Prod.ext t.1 t.2))
        have qj := loc_J (b := 0) hk
        have ql := (loc_lt (b := 0) (k := k)).2
        by_cases k17 : k < 170
        · have q36 := loc_36 k17
          exact hs _ _ (by omega) (by omega) (by omega) q4
        · rcases (show k = 170 ∨ k = 291 by unfold dm at hk; omega) with rfl | rfl
          · exact hs 3 2 (by omega) (by omega) (by omega) (by omega)
          · exact hs 6 2 (by omega) (by omega) (by omega) (by omega)
  · by_cases e : u = 0
    · subst e; exact own
    · intro k hk hr i hi
      rw [n1 170 (by omega) (by omega)] at hr
      rw [n1 _ (by omega) (by omega), n1 _ (by omega) (by omega)]
      exact (hs _ _ (by omega) (by omega) (by omega) (by omega)).trans (h.2.1 k hk hr i hi)
  · by_cases e : u = 1
    · subst e; exact own
    · intro k hk hr i hi
      rw [n1 291 (by omega) (by omega)] at hr
      rw [n1 _ (by omega) (by omega), n1 _ (by omega) (by omega)]
      exact (hs _ _ (by omega) (by omega) (by omega) (by omega)).trans (h.2.2 k hk hr i hi)
theorem cpL {a m : Nat} (ha : a ≤ 291) (hm : m ≤ 60) : ∀ (f k : Nat) (s : MM), k ≤ m → m - k < f → s 129 12 = nI m → ∃ s', itr (fun _ _ _ => none) u_X9_text_117 f (nI a) (nI k) s = some (1, s') ∧ (∀ i, i ≠ 130 → s' i = s i) ∧ (∀ i, k ≤ i → i < m → s' 130 (a + 1 + i) = s 137 i ∧ s' 130 (a + 61 + i) = s 138 i) ∧ (∀ j, (∀ i, k ≤ i → i < m → j ≠ a + 1 + i ∧ j ≠ a + 61 + i) → s' 130 j = s 130 j) := by
  intro f
  induction f with
  | zero => intro k _ _ h; omega
  | succ f ih =>
    intro k s hk hf h12
    rw [itr_s]
    generalize itr (fun _ _ _ => none) u_X9_text_117 f = g at ih ⊢
    unfold u_X9_text_117
    rw [h12]
    by_cases z : m ≤ k
    · rw [if_pos (nI_le z (by omega))]
      exact ⟨s, rfl, fun _ _ => rfl, fun i h1 h2 => by omega, fun _ _ => rfl⟩
    · have e1 : (nI a + (1 : Int32)) + nI k = nI (a + 1 + k) := by rw [k1, nI_add]
      have e2 : (nI a + (61 : Int32)) + nI k = nI (a + 61 + k) := by rw [lit 61, nI_add, nI_add]
      rw [if_neg (nI_ge (by omega) (by omega)), if_neg (ixN (show k < 60 by omega) (by decide)), e1, e2, if_neg (ixN (show a + 1 + k < 412 by omega) (by decide)), lt_eq, if_neg (ixN (show a + 61 + k < 412 by omega) (by decide)), lt_eq, nI_cl (by omega), nI_cl (by omega), nI_cl (by omega), k1, mu_off _ _ (show 138 ≠ 130 by omega)]
      obtain ⟨s', y1, y2, y3, y4⟩ := ih (k + 1) (mu (mu s 130 (a + 1 + k) (s 137 k)) 130 (a + 61 + k) (s 138 k)) (by omega) (by omega) (by rw [mu_off _ _ (by omega), mu_off _ _ (by omega)]; exact h12)
      refine ⟨s', y1, fun i hi => by rw [y2 i hi, mu_off _ _ hi, mu_off _ _ hi], fun i h1 h2 => ?_, fun j hj => ?_⟩
      · by_cases e : i = k
        · subst e
          rw [y4 (a + 1 + i) (fun q hq1 hq2 => by omega), y4 (a + 61 + i) (fun q hq1 hq2 => by omega), mu_at, if_neg (by omega), mu_eq, mu_eq]
          exact ⟨rfl, rfl⟩
        · obtain ⟨x1, x2⟩ := y3 i (by omega) h2
          rw [mu_off _ _ (by omega), mu_off _ _ (by omega)] at x1 x2
          exact ⟨x1, x2⟩
      · have hj0 := hj k (Nat.le_refl _) (by omega)
        rw [y4 j (fun i h1 h2 => hj i (by omega) h2), mu_at, if_neg (fun t => hj0.2 t.2), mu_at, if_neg (fun t => hj0.1 t.2)]
theorem u71f {u p : Nat} {s : MM} (h : s 129 13 = nI p) : u_X9_text_71 (nI u) 1 s = some ((-10 : Int32) - nI p, mu (mu s 129 15 1) 130 4 0) := by
  unfold u_X9_text_71
  rw [if_pos (Or.inr rfl), lt_eq, lt_eq, mu_off _ _ (show 129 ≠ 130 by omega), mu_eq, if_neg n10, mu_at, if_neg (by omega), h]
/-- the text isn't one -/
theorem textF {u p : Nat} {σ σ' : MM} (h : GD σ) (F : FO σ σ') (hx : f_X8_text (nI u) σ = some ((-10 : Int32) - nI p, mu σ' 0 7 0)) (hm : ∀ τ, τ 130 = σ 130 → ∃ τ', f_X9_text (nI u) τ = some ((-10 : Int32) - nI p, mu τ' 130 4 0) ∧ FY τ τ') : SIM (f_X8_text (nI u) σ) (f_X9_text (nI u)) := by
  have r0 : (mu σ' 0 7 0) 130 = σ 130 := by rw [mu_off _ _ (by omega)]; exact F 130 (by omega) (by omega) (by omega)
  obtain ⟨τ', y1, y2⟩ := hm (mu σ' 0 7 0) r0
  have C1 : CR 0 σ' (σ 130) := h.1.1.off (fun i _ hi => F i (by omega) (by omega) (by omega))
  have P1 : PL 0 σ' := fun j hj => by rw [F _ (by omega) (by omega) (by omega)]; exact h.2.1.1 j hj
  refine SIM.mk (σ1 := mu σ' 0 7 0) (σ2 := mu τ' 130 4 0) (ρ1 := upd (σ 130) 4 (nI 0)) h hx y1 (F.go.tr (GO.low (by omega))) (y2.go.tr GO.row) (C1.put (nI 0) (k := 4) (i := 0) (s := 7) (Or.inl (by omega)) (by omega) rfl) (PL.low P1 (by omega)) (fun i hi _ => ?_) ?_ ?_
  · rw [mu_off _ _ (by omega)]; exact y2.1 i (by omega) (by omega) (by omega)
  · rw [mu_row, y2.1 130 (by omega) (by omega) (by omega), r0]; rfl
  · exact h.1.2.put (by omega) (Or.inr ⟨0, by omega, rfl⟩) (h.1.2.2.1.pt _ (by omega) (fun p hp => by omega))
/-- promise 14 -/
theorem op_text {a : Int32} {σ : MM} (h : GD σ) : SIM (f_X8_text a σ) (f_X9_text a) := by
  rcases btw_c a (hi := 1) (n := 1) rfl (by decide) with ⟨u, hu, rfl, h1, h2⟩ | hb
  · obtain ⟨t, ht, e4⟩ := taped_b h.1.2
    obtain ⟨z, z1, z2, z3⟩ : ∃ z : PZ, z.T = (fun k => σ 130 (86 + k)) ∧ z.L = t ∧ z.u = u := ⟨(fun k => σ 130 (86 + k), t, u), rfl, rfl, rfl⟩
    have hz : z.ok := by
      refine ⟨by omega, by omega, fun k hk => ?_⟩
      rw [z1]
      obtain ⟨j, hj, e⟩ := h.1.2.1 (86 + k) (Or.inl ⟨by omega, by omega⟩)
      rw [bnd_t hk] at hj
      exact ⟨j, hj, e⟩
    subst z2
    subst z3
    have t0 : σ 0 7 = nI z.L := h.1.1.taped.trans e4
    obtain ⟨s5, hs5⟩ : ∃ s5, s5 = mu (mu (mu (mu σ 110 2 0) 109 1 0) 109 3 (nI z.L)) 109 4 (nI z.u) := ⟨_, rfl⟩
    have r5 : RP z 0 0 s5 := by
      subst hs5
      refine ⟨?_, ?_, mu_eq _ _ _ _, ?_, fun k hk => ?_⟩
      · rw [mu_at, if_neg (by omega), mu_at, if_neg (by omega), mu_eq]; rfl
      · rw [mu_at, if_neg (by omega), mu_eq]
      · rw [mu_off _ _ (by omega), mu_off _ _ (by omega), mu_off _ _ (by omega), mu_eq]; rfl
      · rw [mu_off _ _ (by omega), mu_off _ _ (by omega), mu_off _ _ (by omega), mu_off _ _ (by omega), z1]; exact h.1.1.t hk
    have f5 : FO σ s5 := by
      subst hs5
      exact (((FO.mu (by omega)).tr (FO.mu (by omega))).tr (FO.mu (by omega))).tr (FO.mu (by omega))
    obtain ⟨σ', p', b1, b2, b3, b4⟩ := readX hz s5 0 0 (by omega) (by omega) r5
    have F := f5.tr b3
    have cls : ∀ r, f_X4_readLevel 50 (nI 0) (nI 0) s5 = some (r, σ') → f_X8_text (nI z.u) σ = bd (if r = 0 then some ((0 : Int32), σ') else if (σ' 109 1) < (σ' 109 3) then some ((0 : Int32), σ') else some ((1 : Int32), σ')) (fun r28 σ29 => lt (mu σ29 0 7 (0 : Int32)) (fun σ31 => if r28 = 0 then some (((-10 : Int32) - (σ31 109 1)), σ31) else bd (f_X6_copyFrom (0 + 3 + 3 * z.u) 110 σ31) (fun r34 σ35 => some ((1 : Int32), σ35)))) := by
      intro r hr
      have e0 : f_X4_read (nI z.L) (nI z.u) σ = if r = 0 then some ((0 : Int32), σ') else if (σ' 109 1) < (σ' 109 3) then some ((0 : Int32), σ') else some ((1 : Int32), σ') := by
        unfold f_X4_read f_X6_clear
        rw [lt_eq, bd_some, lt_eq, if_neg (show ¬ (60 : Int32) < nI z.L from nI_nlt (show z.L ≤ 60 from ht) (by decide)), lt_eq, lt_eq, ← hs5, show f_X4_readLevel 50 (0 : Int32) (0 : Int32) s5 = some (r, σ') from hr, bd_some]
      have e1 : f_X8_text (nI z.u) σ = u_X8_text_42 (0 + 3 + 3 * z.u) (nI z.u) (nI z.L) σ := by
        unfold f_X8_text
        rw [textOf_t hu, bd_some, onO_some, if_pos (kd_t hu), t0]
        rcases (show z.u = 0 ∨ z.u = 1 by omega) with e | e
        · rw [e, if_pos (show nI 0 = 0 from rfl)]; rfl
        · rw [e, if_neg (show ¬ nI 1 = 0 by decide)]; rfl
      rw [e1]
      unfold u_X8_text_42
      rw [e0]
    have ref : ∀ τ, τ 130 = σ 130 → ∃ τ5, RQ z 0 0 0 s5 τ5 ∧ FY τ τ5 ∧ f_X9_text (nI z.u) τ = bd (f_X9_any (f_X9_opens 7) τ5) (fun _ s => if (s 129 15) = 0 then if (s 130 4) ≤ (s 129 13) then u_X9_text_71 (nI z.u) (0 : Int32) s else u_X9_text_71 (nI z.u) (1 : Int32) s else u_X9_text_71 (nI z.u) (1 : Int32) s) := by
      intro τ hτ
      refine ⟨mu (mu (mu (mu (mu τ 129 16 (nI z.u)) 129 12 0) 129 13 0) 129 14 0) 129 15 0, ⟨?_, ?_, ?_, mu_eq _ _ _ _, ?_, ?_, fun k hk => ?_, fun k hk => by omega⟩, ((((FY.mu (by omega)).tr (FY.mu (by omega))).tr (FY.mu (by omega))).tr (FY.mu (by omega))).tr (FY.mu (by omega)), ?_⟩
      · rw [mu_at, if_neg (by omega), mu_at, if_neg (by omega), mu_eq]; rfl
      · rw [mu_at, if_neg (by omega), mu_at, if_neg (by omega), mu_at, if_neg (by omega), mu_eq]; rfl
      · rw [mu_at, if_neg (by omega), mu_eq]; rfl
      · rw [mu_at, if_neg (by omega), mu_at, if_neg (by omega), mu_at, if_neg (by omega), mu_at, if_neg (by omega), mu_eq]
      · rw [mu_off _ _ (by omega), mu_off _ _ (by omega), mu_off _ _ (by omega), mu_off _ _ (by omega), mu_off _ _ (by omega), hτ]; exact e4
      · rw [mu_off _ _ (by omega), mu_off _ _ (by omega), mu_off _ _ (by omega), mu_off _ _ (by omega), mu_off _ _ (by omega), hτ, z1]
      · unfold f_X9_text
        rw [in_t h1 h2, bd_some, if_neg n10]
        simp only [lt_eq]
    rcases b4 with ⟨q', x1, r1, lt1, sl1, t1⟩ | ⟨x1, r1, t1⟩
    · by_cases hl : p' < z.L
      · refine textF (p := p') h F ?_ (fun τ hτ => ?_)
        · rw [cls 1 x1, if_neg n10, r1.1, r1.2.1, if_pos (nI_lt hl (by omega)), bd_some, lt_eq, if_pos rfl, mu_off _ _ (by omega), r1.1]
        · obtain ⟨τ5, y1, y2, y3⟩ := ref τ hτ
          obtain ⟨τ2, w1, w2, w3, w4⟩ := t1 τ5 y1
          refine ⟨mu τ2 129 15 1, ?_, (y2.tr w3).tr (FY.mu (by omega))⟩
          rw [y3, w1, bd_some, w2.2.2.2.1, if_pos rfl, w2.q60.2.2, w2.1, if_neg (nI_ge hl (by omega)), u71f w2.1]
      · have ep : p' = z.L := by omega
        have hq : q' ≤ 60 := by omega
        have ct : 0 + 3 + 3 * z.u = 3 + 3 * z.u := by omega
        obtain ⟨s1, hs1⟩ : ∃ s1, s1 = mu (ma (mu σ' 0 7 0) (3 + 3 * z.u + 1) (va_cpy (σ' 111) ((mu σ' 0 7 0) (3 + 3 * z.u + 1)) 0 0 60)) (3 + 3 * z.u) 2 (nI q') := ⟨_, rfl⟩
        have hx : f_X8_text (nI z.u) σ = some (1, s1) := by
          rw [cls 1 x1, if_neg n10, r1.1, r1.2.1, if_neg (nI_nlt (by omega) (by omega)), bd_some, lt_eq, if_neg n10, ct]
          unfold f_X6_copyFrom
          rw [lt_eq, lt_eq, bd_some, mu_off _ _ (show 110 + 1 ≠ 0 by omega), ma_off _ (show 110 ≠ 3 + 3 * z.u + 1 by omega), mu_off _ _ (show 110 ≠ 0 by omega), r1.2.2.2.1, hs1]
        have o1 : ∀ i, i ≠ 0 → i ≠ 3 + 3 * z.u → i ≠ 3 + 3 * z.u + 1 → s1 i = σ' i := fun i a1 a2 a3 => by rw [hs1, mu_off _ _ a2, ma_off _ a3, mu_off _ _ a1]
        have r130 : s1 130 = σ 130 := by rw [o1 130 (by omega) (by omega) (by omega)]; exact F 130 (by omega) (by omega) (by omega)
        obtain ⟨τ5, y1, y2, y3⟩ := ref s1 r130
        obtain ⟨τ2, w1, w2, w3, w4⟩ := t1 τ5 y1
        have wy := y2.tr w3
        have r2 : τ2 130 = σ 130 := (wy.1 130 (by omega) (by omega) (by omega)).trans r130
        have hd1 : dA (τ2 137) q' = 1 := w4
        obtain ⟨s', c1, c2, c3, c4⟩ := cpL (a := 170 + 121 * z.u) (m := q') (by omega) hq FU 0 (mu (mu (mu τ2 129 15 0) 130 4 0) 130 (170 + 121 * z.u) (nI q')) (by omega) (by rw [FU_eq]; omega) (by rw [mu_off _ _ (by omega), mu_off _ _ (by omega), mu_at, if_neg (by omega)]; exact w2.2.1)
        have hm : f_X9_text (nI z.u) s1 = some (1, s') := by
          rw [y3, w1, bd_some, w2.2.2.2.1, if_pos rfl, w2.q60.2.2, w2.1, if_pos (nI_le (by omega) (by omega))]
          unfold u_X9_text_71
          have ea : (170 : Int32) + ((121 : Int32) * nI z.u) = nI (170 + 121 * z.u) := by rw [lit 121, pk_mul, lit 170, nI_add]
          rw [if_pos (Or.inl rfl), lt_eq, lt_eq, mu_off _ _ (show 129 ≠ 130 by omega), mu_eq, if_pos rfl, ea, if_neg (ixN (by omega) (by decide)), nI_cl (by omega), lt_eq, mu_at, if_neg (by omega), w2.2.1]
          exact c1
        have nt : NT (σ 130) (s' 130) z.u q' (τ2 137) (τ2 138) := by
          have base : ∀ j, (mu (mu (mu τ2 129 15 0) 130 4 0) 130 (170 + 121 * z.u) (nI q')) 130 j = if j = 170 + 121 * z.u then nI q' else if j = 4 then 0 else σ 130 j := by
            intro j
            rw [mu_row, mu_row, mu_off _ _ (by omega), upd_at, upd_at, r2]
          refine ⟨fun j j4 hj => ?_, ?_, ?_, fun k hk => ?_⟩
          · rw [c4 j (fun i hi1 hi2 => by omega), base, if_neg (by omega), if_neg j4]
          · rw [c4 4 (fun i hi1 hi2 => by omega), base, if_neg (by omega), if_pos rfl]; rfl
          · rw [c4 _ (fun i hi1 hi2 => by omega), base, if_pos rfl]
          · obtain ⟨d1, d2⟩ := c3 k (by omega) hk
            rw [mu_off _ _ (by omega), mu_off _ _ (by omega), mu_off _ _ (by omega)] at d1 d2
            exact ⟨d1, d2⟩
        have C1 : CR 0 s1 (s' 130) := by
          refine nt.cr hu hq h.1.1 (fun i k hi a1 a2 a3 => ?_) ?_ ?_ (fun k hk => ?_)
          · rw [hs1, mu_off _ _ a1, ma_off _ a2, mu_at, if_neg a3, F i (by omega) (by omega) (by omega)]
          · rw [hs1, mu_off _ _ (by omega), ma_off _ (by omega), mu_eq]; rfl
          · rw [hs1, mu_eq]
          · rw [hs1, mu_off _ _ (by omega), ma_row]
            unfold va_cpy
            rw [if_pos ⟨by omega, by omega⟩, Nat.zero_add, Nat.sub_zero]
            exact (w2.2.2.2.2.2.2.2 k hk).1
        have I1 : IR (s' 130) := nt.ir hu hq h.1.2 (fun k hk => (w2.2.2.2.2.2.2.2 k hk).2) hd1
        have g1 : GO σ s1 := by
          have ga : GO σ (mu σ' 0 7 0) := F.go.tr (GO.low (by omega))
          have gb : GO (mu σ' 0 7 0) (ma (mu σ' 0 7 0) (3 + 3 * z.u + 1) (va_cpy (σ' 111) ((mu σ' 0 7 0) (3 + 3 * z.u + 1)) 0 0 60)) := by
            refine ⟨fun j _ a1 _ => ma_off _ (by omega), fun j hj => ?_, ?_, ?_, ?_⟩
            all_goals rw [ma_off _ (by omega)]
          rw [hs1]
          exact (ga.tr gb).tr (GO.low (i := 3 + 3 * z.u) (by omega))
        have g2 : GO s1 s' := by
          refine wy.go.tr ?_
          refine ⟨fun i hi _ a2 => ?_, fun j hj => ?_, ?_, ?_, ?_⟩
          · rw [c2 i a2, mu_off _ _ a2, mu_off _ _ a2, mu_off _ _ (by unfold JJ at hi; omega)]
          · rw [c2 _ (by omega), mu_off _ _ (by omega), mu_off _ _ (by omega), mu_off _ _ (by omega)]
          · rw [c2 _ (by omega), mu_off _ _ (by omega), mu_off _ _ (by omega), mu_off _ _ (by omega)]
          · rw [c2 _ (by omega), mu_off _ _ (by omega), mu_off _ _ (by omega), mu_at, if_neg (by omega)]
          · rw [c2 _ (by omega), mu_off _ _ (by omega), mu_off _ _ (by omega), mu_at, if_neg (by omega)]
        have P1 : PL 0 s1 := fun j hj => by
          rw [o1 _ (by omega) (by omega) (by omega), F _ (by omega) (by omega) (by omega)]; exact h.2.1.1 j hj
        refine SIM.mk (r := 1) (σ1 := s1) (σ2 := s') (ρ1 := s' 130) h hx hm g1 g2 C1 P1 (fun i hi _ => ?_) rfl I1
        rw [c2 i (by omega), mu_off _ _ (by omega), mu_off _ _ (by omega), mu_off _ _ (by omega)]
        exact wy.1 i (by omega) (by omega) (by omega)
    · refine textF (p := p') h F ?_ (fun τ hτ => ?_)
      · rw [cls 0 x1, if_pos rfl, bd_some, lt_eq, if_pos rfl, mu_off _ _ (by omega), r1]
      · obtain ⟨τ5, y1, y2, y3⟩ := ref τ hτ
        obtain ⟨τ2, w1, w2, w3⟩ := t1 τ5 y1
        refine ⟨mu τ2 129 15 1, ?_, (y2.tr w3).tr (FY.mu (by omega))⟩
        rw [y3, w1, bd_some, w2.2.1, if_neg n10, u71f w2.1]
  · refine SIM.B h (k := 1) (e := -1000000001) (by omega) (by omega) eB ?_ (fun t ht => ?_)
    · unfold f_X8_text
      rw [textOf_f hb, bd_some, onO_none]
    · unfold f_X9_text
      rw [in_f hb, bd_some, if_pos rfl]

theorem fillL {t : Nat} {v : Int32} : ∀ (f k : Nat) (σ : MM), k ≤ 24 → 24 - k < f → ∃ σ', itr (fun _ _ _ _ _ _ => none) u_J7_fill_53178_5 f t 24 v (nI k) (nI 24) σ = some ((), σ') ∧ (∀ j, k ≤ j → j < 24 → σ' t j = v) ∧ (∀ j, j < k → σ' t j = σ t j) ∧ E1 t σ σ' := by
  intro f
  induction f with
  | zero => intro k _ _ hk; omega
  | succ f ih =>
    intro k σ hk hf
    rw [itr_s]
    generalize itr (fun _ _ _ _ _ _ => none) u_J7_fill_53178_5 f = g at ih ⊢
    unfold u_J7_fill_53178_5
    by_cases z : 24 ≤ k
    · rw [if_pos (nI_le z (by omega))]
      exact ⟨σ, rfl, fun j h1 h2 => by omega, fun _ _ => rfl, E1.rf⟩
    · rw [if_neg (nI_ge (by omega) (by decide)), if_neg (ixN (by omega) (by decide)), nI_cl (by omega), lt_eq, lit 1, nI_add]
      obtain ⟨σ', e1, e2, e3, e4⟩ := ih (k + 1) (mu σ t k v) (by omega) (by omega)
      refine ⟨σ', e1, fun j h1 h2 => ?_, fun j hj => ?_, E1.mu.tr e4⟩
      · by_cases y : j = k
        · subst y; rw [e3 j (by omega), mu_at, if_pos ⟨rfl, rfl⟩]
        · exact e2 j (by omega) h2
      · rw [e3 j (by omega), mu_at, if_neg (by omega)]
theorem newL {q : Nat} (hq : q < 4) : ∀ (f k : Nat) (σ : MM), k ≤ 24 → 24 - k < f → ∃ σ', itr (fun _ _ _ => none) u_X9_sheet_93 f (nI q) (nI k) σ = some (1, σ') ∧ (∀ j, 24 * q + k ≤ j → j < 24 * q + 24 → σ' 136 j = 0) ∧ (∀ j, j < 24 * q + k ∨ 24 * q + 24 ≤ j → σ' 136 j = σ 136 j) ∧ E1 136 σ σ' := by
  intro f
  induction f with
  | zero => intro k _ _ hk; omega
  | succ f ih =>
    intro k σ hk hf
    rw [itr_s]
    generalize itr (fun _ _ _ => none) u_X9_sheet_93 f = g at ih ⊢
    unfold u_X9_sheet_93
    by_cases z : 24 ≤ k
    · rw [if_pos (show (24 : Int32) ≤ nI k from nI_le (a := 24) z (by omega))]
      exact ⟨σ, rfl, fun j h1 h2 => by omega, fun _ _ => rfl, E1.rf⟩
    · obtain ⟨x1, x2, x3⟩ := c24 (k := k) hq (by omega)
      rw [if_neg (show ¬ (24 : Int32) ≤ nI k from nI_ge (show k < 24 by omega) (by decide)), x1, if_neg x2, x3, lt_eq, lit 1, nI_add]
      obtain ⟨σ', e1, e2, e3, e4⟩ := ih (k + 1) (mu σ 136 (24 * q + k) 0) (by omega) (by omega)
      refine ⟨σ', e1, fun j h1 h2 => ?_, fun j hj => ?_, E1.mu.tr e4⟩
      · by_cases y : j = 24 * q + k
        · subst y; rw [e3 _ (by omega), mu_at, if_pos ⟨rfl, rfl⟩]
        · exact e2 j (by omega) h2
      · rw [e3 j (by omega), mu_at, if_neg (by omega)]
theorem renew_eq {q m : Nat} {v : Int32} {σ : MM} (hq : q < 4) (hm : m ≤ 24) : ∃ σ', f_X5_renew (120 + q) v (nI m) σ = some ((), σ') ∧ (∀ j, j < 24 → σ' (124 + q) j = 0) ∧ σ' (120 + q) 1 = v ∧ σ' (120 + q) 2 = nI m ∧ (∀ i, i ≠ 120 + q → i ≠ 124 + q → σ' i = σ i) := by
  obtain ⟨s, e1, e2, -, e4⟩ := fillL (t := 124 + q) (v := 0) FU 0 σ (by omega) (by rw [FU_eq]; omega)
  refine ⟨mu (mu s (120 + q) 1 v) (120 + q) 2 (nI m), ?_, fun j hj => ?_, ?_, ?_, fun i h1 h2 => ?_⟩
  · unfold f_X5_renew
    have e0 : f_J7_fill_53178 (120 + q + 4) 24 0 σ = some ((), s) := by
      rw [show 120 + q + 4 = 124 + q by omega]; exact e1
    rw [e0, bd_some, lt_eq, if_neg (show ¬ (24 : Int32) < nI m from nI_nlt hm (by decide))]
    have hz : (if (0 : Int32) < nI m then nI m else 0) = nI m := by
      rcases Nat.eq_zero_or_pos m with rfl | hp
      · rfl
      · rw [if_pos (show (0 : Int32) < nI m from nI_lt (a := 0) hp (by omega))]
    rw [hz, lt_eq]
  · rw [mu_off _ _ (by omega), mu_off _ _ (by omega)]; exact e2 j (by omega) hj
  · rw [mu_at, if_neg (by omega), mu_at, if_pos ⟨rfl, rfl⟩]
  · rw [mu_at, if_pos ⟨rfl, rfl⟩]
  · rw [mu_off _ _ h1, mu_off _ _ h1]; exact e4 i h2
/-- both make the sheet anew -/
theorem sheetN {q m : Nat} {v c n : Int32} {σ : MM} (h : GD σ) (hq : q < 4) (hm : m ≤ 24) (hv : v = 0 ∨ v = 8 ∨ v = 16 ∨ v = 32) (hc : (if v = 0 then 0 else n) = nI m) {x : Option (Int32 × MM)} {y : MM → Option (Int32 × MM)} (hx : x = bd (f_X5_renew (120 + q) v (nI m) σ) (fun _ s => some (1, s))) (hy : ∀ s, y s = u_X9_sheet_68 (nI q) v n s) : SIM x y := by
  have i4 : ¬ (nI q < 0 ∨ 4 ≤ (nI q).toNatClampNeg) := ixN hq (by decide)
  have c4 : (nI q).toNatClampNeg = q := nI_cl (by omega)
  obtain ⟨s, e1, e2, e3, e4, e5⟩ := renew_eq (v := v) (σ := σ) hq hm
  obtain ⟨t, f1, f2, f3, f4⟩ := newL hq FU 0 (mu (mu s 134 q v) 135 q (nI m)) (by omega) (by rw [FU_eq]; omega)
  refine ⟨1, s, t, by rw [hx, e1, bd_some], ?_, h.sh ?_ ?_⟩
  · rw [hy]
    unfold u_X9_sheet_68
    rw [if_neg i4, c4, lt_eq]
    have e89 : ∀ (a : Int32) (r : MM), u_X9_sheet_89 (nI q) a (nI q) r = itr (fun _ _ _ => none) u_X9_sheet_93 FU (nI q) (nI 0) (mu r 135 q a) := by
      intro a r
      unfold u_X9_sheet_89
      rw [if_neg i4, c4, lt_eq]; rfl
    rw [e89, e89]
    by_cases z : v = 0
    · rw [if_pos z]; rw [if_pos z] at hc; rw [hc]; exact f1
    · rw [if_neg z]; rw [if_neg z] at hc; rw [hc]; exact f1
  · intro i hi
    rw [f4 i (by omega), mu_off _ _ (by omega), mu_off _ _ (by omega)]
    exact e5 i (by omega) (by omega)
  · intro p hp
    obtain ⟨⟨l, hl, m1, m2⟩, b1, b2, b3⟩ := h.2.2.2.1 p hp
    have t120 : t (120 + p) = s (120 + p) := by rw [f4 _ (by omega), mu_off _ _ (by omega), mu_off _ _ (by omega)]
    have t124 : t (124 + p) = s (124 + p) := by rw [f4 _ (by omega), mu_off _ _ (by omega), mu_off _ _ (by omega)]
    have t135 : t 135 p = if p = q then nI m else σ 135 p := by
      rw [f4 _ (by omega), mu_at]
      by_cases z : p = q
      · rw [if_pos ⟨rfl, z⟩, if_pos z]
      · rw [if_neg (by omega), if_neg z, mu_off _ _ (by omega), e5 _ (by omega) (by omega)]
    have t134 : t 134 p = if p = q then v else σ 134 p := by
      rw [f4 _ (by omega), mu_off _ _ (by omega), mu_at]
      by_cases z : p = q
      · rw [if_pos ⟨rfl, z⟩, if_pos z]
      · rw [if_neg (by omega), if_neg z, e5 _ (by omega) (by omega)]
    by_cases z : p = q
    · subst z
      rw [t120, t124, t135, t134, if_pos rfl, if_pos rfl]
      exact ⟨⟨m, hm, e4, rfl⟩, e3, hv, fun k hk => by rw [e2 k hk, f2 _ (by omega) (by omega)]; exact Or.inl rfl⟩
    · rw [t120, t124, t135, t134, if_neg z, if_neg z, e5 _ (by omega) (by omega), e5 _ (by omega) (by omega)]
      refine ⟨⟨l, hl, m1, m2⟩, b1, b2, fun k hk => ?_⟩
      rw [f3 _ (by omega), mu_off _ _ (by omega), mu_off _ _ (by omega), e5 _ (by omega) (by omega)]; exact b3 k hk
/-- promise 26 -/
theorem op_sheet {a v n : Int32} {σ : MM} (h : GD σ) : SIM (f_X8_sheet a v n σ) (f_X9_sheet a v n) := by
  have EB := SE.er (σ := σ) 1 (e := -1000000001) (by omega) (by omega) eB
  rcases arg_c a (n := 4) (by omega) with ⟨q, hq, rfl⟩ | ha
  · by_cases hv : v = 0 ∨ v = 8 ∨ v = 16 ∨ v = 32
    · have d8 : ∀ s, f_X8_sheet (nI q) v n s = u_X8_sheet_41 v n (120 + q) s := by
        intro s
        unfold f_X8_sheet
        rw [sheetOf_t hq, bd_some, onO_some, if_pos (kd_s hq)]
        rcases hv with rfl | rfl | rfl | rfl <;> rfl
      have d9 : ∀ s, f_X9_sheet (nI q) v n s = u_X9_sheet_36 (nI q) v n s := by
        intro s
        unfold f_X9_sheet
        rw [isSheet_t hq, bd_some, if_neg (by decide)]
        rcases hv with rfl | rfl | rfl | rfl <;> rfl
      by_cases z : v = 0
      · subst z
        refine sheetN (q := q) (m := 0) (v := 0) (c := n) (n := n) h hq (by omega) (Or.inl rfl) rfl ?_ (fun s => ?_)
        · rw [d8]; unfold u_X8_sheet_41; rw [if_pos rfl]; rfl
        · rw [d9]; unfold u_X9_sheet_36 u_X9_sheet_51; rw [if_pos (by decide), if_pos (by decide)]
      · have hp : ¬ v ≤ 0 := by rcases hv with rfl | rfl | rfl | rfl <;> first | exact absurd rfl z | decide
        by_cases y : (0 : Int32) ≤ n
        · rcases btw_c n (hi := 24) (n := 24) rfl (by decide) with ⟨m, hm, rfl, b1, b2⟩ | hb
          · refine sheetN (q := q) (m := m) (v := v) (c := 0) (n := nI m) h hq hm hv (if_neg z) ?_ (fun s => ?_)
            · rw [d8]; unfold u_X8_sheet_41; rw [if_neg z, if_pos y, if_pos (show nI m ≤ (24 : Int32) from nI_le hm (by decide))]
            · rw [d9]; unfold u_X9_sheet_36 u_X9_sheet_51; rw [if_neg hp, if_pos y, if_neg hp, if_pos (show nI m ≤ (24 : Int32) from nI_le hm (by decide))]
          · have hb2 : ¬ n ≤ (24 : Int32) := by
              rcases hb with q2 | q2
              · exact absurd y (Int32.not_le.mpr q2)
              · exact Int32.not_le.mpr q2
            refine SIM.se h (EB.to (x' := f_X8_sheet (nI q) v n) (y' := f_X9_sheet (nI q) v n) (fun s g => ?_) (fun s g => ?_))
            · rw [d8]; unfold u_X8_sheet_41; rw [if_neg z, if_pos y, if_neg hb2]
            · rw [d9]; unfold u_X9_sheet_36 u_X9_sheet_51; rw [if_neg hp, if_pos y, if_neg hp, if_neg hb2]
        · refine SIM.se h ((SE.er 3 (e := -1000000003) (by omega) (by omega) eS).to (x' := f_X8_sheet (nI q) v n) (y' := f_X9_sheet (nI q) v n) (fun s g => ?_) (fun s g => ?_))
          · rw [d8]; unfold u_X8_sheet_41; rw [if_neg z, if_neg y]
          · rw [d9]; unfold u_X9_sheet_36; rw [if_neg hp, if_neg y]
    · refine SIM.se h (EB.to (x' := f_X8_sheet (nI q) v n) (y' := f_X9_sheet (nI q) v n) (fun s g => ?_) (fun s g => ?_))
      · unfold f_X8_sheet
        rw [sheetOf_t hq, bd_some, onO_some, if_pos (kd_s hq), if_neg (fun e => hv (Or.inl e)), if_neg (fun e => hv (Or.inr (Or.inl e))), if_neg (fun e => hv (Or.inr (Or.inr (Or.inl e)))), if_neg (fun e => hv (Or.inr (Or.inr (Or.inr e))))]; rfl
      · unfold f_X9_sheet
        rw [isSheet_t hq, bd_some, if_neg (by decide), if_neg (fun e => hv (Or.inl e)), if_neg (fun e => hv (Or.inr (Or.inl e))), if_neg (fun e => hv (Or.inr (Or.inr (Or.inl e)))), if_neg (fun e => hv (Or.inr (Or.inr (Or.inr e))))]; rfl
  · refine SIM.se h (EB.to (x' := f_X8_sheet a v n) (y' := f_X9_sheet a v n) (fun s g => ?_) (fun s g => ?_))
    · unfold f_X8_sheet
      rw [sheetOf_f ha, bd_some, onO_none]; rfl
    · unfold f_X9_sheet
      rw [isSheet_f ha, bd_some, if_pos rfl]; rfl

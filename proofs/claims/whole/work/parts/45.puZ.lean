theorem nonneg_c (v : Int32) : v < 0 ∨ ∃ a, a < 2 ^ 31 ∧ v = nI a := by
  by_cases q : v < 0
  · exact Or.inl q
  · refine Or.inr ?_
    obtain ⟨j, hj, e⟩ := nI_btw (a := v) (n := 2147483647) (by decide) q (fun y => by
      have h1 := Int32.lt_iff_toInt_lt.mp y
      have h2 : (nI 2147483647).toInt = 2147483647 := by decide
      have h3 := Int32.toInt_lt v
      omega)
    exact ⟨j, by omega, e⟩
theorem nI_int {n : Nat} (h : n < 2 ^ 31) : (nI n).toInt = n := Int32.toInt_ofNat_of_lt h
theorem subI {l a : Nat} (hl : l ≤ 24) (ha : a < 2 ^ 31) : (nI l - nI a).toInt = (l : Int) - a := by
  rw [Int32.toInt_sub, nI_int (by omega), nI_int ha, Int.bmod_def]
  split <;> omega
theorem sub_lt {l a m : Nat} (hl : l ≤ 24) (ha : a < 2 ^ 31) (hm : m < 2 ^ 31) : nI l - nI a < nI m ↔ l < a + m := by
  rw [Int32.lt_iff_toInt_lt, subI hl ha, nI_int hm]; omega
theorem nI_ltJ {a b : Nat} (ha : a < 2 ^ 31) (hb : b < 2 ^ 31) : nI a < nI b ↔ a < b := by
  rw [Int32.lt_iff_toInt_lt, nI_int ha, nI_int hb]; omega
theorem holds_eq {q l a m : Nat} {s : MM} (e : s (120 + q) 2 = nI l) (hl : l ≤ 24) (ha : a < 2 ^ 31) (hm : m < 2 ^ 31) : f_X5_holds (120 + q) (nI a) (nI m) s = some (if a + m ≤ l then 1 else 0, s) := by
  unfold f_X5_holds
  rw [if_neg (nI_pos ha), if_neg (nI_pos hm), e]
  by_cases z : l < m
  · rw [if_pos ((nI_ltJ (by omega) hm).mpr z), if_neg (by omega)]
  · rw [if_neg (fun y => z ((nI_ltJ (by omega) hm).mp y))]
    by_cases y : a + m ≤ l
    · rw [if_neg (fun w => by have := (sub_lt hl hm ha).mp w; omega), if_pos y]
    · rw [if_pos ((sub_lt hl hm ha).mpr (by omega)), if_neg y]
theorem holds_n {q : Nat} {v w : Int32} {s : MM} (h : v < 0 ∨ w < 0) : f_X5_holds (120 + q) v w s = some (0, s) := by
  unfold f_X5_holds
  by_cases z : v < 0
  · rw [if_pos z]
  · rw [if_neg z, if_pos (h.resolve_left z)]
def wrt (i j n k e : Nat) : Prop := (i < j ∧ n - k ≤ e) ∨ (j ≤ i ∧ e < k)
theorem moveL {s o i j n : Nat} {ω : Nat → Int32} (hs : s < 4) (ho : o < 4) (hi : i + n ≤ 24) (hj : j + n ≤ 24) : ∀ (f k : Nat) (τ : MM), k ≤ n → n - k < f → (∀ e, e < n → wrt i j n k e → τ 136 (24 * o + j + e) = ω (24 * s + i + e)) → (∀ x, (∀ e, e < n → wrt i j n k e → x ≠ 24 * o + j + e) → τ 136 x = ω x) → ∃ τ', itr (fun _ _ _ _ _ _ _ => none) u_X9_move_28 f (nI s) (nI i) (nI o) (nI j) (nI n) (nI k) τ = some (nI n, τ') ∧ (∀ e, e < n → τ' 136 (24 * o + j + e) = ω (24 * s + i + e)) ∧ (∀ x, (∀ e, e < n → x ≠ 24 * o + j + e) → τ' 136 x = ω x) ∧ E1 136 τ τ' := by
  intro f
  induction f with
  | zero => intro k _ _ hk; omega
  | succ f ih =>
    intro k τ hk hf h1 h2
    rw [itr_s]
    generalize itr (fun _ _ _ _ _ _ _ => none) u_X9_move_28 f = g at ih ⊢
    unfold u_X9_move_28
    by_cases z : n ≤ k
    · rw [if_pos (nI_le z (by omega))]
      have hw : ∀ e, e < n → wrt i j n k e := fun e he => by unfold wrt; omega
      exact ⟨τ, rfl, fun e he => h1 e he (hw e he), fun x hx => h2 x (fun e he _ => hx e he), E1.rf⟩
    · rw [if_neg (nI_ge (by omega) (by omega))]
      have stp : ∀ e, e < n → (i < j → e = n - 1 - k) → (j ≤ i → e = k) → ∃ τ', u_X9_move_53 g (nI s) (nI i) (nI o) (nI j) (nI n) (nI k) (nI e) τ = some (nI n, τ') ∧ (∀ e, e < n → τ' 136 (24 * o + j + e) = ω (24 * s + i + e)) ∧ (∀ x, (∀ e, e < n → x ≠ 24 * o + j + e) → τ' 136 x = ω x) ∧ E1 136 τ τ' := by
        intro e he q1 q2
        unfold u_X9_move_53
        have a1 : ((24 : Int32) * nI s + nI i) + nI e = nI (24 * s + i + e) := by rw [lit 24, pk_mul, nI_add, nI_add]
        have a2 : ((24 : Int32) * nI o + nI j) + nI e = nI (24 * o + j + e) := by rw [lit 24, pk_mul, nI_add, nI_add]
        rw [a1, a2, if_neg (ixN (by omega) (by decide)), if_neg (ixN (by omega) (by decide)), nI_cl (by omega), nI_cl (by omega), lt_eq, lit 1, nI_add]
        have src : τ 136 (24 * s + i + e) = ω (24 * s + i + e) := by
          refine h2 _ (fun e' he' hw => ?_)
          unfold wrt at hw
          omega
        rw [src]
        have p1 : ∀ e', e' < n → wrt i j n (k + 1) e' → (mu τ 136 (24 * o + j + e) (ω (24 * s + i + e))) 136 (24 * o + j + e') = ω (24 * s + i + e') := by
          intro e' he' hw
          rw [mu_at]
          by_cases y : e' = e
          · subst y; rw [if_pos ⟨rfl, rfl⟩]
          · rw [if_neg (by omega)]
            refine h1 e' he' ?_
            unfold wrt at hw ⊢
            omega
        have p2 : ∀ x, (∀ e', e' < n → wrt i j n (k + 1) e' → x ≠ 24 * o + j + e') → (mu τ 136 (24 * o + j + e) (ω (24 * s + i + e))) 136 x = ω x := by
          intro x hx
          rw [mu_at, if_neg (fun y => hx e he (by unfold wrt; omega) y.2)]
          refine h2 x (fun e' he' hw => hx e' he' ?_)
          unfold wrt at hw ⊢
          omega
        obtain ⟨τ', b1, b2, b3, b4⟩ := ih (k + 1) (mu τ 136 (24 * o + j + e) (ω (24 * s + i + e))) (by omega) (by omega) p1 p2
        exact ⟨τ', b1, b2, b3, E1.mu.tr b4⟩
      by_cases y : j ≤ i
      · rw [if_pos (nI_le y (by omega))]
        exact stp k (by omega) (fun q => by omega) (fun _ => rfl)
      · rw [if_neg (nI_ge (by omega) (by omega)), lit 1, nI_sub' (by omega), nI_sub' (by omega)]
        exact stp (n - 1 - k) (by omega) (fun _ => rfl) (fun q => by omega)
theorem nm102 {v : Int32} {s : MM} : u_X9_notMoved_102 v s = some (if v = 0 then -1000000001 else 0, s) := by
  unfold u_X9_notMoved_102; split <;> rfl
/-- promise 28 -/
theorem op_move {a i b j n : Int32} {σ : MM} (h : GD σ) : SIM (f_X8_move a i b j n σ) (f_X9_move a i b j n) := by
  have EB := SE.er (σ := σ) 1 (e := -1000000001) (by omega) (by omega) eB
  rcases arg_c a (n := 4) (by omega) with ⟨s, hs, rfl⟩ | ha
  · rcases arg_c b (n := 4) (by omega) with ⟨o, ho, rfl⟩ | hb
    · have i4 : ¬ (nI s < 0 ∨ 4 ≤ (nI s).toNatClampNeg) := ixN hs (by decide)
      have c4 : (nI s).toNatClampNeg = s := nI_cl (by omega)
      have i5 : ¬ (nI o < 0 ∨ 4 ≤ (nI o).toNatClampNeg) := ixN ho (by decide)
      have c5 : (nI o).toNatClampNeg = o := nI_cl (by omega)
      obtain ⟨ls, hls, hl⟩ := shL h hs
      obtain ⟨lo, hlo, hl'⟩ := shL h ho
      by_cases z : σ 134 s = 0
      · refine SIM.se h ((SE.er 2 (e := -1000000002) (by omega) (by omega) eN).to (x' := f_X8_move (nI s) i (nI o) j n) (y' := f_X9_move (nI s) i (nI o) j n) (fun t g => ?_) (fun t g => ?_))
        · unfold f_X8_move
          rw [sheetOf_t hs, bd_some, onO_some, if_pos (kd_s hs), sheetOf_t ho, bd_some, onO_some, if_pos (kd_s ho), miss_eq, bd_some, (shB h hs g).1, if_pos z, if_neg (by decide)]; rfl
        · unfold f_X9_move f_X9_notMoved
          rw [isSheet_t hs, bd_some, if_neg (by decide), isSheet_t ho, bd_some, if_neg (by decide), if_neg i4, c4, (shB h hs g).2, if_pos z, bd_some, if_neg (by decide)]
      · by_cases z2 : σ 134 o = 0
        · refine SIM.se h ((SE.er 2 (e := -1000000002) (by omega) (by omega) eN).to (x' := f_X8_move (nI s) i (nI o) j n) (y' := f_X9_move (nI s) i (nI o) j n) (fun t g => ?_) (fun t g => ?_))
          · unfold f_X8_move
            rw [sheetOf_t hs, bd_some, onO_some, if_pos (kd_s hs), sheetOf_t ho, bd_some, onO_some, if_pos (kd_s ho), miss_eq, bd_some, (shB h hs g).1, if_neg z, if_pos rfl, miss_eq, bd_some, (shB h ho g).1, if_pos z2, if_neg (by decide)]; rfl
          · unfold f_X9_move f_X9_notMoved
            rw [isSheet_t hs, bd_some, if_neg (by decide), isSheet_t ho, bd_some, if_neg (by decide), if_neg i4, c4, (shB h hs g).2, if_neg z, if_neg i5, c5, (shB h ho g).2, if_pos z2, bd_some, if_neg (by decide)]
        · by_cases z3 : σ 134 s = σ 134 o
          · have d8 : ∀ t, GN σ t → f_X8_move (nI s) i (nI o) j n t = bd (f_X5_holds (120 + s) i n t) (fun r82 σ83 => if r82 = 0 then u_X8_move_97 σ83 else bd (f_X5_holds (120 + o) j n σ83) (fun r89 σ90 => if r89 = 0 then u_X8_move_97 σ90 else if i < 0 then none else if j < 0 then none else if n < 0 then none else if 24 < i.toNatClampNeg + n.toNatClampNeg then none else if 24 < j.toNatClampNeg + n.toNatClampNeg then none else lt (ma σ90 (120 + o + 4) (va_cpy (σ90 (120 + s + 4)) (σ90 (120 + o + 4)) (i.toNatClampNeg) (j.toNatClampNeg) (n.toNatClampNeg))) (fun σ98 => some (n, σ98)))) := by
              intro t g
              unfold f_X8_move
              rw [sheetOf_t hs, bd_some, onO_some, if_pos (kd_s hs), sheetOf_t ho, bd_some, onO_some, if_pos (kd_s ho), miss_eq, bd_some, (shB h hs g).1, if_neg z, if_pos rfl, miss_eq, bd_some, (shB h ho g).1, if_neg z2, if_pos rfl, (shB h hs g).1, if_pos z3]
            have d9 : ∀ t, GN σ t → f_X9_move (nI s) i (nI o) j n t = bd (if n < 0 then u_X9_notMoved_102 (0 : Int32) t else if i < 0 then u_X9_notMoved_102 (0 : Int32) t else if j < 0 then u_X9_notMoved_102 (0 : Int32) t else if (nI ls - i) < n then u_X9_notMoved_102 (0 : Int32) t else if (nI lo - j) < n then u_X9_notMoved_102 (0 : Int32) t else u_X9_notMoved_102 (1 : Int32) t) (fun r14 σ15 => if r14 = 0 then l_X9_move_28 (nI s) i (nI o) j n (0 : Int32) σ15 else bd (f_X9_error r14 σ15) (fun r24 σ25 => some (r24, σ25))) := by
              intro t g
              unfold f_X9_move f_X9_notMoved
              rw [isSheet_t hs, bd_some, if_neg (by decide), isSheet_t ho, bd_some, if_neg (by decide), if_neg i4, c4, (shB h hs g).2, if_neg z, if_neg i5, c5, (shB h ho g).2, if_neg z2, if_pos z3, (hl t g).2, (hl' t g).2]
            have b0 : ∀ t, bd (u_X9_notMoved_102 (0 : Int32) t) (fun r14 σ15 => if r14 = 0 then l_X9_move_28 (nI s) i (nI o) j n (0 : Int32) σ15 else bd (f_X9_error r14 σ15) (fun r24 σ25 => some (r24, σ25))) = bd (f_X9_error (-1000000001) t) (fun r24 σ25 => some (r24, σ25)) := by
              intro t; rw [nm102, if_pos rfl, bd_some, if_neg (by decide)]
            have bad : (n < 0 ∨ i < 0 ∨ j < 0 ∨ (∃ A B M : Nat, A < 2 ^ 31 ∧ B < 2 ^ 31 ∧ M < 2 ^ 31 ∧ i = nI A ∧ j = nI B ∧ n = nI M ∧ (ls < A + M ∨ lo < B + M))) → SIM (f_X8_move (nI s) i (nI o) j n σ) (f_X9_move (nI s) i (nI o) j n) := by
              intro hb
              refine SIM.se h (EB.to (x' := f_X8_move (nI s) i (nI o) j n) (y' := f_X9_move (nI s) i (nI o) j n) (fun t g => ?_) (fun t g => ?_))
              · rw [d8 t g]
                rcases hb with q | q | q | ⟨A, B, M, hA, hB, hM, rfl, rfl, rfl, q⟩
                · rw [holds_n (Or.inr q), bd_some, if_pos rfl]; rfl
                · rw [holds_n (Or.inl q), bd_some, if_pos rfl]; rfl
                · rcases nonneg_c i with q2 | ⟨A, hA, rfl⟩
                  · rw [holds_n (Or.inl q2), bd_some, if_pos rfl]; rfl
                  · rcases nonneg_c n with q3 | ⟨M, hM, rfl⟩
                    · rw [holds_n (Or.inr q3), bd_some, if_pos rfl]; rfl
                    · rw [holds_eq (hl t g).1 hls hA hM, bd_some]
                      by_cases y : A + M ≤ ls
                      · rw [if_pos y, if_neg (by decide), holds_n (Or.inl q), bd_some, if_pos rfl]; rfl
                      · rw [if_neg y, if_pos rfl]; rfl
                · rw [holds_eq (hl t g).1 hls hA hM, bd_some]
                  by_cases y : A + M ≤ ls
                  · rw [if_pos y, if_neg (by decide), holds_eq (hl' t g).1 hlo hB hM, bd_some, if_neg (show ¬ B + M ≤ lo by omega), if_pos rfl]; rfl
                  · rw [if_neg y, if_pos rfl]; rfl
              · rw [d9 t g]
                by_cases y1 : n < 0
                · rw [if_pos y1, b0]
                · rw [if_neg y1]
                  by_cases y2 : i < 0
                  · rw [if_pos y2, b0]
                  · rw [if_neg y2]
                    by_cases y3 : j < 0
                    · rw [if_pos y3, b0]
                    · rw [if_neg y3]
                      rcases hb with q | q | q | ⟨A, B, M, hA, hB, hM, rfl, rfl, rfl, q⟩
                      · exact absurd q y1
                      · exact absurd q y2
                      · exact absurd q y3
                      · by_cases y4 : ls < A + M
                        · rw [if_pos ((sub_lt hls hA hM).mpr y4), b0]
                        · rw [if_neg (fun w => y4 ((sub_lt hls hA hM).mp w)), if_pos ((sub_lt hlo hB hM).mpr (by omega)), b0]
            rcases nonneg_c n with q | ⟨M, hM, rfl⟩
            · exact bad (Or.inl q)
            rcases nonneg_c i with q | ⟨A, hA, rfl⟩
            · exact bad (Or.inr (Or.inl q))
            rcases nonneg_c j with q | ⟨B, hB, rfl⟩
            · exact bad (Or.inr (Or.inr (Or.inl q)))
            by_cases y : ls < A + M ∨ lo < B + M
            · exact bad (Or.inr (Or.inr (Or.inr ⟨A, B, M, hA, hB, hM, rfl, rfl, rfl, y⟩)))
            have y1 : A + M ≤ ls := by omega
            have y2 : B + M ≤ lo := by omega
            have x8 : f_X8_move (nI s) (nI A) (nI o) (nI B) (nI M) σ = some (nI M, ma σ (124 + o) (va_cpy (σ (124 + s)) (σ (124 + o)) A B M)) := by
              rw [d8 σ GN.rf, holds_eq (hl σ GN.rf).1 hls hA hM, bd_some, if_pos y1, if_neg (by decide), holds_eq (hl' σ GN.rf).1 hlo hB hM, bd_some, if_pos y2, if_neg (by decide), if_neg (nI_pos hA), if_neg (nI_pos hB), if_neg (nI_pos hM), nI_cl hA, nI_cl hB, nI_cl hM, if_neg (by omega), if_neg (by omega), lt_eq, show 120 + o + 4 = 124 + o by omega, show 120 + s + 4 = 124 + s by omega]
            have g1 : GS σ (ma σ (124 + o) (va_cpy (σ (124 + s)) (σ (124 + o)) A B M)) := fun x hx => ma_off _ (by omega)
            have m1 : ∀ x, x ≠ 124 + o → (ma σ (124 + o) (va_cpy (σ (124 + s)) (σ (124 + o)) A B M)) x = σ x := fun x hx => ma_off _ hx
            have m2 : (ma σ (124 + o) (va_cpy (σ (124 + s)) (σ (124 + o)) A B M)) (124 + o) = va_cpy (σ (124 + s)) (σ (124 + o)) A B M := ma_row _ _ _
            generalize ma σ (124 + o) (va_cpy (σ (124 + s)) (σ (124 + o)) A B M) = σ1 at x8 g1 m1 m2
            obtain ⟨σ2, w1, w2, w3, w4⟩ := moveL (s := s) (o := o) (i := A) (j := B) (n := M) (ω := σ1 136) hs ho (by omega) (by omega) FU 0 σ1 (by omega) (by rw [FU_eq]; omega) (fun e he hw => by unfold wrt at hw; omega) (fun x _ => rfl)
            have x9 : f_X9_move (nI s) (nI A) (nI o) (nI B) (nI M) σ1 = some (nI M, σ2) := by
              unfold f_X9_move f_X9_notMoved
              rw [isSheet_t hs, bd_some, if_neg (by decide), isSheet_t ho, bd_some, if_neg (by decide), if_neg i4, c4, m1 134 (by omega), if_neg z, if_neg i5, c5, if_neg z2, if_pos z3, m1 135 (by omega), (hl σ GN.rf).2, (hl' σ GN.rf).2, if_neg (nI_pos hM), if_neg (nI_pos hA), if_neg (nI_pos hB), if_neg (fun w => by have := (sub_lt hls hA hM).mp w; omega), if_neg (fun w => by have := (sub_lt hlo hB hM).mp w; omega), nm102, if_neg (by decide), bd_some, if_pos rfl]
              exact w1
            refine ⟨nI M, σ1, σ2, x8, x9, h.sh (g1.tr (GS.e1 w4 (by omega))) ?_⟩
            intro p hp
            obtain ⟨⟨l, hl0, p1, p2⟩, b1, b2, b3⟩ := h.2.2.2.1 p hp
            rw [w4 (120 + p) (by omega), w4 135 (by omega), w4 134 (by omega), w4 (124 + p) (by omega), m1 (120 + p) (by omega), m1 135 (by omega), m1 134 (by omega)]
            refine ⟨⟨l, hl0, p1, p2⟩, b1, b2, fun k hk => ?_⟩
            have r136 : σ1 136 = σ 136 := m1 136 (by omega)
            by_cases c : p = o
            · subst c
              rw [m2]
              unfold va_cpy
              by_cases d : B ≤ k ∧ k < B + M
              · rw [if_pos d]
                have := w2 (k - B) (by omega)
                rw [show 24 * p + B + (k - B) = 24 * p + k by omega, r136, show 24 * s + A + (k - B) = 24 * s + (A + (k - B)) by omega] at this
                rw [this]
                exact (h.2.2.2.1 s hs).2.2.2 _ (by omega)
              · rw [if_neg d, w3 _ (fun e he => by omega), r136]
                exact b3 k hk
            · rw [m1 _ (by omega), w3 _ (fun e he => by omega), r136]
              exact b3 k hk
          · refine SIM.se h ((SE.er 5 (e := -1000000005) (by omega) (by omega) eK).to (x' := f_X8_move (nI s) i (nI o) j n) (y' := f_X9_move (nI s) i (nI o) j n) (fun t g => ?_) (fun t g => ?_))
            · unfold f_X8_move
              rw [sheetOf_t hs, bd_some, onO_some, if_pos (kd_s hs), sheetOf_t ho, bd_some, onO_some, if_pos (kd_s ho), miss_eq, bd_some, (shB h hs g).1, if_neg z, if_pos rfl, miss_eq, bd_some, (shB h ho g).1, if_neg z2, if_pos rfl, (shB h hs g).1, if_neg z3]
            · unfold f_X9_move f_X9_notMoved
              rw [isSheet_t hs, bd_some, if_neg (by decide), isSheet_t ho, bd_some, if_neg (by decide), if_neg i4, c4, (shB h hs g).2, if_neg z, if_neg i5, c5, (shB h ho g).2, if_neg z2, if_neg z3, bd_some, if_neg (by decide)]
    · refine SIM.se h (EB.to (x' := f_X8_move (nI s) i b j n) (y' := f_X9_move (nI s) i b j n) (fun t g => ?_) (fun t g => ?_))
      · unfold f_X8_move
        rw [sheetOf_t hs, bd_some, onO_some, if_pos (kd_s hs), sheetOf_f hb, bd_some, onO_none]; rfl
      · unfold f_X9_move f_X9_notMoved
        rw [isSheet_t hs, bd_some, if_neg (by decide), isSheet_f hb, bd_some, if_pos rfl, bd_some, if_neg (by decide)]
  · refine SIM.se h (EB.to (x' := f_X8_move a i b j n) (y' := f_X9_move a i b j n) (fun t g => ?_) (fun t g => ?_))
    · unfold f_X8_move
      rw [sheetOf_f ha, bd_some, onO_none]
      rcases arg_c b (n := 4) (by omega) with ⟨q, hq, rfl⟩ | hb
      · rw [sheetOf_t hq, bd_some, onO_some, if_pos (kd_s hq)]; rfl
      · rw [sheetOf_f hb, bd_some, onO_none]; rfl
    · unfold f_X9_move f_X9_notMoved
      rw [isSheet_f ha, bd_some, if_pos rfl, bd_some, if_neg (by decide)]

def TW (s s' : MM) : Prop := ∀ i, ¬ JK i → i ≠ 141 → s' i = s i
theorem TW.rf {s : MM} : TW s s := fun _ _ _ => rfl
theorem TW.tr {s t u : MM} (h : TW s t) (h2 : TW t u) : TW s u := fun i a b => (h2 i a b).trans (h i a b)
theorem JE.tw {s t : MM} (h : JE s t) : TW s t := fun i a _ => h i a
theorem TW.mu {s : MM} {k : Nat} {v : Int32} : TW s (mu s 141 k v) := fun _ _ h => mu_off _ _ h
theorem TW.ge {s t : MM} (h : TW s t) : GE s t := by
  refine ⟨fun i hi => h i (fun e => hi (Or.inl e)) (by unfold JJ at hi; omega), fun j hj => ?_, ?_, ?_, ?_⟩
  all_goals rw [h _ (by unfold JK; omega) (by omega)]
theorem fw17 {ρ : Nat → Int32} {n a w : Nat} (k2 : Int32 → Int32 → MM → Option (Unit × MM)) (hI : IR ρ) (e2 : ρ 2 = nI n) (hn : n ≤ 20) (hw : w < 100) : ∀ (f i : Nat) (s : MM), a + i ≤ n → n - (a + i) < f → s 130 = ρ → s 141 w = wS ρ (nI w) a i →
    ∃ s', itr (fun _ _ _ _ => none) (u_X9_findWhom_17 k2) f (nI a) (nI w) (nI (a + i)) s = k2 (nI a) (nI (w + 1)) s' ∧ TW s s' ∧ s' 141 w = wS ρ (nI w) a (n - a) ∧ ∀ v, v ≠ w → s' 141 v = s 141 v := by
  intro f
  induction f with
  | zero => intro i _ hi; omega
  | succ f ih =>
    intro i s hi hf h130 h141
    rw [itr_s]
    generalize itr (fun _ _ _ _ => none) (u_X9_findWhom_17 k2) f = g at ih ⊢
    unfold u_X9_findWhom_17
    rw [h130, e2]
    by_cases z : n ≤ a + i
    · rw [if_pos (nI_le z (by omega)), k1, show n - a = i by omega]
      exact ⟨s, rfl, TW.rf, h141, fun _ _ => rfl⟩
    · obtain ⟨s1, x1, j1⟩ := cont9 (σ := s) (s := a + i) (w := nI w) (by rw [h130]; exact hI) (by omega)
      rw [h130] at x1
      rw [if_neg (nI_ge (by omega) (by omega)), if_neg (ixN hw (by decide)), nI_cl (by omega), x1, bd_some, h141]
      have go : ∀ v : Int32, wS ρ (nI w) a i ||| v = wS ρ (nI w) a (i + 1) → ∃ s', u_X9_findWhom_50 g (nI a) (nI w) (nI (a + i)) v (wS ρ (nI w) a i) (nI w) s1 = k2 (nI a) (nI (w + 1)) s' ∧ TW s s' ∧ s' 141 w = wS ρ (nI w) a (n - a) ∧ ∀ v, v ≠ w → s' 141 v = s 141 v := by
        intro v hv
        unfold u_X9_findWhom_50
        rw [if_neg (ixN hw (by decide)), nI_cl (by omega), lt_eq, hv, k1]
        obtain ⟨s', y1, y2, y3, y4⟩ := ih (i + 1) (mu s1 141 w (wS ρ (nI w) a (i + 1))) (by omega) (by omega) (by rw [mu_off _ _ (by omega), j1 130 (by unfold JK; omega)]; exact h130) (by rw [mu_eq])
        refine ⟨s', y1, (j1.tw.tr TW.mu).tr y2, y3, fun u hu => ?_⟩
        rw [y4 u hu, mu_at, if_neg (fun q => hu q.2), j1 141 (by unfold JK; omega)]
      by_cases q : contP ρ (a + i) (nI w) = 0
      · rw [if_pos q]
        exact go 0 (by rw [Int32.or_zero]; exact (if_pos q).symm)
      · rw [if_neg q]
        exact go _ (if_neg q).symm
theorem fw2 {ρ : Nat → Int32} {n a : Nat} (hI : IR ρ) (e2 : ρ 2 = nI n) (hn : n ≤ 20) (ha : a ≤ n) : ∀ (f w : Nat) (s : MM), w ≤ 100 → 100 - w < f → s 130 = ρ → (∀ v, v < w → s 141 v = wS ρ (nI v) a (n - a)) →
    ∃ s', itr (fun _ _ _ => none) u_X9_findWhom_2 f (nI a) (nI w) s = some ((), s') ∧ TW s s' ∧ ∀ v, v < 100 → s' 141 v = wS ρ (nI v) a (n - a) := by
  intro f
  induction f with
  | zero => intro i _ hi; omega
  | succ f ih =>
    intro w s hw hf h130 h141
    rw [itr_s]
    generalize itr (fun _ _ _ => none) u_X9_findWhom_2 f = g at ih ⊢
    unfold u_X9_findWhom_2
    by_cases z : 100 ≤ w
    · rw [if_pos (show (100 : Int32) ≤ nI w from nI_le (a := 100) z (by omega))]
      exact ⟨s, rfl, TW.rf, fun v hv => h141 v (by omega)⟩
    · rw [if_neg (show ¬ (100 : Int32) ≤ nI w from nI_ge (show w < 100 by omega) (by decide)), if_neg (ixN (by omega) (by decide)), nI_cl (by omega), lt_eq]
      obtain ⟨s1, x1, x2, x3, x4⟩ := fw17 (a := a) (w := w) g hI e2 hn (by omega) FU 0 (mu s 141 w 0) (by omega) (by rw [FU_eq]; omega) (by rw [mu_off _ _ (by omega)]; exact h130) (by rw [mu_eq]; rfl)
      have x1' : l_X9_findWhom_17 g (nI a) (nI w) (nI a) (mu s 141 w 0) = g (nI a) (nI (w + 1)) s1 := x1
      rw [x1']
      obtain ⟨s', y1, y2, y3⟩ := ih (w + 1) s1 (by omega) (by omega) (by rw [x2 130 (by unfold JK; omega) (by omega), mu_off _ _ (by omega)]; exact h130) (fun v hv => by
        by_cases e : v = w
        · subst e; exact x3
        · rw [x4 v e, mu_at, if_neg (fun q => e q.2)]; exact h141 v (by omega))
      exact ⟨s', y1, (TW.mu.tr x2).tr y2, y3⟩
theorem fwF {ρ : Nat → Int32} {n a : Nat} {s : MM} (hI : IR ρ) (e2 : ρ 2 = nI n) (hn : n ≤ 20) (ha : a ≤ n) (h130 : s 130 = ρ) : ∃ s', f_X9_findWhom (nI a) s = some ((), s') ∧ TW s s' ∧ ∀ v, v < 100 → s' 141 v = wS ρ (nI v) a (n - a) := fw2 hI e2 hn ha FU 0 s (by omega) (by rw [FU_eq]; omega) h130 (fun v hv => by omega)
def wa (m v a b c : Int32) : Int32 := if 0 ≤ v then (if v < m then (if v = 0 then a else if v = 1 then b else c) else -1) else m
theorem wa_eq {m v a b c : Int32} {s : MM} : f_X9_wordAt m v a b c s = some (wa m v a b c, s) := by
  unfold f_X9_wordAt wa
  repeat' split
  all_goals first | rfl | contradiction
theorem sol1 {W : Nat → Int32} {A h : Int32} {k : Nat} (hk : k < 100) : ((h ||| W k) = A → sol W A 1 h k = some [k]) ∧ (¬ (h ||| W k) = A → sol W A 1 h k = sol W A 1 h (k + 1)) :=
  ⟨fun e => sol_hit hk (by unfold sol; rw [if_pos e]), fun e => sol_miss hk (by unfold sol; rw [if_neg e])⟩
/-- the reference's loops -/
theorem r68 {W : Nat → Int32} {A v : Int32} {s : MM} (hs : ∀ w, w < 100 → s 141 w = W w) : ∀ (f k : Nat), k ≤ 100 → 100 - k < f → (∀ l, sol W A 1 0 k = some l → itr (fun _ _ _ _ => none) u_X9_fewest_68 f v A (nI k) s = some (wa 1 v (nI (l.getD 0 0)) 0 0, s)) ∧ (sol W A 1 0 k = none → itr (fun _ _ _ _ => none) u_X9_fewest_68 f v A (nI k) s = l_X9_fewest_107 v A 0 s) := by
  intro f
  induction f with
  | zero => intro k _ h; omega
  | succ f ih =>
    intro k hk hf
    rw [itr_s]
    generalize itr (fun _ _ _ _ => none) u_X9_fewest_68 f = g at ih ⊢
    unfold u_X9_fewest_68
    by_cases z : 100 ≤ k
    · rw [if_pos (show (100 : Int32) ≤ nI k from nI_le (a := 100) z (by omega)), sol_end z]
      exact ⟨fun l h => by simp at h, fun _ => rfl⟩
    · rw [if_neg (show ¬ (100 : Int32) ≤ nI k from nI_ge (show k < 100 by omega) (by decide)), if_neg (ixN (by omega) (by decide)), nI_cl (by omega), hs k (by omega), wa_eq, bd_some, k1]
      obtain ⟨t1, t2⟩ := sol1 (W := W) (A := A) (h := 0) (k := k) (by omega)
      rw [Int32.zero_or] at t1 t2
      by_cases e : W k = A
      · rw [if_pos e, t1 e]
        exact ⟨fun l h => by rw [← Option.some.inj h]; rfl, fun h => by simp at h⟩
      · rw [if_neg e, t2 e]
        exact ih (k + 1) (by omega) (by omega)
theorem r120 {W : Nat → Int32} {A v : Int32} {s : MM} {a : Nat} (ha : a < 100) (k107 : Int32 → Int32 → Int32 → MM → Option (Int32 × MM)) (hs : ∀ w, w < 100 → s 141 w = W w) : ∀ (f k : Nat), k ≤ 100 → 100 - k < f → (∀ l, sol W A 1 (0 ||| W a) k = some l → itr (fun _ _ _ _ _ => none) (u_X9_fewest_120 k107) f v A (nI a) (nI k) s = some (wa 2 v (nI a) (nI (l.getD 0 0)) 0, s)) ∧ (sol W A 1 (0 ||| W a) k = none → itr (fun _ _ _ _ _ => none) (u_X9_fewest_120 k107) f v A (nI a) (nI k) s = k107 v A (nI (a + 1)) s) := by
  intro f
  induction f with
  | zero => intro k _ h; omega
  | succ f ih =>
    intro k hk hf
    rw [itr_s]
    generalize itr (fun _ _ _ _ _ => none) (u_X9_fewest_120 k107) f = g at ih ⊢
    unfold u_X9_fewest_120
    by_cases z : 100 ≤ k
    · rw [if_pos (show (100 : Int32) ≤ nI k from nI_le (a := 100) z (by omega)), sol_end z, k1]
      exact ⟨fun l h => by simp at h, fun _ => rfl⟩
    · rw [if_neg (show ¬ (100 : Int32) ≤ nI k from nI_ge (show k < 100 by omega) (by decide)), if_neg (ixN ha (by decide)), if_neg (ixN (by omega) (by decide)), nI_cl (by omega), nI_cl (by omega), hs k (by omega), hs a ha, wa_eq, bd_some, k1]
      obtain ⟨t1, t2⟩ := sol1 (W := W) (A := A) (h := 0 ||| W a) (k := k) (by omega)
      rw [Int32.zero_or] at t1 t2 ih ⊢
      by_cases e : (W a ||| W k) = A
      · rw [if_pos e, t1 e]
        exact ⟨fun l h => by rw [← Option.some.inj h]; rfl, fun h => by simp at h⟩
      · rw [if_neg e, t2 e]
        exact ih (k + 1) (by omega) (by omega)
theorem r107 {W : Nat → Int32} {A v : Int32} {s : MM} (hs : ∀ w, w < 100 → s 141 w = W w) : ∀ (f k : Nat), k ≤ 100 → 100 - k < f → (∀ l, sol W A 2 0 k = some l → itr (fun _ _ _ _ => none) u_X9_fewest_107 f v A (nI k) s = some (wa 2 v (nI (l.getD 0 0)) (nI (l.getD 1 0)) 0, s)) ∧ (sol W A 2 0 k = none → itr (fun _ _ _ _ => none) u_X9_fewest_107 f v A (nI k) s = l_X9_fewest_174 v A 0 s) := by
  intro f
  induction f with
  | zero => intro k _ h; omega
  | succ f ih =>
    intro k hk hf
    rw [itr_s]
    generalize itr (fun _ _ _ _ => none) u_X9_fewest_107 f = g at ih ⊢
    unfold u_X9_fewest_107
    by_cases z : 100 ≤ k
    · rw [if_pos (show (100 : Int32) ≤ nI k from nI_le (a := 100) z (by omega)), sol_end z]
      exact ⟨fun l h => by simp at h, fun _ => rfl⟩
    · rw [if_neg (show ¬ (100 : Int32) ≤ nI k from nI_ge (show k < 100 by omega) (by decide)), k1]
      obtain ⟨t1, t2⟩ := r120 (W := W) (A := A) (v := v) (s := s) (a := k) (by omega) g hs FU (k + 1) (by omega) (by rw [FU_eq]; omega)
      have el : l_X9_fewest_120 g v A (nI k) (nI (k + 1)) s = itr (fun _ _ _ _ _ => none) (u_X9_fewest_120 g) FU v A (nI k) (nI (k + 1)) s := rfl
      rw [el]
      cases e : sol W A 1 (0 ||| W k) (k + 1) with
      | some l =>
        rw [t1 l e, sol_hit (by omega) e]
        exact ⟨fun l h => by rw [← Option.some.inj h]; rfl, fun h => by simp at h⟩
      | none =>
        rw [t2 e, sol_miss (by omega) e]
        exact ih (k + 1) (by omega) (by omega)
theorem r200 {W : Nat → Int32} {A v : Int32} {s : MM} {a b : Nat} (ha : a < 100) (hb : b < 100) (k187 : Int32 → Int32 → Int32 → Int32 → MM → Option (Int32 × MM)) (hs : ∀ w, w < 100 → s 141 w = W w) : ∀ (f k : Nat), k ≤ 100 → 100 - k < f → (∀ l, sol W A 1 ((0 ||| W a) ||| W b) k = some l → itr (fun _ _ _ _ _ _ => none) (u_X9_fewest_200 k187) f v A (nI a) (nI b) (nI k) s = some (wa 3 v (nI a) (nI b) (nI (l.getD 0 0)), s)) ∧ (sol W A 1 ((0 ||| W a) ||| W b) k = none → itr (fun _ _ _ _ _ _ => none) (u_X9_fewest_200 k187) f v A (nI a) (nI b) (nI k) s = k187 v A (nI a) (nI (b + 1)) s) := by
  intro f
  induction f with
  | zero => intro k _ h; omega
  | succ f ih =>
    intro k hk hf
    rw [itr_s]
    generalize itr (fun _ _ _ _ _ _ => none) (u_X9_fewest_200 k187) f = g at ih ⊢
    unfold u_X9_fewest_200
    by_cases z : 100 ≤ k
    · rw [if_pos (show (100 : Int32) ≤ nI k from nI_le (a := 100) z (by omega)), sol_end z, k1]
      exact ⟨fun l h => by simp at h, fun _ => rfl⟩
    · rw [if_neg (show ¬ (100 : Int32) ≤ nI k from nI_ge (show k < 100 by omega) (by decide)), if_neg (ixN ha (by decide)), if_neg (ixN hb (by decide)), if_neg (ixN (by omega) (by decide)), nI_cl (by omega), nI_cl (by omega), nI_cl (by omega), hs k (by omega), hs a ha, hs b hb, wa_eq, bd_some, k1]
      obtain ⟨t1, t2⟩ := sol1 (W := W) (A := A) (h := (0 ||| W a) ||| W b) (k := k) (by omega)
      rw [Int32.zero_or] at t1 t2 ih ⊢
      by_cases e : ((W a ||| W b) ||| W k) = A
      · rw [if_pos e, t1 e]
        exact ⟨fun l h => by rw [← Option.some.inj h]; rfl, fun h => by simp at h⟩
      · rw [if_neg e, t2 e]
        exact ih (k + 1) (by omega) (by omega)
theorem r187 {W : Nat → Int32} {A v : Int32} {s : MM} {a : Nat} (ha : a < 100) (k174 : Int32 → Int32 → Int32 → MM → Option (Int32 × MM)) (hs : ∀ w, w < 100 → s 141 w = W w) : ∀ (f k : Nat), k ≤ 100 → 100 - k < f → (∀ l, sol W A 2 (0 ||| W a) k = some l → itr (fun _ _ _ _ _ => none) (u_X9_fewest_187 k174) f v A (nI a) (nI k) s = some (wa 3 v (nI a) (nI (l.getD 0 0)) (nI (l.getD 1 0)), s)) ∧ (sol W A 2 (0 ||| W a) k = none → itr (fun _ _ _ _ _ => none) (u_X9_fewest_187 k174) f v A (nI a) (nI k) s = k174 v A (nI (a + 1)) s) := by
  intro f
  induction f with
  | zero => intro k _ h; omega
  | succ f ih =>
    intro k hk hf
    rw [itr_s]
    generalize itr (fun _ _ _ _ _ => none) (u_X9_fewest_187 k174) f = g at ih ⊢
    unfold u_X9_fewest_187
    by_cases z : 100 ≤ k
    · rw [if_pos (show (100 : Int32) ≤ nI k from nI_le (a := 100) z (by omega)), sol_end z, k1]
      exact ⟨fun l h => by simp at h, fun _ => rfl⟩
    · rw [if_neg (show ¬ (100 : Int32) ≤ nI k from nI_ge (show k < 100 by omega) (by decide)), k1]
      obtain ⟨t1, t2⟩ := r200 (W := W) (A := A) (v := v) (s := s) (a := a) (b := k) ha (by omega) g hs FU (k + 1) (by omega) (by rw [FU_eq]; omega)
      have el : l_X9_fewest_200 g v A (nI a) (nI k) (nI (k + 1)) s = itr (fun _ _ _ _ _ _ => none) (u_X9_fewest_200 g) FU v A (nI a) (nI k) (nI (k + 1)) s := rfl
      rw [el]
      cases e : sol W A 1 ((0 ||| W a) ||| W k) (k + 1) with
      | some l =>
        rw [t1 l e, sol_hit (by omega) e]
        exact ⟨fun l h => by rw [← Option.some.inj h]; rfl, fun h => by simp at h⟩
      | none =>
        rw [t2 e, sol_miss (by omega) e]
        exact ih (k + 1) (by omega) (by omega)
theorem r174 {W : Nat → Int32} {A v : Int32} {s : MM} (hs : ∀ w, w < 100 → s 141 w = W w) : ∀ (f k : Nat), k ≤ 100 → 100 - k < f → (∀ l, sol W A 3 0 k = some l → itr (fun _ _ _ _ => none) u_X9_fewest_174 f v A (nI k) s = some (wa 3 v (nI (l.getD 0 0)) (nI (l.getD 1 0)) (nI (l.getD 2 0)), s)) ∧ (sol W A 3 0 k = none → itr (fun _ _ _ _ => none) u_X9_fewest_174 f v A (nI k) s = bd (f_X9_error (-1000000002 : Int32) s) (fun r t => some (r, t))) := by
  intro f
  induction f with
  | zero => intro k _ h; omega
  | succ f ih =>
    intro k hk hf
    rw [itr_s]
    generalize itr (fun _ _ _ _ => none) u_X9_fewest_174 f = g at ih ⊢
    unfold u_X9_fewest_174
    by_cases z : 100 ≤ k
    · rw [if_pos (show (100 : Int32) ≤ nI k from nI_le (a := 100) z (by omega)), sol_end z]
      exact ⟨fun l h => by simp at h, fun _ => rfl⟩
    · rw [if_neg (show ¬ (100 : Int32) ≤ nI k from nI_ge (show k < 100 by omega) (by decide)), k1]
      obtain ⟨t1, t2⟩ := r187 (W := W) (A := A) (v := v) (s := s) (a := k) (by omega) g hs FU (k + 1) (by omega) (by rw [FU_eq]; omega)
      have el : l_X9_fewest_187 g v A (nI k) (nI (k + 1)) s = itr (fun _ _ _ _ _ => none) (u_X9_fewest_187 g) FU v A (nI k) (nI (k + 1)) s := rfl
      rw [el]
      cases e : sol W A 2 (0 ||| W k) (k + 1) with
      | some l =>
        rw [t1 l e, sol_hit (by omega) e]
        exact ⟨fun l h => by rw [← Option.some.inj h]; rfl, fun h => by simp at h⟩
      | none =>
        rw [t2 e, sol_miss (by omega) e]
        exact ih (k + 1) (by omega) (by omega)
theorem m12_c (a : Int32) : ((a = -1 ∨ a = 0 ∨ a = 1 ∨ a = 2) ∧ ¬ a < -1 ∧ ¬ (2 : Int32) < a) ∨ (a < -1 ∨ (2 : Int32) < a) := by
  by_cases h1 : a < -1
  · exact Or.inr (Or.inl h1)
  · by_cases h2 : (2 : Int32) < a
    · exact Or.inr (Or.inr h2)
    · refine Or.inl ⟨?_, h1, h2⟩
      rw [Int32.lt_iff_toInt_lt] at h1 h2
      have e1 : (-1 : Int32).toInt = -1 := rfl
      have e2 : (2 : Int32).toInt = 2 := rfl
      rw [e1] at h1
      rw [e2] at h2
      rcases (show a.toInt = -1 ∨ a.toInt = 0 ∨ a.toInt = 1 ∨ a.toInt = 2 by omega) with h | h | h | h
      · exact Or.inl (Int32.toInt_inj.mp h)
      · exact Or.inr (Or.inl (Int32.toInt_inj.mp h))
      · exact Or.inr (Or.inr (Or.inl (Int32.toInt_inj.mp h)))
      · exact Or.inr (Or.inr (Or.inr (Int32.toInt_inj.mp h)))
/-- the answer, where m words do -/
def anF (m : Nat) (l : List Nat) (v : Int32) : Int32 := if v = -1 then nI m else if v.toNatClampNeg < m then nI (l.getD v.toNatClampNeg 0) else -1
/-- the reference's answer -/
theorem few9 {ρ : Nat → Int32} {n a q p : Nat} {v : Int32} {s : MM} (hI : IR ρ) (e2 : ρ 2 = nI n) (hn : n ≤ 20) (ha : a ≤ n) (e3 : ρ 3 = nI q) (hq : q ≤ 5) (hp : p < q) (ea : ρ (66 + 4 * p) = nI a) (hv : v = -1 ∨ v = 0 ∨ v = 1 ∨ v = 2) (h1 : ¬ v < -1) (h2 : ¬ (2 : Int32) < v) (h130 : s 130 = ρ) :
    (∀ m0 l, m0 ≤ 3 → (∀ m', m' < m0 → sol (fun w => wS ρ (nI w) a (n - a)) (aS a (n - a)) m' 0 0 = none) → sol (fun w => wS ρ (nI w) a (n - a)) (aS a (n - a)) m0 0 0 = some l → ∃ s', f_X9_fewest (nI p) v s = some (anF m0 l v, s') ∧ GE s s') ∧ ((∀ m', m' ≤ 3 → sol (fun w => wS ρ (nI w) a (n - a)) (aS a (n - a)) m' 0 0 = none) → ∃ s', f_X9_fewest (nI p) v s = bd (f_X9_error (-1000000002 : Int32) s') (fun r t => some (r, t)) ∧ GE s s') := by
  obtain ⟨t, t1, t2, t3⟩ := fwF (s := s) hI e2 hn ha h130
  have base : f_X9_fewest (nI p) v s = if aS a (n - a) = 0 then some (wa 0 v 0 0 0, t) else l_X9_fewest_68 v (aS a (n - a)) 0 t := by
    unfold f_X9_fewest
    rw [isPerson_t (by rw [h130]; exact e3) hq hp, bd_some, if_neg n10, in_t h1 h2, bd_some, if_neg n10, about0 (by omega), bd_some, h130, ea, e2, ← aS_all n (by omega) a (by omega) ha, lt_eq, t1, bd_some, wa_eq, bd_some]
  have s0 : ∀ k, sol (fun w => wS ρ (nI w) a (n - a)) (aS a (n - a)) 0 0 k = if (0 : Int32) = aS a (n - a) then some [] else none := fun _ => rfl
  rw [base]
  generalize aS a (n - a) = A at s0 ⊢
  by_cases hz : A = 0
  · rw [if_pos hz]
    have s0' := s0 0
    rw [if_pos hz.symm] at s0'
    refine ⟨fun m0 l h0 h3 h4 => ⟨t, ?_, t2.ge⟩, fun h => ?_⟩
    · have em : m0 = 0 := by
        rcases Nat.eq_zero_or_pos m0 with y | y
        · exact y
        · rw [h3 0 y] at s0'; exact absurd s0' (by simp)
      subst em
      rcases hv with rfl | rfl | rfl | rfl <;> rfl
    · rw [h 0 (by omega)] at s0'; exact absurd s0' (by simp)
  · rw [if_neg hz]
    have s0' := s0 0
    rw [if_neg (fun e => hz e.symm)] at s0'
    obtain ⟨W, hW⟩ : ∃ W : Nat → Int32, W = fun w => wS ρ (nI w) a (n - a) := ⟨_, rfl⟩
    rw [← hW] at s0' ⊢
    have t3' : ∀ v, v < 100 → t 141 v = W v := fun v hv => by rw [hW]; exact t3 v hv
    obtain ⟨a1, a2⟩ := r68 (W := W) (A := A) (v := v) (s := t) t3' FU 0 (by omega) (by rw [FU_eq]; omega)
    obtain ⟨b1, b2⟩ := r107 (W := W) (A := A) (v := v) (s := t) t3' FU 0 (by omega) (by rw [FU_eq]; omega)
    obtain ⟨c1, c2⟩ := r174 (W := W) (A := A) (v := v) (s := t) t3' FU 0 (by omega) (by rw [FU_eq]; omega)
    have g1 : l_X9_fewest_68 v A 0 t = itr (fun _ _ _ _ => none) u_X9_fewest_68 FU v A (nI 0) t := rfl
    have g2 : l_X9_fewest_107 v A 0 t = itr (fun _ _ _ _ => none) u_X9_fewest_107 FU v A (nI 0) t := rfl
    have g3 : l_X9_fewest_174 v A 0 t = itr (fun _ _ _ _ => none) u_X9_fewest_174 FU v A (nI 0) t := rfl
    refine ⟨fun m0 l h0 h3 h4 => ⟨t, ?_, t2.ge⟩, fun h => ⟨t, ?_, t2.ge⟩⟩
    · rcases (show m0 = 0 ∨ m0 = 1 ∨ m0 = 2 ∨ m0 = 3 by omega) with rfl | rfl | rfl | rfl
      · rw [h4] at s0'; exact absurd s0' (by simp)
      · rw [g1, a1 l h4]
        rcases hv with rfl | rfl | rfl | rfl <;> rfl
      · rw [g1, a2 (h3 1 (by omega)), g2, b1 l h4]
        rcases hv with rfl | rfl | rfl | rfl <;> rfl
      · rw [g1, a2 (h3 1 (by omega)), g2, b2 (h3 2 (by omega)), g3, c1 l h4]
        rcases hv with rfl | rfl | rfl | rfl <;> rfl
    · rw [g1, a2 (h 1 (by omega)), g2, b2 (h 2 (by omega)), g3, c2 (h 3 (by omega))]
theorem wordAt1 {m : Nat} {l : List Nat} {v : Int32} {s : MM} (hv : v = 0 ∨ v = 1 ∨ v = 2) (h : ∀ i, i < 3 → s 118 i = if i < m then nI (l.getD i 0) else -1) : f_X1_wordAt v s = some (anF m l v, s) := by
  unfold f_X1_wordAt
  rcases hv with rfl | rfl | rfl
  · rw [if_neg (by decide), if_neg (by decide), if_neg (by decide)]
    exact congrArg (fun z => some (z, s)) (h 0 (by omega))
  · rw [if_neg (by decide), if_neg (by decide), if_neg (by decide)]
    exact congrArg (fun z => some (z, s)) (h 1 (by omega))
  · rw [if_neg (by decide), if_neg (by decide), if_neg (by decide)]
    exact congrArg (fun z => some (z, s)) (h 2 (by omega))
/-- promise 22 -/
theorem op_fewest {a b : Int32} {σ : MM} (h : GD σ) : SIM (f_X8_fewest a b σ) (f_X9_fewest a b) := by
  obtain ⟨q, hq, e3⟩ := people_b h.1.2
  obtain ⟨n, hn, e2⟩ := step_b h.1.2
  have hC := h.1.1
  have e0 : σ 0 3 = nI q := hC.people.trans e3
  rcases arg_c a (n := q) (by omega) with ⟨p, hp, rfl⟩ | ha
  · have hp5 : p < 5 := by omega
    rcases m12_c b with ⟨hv, h1, h2⟩ | hb
    · obtain ⟨s, hs, ea⟩ := at_b h.1.2 hp5 e2 hn
      have kd3 : kd (0 + 31 + p) = 3 := kd_p (Or.inl rfl) hp5
      have c8 : ∀ t, GN σ t → f_X8_fewest (nI p) b t = bd (f_X1_find 0 (nI s) t) (fun r36 σ37 => if 0 ≤ r36 then if b = (-1 : Int32) then some (r36, σ37) else bd (f_X1_wordAt b σ37) (fun r41 σ42 => some (r41, σ42)) else bd (f_X8_error (-1000000002 : Int32) σ37) (fun r44 σ45 => some (r44, σ45))) := by
        intro t ht
        have e0t : t 0 3 = nI q := (hC.gn ht).people.trans e3
        unfold f_X8_fewest
        rw [personOf_t e0t hq hp, bd_some, onO_some, if_pos kd3, wi_t h1 h2, bd_some, if_neg n10, show t (0 + 31 + p) 0 = nI s from ((hC.gn ht).p hp5 (k := 0) (by omega)).trans ea]
      have cl := fun t (ht : GN σ t) => findF (s := t) h.1.2 e2 hn hs (hC.gn ht) (h.2.1.1.gn ht)
      have cr := fun t (ht : GN σ t) => few9 (s := t) (v := b) h.1.2 e2 hn hs e3 hq hp ea hv h1 h2 ht.row
      by_cases hx : ∃ m0 l, m0 ≤ 3 ∧ (∀ m', m' < m0 → sol (fun w => wS (σ 130) (nI w) s (n - s)) (aS s (n - s)) m' 0 0 = none) ∧ sol (fun w => wS (σ 130) (nI w) s (n - s)) (aS s (n - s)) m0 0 0 = some l
      · obtain ⟨m0, l, x1, x2, x3⟩ := hx
        refine SIM.sr (P := fun _ => True) (x := f_X8_fewest (nI p) b) h ⟨anF m0 l b, trivial, fun t ht => ?_, fun t ht => ?_⟩
        · obtain ⟨t', y1, y2, y3⟩ := (cl t ht).1 m0 l x1 x2 x3
          refine ⟨t', ?_, y2⟩
          rw [c8 t ht, y1, bd_some, if_pos (nI_pos' (by omega))]
          by_cases z : b = -1
          · rw [if_pos z]; subst z; rfl
          · rw [if_neg z, wordAt1 (hv.resolve_left z) y3, bd_some]
        · exact (cr t ht).1 m0 l x1 x2 x3
      · have hno : ∀ m, m ≤ 3 → sol (fun w => wS (σ 130) (nI w) s (n - s)) (aS s (n - s)) m 0 0 = none := by
          intro m
          induction m using Nat.strongRecOn with
          | ind m ih =>
            intro hm
            cases e : sol (fun w => wS (σ 130) (nI w) s (n - s)) (aS s (n - s)) m 0 0 with
            | none => rfl
            | some l => exact absurd ⟨m, l, hm, fun m' h' => ih m' h' (by omega), e⟩ hx
        refine SIM.se (x := f_X8_fewest (nI p) b) h ⟨2, -1000000002, by omega, by omega, eN, fun t ht => ?_, fun t ht => ?_⟩
        · obtain ⟨t', y1, y2⟩ := (cl t ht).2 hno
          refine ⟨t', y2, ?_⟩
          rw [c8 t ht, y1, bd_some, if_neg (by decide)]
        · obtain ⟨t', y1, y2⟩ := (cr t ht).2 hno
          exact ⟨t', y2, y1⟩
    · refine SIM.B h (k := 1) (e := -1000000001) (by omega) (by omega) eB ?_ (fun t ht => ?_)
      · unfold f_X8_fewest
        rw [personOf_t e0 hq hp, bd_some, onO_some, if_pos (kd_p (Or.inl rfl) (by omega)), wi_f hb, bd_some, if_pos rfl]; rfl
      · unfold f_X9_fewest
        rw [isPerson_t (by rw [ht 130 (by omega)]; exact e3) hq hp, bd_some, if_neg n10, in_f hb, bd_some, if_pos rfl]; rfl
  · refine SIM.B h (k := 1) (e := -1000000001) (by omega) (by omega) eB ?_ (fun t ht => ?_)
    · unfold f_X8_fewest
      rw [personOf_f e0 ha, bd_some, onO_none]; rfl
    · unfold f_X9_fewest
      rw [isPerson_f (by rw [ht 130 (by omega)]; exact e3) hq ha, bd_some, if_pos rfl]; rfl

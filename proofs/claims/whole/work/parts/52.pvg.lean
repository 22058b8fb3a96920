def bt (s : Nat) : Int32 := (1 : Int32) <<< (nI s &&& 31)
/-- whom a word contents, of i judges from a on -/
def wS (ρ : Nat → Int32) (w : Int32) (a : Nat) : Nat → Int32
  | 0 => 0
  | i + 1 => if contP ρ (a + i) w = 0 then wS ρ w a i else wS ρ w a i ||| bt (a + i)
def aS (a : Nat) : Nat → Int32
  | 0 => 0
  | i + 1 => aS a i ||| bt (a + i)
theorem or3 (x y z : Int32) : (x ||| y) ||| z = (x ||| z) ||| y := by rw [Int32.or_assoc, Int32.or_comm y z, ← Int32.or_assoc]
theorem aS_wS (ρ : Nat → Int32) (w : Int32) (a : Nat) : ∀ i, aS a i ||| wS ρ w a i = aS a i
  | 0 => by unfold aS wS; exact Int32.or_zero
  | i + 1 => by
    have ih := aS_wS ρ w a i
    unfold aS wS
    split
    · rw [or3, ih]
    · rw [← Int32.or_assoc, or3 (aS a i), ih, Int32.or_assoc, Int32.or_self]
theorem aS_all : ∀ n, n < 21 → ∀ a, a < 21 → a ≤ n → aS a (n - a) = ((1 : Int32) <<< (nI n &&& 31)) - ((1 : Int32) <<< (nI a &&& 31)) := by decide +kernel
/-- the class: whom a word contents -/
theorem cfL {ρ : Nat → Int32} {n a : Nat} {w : Int32} (hI : IR ρ) (e2 : ρ 2 = nI n) (hn : n ≤ 20) : ∀ (f i : Nat) (s : MM), a + i ≤ n → n - (a + i) < f → CR 0 s ρ → PL 0 s → ∃ s', itr (fun _ _ _ _ _ => none) u_X1_contentFrom_5 f 0 w (wS ρ w a i) (nI (a + i)) s = some (wS ρ w a (n - a), s') ∧ JE s s' := by
  intro f
  induction f with
  | zero => intro i _ hi; omega
  | succ f ih =>
    intro i s hi hf hC hP
    have e0 : s 0 1 = nI n := hC.steps.trans e2
    rw [itr_s]
    generalize itr (fun _ _ _ _ _ => none) u_X1_contentFrom_5 f = g at ih ⊢
    unfold u_X1_contentFrom_5
    rw [e0]
    by_cases z : n ≤ a + i
    · rw [if_pos (nI_le z (by omega)), show n - a = i by omega]
      exact ⟨s, rfl, JE.rf⟩
    · obtain ⟨s1, x1, j1⟩ := cont0 (b := 0) (s := a + i) (w := w) (Or.inl rfl) hC hP hI (by omega)
      rw [if_neg (nI_ge (by omega) (by omega)), judgeOn_t e0 hn (by omega), bd_some, onO_some, if_pos (kd_j (Or.inl rfl) (by omega)), x1, bd_some, k1]
      obtain ⟨s2, x2, j2⟩ := ih (i + 1) s1 (by omega) (by omega) (hC.je (Or.inl rfl) j1) (hP.je (Or.inl rfl) j1)
      refine ⟨s2, ?_, j1.tr j2⟩
      rw [← x2]
      show _ = g 0 w (if contP ρ (a + i) w = 0 then wS ρ w a i else wS ρ w a i ||| bt (a + i)) (nI (a + i + 1)) s1
      by_cases q : contP ρ (a + i) w = 0
      · rw [if_pos q, if_pos q]
      · rw [if_neg q, if_neg q]; rfl
theorem cf0 {ρ : Nat → Int32} {n a : Nat} {w : Int32} {s : MM} (hI : IR ρ) (e2 : ρ 2 = nI n) (hn : n ≤ 20) (ha : a ≤ n) (hC : CR 0 s ρ) (hP : PL 0 s) : ∃ s', f_X1_contentFrom 0 (nI a) w s = some (wS ρ w a (n - a), s') ∧ JE s s' := cfL hI e2 hn FU 0 s (by omega) (by rw [FU_eq]; omega) hC hP
/-- alike but for the class's search -/
def TF (s s' : MM) : Prop := ∀ i, ¬ JK i → (i < 115 ∨ 118 < i) → s' i = s i
theorem TF.rf {s : MM} : TF s s := fun _ _ _ => rfl
theorem TF.tr {s t u : MM} (h : TF s t) (h2 : TF t u) : TF s u := fun i a b => (h2 i a b).trans (h i a b)
theorem JE.tf {s t : MM} (h : JE s t) : TF s t := fun i a _ => h i a
theorem TF.mu {s : MM} {i k : Nat} {v : Int32} (h1 : 115 ≤ i) (h2 : i ≤ 118) : TF s (mu s i k v) := fun j _ h => mu_off _ _ (by omega)
theorem E1.tf {s t : MM} (h : E1 118 s t) : TF s t := fun j _ hj => h j (by omega)
theorem TF.ge {s t : MM} (h : TF s t) : GE s t := by
  refine ⟨fun i hi => h i (fun e => hi (Or.inl e)) (by unfold JJ at hi; omega), fun j hj => ?_, ?_, ?_, ?_⟩
  all_goals rw [h _ (by unfold JK; omega) (by omega)]
theorem CR.tf {s t : MM} {ρ : Nat → Int32} (h : CR 0 s ρ) (g : TF s t) : CR 0 t ρ := h.gn g.ge.gn
theorem PL.tf {s t : MM} (h : PL 0 s) (g : TF s t) : PL 0 t := h.gn g.ge.gn
theorem m1' {x : Nat} : nI (x + 1) + (-1 : Int32) = nI x := pk_m1 x
/-- the class lists whom each word contents -/
theorem f51 {ρ : Nat → Int32} {n a : Nat} {A : Int32} (hI : IR ρ) (e2 : ρ 2 = nI n) (hn : n ≤ 20) (ha : a ≤ n) : ∀ (f i : Nat) (s : MM), i < 100 → 100 - i < f → CR 0 s ρ → PL 0 s → s 115 3 = A → (∀ w, 100 - i ≤ w → w < 100 → s 116 w = wS ρ (nI w) a (n - a) ∧ s 117 w = JR (fun w => wS ρ (nI w) a (n - a)) (100 - w)) →
    ∃ s', itr (fun _ _ _ _ _ => none) u_X1_find_51 f 0 (nI a) (JR (fun w => wS ρ (nI w) a (n - a)) i) (nI (99 - i)) s = l_X1_find_97 0 s' ∧ TF s s' ∧ s' 115 3 = A ∧ s' 118 = s 118 ∧ ∀ w, w < 100 → s' 116 w = wS ρ (nI w) a (n - a) ∧ s' 117 w = JR (fun w => wS ρ (nI w) a (n - a)) (100 - w) := by
  intro f
  induction f with
  | zero => intro i _ hi; omega
  | succ f ih =>
    intro i s hi hf hC hP h3 hw
    obtain ⟨s1, x1, j1⟩ := cf0 (w := nI (99 - i)) hI e2 hn ha hC hP
    rw [itr_s]
    have hend : ∀ (t : MM), f ≠ 0 → itr (fun _ _ _ _ _ => none) u_X1_find_51 f 0 (nI a) (JR (fun w => wS ρ (nI w) a (n - a)) 100) (-1) t = l_X1_find_97 0 t := by
      intro t hf0
      obtain ⟨f', rfl⟩ : ∃ f', f = f' + 1 := ⟨f - 1, by omega⟩
      rw [itr_s]
      generalize itr (fun _ _ _ _ _ => none) u_X1_find_51 f' = g
      unfold u_X1_find_51
      rw [if_pos (by decide)]
    generalize itr (fun _ _ _ _ _ => none) u_X1_find_51 f = g at ih hend ⊢
    unfold u_X1_find_51
    rw [if_neg (nI_pos (by omega)), x1, bd_some, if_neg (ixN (show 99 - i < 100 by omega) (by decide)), nI_cl (by omega)]
    simp only [lt_eq]
    rw [mu_eq]
    have eJ : JR (fun w => wS ρ (nI w) a (n - a)) i ||| wS ρ (nI (99 - i)) a (n - a) = JR (fun w => wS ρ (nI w) a (n - a)) (i + 1) := rfl
    rw [eJ]
    have T2 : TF s (mu (mu s1 116 (99 - i) (wS ρ (nI (99 - i)) a (n - a))) 117 (99 - i) (JR (fun w => wS ρ (nI w) a (n - a)) (i + 1))) := (j1.tf.tr (TF.mu (by omega) (by omega))).tr (TF.mu (by omega) (by omega))
    have h3' : (mu (mu s1 116 (99 - i) (wS ρ (nI (99 - i)) a (n - a))) 117 (99 - i) (JR (fun w => wS ρ (nI w) a (n - a)) (i + 1))) 115 3 = A := by
      rw [mu_off _ _ (by omega), mu_off _ _ (by omega), j1 115 (by unfold JK; omega)]; exact h3
    have h8' : (mu (mu s1 116 (99 - i) (wS ρ (nI (99 - i)) a (n - a))) 117 (99 - i) (JR (fun w => wS ρ (nI w) a (n - a)) (i + 1))) 118 = s 118 := by
      rw [mu_off _ _ (by omega), mu_off _ _ (by omega), j1 118 (by unfold JK; omega)]
    have hw' : ∀ w, 100 - (i + 1) ≤ w → w < 100 → (mu (mu s1 116 (99 - i) (wS ρ (nI (99 - i)) a (n - a))) 117 (99 - i) (JR (fun w => wS ρ (nI w) a (n - a)) (i + 1))) 116 w = wS ρ (nI w) a (n - a) ∧ (mu (mu s1 116 (99 - i) (wS ρ (nI (99 - i)) a (n - a))) 117 (99 - i) (JR (fun w => wS ρ (nI w) a (n - a)) (i + 1))) 117 w = JR (fun w => wS ρ (nI w) a (n - a)) (100 - w) := by
      intro w hw1 hw2
      rw [mu_off _ _ (show 116 ≠ 117 by omega), mu_at, mu_at, mu_off _ _ (show 117 ≠ 116 by omega)]
      by_cases e : w = 99 - i
      · subst e
        rw [if_pos ⟨rfl, rfl⟩, if_pos ⟨rfl, rfl⟩, show 100 - (99 - i) = i + 1 by omega]
        exact ⟨rfl, rfl⟩
      · rw [if_neg (fun q => e q.2), if_neg (fun q => e q.2), j1 116 (by unfold JK; omega), j1 117 (by unfold JK; omega)]
        exact hw w (by omega) hw2
    generalize (mu (mu s1 116 (99 - i) (wS ρ (nI (99 - i)) a (n - a))) 117 (99 - i) (JR (fun w => wS ρ (nI w) a (n - a)) (i + 1))) = t at T2 h3' h8' hw' ⊢
    by_cases z : i = 99
    · subst z
      have := hend t (by omega)
      refine ⟨t, ?_, T2, h3', h8', fun w hw2 => hw' w (by omega) hw2⟩
      rw [← this]
      rfl
    · rw [show nI (99 - i) + (-1 : Int32) = nI (99 - (i + 1)) by rw [show 99 - i = (99 - (i + 1)) + 1 by omega]; exact m1']
      obtain ⟨s', y1, y2, y3, y4, y5⟩ := ih (i + 1) t (by omega) (by omega) (hC.tf T2) (hP.tf T2) h3' hw'
      exact ⟨s', y1, T2.tr y2, y3, y4.trans h8', y5⟩
theorem f19 {ρ : Nat → Int32} {n a : Nat} (hI : IR ρ) (e2 : ρ 2 = nI n) (hn : n ≤ 20) (ha : a ≤ n) : ∀ (f i : Nat) (s : MM), a + i ≤ n → n - (a + i) < f → CR 0 s ρ → PL 0 s → s 115 3 = aS a i →
    ∃ s', itr (fun _ _ _ _ => none) u_X1_find_19 f 0 (nI a) (nI (a + i)) s = l_X1_find_97 0 s' ∧ TF s s' ∧ s' 115 3 = aS a (n - a) ∧ s' 118 = s 118 ∧ ∀ w, w < 100 → s' 116 w = wS ρ (nI w) a (n - a) ∧ s' 117 w = JR (fun w => wS ρ (nI w) a (n - a)) (100 - w) := by
  intro f
  induction f with
  | zero => intro i _ hi; omega
  | succ f ih =>
    intro i s hi hf hC hP h3
    have e0 : s 0 1 = nI n := hC.steps.trans e2
    rw [itr_s]
    generalize itr (fun _ _ _ _ => none) u_X1_find_19 f = g at ih ⊢
    unfold u_X1_find_19
    rw [e0]
    by_cases z : n ≤ a + i
    · rw [if_pos (nI_le z (by omega))]
      have ei : n - a = i := by omega
      rw [← ei] at h3
      obtain ⟨s', y1, y2⟩ := f51 (A := aS a (n - a)) hI e2 hn ha FU 0 s (by omega) (by rw [FU_eq]; omega) hC hP h3 (fun w h1 h2 => by omega)
      exact ⟨s', y1, y2⟩
    · rw [if_neg (nI_ge (by omega) (by omega)), lt_eq, k1, h3]
      have T2 : TF s (mu s 115 3 (aS a i ||| ((1 : Int32) <<< (nI (a + i) &&& 31)))) := TF.mu (by omega) (by omega)
      obtain ⟨s', y1, y2, y3, y4, y5⟩ := ih (i + 1) _ (by omega) (by omega) (hC.tf T2) (hP.tf T2) (by rw [mu_eq]; rfl)
      exact ⟨s', y1, T2.tr y2, y3, y4.trans (mu_off _ _ (by omega)), y5⟩
/-- the class tries sizes -/
theorem f97 {W : Nat → Int32} {A : Int32} (hA : ∀ w, w < 100 → A ||| W w = A) : ∀ (f m : Nat) (s : MM), m ≤ 4 → 4 - m < f → s 115 3 = A → (∀ w, w < 100 → s 116 w = W w ∧ s 117 w = JR W (100 - w)) → (∀ m', m' < m → sol W A m' 0 0 = none) → (∀ i, m ≤ i → i < 3 → s 118 i = -1) →
    (∀ m0 l, m0 ≤ 3 → (∀ m', m' < m0 → sol W A m' 0 0 = none) → sol W A m0 0 0 = some l → ∃ s', itr (fun _ _ => none) u_X1_find_97 f (nI m) s = some (nI m0, s') ∧ E1 118 s s' ∧ ∀ i, i < 3 → s' 118 i = if i < m0 then nI (l.getD i 0) else -1) ∧ ((∀ m', m' ≤ 3 → sol W A m' 0 0 = none) → ∃ s', itr (fun _ _ => none) u_X1_find_97 f (nI m) s = some (-1, s') ∧ E1 118 s s') := by
  intro f
  induction f with
  | zero => intro m _ hm; omega
  | succ f ih =>
    intro m s hm hf h3 hw hs h8
    rw [itr_s]
    generalize itr (fun _ _ => none) u_X1_find_97 f = g at ih ⊢
    unfold u_X1_find_97
    by_cases z : m = 4
    · subst z
      rw [if_pos (show (3 : Int32) < nI 4 by decide)]
      refine ⟨fun m0 l h0 _ h => ?_, fun _ => ⟨s, rfl, E1.rf⟩⟩
      rw [hs m0 (by omega)] at h
      exact absurd h (by simp)
    · have hm3 : m ≤ 3 := by omega
      obtain ⟨s1, e1, e2, e3, e4⟩ := chooseF hA m (5 - m) 0 0 0 s (by omega) (by omega) h3 (fun w hw1 => (hw w hw1).1) (fun w hw1 => (hw w hw1).2) (fun m' em k _ => sol_upk (hs m' (by omega)) (by omega))
      rw [show 5 - m + m + 1 = 6 by omega, Nat.zero_add m] at e1
      rw [if_neg (show ¬ (3 : Int32) < nI m from nI_nlt (show m ≤ 3 by omega) (by decide)), show (f_X1_choose 6 (0 : Int32) (nI m) (0 : Int32) (0 : Int32) s) = _ from e1, bd_some, k1]
      cases e : sol W A m 0 0 with
      | some l =>
        rw [show (if (some l : Option (List Nat)).isSome = true then (1 : Int32) else 0) = 1 from rfl, if_neg n10]
        refine ⟨fun m0 l0 h0 h1 h => ?_, fun h => ?_⟩
        · have em : m0 = m := by
            rcases Nat.lt_trichotomy m0 m with q | q | q
            · rw [hs m0 q] at h; exact absurd h (by simp)
            · exact q
            · rw [h1 m q] at e; exact absurd e (by simp)
          subst em
          rw [e] at h
          have el := Option.some.inj h
          subst el
          refine ⟨s1, rfl, e2, fun i hi => ?_⟩
          by_cases q : i < m0
          · rw [if_pos q]
            have := e4 l e i q
            rw [Nat.zero_add i] at this
            exact this
          · rw [if_neg q, e3 i (by omega)]
            exact h8 i (by omega) hi
        · rw [h m hm3] at e; exact absurd e (by simp)
      | none =>
        rw [show (if (none : Option (List Nat)).isSome = true then (1 : Int32) else 0) = 0 from rfl, if_pos rfl]
        obtain ⟨q1, q2⟩ := ih (m + 1) s1 (by omega) (by omega) (by rw [e2 115 (by omega)]; exact h3) (fun w hw1 => by rw [e2 116 (by omega), e2 117 (by omega)]; exact hw w hw1) (fun m' hm' => by
          rcases Nat.lt_or_ge m' m with q | q
          · exact hs m' q
          · rw [show m' = m by omega]; exact e) (fun i h1 h2 => by rw [e3 i (by omega)]; exact h8 i (by omega) h2)
        refine ⟨fun m0 l0 h0 h1 h => ?_, fun h => ?_⟩
        · obtain ⟨s', a1, a2, a3⟩ := q1 m0 l0 h0 h1 h
          exact ⟨s', a1, e2.tr a2, a3⟩
        · obtain ⟨s', a1, a2⟩ := q2 h
          exact ⟨s', a1, e2.tr a2⟩
set_option maxRecDepth 100000 in
theorem fill3 (s : MM) : f_J7_fill_53178 118 3 (-1 : Int32) s = some ((), mu (mu (mu s 118 0 (-1)) 118 1 (-1)) 118 2 (-1)) := rfl
theorem findF {ρ : Nat → Int32} {n a : Nat} {s : MM} (hI : IR ρ) (e2 : ρ 2 = nI n) (hn : n ≤ 20) (ha : a ≤ n) (hC : CR 0 s ρ) (hP : PL 0 s) :
    (∀ m0 l, m0 ≤ 3 → (∀ m', m' < m0 → sol (fun w => wS ρ (nI w) a (n - a)) (aS a (n - a)) m' 0 0 = none) → sol (fun w => wS ρ (nI w) a (n - a)) (aS a (n - a)) m0 0 0 = some l → ∃ s', f_X1_find 0 (nI a) s = some (nI m0, s') ∧ GE s s' ∧ ∀ i, i < 3 → s' 118 i = if i < m0 then nI (l.getD i 0) else -1) ∧ ((∀ m', m' ≤ 3 → sol (fun w => wS ρ (nI w) a (n - a)) (aS a (n - a)) m' 0 0 = none) → ∃ s', f_X1_find 0 (nI a) s = some (-1, s') ∧ GE s s') := by
  obtain ⟨t, ht⟩ : ∃ t, t = mu (mu (mu (mu s 118 0 (-1)) 118 1 (-1)) 118 2 (-1)) 115 3 0 := ⟨_, rfl⟩
  have T1 : TF s t := by subst ht; exact (((TF.mu (by omega) (by omega)).tr (TF.mu (by omega) (by omega))).tr (TF.mu (by omega) (by omega))).tr (TF.mu (by omega) (by omega))
  obtain ⟨t2, y1, y2, y3, y4, y5⟩ := f19 hI e2 hn ha FU 0 t (by omega) (by rw [FU_eq]; omega) (hC.tf T1) (hP.tf T1) (by subst ht; rw [mu_eq]; rfl)
  have ef : f_X1_find 0 (nI a) s = l_X1_find_97 0 t2 := by
    unfold f_X1_find
    rw [fill3, bd_some, lt_eq, ← ht, lt_eq, ← y1]
    have : (if (0 : Int32) < nI a then nI a else 0) = nI (a + 0) := by
      rcases Nat.eq_zero_or_pos a with q | q
      · subst q; rfl
      · rw [if_pos (show (0 : Int32) < nI a from nI_lt (a := 0) q (by omega))]; rfl
    rw [this]; rfl
  have h8 : ∀ i, 0 ≤ i → i < 3 → t2 118 i = -1 := by
    intro i _ hi
    rw [y4, ht, mu_off _ _ (by omega), mu_at, mu_at, mu_at]
    rcases (show i = 0 ∨ i = 1 ∨ i = 2 by omega) with rfl | rfl | rfl <;> rfl
  obtain ⟨q1, q2⟩ := f97 (W := fun w => wS ρ (nI w) a (n - a)) (A := aS a (n - a)) (fun w _ => aS_wS ρ (nI w) a (n - a)) FU 0 t2 (by omega) (by rw [FU_eq]; omega) y3 y5 (fun m' h => by omega) h8
  have T2 := T1.tr y2
  refine ⟨fun m0 l h0 h1 h => ?_, fun h => ?_⟩
  · obtain ⟨s', a1, a2, a3⟩ := q1 m0 l h0 h1 h
    exact ⟨s', by rw [ef]; exact a1, (T2.tr a2.tf).ge, a3⟩
  · obtain ⟨s', a1, a2⟩ := q2 h
    exact ⟨s', by rw [ef]; exact a1, (T2.tr a2.tf).ge⟩

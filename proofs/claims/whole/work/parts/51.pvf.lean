/-- FEWEST: the first set of m words from k on, in their order -/
def fst1 (P : Nat → Option (List Nat)) : Nat → Nat → Option (List Nat)
  | 0, _ => none
  | f + 1, k => match P k with
    | some l => some l
    | none => fst1 P f (k + 1)
def sol (W : Nat → Int32) (A : Int32) : Nat → Int32 → Nat → Option (List Nat)
  | 0, had, _ => if had = A then some [] else none
  | m + 1, had, k => fst1 (fun w => (sol W A m (had ||| W w) (w + 1)).map (fun l => w :: l)) (100 - k) k
theorem sol_end {W : Nat → Int32} {A : Int32} {m : Nat} {had : Int32} {k : Nat} (h : 100 ≤ k) : sol W A (m + 1) had k = none := by
  unfold sol
  rw [show 100 - k = 0 by omega]
  rfl
theorem sol_hit {W : Nat → Int32} {A : Int32} {m : Nat} {had : Int32} {k : Nat} {l : List Nat} (h : k < 100) (e : sol W A m (had ||| W k) (k + 1) = some l) : sol W A (m + 1) had k = some (k :: l) := by
  obtain ⟨f, hf⟩ : ∃ f, 100 - k = f + 1 := ⟨99 - k, by omega⟩
  unfold sol
  rw [hf]
  unfold fst1
  simp only [e, Option.map_some]
theorem sol_miss {W : Nat → Int32} {A : Int32} {m : Nat} {had : Int32} {k : Nat} (h : k < 100) (e : sol W A m (had ||| W k) (k + 1) = none) : sol W A (m + 1) had k = sol W A (m + 1) had (k + 1) := by
  obtain ⟨f, hf⟩ : ∃ f, 100 - k = f + 1 := ⟨99 - k, by omega⟩
  have hf2 : 100 - (k + 1) = f := by omega
  have e1 : sol W A (m + 1) had k = fst1 (fun w => (sol W A m (had ||| W w) (w + 1)).map (fun l => w :: l)) (f + 1) k := by rw [← hf]; rfl
  have e2 : sol W A (m + 1) had (k + 1) = fst1 (fun w => (sol W A m (had ||| W w) (w + 1)).map (fun l => w :: l)) f (k + 1) := by rw [← hf2]; rfl
  rw [e1, e2]
  rw [fst1]
  simp only [e, Option.map_none]
theorem sol_up {W : Nat → Int32} {A : Int32} (m : Nat) (had : Int32) (k : Nat) (h : sol W A m had k = none) : sol W A m had (k + 1) = none := by
  cases m with
  | zero => exact h
  | succ m =>
    by_cases z : k < 100
    · cases e : sol W A m (had ||| W k) (k + 1) with
      | none => rw [← sol_miss z e]; exact h
      | some l => rw [sol_hit z e] at h; exact absurd h (by simp)
    · exact sol_end (by omega)
theorem sol_ups {W : Nat → Int32} {A : Int32} {m : Nat} {had : Int32} {k : Nat} (h : sol W A m had k = none) : ∀ j, sol W A m had (k + j) = none
  | 0 => h
  | j + 1 => sol_up m had (k + j) (sol_ups h j)
theorem sol_upk {W : Nat → Int32} {A : Int32} {m : Nat} {had : Int32} {k k' : Nat} (h : sol W A m had k = none) (hk : k ≤ k') : sol W A m had k' = none := by
  have := sol_ups h (k' - k)
  rw [show k + (k' - k) = k' by omega] at this
  exact this
/-- what the words from 100 - i on bring -/
def JR (W : Nat → Int32) : Nat → Int32
  | 0 => 0
  | i + 1 => JR W i ||| W (99 - i)
theorem JR_s (W : Nat → Int32) {k : Nat} (h : k < 100) : JR W (100 - k) = JR W (100 - (k + 1)) ||| W k := by
  rw [show 100 - k = (100 - (k + 1)) + 1 by omega]
  show JR W (100 - (k + 1)) ||| W (99 - (100 - (k + 1))) = _
  rw [show 99 - (100 - (k + 1)) = k by omega]
theorem JR_A {W : Nat → Int32} {A : Int32} (hA : ∀ w, w < 100 → A ||| W w = A) : ∀ i, i ≤ 100 → A ||| JR W i = A
  | 0, _ => Int32.or_zero
  | i + 1, h => by
    show A ||| (JR W i ||| W (99 - i)) = A
    rw [← Int32.or_assoc, JR_A hA i (by omega), hA _ (by omega)]
theorem sol_pr {W : Nat → Int32} {A : Int32} (hA : ∀ w, w < 100 → A ||| W w = A) : ∀ (m f : Nat) (had : Int32) (k : Nat), 100 - k ≤ f → sol W A m had k ≠ none → had ||| JR W (100 - k) = A := by
  intro m
  induction m with
  | zero =>
    intro f had k _ h
    by_cases e : had = A
    · rw [e]; exact JR_A hA _ (by omega)
    · exact absurd (if_neg e) h
  | succ m ihm =>
    intro f
    induction f with
    | zero => intro had k hk h; exact absurd (sol_end (by omega)) h
    | succ f ih =>
      intro had k hk h
      by_cases z : k < 100
      · cases e : sol W A m (had ||| W k) (k + 1) with
        | none =>
          rw [sol_miss z e] at h
          have := ih had (k + 1) (by omega) h
          rw [JR_s W z, ← Int32.or_assoc, this, hA k z]
        | some l =>
          have := ihm 100 (had ||| W k) (k + 1) (by omega) (by rw [e]; simp)
          rw [JR_s W z, Int32.or_comm (JR W (100 - (k + 1))), ← Int32.or_assoc, this]
      · exact absurd (sol_end (by omega)) h
theorem choose_s (d : Nat) (a b c e : Int32) (σ : MM) : f_X1_choose (d + 1) a b c e σ = g_X1_choose (f_X1_choose d) a b c e σ := rfl
/-- the class's search -/
theorem chooseF {W : Nat → Int32} {A : Int32} (hA : ∀ w, w < 100 → A ||| W w = A) : ∀ (m d many first : Nat) (had : Int32) (s : MM), many + m ≤ 3 → first ≤ 100 → s 115 3 = A → (∀ w, w < 100 → s 116 w = W w) → (∀ w, w < 100 → s 117 w = JR W (100 - w)) → (∀ m', m = m' + 1 → ∀ k, first ≤ k → sol W A m' had k = none) →
    ∃ s', f_X1_choose (d + m + 1) (nI many) (nI (many + m)) (nI first) had s = some (if (sol W A m had first).isSome then 1 else 0, s') ∧ E1 118 s s' ∧ (∀ i, i < many ∨ many + m ≤ i → s' 118 i = s 118 i) ∧ (∀ l, sol W A m had first = some l → ∀ i, i < m → s' 118 (many + i) = nI (l.getD i 0)) := by
  intro m
  induction m with
  | zero =>
    intro d many first had s hm _ h3 h6 h7 hs
    refine ⟨s, ?_, E1.rf, fun _ _ => rfl, fun l _ i hi => by omega⟩
    rw [choose_s]
    unfold g_X1_choose u_X1_choose_14 sol
    rw [if_pos (show nI (many + 0) ≤ nI many from nI_le (by omega) (by omega)), h3]
    by_cases e : had = A
    · rw [if_pos e, if_pos e]; rfl
    · rw [if_neg e, if_neg e]; rfl
  | succ m ihm =>
    have loop : ∀ (d many : Nat) (had : Int32), many + (m + 1) ≤ 3 → ∀ (f k : Nat) (s : MM), 100 - k < f → s 115 3 = A → (∀ w, w < 100 → s 116 w = W w) → (∀ w, w < 100 → s 117 w = JR W (100 - w)) → (∀ k', k ≤ k' → sol W A m had k' = none) →
        ∃ s', itr (fun _ _ _ _ _ => none) (u_X1_choose_32 (f_X1_choose (d + m + 1))) f (nI many) (nI (many + (m + 1))) had (nI (min k 100)) s = some (if (sol W A (m + 1) had k).isSome then 1 else 0, s') ∧ E1 118 s s' ∧ (∀ i, i < many ∨ many + (m + 1) ≤ i → s' 118 i = s 118 i) ∧ (∀ l, sol W A (m + 1) had k = some l → ∀ i, i < m + 1 → s' 118 (many + i) = nI (l.getD i 0)) := by
      intro d many had hmm f
      induction f with
      | zero => intro k _ hk; omega
      | succ f ih =>
        intro k s hk h3 h6 h7 hs
        rw [itr_s]
        generalize itr (fun _ _ _ _ _ => none) (u_X1_choose_32 (f_X1_choose (d + m + 1))) f = g at ih ⊢
        unfold u_X1_choose_32
        by_cases z : k < 100
        · rw [Nat.min_eq_left (by omega), if_neg (show ¬ (100 : Int32) ≤ nI k from nI_ge z (by decide)), if_neg (ixN z (by decide)), nI_cl (by omega), h7 k z, h3, h6 k z]
          have hk1 : min (k + 1) 100 = k + 1 := Nat.min_eq_left (by omega)
          by_cases p : had ||| JR W (100 - k) = A
          · rw [if_pos p]
            by_cases q : had ||| W k = had
            · have e : sol W A m (had ||| W k) (k + 1) = none := by rw [q]; exact hs (k + 1) (by omega)
              rw [if_pos q, k1, sol_miss z e]
              have := ih (k + 1) s (by omega) h3 h6 h7 (fun k' hk' => hs k' (by omega))
              rw [hk1] at this
              exact this
            · rw [if_neg q, if_neg (ixN (show many < 3 by omega) (by decide)), nI_cl (by omega), lt_eq, k1, k1]
              obtain ⟨s1, e1, e2, e3, e4⟩ := ihm d (many + 1) (k + 1) (had ||| W k) (mu s 118 many (nI k)) (by omega) (by omega) (by rw [mu_off _ _ (by omega)]; exact h3) (fun w hw => by rw [mu_off _ _ (by omega)]; exact h6 w hw) (fun w hw => by rw [mu_off _ _ (by omega)]; exact h7 w hw) (fun m' em k' hk' => by
                subst em
                cases e : sol W A m' (had ||| W k) k' with
                | none => rfl
                | some l =>
                  have n1 : sol W A m' (had ||| W k) (k + 1) ≠ none := fun y => by
                    rw [sol_upk y hk'] at e; exact absurd e (by simp)
                  cases e5 : sol W A m' (had ||| W k) (k + 1) with
                  | none => exact absurd e5 n1
                  | some l' =>
                    have := hs k (Nat.le_refl _)
                    rw [sol_hit z e5] at this
                    exact absurd this (by simp))
              rw [show many + 1 + m = many + (m + 1) by omega] at e1 e3
              rw [e1, bd_some]
              cases e : sol W A m (had ||| W k) (k + 1) with
              | some l =>
                rw [sol_hit z e]
                rw [show (if (some l : Option (List Nat)).isSome = true then (1 : Int32) else 0) = 1 from rfl, if_neg n10]
                refine ⟨s1, rfl, E1.mu.tr e2, fun i hi => ?_, fun l2 hl i hi => ?_⟩
                · rw [e3 i (by omega), mu_at, if_neg (by omega)]
                · have el : l2 = k :: l := (Option.some.inj hl).symm
                  subst el
                  cases i with
                  | zero =>
                    rw [e3 (many + 0) (by omega), mu_at, if_pos ⟨rfl, rfl⟩]; rfl
                  | succ i =>
                    have := e4 l e i (by omega)
                    rw [show many + 1 + i = many + (i + 1) by omega] at this
                    rw [this]; rfl
              | none =>
                rw [show (if (none : Option (List Nat)).isSome = true then (1 : Int32) else 0) = 0 from rfl, if_pos rfl, sol_miss z e]
                have h13 : ∀ i, i ≠ 118 → s1 i = s i := fun i hi => by rw [e2 i hi, mu_off _ _ hi]
                obtain ⟨s2, a1, a2, a3, a4⟩ := ih (k + 1) s1 (by omega) (by rw [h13 _ (by omega)]; exact h3) (fun w hw => by rw [h13 _ (by omega)]; exact h6 w hw) (fun w hw => by rw [h13 _ (by omega)]; exact h7 w hw) (fun k' hk' => hs k' (by omega))
                rw [hk1] at a1
                refine ⟨s2, a1, (E1.mu.tr e2).tr a2, fun i hi => ?_, a4⟩
                rw [a3 i hi, e3 i (by omega), mu_at, if_neg (by omega)]
          · rw [if_neg p]
            have e : sol W A (m + 1) had k = none := by
              cases e : sol W A (m + 1) had k with
              | none => rfl
              | some l => exact absurd (sol_pr hA (m + 1) 100 had k (by omega) (by rw [e]; simp)) p
            rw [e]
            exact ⟨s, rfl, E1.rf, fun _ _ => rfl, fun l hl => by simp at hl⟩
        · rw [Nat.min_eq_right (by omega), if_pos (show (100 : Int32) ≤ nI 100 by decide), sol_end (by omega)]
          exact ⟨s, rfl, E1.rf, fun _ _ => rfl, fun l hl => by simp at hl⟩
    intro d many first had s hm z h3 h6 h7 hs
    rw [choose_s]
    unfold g_X1_choose
    rw [if_neg (show ¬ nI (many + (m + 1)) ≤ nI many from nI_ge (by omega) (by omega)), if_pos (show nI many < (3 : Int32) from nI_lt (show many < 3 by omega) (by decide))]
    have := loop d many had hm FU first s (by rw [FU_eq]; omega) h3 h6 h7 (hs m rfl)
    rw [Nat.min_eq_left z] at this
    exact this

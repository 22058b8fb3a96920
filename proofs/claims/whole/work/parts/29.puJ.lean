theorem jput {b : Nat} {σ : MM} {ρ : Nat → Int32} (h : CR b σ ρ) {n k : Nat} (v : Int32) (hn : n < 20) (hk : k < 3) : CR b (mu σ (b + 11 + n) (1 + k) v) (upd ρ (6 + 3 * n + k) v) := h.put v (Or.inl (by omega)) (by omega) (loc_j hn hk)
theorem pput {b : Nat} {σ : MM} {ρ : Nat → Int32} (h : CR b σ ρ) {n k : Nat} (v : Int32) (hn : n < 5) (hk : k < 4) : CR b (mu σ (b + 31 + n) k v) (upd ρ (66 + 4 * n + k) v) := h.put v (Or.inl (by omega)) (by omega) (loc_p hn hk)
/-- alike outside the court at b -/
def FR (b : Nat) (σ σ' : MM) : Prop := ∀ i, ¬ JK i → (i < b ∨ b + 36 ≤ i) → σ' i = σ i
theorem FR.rf {b : Nat} {σ : MM} : FR b σ σ := fun _ _ _ => rfl
theorem FR.tr {b : Nat} {σ σ' σ'' : MM} (h : FR b σ σ') (h2 : FR b σ' σ'') : FR b σ σ'' := fun i a c => (h2 i a c).trans (h i a c)
theorem JE.fr {b : Nat} {σ σ' : MM} (h : JE σ σ') : FR b σ σ' := fun i a _ => h i a
theorem FR.mu {b i k : Nat} {σ : MM} {v : Int32} (h1 : b ≤ i) (h2 : i < b + 36) : FR b σ (mu σ i k v) := fun j _ hj => mu_off _ _ (by omega)
theorem PL.put {b i k : Nat} {σ : MM} {v : Int32} (h : PL b σ) (hk : k ≠ 0 ∨ b + 31 ≤ i ∨ i < b + 11) : PL b (mu σ i k v) := by
  intro j hj
  rw [mu_at, if_neg (by omega)]
  exact h j hj
theorem FR.go {σ σ' : MM} (h : FR 0 σ σ') : GO σ σ' := by
  refine ⟨fun i hi h1 _ => h i (fun e => hi (Or.inl e)) (by omega), fun j hj => ?_, ?_, ?_, ?_⟩
  all_goals rw [h _ (by unfold JK; omega) (by omega)]
/-- the row behind a word said: heard, legs, at, falls -/
def heR (ρ : Nat → Int32) (p s h l f : Nat) (c : Int32) : Nat → Int32 :=
  upd (upd (upd (upd ρ (6 + 3 * s + 2) (nI (min (h + 1) 9999))) (66 + 4 * p + 1) (nI (l - 1))) (66 + 4 * p) (nI (if c = 0 then s - 2 else s + 1))) (66 + 4 * p + 3) (nI (if c = 0 then min (f + 1) 9999 else f))
theorem IR.he {ρ : Nat → Int32} (hI : IR ρ) {p s h l f n : Nat} {c : Int32} (hp : p < 5) (e2 : ρ 2 = nI n) (hn : n ≤ 20) (hs : s < n) (hl : l ≤ 999) (hf : f ≤ 9999) : IR (heR ρ p s h l f c) := by
  unfold heR
  have hs20 : s < 20 := by omega
  refine (((hI.j hs20 (k := 2) (by omega) ?_).p hp (k := 1) (by omega) (by omega) ?_).at hp (m := n) ?_ hn ?_).p hp (k := 3) (by omega) (by omega) ?_
  · rw [bnd_j2 hs20]; omega
  · rw [bnd_p1 hp]; omega
  · rw [upd_at, upd_at, if_neg (by omega), if_neg (by omega)]; exact e2
  · split <;> omega
  · rw [bnd_p3 hp]; split <;> omega
theorem max0 {s : Nat} (hs : s ≤ 30) : (if (0 : Int32) < nI s - 2 then nI s - 2 else 0) = nI (s - 2) := by
  rcases Nat.lt_or_ge 2 s with q | q
  · rw [lit 2, nI_sub' (by omega), if_pos (show (0 : Int32) < nI (s - 2) from nI_lt (a := 0) (by omega) (by omega))]
  · rcases (show s = 0 ∨ s = 1 ∨ s = 2 by omega) with rfl | rfl | rfl <;> decide
theorem min9 {x : Nat} (hx : x ≤ 9999) : (if nI x + 1 < (9999 : Int32) then nI x + 1 else (9999 : Int32)) = nI (min (x + 1) 9999) := by
  rw [lit 1, nI_add]
  by_cases q : x + 1 < 9999
  · rw [if_pos (show nI (x + 1) < (9999 : Int32) from nI_lt q (by decide)), Nat.min_eq_left (by omega)]
  · rw [if_neg (show ¬ nI (x + 1) < (9999 : Int32) from nI_nlt (show 9999 ≤ x + 1 by omega) (by omega)), Nat.min_eq_right (show 9999 ≤ x + 1 by omega)]; rfl
theorem pred1 {l : Nat} (h : 0 < l) : nI l - 1 = nI (l - 1) := nI_sub' h
/-- the class: one says a word -/
theorem hear0 {b p s h l f n : Nat} {σ : MM} {ρ : Nat → Int32} {w : Int32} (hb : BB b) (hC : CR b σ ρ) (hP : PL b σ) (hI : IR ρ) (hp : p < 5) (e2 : ρ 2 = nI n) (hn : n ≤ 20) (hs : s < n) (ea : ρ (66 + 4 * p) = nI s) (eh : ρ (6 + 3 * s + 2) = nI h) (hh : h ≤ 9999) (el : ρ (66 + 4 * p + 1) = nI l) (hl0 : 0 < l) (ef : ρ (66 + 4 * p + 3) = nI f) (hf : f ≤ 9999) :
    ∃ σ', f_X0_hear b (b + 31 + p) w σ = some (contP ρ s w, σ') ∧ CR b σ' (heR ρ p s h l f (contP ρ s w)) ∧ PL b σ' ∧ FR b σ σ' := by
  have hs20 : s < 20 := by omega
  obtain ⟨σ0, x0, j0⟩ := cont0 (w := w) hb hC hP hI hs20
  have hC0 := hC.je hb j0
  have hP0 := hP.je hb j0
  have hat : σ (b + 31 + p) 0 = nI s := (hC.p hp (k := 0) (by omega)).trans ea
  have c01 := cont01 ρ s w
  unfold f_X0_hear
  rw [hat, judgeOn_t (hC.steps.trans e2) hn hs, bd_some, onO_some, if_pos (kd_j hb hs20), x0, bd_some]
  have e27 : ∀ c : Int32, (c = 0 ∨ c = 1) → c = contP ρ s w → ∃ σ', u_X0_hear_27 (b + 31 + p) (some (b + 11 + s)) c σ0 = some (c, σ') ∧ CR b σ' (heR ρ p s h l f c) ∧ PL b σ' ∧ FR b σ0 σ' := by
    intro c hc _
    unfold u_X0_hear_27
    rw [onO_some, show σ0 (b + 11 + s) 3 = nI h from (hC0.j hs20 (k := 2) (by omega)).trans eh, min9 hh, lt_eq]
    have hC1 := jput (k := 2) hC0 (nI (min (h + 1) 9999)) hs20 (by omega)
    have hP1 : PL b (mu σ0 (b + 11 + s) 3 (nI (min (h + 1) 9999))) := hP0.put (by omega)
    have hF1 : FR b σ0 (mu σ0 (b + 11 + s) 3 (nI (min (h + 1) 9999))) := FR.mu (by omega) (by omega)
    change CR b (mu σ0 (b + 11 + s) 3 (nI (min (h + 1) 9999))) (upd ρ (6 + 3 * s + 2) (nI (min (h + 1) 9999))) at hC1
    generalize mu σ0 (b + 11 + s) 3 (nI (min (h + 1) 9999)) = t at hC1 hP1 hF1 ⊢
    unfold u_X0_hear_49
    have l1 := hC1.p hp (k := 1) (by omega)
    rw [upd_at, if_neg (by omega), el] at l1
    rw [l1, pred1 hl0, lt_eq]
    have hC2 := pput (k := 1) hC1 (nI (l - 1)) hp (by omega)
    have hP2 : PL b (mu t (b + 31 + p) 1 (nI (l - 1))) := hP1.put (by omega)
    have hF2 : FR b σ0 (mu t (b + 31 + p) 1 (nI (l - 1))) := hF1.tr (FR.mu (by omega) (by omega))
    generalize mu t (b + 31 + p) 1 (nI (l - 1)) = t2 at hC2 hP2 hF2 ⊢
    have a1 := hC2.p hp (k := 0) (by omega)
    rw [upd_at, upd_at, if_neg (by omega), if_neg (by omega)] at a1
    rw [show t2 (b + 31 + p) 0 = nI s from a1.trans ea]
    rcases hc with rfl | rfl
    · rw [if_pos rfl, max0 (by omega), lt_eq]
      have hC3 := pput (k := 0) hC2 (nI (s - 2)) hp (by omega)
      have hP3 : PL b (mu t2 (b + 31 + p) 0 (nI (s - 2))) := hP2.put (by omega)
      have hF3 : FR b σ0 (mu t2 (b + 31 + p) 0 (nI (s - 2))) := hF2.tr (FR.mu (by omega) (by omega))
      generalize mu t2 (b + 31 + p) 0 (nI (s - 2)) = t3 at hC3 hP3 hF3 ⊢
      have f1 := hC3.p hp (k := 3) (by omega)
      rw [upd_at, upd_at, upd_at, if_neg (by omega), if_neg (by omega), if_neg (by omega), ef] at f1
      rw [f1, min9 hf, lt_eq, if_pos (Or.inl rfl)]
      refine ⟨_, rfl, ?_, hP3.put (by omega), hF3.tr (FR.mu (by omega) (by omega))⟩
      have hC4 := pput (k := 3) hC3 (nI (min (f + 1) 9999)) hp (by omega)
      exact hC4
    · rw [if_neg (by decide), lit 1, nI_add, lt_eq, if_pos (Or.inr rfl)]
      have hC3 := pput (k := 0) hC2 (nI (s + 1)) hp (by omega)
      refine ⟨_, rfl, ?_, hP2.put (by omega), hF2.tr (FR.mu (by omega) (by omega))⟩
      unfold heR
      have e3 : upd (upd (upd (upd ρ (6 + 3 * s + 2) (nI (min (h + 1) 9999))) (66 + 4 * p + 1) (nI (l - 1))) (66 + 4 * p + 0) (nI (s + 1))) (66 + 4 * p + 3) (nI f) = upd (upd (upd ρ (6 + 3 * s + 2) (nI (min (h + 1) 9999))) (66 + 4 * p + 1) (nI (l - 1))) (66 + 4 * p + 0) (nI (s + 1)) := by
        have e4 : upd (upd (upd ρ (6 + 3 * s + 2) (nI (min (h + 1) 9999))) (66 + 4 * p + 1) (nI (l - 1))) (66 + 4 * p + 0) (nI (s + 1)) (66 + 4 * p + 3) = nI f := by
          rw [upd_at, upd_at, upd_at, if_neg (by omega), if_neg (by omega), if_neg (by omega)]; exact ef
        rw [← e4]; exact upd_same
      rw [if_neg (show ¬ nI 1 = 0 by decide), if_neg (show ¬ nI 1 = 0 by decide)]
      rw [← e3] at hC3
      exact hC3
  rcases c01 with e | e
  · obtain ⟨σ', x1, x2, x3, x4⟩ := e27 0 (Or.inl rfl) e.symm
    rw [e, if_pos rfl]
    exact ⟨σ', x1, x2, x3, j0.fr.tr x4⟩
  · obtain ⟨σ', x1, x2, x3, x4⟩ := e27 1 (Or.inr rfl) e.symm
    rw [e, if_neg (by decide)]
    exact ⟨σ', x1, x2, x3, j0.fr.tr x4⟩
theorem held9 {x : Nat} (hx : x ≤ 10000) : (if (0 : Int32) ≤ nI x then (if nI x ≤ (9999 : Int32) then nI x else (9999 : Int32)) else 0) = nI (min x 9999) := by
  rw [if_pos (nI_pos' (by omega))]
  by_cases q : x ≤ 9999
  · rw [if_pos (show nI x ≤ (9999 : Int32) from nI_le q (by decide)), Nat.min_eq_left q]
  · rw [if_neg (show ¬ nI x ≤ (9999 : Int32) from nI_ge (show 9999 < x by omega) (by omega)), Nat.min_eq_right (show 9999 ≤ x by omega)]; rfl
theorem held20 {s : Nat} (hs : s ≤ 20) : (if (0 : Int32) ≤ nI s - 2 then (if nI s - 2 ≤ (20 : Int32) then nI s - 2 else (20 : Int32)) else 0) = nI (s - 2) := by
  rcases Nat.lt_or_ge 1 s with q | q
  · rw [lit 2, nI_sub' (by omega), if_pos (nI_pos' (by omega)), if_pos (show nI (s - 2) ≤ (20 : Int32) from nI_le (show s - 2 ≤ 20 by omega) (by decide))]
  · rcases (show s = 0 ∨ s = 1 by omega) with rfl | rfl <;> decide
/-- alike but for the row -/
def RO (σ σ' : MM) : Prop := ∀ i, ¬ JK i → i ≠ 130 → σ' i = σ i
theorem RO.rf {σ : MM} : RO σ σ := fun _ _ _ => rfl
theorem RO.tr {σ σ' σ'' : MM} (h : RO σ σ') (h2 : RO σ' σ'') : RO σ σ'' := fun i a c => (h2 i a c).trans (h i a c)
theorem JE.ro {σ σ' : MM} (h : JE σ σ') : RO σ σ' := fun i a _ => h i a
theorem RO.mu {k : Nat} {σ : MM} {v : Int32} : RO σ (mu σ 130 k v) := fun _ _ hj => mu_off _ _ hj
theorem RO.go {σ σ' : MM} (h : RO σ σ') : GO σ σ' := by
  refine ⟨fun i hi _ h2 => h i (fun e => hi (Or.inl e)) h2, fun j hj => ?_, ?_, ?_, ?_⟩
  all_goals rw [h _ (by unfold JK; omega) (by omega)]
/-- the reference: one says a word -/
theorem says9 {p s h l f n : Nat} {σ : MM} {w : Int32} (hI : IR (σ 130)) (hp : p < 5) (e2 : σ 130 2 = nI n) (hn : n ≤ 20) (hs : s < n) (ea : σ 130 (66 + 4 * p) = nI s) (eh : σ 130 (6 + 3 * s + 2) = nI h) (hh : h ≤ 9999) (el : σ 130 (66 + 4 * p + 1) = nI l) (hl0 : 0 < l) (ef : σ 130 (66 + 4 * p + 3) = nI f) (hf : f ≤ 9999) :
    ∃ σ', f_X9_says (nI p) w σ = some (if contP (σ 130) s w = 0 then 1 else 0, σ') ∧ σ' 130 = heR (σ 130) p s h l f (contP (σ 130) s w) ∧ RO σ σ' := by
  obtain ⟨σ0, x0, j0⟩ := cont9 (w := w) (s := s) hI (by omega)
  have e130 : σ0 130 = σ 130 := j0 130 (by unfold JK; omega)
  unfold f_X9_says
  rw [about0 (by omega), bd_some, ea, x0, bd_some]
  have e21 : ∀ c v : Int32, (c = 0 ∧ v = 1) ∨ (c = 1 ∧ v = 0) → ∃ σ', u_X9_says_21 (nI p) (nI s) v σ0 = some (v, σ') ∧ σ' 130 = heR (σ 130) p s h l f c ∧ RO σ0 σ' := by
    intro c v hcv
    unfold u_X9_says_21
    rw [of2 (by omega), bd_some, e130, eh, lit 1, nI_add, held_eq, bd_some, held9 (by omega), lit 3, lit 6, pk_mul, nI_add, lit 2, nI_add, if_neg (ixN (by omega) (by decide)), nI_cl (by omega), lt_eq]
    have r1 : (mu σ0 130 (6 + 3 * s + 2) (nI (min (h + 1) 9999))) 130 = upd (σ 130) (6 + 3 * s + 2) (nI (min (h + 1) 9999)) := by rw [mu_row, e130]
    have o1 : RO σ0 (mu σ0 130 (6 + 3 * s + 2) (nI (min (h + 1) 9999))) := RO.mu
    generalize mu σ0 130 (6 + 3 * s + 2) (nI (min (h + 1) 9999)) = t1 at r1 o1 ⊢
    rw [show nI 1 = (1 : Int32) from rfl, show nI 2 = (2 : Int32) from rfl, about1 (by omega), bd_some, r1, upd_at, if_neg (by omega), el, pred1 hl0, lets1 (by omega), bd_some]
    have r2 : (mu t1 130 (66 + 4 * p + 1) (nI (l - 1))) 130 = upd (upd (σ 130) (6 + 3 * s + 2) (nI (min (h + 1) 9999))) (66 + 4 * p + 1) (nI (l - 1)) := by rw [mu_row, r1]
    have o2 : RO σ0 (mu t1 130 (66 + 4 * p + 1) (nI (l - 1))) := o1.tr RO.mu
    generalize mu t1 130 (66 + 4 * p + 1) (nI (l - 1)) = t2 at r2 o2 ⊢
    have e88 : ∀ (x y : Nat), (v = 0 → y = f) → (v = 1 → y = min (f + 1) 9999) → ∃ σ', u_X9_says_88 (nI p) v (nI x) 0 (nI p) t2 = some (v, σ') ∧ σ' 130 = upd (upd (t2 130) (66 + 4 * p) (nI x)) (66 + 4 * p + 3) (nI y) ∧ RO t2 σ' := by
      intro x y hv0 hv1
      unfold u_X9_says_88
      rw [lets0 (by omega), bd_some, about3 (by omega), bd_some]
      have r3 : (mu t2 130 (66 + 4 * p) (nI x)) 130 = upd (t2 130) (66 + 4 * p) (nI x) := mu_row _ _ _ _
      have o3 : RO t2 (mu t2 130 (66 + 4 * p) (nI x)) := RO.mu
      generalize mu t2 130 (66 + 4 * p) (nI x) = t3 at r3 o3 ⊢
      have fz : t3 130 (66 + 4 * p + 3) = nI f := by
        rw [r3, r2, upd_at, upd_at, upd_at, if_neg (by omega), if_neg (by omega), if_neg (by omega)]; exact ef
      rw [fz]
      unfold u_X9_says_110
      rcases hcv with ⟨-, rfl⟩ | ⟨-, rfl⟩
      · rw [if_neg (by decide), lit 1, nI_add, held_eq, bd_some, held9 (by omega), show nI 1 = (1 : Int32) from rfl, lets3 (by omega), bd_some, if_pos (Or.inr rfl)]
        refine ⟨_, rfl, ?_, o3.tr RO.mu⟩
        rw [mu_row, r3, hv1 rfl]
      · rw [if_pos rfl, lit 0, nI_add, held_eq, bd_some, show nI 0 = (0 : Int32) from rfl, held9 (by omega), lets3 (by omega), bd_some, if_pos (Or.inl rfl)]
        refine ⟨_, rfl, ?_, o3.tr RO.mu⟩
        rw [mu_row, r3, hv0 rfl, show min (f + 0) 9999 = f from Nat.min_eq_left hf]
    rcases hcv with ⟨rfl, rfl⟩ | ⟨rfl, rfl⟩
    · obtain ⟨σ', y1, y2, y3⟩ := e88 (s - 2) (min (f + 1) 9999) (fun q => absurd q (by decide)) (fun _ => rfl)
      rw [if_neg (by decide), held_eq, bd_some, held20 (by omega), y1]
      refine ⟨σ', rfl, ?_, o2.tr y3⟩
      rw [y2, r2]; rfl
    · obtain ⟨σ', y1, y2, y3⟩ := e88 (s + 1) f (fun _ => rfl) (fun q => absurd q (by decide))
      rw [if_pos rfl, lit 1, nI_add, y1]
      refine ⟨σ', rfl, ?_, o2.tr y3⟩
      rw [y2, r2]; rfl
  rcases cont01 (σ 130) s w with e | e
  · obtain ⟨σ', y1, y2, y3⟩ := e21 0 1 (Or.inl ⟨rfl, rfl⟩)
    rw [e, if_pos rfl, if_pos rfl, y1]
    exact ⟨σ', rfl, y2, j0.ro.tr y3⟩
  · obtain ⟨σ', y1, y2, y3⟩ := e21 1 0 (Or.inr ⟨rfl, rfl⟩)
    rw [e, if_neg (by decide), if_neg (by decide), y1]
    exact ⟨σ', rfl, y2, j0.ro.tr y3⟩

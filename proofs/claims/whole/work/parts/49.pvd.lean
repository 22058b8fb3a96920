/-- voices: class and reference in step -/
def VZ : Type := Nat × Int32 × Nat
def VZ.k (z : VZ) : Nat := z.1
def VZ.M (z : VZ) : Int32 := z.2.1
def VZ.t (z : VZ) : Nat := z.2.2
def RC (z : VZ) (n : Nat) (σ : MM) : Prop := σ 113 0 = nI n ∧ σ 113 1 = 0 ∧ σ 113 3 = nI z.k ∧ σ 113 4 = z.M ∧ σ 113 5 = nI z.t
def RT (z : VZ) (n : Nat) (σ τ : MM) : Prop := τ 129 19 = nI n ∧ τ 129 20 = 0 ∧ τ 130 (6 + 3 * z.t) = nI z.k ∧ τ 130 (6 + 3 * z.t + 1) = z.M ∧ ∀ k, k < n → τ 142 k = σ 114 k
def FV (σ σ' : MM) : Prop := ∀ i, i ≠ 113 → i ≠ 114 → σ' i = σ i
def FW (τ τ' : MM) : Prop := (∀ i, i ≠ 129 → i ≠ 142 → τ' i = τ i) ∧ τ' 129 3 = τ 129 3
theorem FV.rf {σ : MM} : FV σ σ := fun _ _ _ => rfl
theorem FV.tr {σ σ' σ'' : MM} (h : FV σ σ') (h2 : FV σ' σ'') : FV σ σ'' := fun i a b => (h2 i a b).trans (h i a b)
theorem FW.rf {σ : MM} : FW σ σ := ⟨fun _ _ _ => rfl, rfl⟩
theorem FW.tr {σ σ' σ'' : MM} (h : FW σ σ') (h2 : FW σ' σ'') : FW σ σ'' := ⟨fun i a b => (h2.1 i a b).trans (h.1 i a b), h2.2.trans h.2⟩
def VP {α : Type} (z : VZ) (j : Nat) (x y : MM → Option (α × MM)) : Prop := ∀ (σ : MM) (n : Nat), n + j ≤ 30 → RC z n σ → ∃ (r : α) (σ' : MM) (n' : Nat), x σ = some (r, σ') ∧ n' ≤ n + j ∧ RC z n' σ' ∧ FV σ σ' ∧ ∀ τ, RT z n σ τ → ∃ τ', y τ = some (r, τ') ∧ RT z n' σ' τ' ∧ FW τ τ'
theorem VP.tn {α β : Type} {z : VZ} {j j' : Nat} {x y : MM → Option (α × MM)} {k l : α → MM → Option (β × MM)} (h : VP z j x y) (hk : ∀ r, VP z j' (k r) (l r)) : VP z (j + j') (fun s => bd (x s) k) (fun s => bd (y s) l) := by
  intro σ n hn hc
  obtain ⟨r, σ1, n1, e1, h1, c1, f1, t1⟩ := h σ n (by omega) hc
  obtain ⟨r2, σ2, n2, e2, h2, c2, f2, t2⟩ := hk r σ1 n1 (by omega) c1
  refine ⟨r2, σ2, n2, by show bd (x σ) k = _; rw [e1, bd_some, e2], by omega, c2, f1.tr f2, fun τ ht => ?_⟩
  obtain ⟨τ1, a1, a2, a3⟩ := t1 τ ht
  obtain ⟨τ2, b1, b2, b3⟩ := t2 τ1 a2
  exact ⟨τ2, by show bd (y τ) l = _; rw [a1, bd_some, b1], b2, a3.tr b3⟩
theorem VP.rf {α : Type} {z : VZ} {r : α} : VP z 0 (fun s => some (r, s)) (fun s => some (r, s)) := fun σ n _ hc => ⟨r, σ, n, rfl, by omega, hc, FV.rf, fun τ ht => ⟨τ, rfl, ht, FW.rf⟩⟩
theorem VP.le {α : Type} {z : VZ} {j j' : Nat} {x y : MM → Option (α × MM)} (h : VP z j x y) (hj : j ≤ j') : VP z j' x y := by
  intro σ n hn hc
  obtain ⟨r, σ1, n1, e1, h1, q⟩ := h σ n (by omega) hc
  exact ⟨r, σ1, n1, e1, by omega, q⟩
theorem VP.to {α : Type} {z : VZ} {j : Nat} {x x' y y' : MM → Option (α × MM)} (h : VP z j x y) (ex : ∀ σ n, RC z n σ → x' σ = x σ) (ey : ∀ σ τ n, RT z n σ τ → y' τ = y τ) : VP z j x' y' := by
  intro σ n hn hc
  obtain ⟨r, σ1, n1, e1, h1, c1, f1, t1⟩ := h σ n hn hc
  refine ⟨r, σ1, n1, by rw [ex σ n hc, e1], h1, c1, f1, fun τ ht => ?_⟩
  obtain ⟨τ1, a1, a2, a3⟩ := t1 τ ht
  exact ⟨τ1, by rw [ey σ τ n ht, a1], a2, a3⟩
theorem VP.nb {z : VZ} (b : Int32) : VP z 1 (f_X7_note b) (f_X9_begins b) := by
  intro σ n hn hc
  obtain ⟨c1, c2, c3, c4, c5⟩ := hc
  refine ⟨(), mu (mu σ 114 n b) 113 0 (nI (n + 1)), n + 1, ?_, by omega, ?_, ?_, fun τ ht => ?_⟩
  · unfold f_X7_note
    rw [c1, if_neg (nI_pos (by omega)), if_neg (show ¬ (30 : Int32) ≤ nI n from nI_ge (show n < 30 by omega) (by decide)), if_neg (ixN (by omega) (by decide)), nI_cl (by omega)]
    simp only [lt_eq]
    rw [mu_off _ _ (by omega), c1, k1]
  · refine ⟨by rw [mu_at, if_pos ⟨rfl, rfl⟩], ?_, ?_, ?_, ?_⟩
    all_goals rw [mu_at, if_neg (by omega), mu_off _ _ (by omega)]
    all_goals assumption
  · intro i h1 h2; rw [mu_off _ _ h1, mu_off _ _ h2]
  · obtain ⟨d1, d2, d3, d4, d5⟩ := ht
    refine ⟨mu (mu τ 142 n b) 129 19 (nI (n + 1)), ?_, ⟨by rw [mu_at, if_pos ⟨rfl, rfl⟩], ?_, ?_, ?_, fun k hk => ?_⟩, fun i h1 h2 => by rw [mu_off _ _ h1, mu_off _ _ h2], by rw [mu_at, if_neg (by omega), mu_off _ _ (by omega)]⟩
    · unfold f_X9_begins
      rw [d1, if_neg (show ¬ (30 : Int32) ≤ nI n from nI_ge (show n < 30 by omega) (by decide)), if_neg (ixN (by omega) (by decide)), nI_cl (by omega)]
      simp only [lt_eq]
      rw [mu_off _ _ (by omega), d1, k1]
    · rw [mu_at, if_neg (by omega), mu_off _ _ (by omega)]; exact d2
    · rw [mu_off _ _ (by omega), mu_off _ _ (by omega)]; exact d3
    · rw [mu_off _ _ (by omega), mu_off _ _ (by omega)]; exact d4
    · rw [mu_off _ _ (show 142 ≠ 129 by omega), mu_off _ _ (show 114 ≠ 113 by omega), mu_at, mu_at]
      by_cases e : k = n
      · rw [if_pos ⟨rfl, e⟩, if_pos ⟨rfl, e⟩]
      · rw [if_neg (fun q => e q.2), if_neg (fun q => e q.2)]; exact d5 k (by omega)
theorem bd_id {α : Type} (x : Option (α × MM)) : bd x (fun r s => some (r, s)) = x := by
  cases x with
  | none => rfl
  | some p => rfl
def bFv (k v : Nat) : Int32 := ([10, 11, 12, 13, 20, 11, 12, 21, 10, 30, 12, 13, 10, 11, 40, 13, 50, 11, 51, 21, 10, 60, 12, 13, 70, 71, 12, 13] : List Int32).getD (4 * k + v) 0
set_option maxRecDepth 100000 in
theorem bF {k v : Nat} {σ : MM} (hk : k ≤ 6) (hv : v ≤ 3) : f_X7_bodyFrom (nI k) (nI v) σ = some (bFv k v, σ) := by
  rcases (show k = 0 ∨ k = 1 ∨ k = 2 ∨ k = 3 ∨ k = 4 ∨ k = 5 ∨ k = 6 by omega) with rfl | rfl | rfl | rfl | rfl | rfl | rfl <;>
  rcases (show v = 0 ∨ v = 1 ∨ v = 2 ∨ v = 3 by omega) with rfl | rfl | rfl | rfl <;> rfl
theorem VP.own {z : VZ} {bg : Int32 → Int32 → Int32 → MM → Option (Int32 × MM)} {v j dep : Nat} {x : Int32} {y : MM → Option (Int32 × MM)} (hk : z.k ≤ 6) (hv : v ≤ 3) (h : VP z j (bg (bFv z.k v) x (nI (dep + 1))) y) : VP z j (f_X7_own bg (nI v) x (nI dep)) y := h.to (fun σ n hc => by unfold f_X7_own; rw [hc.2.2.1, bF hk hv, bd_some, k1, bd_id]) (fun _ _ _ _ => rfl)
theorem VP.above {z : VZ} {bg : Int32 → Int32 → Int32 → MM → Option (Int32 × MM)} {j dep : Nat} {x b v k' b' : Int32} {y : MM → Option (Int32 × MM)} (hA : ∀ σ, f_X8_kindAbove ((b / (10 : Int32)) - (1 : Int32)) σ = some (k', σ)) (hB : ∀ σ, f_X7_bodyFrom k' v σ = some (b', σ)) (h : VP z j (bg b' x (nI (dep + 1))) y) : VP z j (f_X7_above bg b v x (nI dep)) y := h.to (fun σ n hc => by unfold f_X7_above; rw [hA, bd_some, hB, bd_some, k1, bd_id]) (fun _ _ _ _ => rfl)
theorem VP.beg {z : VZ} {d dep j : Nat} {b x : Int32} {K y : MM → Option (Int32 × MM)} (hd : dep ≤ 30) (hK : ∀ σ, g_X7_begin (f_X7_begin d) b x (nI dep) σ = if (σ 113 1) = 0 then if (nI dep) ≤ (30 : Int32) then bd (f_X7_note b σ) (fun _ s => K s) else some ((0 : Int32), σ) else some ((0 : Int32), σ)) (h : VP z j K y) : VP z (1 + j) (f_X7_begin (d + 1) b x (nI dep)) (fun τ => bd (f_X9_begins b τ) (fun _ t => y t)) :=
  ((VP.nb b).tn (fun _ => h)).to (fun σ n hc => by
    show g_X7_begin (f_X7_begin d) b x (nI dep) σ = _
    rw [hK, if_pos hc.2.1, if_pos (show nI dep ≤ (30 : Int32) from nI_le hd (by decide))]) (fun _ _ _ _ => rfl)
theorem paV {z : VZ} {d dep : Nat} {x : Int32} (hd : dep ≤ 30) : VP z 1 (f_X7_begin (d + 1) 10 x (nI dep)) (f_X9_plainAsks (nI z.t) x) :=
  VP.beg (j := 0) hd (K := fun s => some (x + s 113 5, s)) (y := fun t => some (x + nI z.t, t)) (fun _ => rfl) ((VP.rf (r := x + nI z.t)).to (fun σ n hc => by rw [hc.2.2.2.2]) (fun _ _ _ _ => rfl))
theorem saV {z : VZ} {d dep : Nat} {x : Int32} (hd : dep < 30) : VP z 2 (f_X7_begin (d + 2) 20 x (nI dep)) (f_X9_strictAsks (nI z.t) x) :=
  VP.beg (d := d + 1) (j := 1) (by omega) (K := fun s => bd (f_X7_above (f_X7_begin (d + 1)) 20 0 x (nI dep) s) (fun r t => some (r - 4, t))) (y := fun τ => bd (f_X9_plainAsks (nI z.t) x τ) (fun r t => some (r - 4, t))) (fun _ => rfl) ((VP.above (k' := 0) (b' := 10) (fun _ => rfl) (fun _ => rfl) (paV (d := d) (by omega))).tn (j' := 0) (fun r => VP.rf))
theorem asV {z : VZ} {d dep : Nat} {x : Int32} (hk : z.k ≤ 6) (ht : z.t < 20) (hd : dep < 29) : VP z 3 (f_X7_begin (d + 3) (bFv z.k 0) x (nI dep)) (f_X9_asks (nI z.t) x) := by
  rcases (show z.k = 0 ∨ z.k = 1 ∨ z.k = 2 ∨ z.k = 3 ∨ z.k = 4 ∨ z.k = 5 ∨ z.k = 6 by omega) with e | e | e | e | e | e | e
  all_goals rw [e]
  · exact ((paV (d := d + 2) (by omega)).le (by omega)).to (fun _ _ _ => rfl) (fun σ τ n h => by unfold f_X9_asks; rw [of0 (by omega), bd_some, h.2.2.1, e, if_neg (by decide), if_neg (by decide), if_neg (by decide), bd_id])
  · exact ((saV (d := d + 1) (by omega)).le (by omega)).to (fun _ _ _ => rfl) (fun σ τ n h => by unfold f_X9_asks; rw [of0 (by omega), bd_some, h.2.2.1, e, if_pos (by decide), bd_id])
  · exact ((paV (d := d + 2) (by omega)).le (by omega)).to (fun _ _ _ => rfl) (fun σ τ n h => by unfold f_X9_asks; rw [of0 (by omega), bd_some, h.2.2.1, e, if_neg (by decide), if_neg (by decide), if_neg (by decide), bd_id])
  · exact ((paV (d := d + 2) (by omega)).le (by omega)).to (fun _ _ _ => rfl) (fun σ τ n h => by unfold f_X9_asks; rw [of0 (by omega), bd_some, h.2.2.1, e, if_neg (by decide), if_neg (by decide), if_neg (by decide), bd_id])
  · refine (VP.beg (d := d + 2) (j := 2) (b := 50) (x := x) (dep := dep) (by omega) (K := fun s => bd (f_X7_above (f_X7_begin (d + 2)) 50 0 x (nI dep) s) (fun r t => some (r * 3, t))) (y := fun τ => bd (f_X9_strictAsks (nI z.t) x τ) (fun r t => some (r * 3, t))) (fun _ => rfl) ((VP.above (k' := 1) (b' := 20) (fun _ => rfl) (fun _ => rfl) (saV (d := d) (by omega))).tn (j' := 0) (fun r => VP.rf))).to (fun _ _ _ => rfl) (fun σ τ n h => ?_)
    unfold f_X9_asks
    rw [of0 (by omega), bd_some, h.2.2.1, e, if_neg (by decide), if_pos (by decide)]
  · exact ((paV (d := d + 2) (by omega)).le (by omega)).to (fun _ _ _ => rfl) (fun σ τ n h => by unfold f_X9_asks; rw [of0 (by omega), bd_some, h.2.2.1, e, if_neg (by decide), if_neg (by decide), if_neg (by decide), bd_id])
  · refine ((VP.beg (d := d + 2) (j := 0) (b := 70) (x := x) (dep := dep) (by omega) (K := fun s => some (9, s)) (y := fun t => some (9, t)) (fun _ => rfl) VP.rf).le (by omega)).to (fun _ _ _ => rfl) (fun σ τ n h => ?_)
    unfold f_X9_asks
    rw [of0 (by omega), bd_some, h.2.2.1, e, if_neg (by decide), if_neg (by decide), if_pos (by decide)]
theorem pnV {z : VZ} {d dep : Nat} {x : Int32} (hk : z.k ≤ 6) (ht : z.t < 20) (hd : dep < 28) : VP z 4 (f_X7_begin (d + 4) 11 x (nI dep)) (f_X9_plainNods (nI z.t) x) :=
  VP.beg (d := d + 3) (j := 3) (by omega) (K := fun s => bd (f_X7_own (f_X7_begin (d + 3)) 0 x (nI dep) s) (fun r t => some (r * 2, t))) (y := fun τ => bd (f_X9_asks (nI z.t) x τ) (fun r t => some (r * 2, t))) (fun _ => rfl) ((VP.own (v := 0) hk (by omega) (asV (d := d) hk ht (by omega))).tn (j' := 0) (fun r => VP.rf))
theorem mnV {z : VZ} {d dep : Nat} {x : Int32} (hk : z.k ≤ 6) (ht : z.t < 20) (hd : dep < 27) : VP z 5 (f_X7_begin (d + 5) 30 x (nI dep)) (f_X9_mildNods (nI z.t) x) :=
  VP.beg (d := d + 4) (j := 4) (by omega) (K := fun s => bd (f_X7_above (f_X7_begin (d + 4)) 30 1 x (nI dep) s) (fun r t => some (0 - r, t))) (y := fun τ => bd (f_X9_plainNods (nI z.t) x τ) (fun r t => some (-r, t))) (fun _ => rfl) ((VP.above (k' := 0) (b' := 11) (fun _ => rfl) (fun _ => rfl) (pnV (d := d) hk ht (by omega))).tn (j' := 0) (fun r => (VP.rf (r := -r)).to (fun σ n _ => by rw [Int32.zero_sub]) (fun _ _ _ _ => rfl)))
theorem noV {z : VZ} {d dep : Nat} {x : Int32} (hk : z.k ≤ 6) (ht : z.t < 20) (hd : dep < 26) : VP z 6 (f_X7_begin (d + 6) (bFv z.k 1) x (nI dep)) (f_X9_nods (nI z.t) x) := by
  have pl : ∀ {k : Nat}, z.k = k → ¬ nI k = (2 : Int32) → ¬ nI k = (5 : Int32) → ¬ nI k = (6 : Int32) → VP z 6 (f_X7_begin (d + 6) 11 x (nI dep)) (f_X9_nods (nI z.t) x) := by
    intro k e e1 e2 e3
    refine ((pnV (d := d + 2) hk ht (by omega)).le (by omega)).to (fun _ _ _ => rfl) (fun σ τ n h => ?_)
    unfold f_X9_nods u_X9_nods_82
    rw [of0 (by omega), bd_some, h.2.2.1, e, if_neg e1, if_neg e2, if_neg e3, bd_id]
  rcases (show z.k = 0 ∨ z.k = 1 ∨ z.k = 2 ∨ z.k = 3 ∨ z.k = 4 ∨ z.k = 5 ∨ z.k = 6 by omega) with e | e | e | e | e | e | e
  all_goals rw [e]
  · exact pl e (by decide) (by decide) (by decide)
  · exact pl e (by decide) (by decide) (by decide)
  · refine ((mnV (d := d + 1) hk ht (by omega)).le (by omega)).to (fun _ _ _ => rfl) (fun σ τ n h => ?_)
    unfold f_X9_nods
    rw [of0 (by omega), bd_some, h.2.2.1, e, if_pos (by decide), bd_id]
  · exact pl e (by decide) (by decide) (by decide)
  · exact pl e (by decide) (by decide) (by decide)
  · refine (VP.beg (d := d + 5) (j := 5) (b := 60) (x := x) (dep := dep) (by omega) (K := fun s => bd (f_X7_above (f_X7_begin (d + 5)) 60 1 (x + 1) (nI dep) s) (fun r t => some (r, t))) (y := fun τ => bd (f_X9_mildNods (nI z.t) (x + 1) τ) (fun r t => some (r, t))) (fun _ => rfl) ((VP.above (k' := 2) (b' := 30) (fun _ => rfl) (fun _ => rfl) (mnV (d := d) hk ht (by omega))).tn (j' := 0) (fun r => VP.rf))).to (fun _ _ _ => rfl) (fun σ τ n h => ?_)
    unfold f_X9_nods
    rw [of0 (by omega), bd_some, h.2.2.1, e, if_neg (by decide), if_pos (by decide)]
  · refine ((VP.beg (d := d + 5) (j := 4) (b := 71) (x := x) (dep := dep) (by omega) (K := fun s => bd (f_X7_above (f_X7_begin (d + 5)) 71 1 x (nI dep) s) (fun r t => some (r + t 113 4, t))) (y := fun τ => bd (f_X9_plainNods (nI z.t) x τ) (fun r t => bd (f_X9_of (nI z.t) 1 t) (fun q u => some (r + q, u)))) (fun _ => rfl) ((VP.above (k' := 0) (b' := 11) (fun _ => rfl) (fun _ => rfl) (pnV (d := d + 1) hk ht (by omega))).tn (j' := 0) (fun r => (VP.rf (r := r + z.M)).to (fun σ n hc => by rw [hc.2.2.2.1]) (fun σ τ n h => by rw [of1 (by omega), bd_some, h.2.2.2.1])))).le (by omega)).to (fun _ _ _ => rfl) (fun σ τ n h => ?_)
    unfold f_X9_nods
    rw [of0 (by omega), bd_some, h.2.2.1, e, if_neg (by decide), if_neg (by decide), if_pos (by decide)]
theorem peV {z : VZ} {d dep : Nat} {x : Int32} (hk : z.k ≤ 6) (ht : z.t < 20) (hd : dep < 25) : VP z 7 (f_X7_begin (d + 7) 12 x (nI dep)) (f_X9_plainEchoes (nI z.t) x) :=
  VP.beg (d := d + 6) (j := 6) (by omega) (K := fun s => bd (f_X7_own (f_X7_begin (d + 6)) 1 x (nI dep) s) (fun r t => some (r - t 113 4, t))) (y := fun τ => bd (f_X9_nods (nI z.t) x τ) (fun r t => bd (f_X9_of (nI z.t) 1 t) (fun q u => some (r - q, u)))) (fun _ => rfl) ((VP.own (v := 1) hk (by omega) (noV (d := d) hk ht (by omega))).tn (j' := 0) (fun r => (VP.rf (r := r - z.M)).to (fun σ n hc => by rw [hc.2.2.2.1]) (fun σ τ n h => by rw [of1 (by omega), bd_some, h.2.2.2.1])))
theorem ecV {z : VZ} {d dep : Nat} {x : Int32} (hk : z.k ≤ 6) (ht : z.t < 20) (hd : dep < 24) : VP z 8 (f_X7_begin (d + 8) (bFv z.k 2) x (nI dep)) (f_X9_echoes (nI z.t) x) := by
  have pl : ∀ {k : Nat}, z.k = k → ¬ nI k = (3 : Int32) → ¬ nI k = (4 : Int32) → VP z 8 (f_X7_begin (d + 8) 12 x (nI dep)) (f_X9_echoes (nI z.t) x) := by
    intro k e e1 e2
    refine ((peV (d := d + 1) hk ht (by omega)).le (by omega)).to (fun _ _ _ => rfl) (fun σ τ n h => ?_)
    unfold f_X9_echoes
    rw [of0 (by omega), bd_some, h.2.2.1, e, if_neg e1, if_neg e2, bd_id]
  rcases (show z.k = 0 ∨ z.k = 1 ∨ z.k = 2 ∨ z.k = 3 ∨ z.k = 4 ∨ z.k = 5 ∨ z.k = 6 by omega) with e | e | e | e | e | e | e
  all_goals rw [e]
  · exact pl e (by decide) (by decide)
  · exact pl e (by decide) (by decide)
  · exact pl e (by decide) (by decide)
  · refine (VP.beg (d := d + 7) (j := 7) (b := 40) (x := x) (dep := dep) (by omega) (K := fun s => bd (f_X7_above (f_X7_begin (d + 7)) 40 2 (x / 2) (nI dep) s) (fun r t => some (r, t))) (y := fun τ => bd (f_X9_plainEchoes (nI z.t) (x / 2) τ) (fun r t => some (r, t))) (fun _ => rfl) ((VP.above (k' := 0) (b' := 12) (fun _ => rfl) (fun _ => rfl) (peV (d := d) hk ht (by omega))).tn (j' := 0) (fun r => VP.rf))).to (fun _ _ _ => rfl) (fun σ τ n h => ?_)
    unfold f_X9_echoes
    rw [of0 (by omega), bd_some, h.2.2.1, e, if_pos (by decide)]
  · refine (VP.beg (d := d + 7) (j := 7) (b := 51) (x := x) (dep := dep) (by omega) (K := fun s => bd (f_X7_above (f_X7_begin (d + 7)) 51 2 x (nI dep) s) (fun r t => some (r ^^^ t 113 5, t))) (y := fun τ => bd (f_X9_plainEchoes (nI z.t) x τ) (fun r t => some (r ^^^ nI z.t, t))) (fun _ => rfl) ((VP.above (k' := 1) (b' := 12) (fun _ => rfl) (fun _ => rfl) (peV (d := d) hk ht (by omega))).tn (j' := 0) (fun r => (VP.rf (r := r ^^^ nI z.t)).to (fun σ n hc => by rw [hc.2.2.2.2]) (fun _ _ _ _ => rfl)))).to (fun _ _ _ => rfl) (fun σ τ n h => ?_)
    unfold f_X9_echoes
    rw [of0 (by omega), bd_some, h.2.2.1, e, if_neg (by decide), if_pos (by decide)]
  · exact pl e (by decide) (by decide)
  · exact pl e (by decide) (by decide)

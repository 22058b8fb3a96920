theorem mu_eq (σ : MM) (i k : Nat) (v : Int32) : mu σ i k v i k = v := by rw [mu_at, if_pos ⟨rfl, rfl⟩]
/-- voices that may part -/
def VQ (z : VZ) (x y : MM → Option (Int32 × MM)) : Prop := ∀ (σ : MM) (n : Nat), n + 9 ≤ 30 → RC z n σ → ∃ (r : Int32) (σ' : MM) (n' : Nat), x σ = some (r, σ') ∧ n' ≤ 30 ∧ σ' 113 0 = nI n' ∧ FV σ σ' ∧ (σ' 113 1 = 0 ∨ σ' 113 1 = 1) ∧ ∀ τ, RT z n σ τ → ∃ r' τ', y τ = some (r', τ') ∧ τ' 129 19 = nI n' ∧ (∀ k, k < n' → τ' 142 k = σ' 114 k) ∧ FW τ τ' ∧ τ' 129 20 = σ' 113 1 ∧ (σ' 113 1 = 0 → r' = r)
theorem VP.vq {z : VZ} {j : Nat} {x y : MM → Option (Int32 × MM)} (h : VP z j x y) (hj : j ≤ 9) : VQ z x y := by
  intro σ n hn hc
  obtain ⟨r, σ1, n1, e1, h1, c1, f1, t1⟩ := h σ n (by omega) hc
  refine ⟨r, σ1, n1, e1, by omega, c1.1, f1, Or.inl c1.2.1, fun τ ht => ?_⟩
  obtain ⟨τ1, a1, a2, a3⟩ := t1 τ ht
  exact ⟨r, τ1, a1, a2.1, a2.2.2.2.2, a3, a2.2.1.trans c1.2.1.symm, fun _ => rfl⟩
theorem VQ.to {z : VZ} {x x' y y' : MM → Option (Int32 × MM)} (h : VQ z x y) (ex : ∀ σ n, RC z n σ → x' σ = x σ) (ey : ∀ σ τ n, RT z n σ τ → y' τ = y τ) : VQ z x' y' := by
  intro σ n hn hc
  obtain ⟨r, σ1, n1, e1, h1, h2, h3, h4, t1⟩ := h σ n hn hc
  refine ⟨r, σ1, n1, by rw [ex σ n hc, e1], h1, h2, h3, h4, fun τ ht => ?_⟩
  obtain ⟨r', τ1, a1, a2⟩ := t1 τ ht
  exact ⟨r', τ1, by rw [ey σ τ n ht, a1], a2⟩
theorem VQ.own {z : VZ} {bg : Int32 → Int32 → Int32 → MM → Option (Int32 × MM)} {v dep : Nat} {x : Int32} {y : MM → Option (Int32 × MM)} (hk : z.k ≤ 6) (hv : v ≤ 3) (h : VQ z (bg (bFv z.k v) x (nI (dep + 1))) y) : VQ z (f_X7_own bg (nI v) x (nI dep)) y := h.to (fun σ n hc => by unfold f_X7_own; rw [hc.2.2.1, bF hk hv, bd_some, k1, bd_id]) (fun _ _ _ _ => rfl)
/-- BODY 13, where it doesn't part -/
theorem ppV1 {z : VZ} {d dep : Nat} {x : Int32} (ht : z.t < 20) (hd : dep ≤ 30) (hM : ¬ z.M - nI z.t = 0) : VP z 1 (f_X7_begin (d + 1) 13 x (nI dep)) (f_X9_plainParts (nI z.t) x) := by
  refine VP.beg (j := 0) hd (K := fun s => bd (f_X7_part x s) (fun r t => some (r, t))) (y := fun τ => bd (f_X9_of (nI z.t) (1 : Int32) τ) (fun r16 σ17 => if (r16 - nI z.t) = 0 then u_X9_plainParts_25 x (r16 - nI z.t) (1 : Int32) σ17 else u_X9_plainParts_25 x (r16 - nI z.t) (0 : Int32) σ17)) (fun _ => rfl) ?_
  intro σ n hn hc
  refine ⟨x / (z.M - nI z.t), σ, n, ?_, by omega, hc, FV.rf, fun τ h => ⟨mu τ 129 20 0, ?_, ⟨?_, ?_, ?_, ?_, ?_⟩, fun i h1 h2 => mu_off _ _ h1, by rw [mu_at, if_neg (by omega)]⟩⟩
  · show bd (f_X7_part x σ) _ = _
    unfold f_X7_part
    rw [hc.2.2.2.1, hc.2.2.2.2, if_neg hM, if_neg hM, bd_some]
  · show bd (f_X9_of (nI z.t) (1 : Int32) τ) _ = _
    rw [of1 (by omega), bd_some, h.2.2.2.1, if_neg hM]
    unfold u_X9_plainParts_25
    rw [if_pos (Or.inl rfl), lt_eq, mu_eq, if_pos rfl, if_neg hM]
  · rw [mu_at, if_neg (by omega)]; exact h.1
  · rw [mu_at, if_pos ⟨rfl, rfl⟩]
  · rw [mu_off _ _ (by omega)]; exact h.2.2.1
  · rw [mu_off _ _ (by omega)]; exact h.2.2.2.1
  · rw [mu_off _ _ (by omega)]; exact h.2.2.2.2
/-- BODY 13, where it parts -/
theorem ppV0 {z : VZ} {d dep : Nat} {x : Int32} (ht : z.t < 20) (hd : dep ≤ 30) (hM : z.M - nI z.t = 0) (σ : MM) (n : Nat) (hn : n + 1 ≤ 30) (hc : RC z n σ) : ∃ σ1 n1, f_X7_begin (d + 1) 13 x (nI dep) σ = some (0, mu σ1 113 1 1) ∧ n1 ≤ n + 1 ∧ RC z n1 σ1 ∧ FV σ σ1 ∧ ∀ τ, RT z n σ τ → ∃ τ1, f_X9_plainParts (nI z.t) x τ = some (0, mu τ1 129 20 1) ∧ RT z n1 σ1 τ1 ∧ FW τ τ1 := by
  obtain ⟨_, σ1, n1, e1, h1, c1, f1, t1⟩ := VP.nb (z := z) 13 σ n hn hc
  refine ⟨σ1, n1, ?_, h1, c1, f1, fun τ h => ?_⟩
  · have hK : g_X7_begin (f_X7_begin d) 13 x (nI dep) σ = if (σ 113 1) = 0 then if (nI dep) ≤ (30 : Int32) then bd (f_X7_note 13 σ) (fun _ s => bd (f_X7_part x s) (fun r t => some (r, t))) else some ((0 : Int32), σ) else some ((0 : Int32), σ) := rfl
    show g_X7_begin (f_X7_begin d) 13 x (nI dep) σ = _
    rw [hK, if_pos hc.2.1, if_pos (show nI dep ≤ (30 : Int32) from nI_le hd (by decide)), e1, bd_some]
    unfold f_X7_part
    rw [c1.2.2.2.1, c1.2.2.2.2, if_pos hM, lt_eq, bd_some]
  · obtain ⟨τ1, a1, a2, a3⟩ := t1 τ h
    refine ⟨τ1, ?_, a2, a3⟩
    unfold f_X9_plainParts
    rw [a1, bd_some, of1 (by omega), bd_some, a2.2.2.2.1, if_pos hM]
    unfold u_X9_plainParts_25
    rw [if_pos (Or.inr rfl), lt_eq, mu_eq, if_neg n10]
theorem vq0 {z : VZ} {n n1 : Nat} {σ σ1 τ τ1 : MM} (hc : RC z n1 σ1) (h : RT z n1 σ1 τ1) (w : FW τ τ1) : (mu τ1 129 20 1) 129 19 = nI n1 ∧ (∀ k, k < n1 → (mu τ1 129 20 1) 142 k = (mu σ1 113 1 1) 114 k) ∧ FW τ (mu τ1 129 20 1) ∧ (mu τ1 129 20 1) 129 20 = (mu σ1 113 1 1) 113 1 := by
  refine ⟨by rw [mu_at, if_neg (by omega)]; exact h.1, fun k hk => ?_, ⟨fun i h1 h2 => by rw [mu_off _ _ h1]; exact w.1 i h1 h2, by rw [mu_at, if_neg (by omega)]; exact w.2⟩, ?_⟩
  · rw [mu_off _ _ (by omega), mu_off _ _ (by omega)]; exact h.2.2.2.2 k hk
  · rw [mu_at, if_pos ⟨rfl, rfl⟩, mu_at, if_pos ⟨rfl, rfl⟩]
theorem ppQ {z : VZ} {d dep : Nat} {x : Int32} (ht : z.t < 20) (hd : dep ≤ 30) : VQ z (f_X7_begin (d + 1) 13 x (nI dep)) (f_X9_plainParts (nI z.t) x) := by
  by_cases hM : z.M - nI z.t = 0
  · intro σ n hn hc
    obtain ⟨σ1, n1, e1, h1, c1, f1, t1⟩ := ppV0 (d := d) (x := x) ht hd hM σ n (by omega) hc
    refine ⟨0, mu σ1 113 1 1, n1, e1, by omega, by rw [mu_at, if_neg (by omega)]; exact c1.1, f1.tr (fun i a _ => mu_off _ _ a), Or.inr (by rw [mu_at, if_pos ⟨rfl, rfl⟩]), fun τ h => ?_⟩
    obtain ⟨τ1, a1, a2, a3⟩ := t1 τ h
    obtain ⟨q1, q2, q3, q4⟩ := vq0 (n := n) (σ := σ) c1 a2 a3
    exact ⟨0, _, a1, q1, q2, q3, q4, fun _ => rfl⟩
  · exact (ppV1 ht hd hM).vq (by omega)
/-- BODY 21 -/
theorem p21Q {z : VZ} {d dep : Nat} {x : Int32} (hk : z.k ≤ 6) (ht : z.t < 20) (hd : dep < 20) : VQ z (f_X7_begin (d + 8) 21 x (nI dep)) (u_X9_partsBy_20 (nI z.t) x) := by
  have hK : ∀ σ, g_X7_begin (f_X7_begin (d + 7)) 21 x (nI dep) σ = if (σ 113 1) = 0 then if (nI dep) ≤ (30 : Int32) then bd (f_X7_note 21 σ) (fun _ s => bd (f_X7_above (f_X7_begin (d + 7)) 21 3 x (nI dep) s) (fun r t => bd (f_X7_own (f_X7_begin (d + 7)) 1 1 (nI dep) t) (fun q u => some (r + q, u)))) else some ((0 : Int32), σ) else some ((0 : Int32), σ) := fun _ => rfl
  have hA : ∀ σ : MM, f_X7_above (f_X7_begin (d + 7)) 21 3 x (nI dep) σ = f_X7_begin (d + 7) 13 x (nI (dep + 1)) σ := by
    intro σ
    unfold f_X7_above
    rw [show f_X8_kindAbove (((21 : Int32) / (10 : Int32)) - (1 : Int32)) σ = some (0, σ) from rfl, bd_some, show f_X7_bodyFrom 0 3 σ = some (13, σ) from rfl, bd_some, k1, bd_id]
  by_cases hM : z.M - nI z.t = 0
  · intro σ n hn hc
    obtain ⟨_, σ0, n0, e0, h0, c0, f0, t0⟩ := VP.nb (z := z) 21 σ n (by omega) hc
    obtain ⟨σ1, n1, e1, h1, c1, f1, t1⟩ := ppV0 (d := d + 6) (x := x) (dep := dep + 1) ht (by omega) hM σ0 n0 (by omega) c0
    have p1 : (mu σ1 113 1 1) 113 1 = 1 := by rw [mu_at, if_pos ⟨rfl, rfl⟩]
    have p3 : (mu σ1 113 1 1) 113 3 = nI z.k := by rw [mu_at, if_neg (by omega)]; exact c1.2.2.1
    have bz : ∀ (b : Int32) (t : MM), t 113 1 = 1 → f_X7_begin (d + 7) b 1 (nI (dep + 1)) t = some (0, t) := by
      intro b t h
      show g_X7_begin (f_X7_begin (d + 6)) b 1 (nI (dep + 1)) t = _
      unfold g_X7_begin
      rw [h, if_neg n10]
    refine ⟨0, mu σ1 113 1 1, n1, ?_, by omega, by rw [mu_at, if_neg (by omega)]; exact c1.1, (f0.tr f1).tr (fun i a _ => mu_off _ _ a), Or.inr p1, fun τ h => ?_⟩
    · show g_X7_begin (f_X7_begin (d + 7)) 21 x (nI dep) σ = _
      rw [hK, if_pos hc.2.1, if_pos (show nI dep ≤ (30 : Int32) from nI_le (show dep ≤ 30 by omega) (by decide)), e0, bd_some, hA, e1, bd_some]
      unfold f_X7_own
      rw [p3, show (1 : Int32) = nI 1 from rfl, bF hk (by omega), bd_some, show nI dep + nI 1 = nI (dep + 1) from k1 dep, show nI 1 = (1 : Int32) from rfl, bz _ _ p1, bd_some, bd_some]
      rfl
    · obtain ⟨τ0, w1, w2, w3⟩ := t0 τ h
      obtain ⟨τ1, a1, a2, a3⟩ := t1 τ0 w2
      obtain ⟨q1, q2, q3, q4⟩ := vq0 (n := n) (σ := σ) c1 a2 (w3.tr a3)
      refine ⟨0, _, ?_, q1, q2, q3, q4, fun _ => rfl⟩
      unfold u_X9_partsBy_20
      rw [w1, bd_some, a1, bd_some, mu_eq, if_neg n10]
  · refine VP.vq (j := 8) ?_ (by omega)
    refine (VP.beg (d := d + 7) (j := 7) (by omega) (y := fun τ => bd (f_X9_plainParts (nI z.t) x τ) (fun r t => if (t 129 20) = 0 then bd (f_X9_nods (nI z.t) 1 t) (fun q u => some (r + q, u)) else some (0, t))) hK ?_).to (fun _ _ _ => rfl) (fun _ _ _ _ => rfl)
    refine ((((ppV1 (d := d + 6) (dep := dep + 1) (x := x) ht (by omega) hM).to (fun σ _ _ => hA σ) (fun _ _ _ _ => rfl)).tn (j' := 6) (fun r => ?_))).to (fun _ _ _ => rfl) (fun _ _ _ _ => rfl)
    exact (((VP.own (v := 1) hk (by omega) (noV (d := d + 1) (x := 1) hk ht (by omega))).tn (j' := 0) (fun q => VP.rf (r := r + q)))).to (fun _ _ _ => rfl) (fun σ τ n h => by rw [if_pos h.2.1])
theorem prQ {z : VZ} {d dep : Nat} {x : Int32} (hk : z.k ≤ 6) (ht : z.t < 20) (hd : dep < 20) : VQ z (f_X7_begin (d + 8) (bFv z.k 3) x (nI dep)) (f_X9_partsBy (nI z.t) x) := by
  have pl : ∀ {k : Nat}, z.k = k → ¬ nI k = (1 : Int32) → ¬ nI k = (4 : Int32) → VQ z (f_X7_begin (d + 8) 13 x (nI dep)) (f_X9_partsBy (nI z.t) x) := by
    intro k e e1 e2
    refine (ppQ (d := d + 7) (x := x) ht (by omega)).to (fun _ _ _ => rfl) (fun σ τ n h => ?_)
    unfold f_X9_partsBy
    rw [of0 (by omega), bd_some, h.2.2.1, e, if_neg e1, of0 (by omega), bd_some, h.2.2.1, e, if_neg e2, bd_id]
  rcases (show z.k = 0 ∨ z.k = 1 ∨ z.k = 2 ∨ z.k = 3 ∨ z.k = 4 ∨ z.k = 5 ∨ z.k = 6 by omega) with e | e | e | e | e | e | e
  all_goals rw [e]
  · exact pl e (by decide) (by decide)
  · refine (p21Q (d := d) (x := x) hk ht hd).to (fun _ _ _ => rfl) (fun σ τ n h => ?_)
    unfold f_X9_partsBy
    rw [of0 (by omega), bd_some, h.2.2.1, e, if_pos (by decide)]
  · exact pl e (by decide) (by decide)
  · exact pl e (by decide) (by decide)
  · refine (p21Q (d := d) (x := x) hk ht hd).to (fun _ _ _ => rfl) (fun σ τ n h => ?_)
    unfold f_X9_partsBy
    rw [of0 (by omega), bd_some, h.2.2.1, e, if_neg (by decide), of0 (by omega), bd_some, h.2.2.1, e, if_pos (by decide)]
  · exact pl e (by decide) (by decide)
  · exact pl e (by decide) (by decide)
theorem GD.vo {σ τ : MM} (h : GD σ) (hr : ∀ i, i ≠ 113 → i ≠ 114 → i ≠ 128 → i ≠ 129 → i ≠ 133 → i ≠ 142 → τ i = σ i) (h3 : τ 129 3 = σ 129 3) (he : ∀ k, k < 7 → τ 128 k = τ 133 k) (ht : TRc τ) : GD τ := by
  obtain ⟨⟨h1, h2⟩, ⟨p1, p2, p3⟩, ⟨i1, i2⟩, hs, -, -⟩ := h
  have off : ∀ i, (i < 113 ∨ (115 ≤ i ∧ i < 128) ∨ (130 ≤ i ∧ i < 133) ∨ (134 ≤ i ∧ i < 142)) → τ i = σ i := fun i hi => hr i (by omega) (by omega) (by omega) (by omega) (by omega) (by omega)
  refine ⟨⟨?_, ?_⟩, ⟨fun j hj => ?_, fun j hj => ?_, fun j hj => ?_⟩, ⟨?_, fun hne => ?_⟩, fun s hs2 => ?_, he, ht⟩
  · rw [off 130 (by omega)]; exact h1.off (fun i _ hi => off i (by omega))
  · rw [off 130 (by omega)]; exact h2
  · rw [off _ (by omega)]; exact p1 j hj
  · rw [off _ (by omega)]; exact p2 j hj
  · rw [off _ (by omega)]; exact p3 j hj
  · rw [off 108 (by omega), h3]; exact i1
  · rw [h3] at hne
    rw [off 131 (by omega)]
    exact ⟨(i2 hne).1.off (fun i _ hi => off i (by omega)), (i2 hne).2⟩
  · rw [off (120 + s) (by omega), off (124 + s) (by omega), off 134 (by omega), off 135 (by omega), off 136 (by omega)]
    exact hs s hs2
def yV (v : Nat) (t x : Int32) (τ : MM) : Option (Int32 × MM) := if v = 0 then f_X9_asks t x τ else if v = 1 then f_X9_nods t x τ else if v = 2 then f_X9_echoes t x τ else f_X9_partsBy t x τ
theorem mainV {z : VZ} {v : Nat} {x : Int32} (hk : z.k ≤ 6) (ht : z.t < 20) (hv : v ≤ 3) : VQ z (f_X7_own (f_X7_begin 12) (nI v) x (nI 0)) (yV v (nI z.t) x) := by
  refine VQ.own hk hv ?_
  rcases (show v = 0 ∨ v = 1 ∨ v = 2 ∨ v = 3 by omega) with rfl | rfl | rfl | rfl
  · exact (asV (d := 9) hk ht (by omega)).vq (by omega)
  · exact (noV (d := 6) hk ht (by omega)).vq (by omega)
  · exact (ecV (d := 4) hk ht (by omega)).vq (by omega)
  · exact prQ (d := 4) hk ht (by omega)
theorem voice9 {s v n : Nat} {x : Int32} {σ τ' : MM} {r' : Int32} (e2 : σ 130 2 = nI n) (hn : n ≤ 20) (hs : s < n) (hv : v ≤ 3) (h1 : ¬ nI v < 0) (h2 : ¬ (3 : Int32) < nI v) (e : yV v (nI s) x (mu (mu σ 129 19 0) 129 20 0) = some (r', τ')) : f_X9_voice (nI s) (nI v) x σ = u_X9_voice_81 r' τ' := by
  unfold f_X9_voice
  rw [isStep_t e2 hn hs, bd_some, if_neg n10, in_t h1 h2, bd_some, if_neg n10, lt_eq, lt_eq]
  unfold yV at e
  rcases (show v = 0 ∨ v = 1 ∨ v = 2 ∨ v = 3 by omega) with rfl | rfl | rfl | rfl
  · rw [if_pos rfl] at e
    rw [if_pos (by decide), e, bd_some]
  · rw [if_neg (by decide), if_pos rfl] at e
    rw [if_neg (by decide), if_pos (by decide), e, bd_some]
  · rw [if_neg (by decide), if_neg (by decide), if_pos rfl] at e
    rw [if_neg (by decide), if_neg (by decide), if_pos (by decide), e, bd_some]
  · rw [if_neg (by decide), if_neg (by decide), if_neg (by decide)] at e
    rw [if_neg (by decide), if_neg (by decide), if_neg (by decide), e, bd_some]
/-- promise 26 -/
theorem op_voice {a b c : Int32} {σ : MM} (h : GD σ) : SIM (f_X8_voice a b c σ) (f_X9_voice a b c) := by
  obtain ⟨n, hn, e2⟩ := step_b h.1.2
  have e0 : σ 0 1 = nI n := h.1.1.steps.trans e2
  rcases arg_c a (n := n) (by omega) with ⟨s, hs, rfl⟩ | ha
  · rcases btw_c b (hi := 3) (n := 3) rfl (by decide) with ⟨v, hv, rfl, h1, h2⟩ | hb
    · have hs20 : s < 20 := by omega
      obtain ⟨k, hk, ek⟩ := kind_b h.1.2 hs20
      have j0 := h.2.1.1 s hs20
      have j1 : σ (0 + 11 + s) 1 = nI k := (J0 h (k := 0) hs20 (by omega)).trans ek
      have j2 : σ (0 + 11 + s) 2 = σ 130 (6 + 3 * s + 1) := J0 h (k := 1) hs20 (by omega)
      obtain ⟨z, z1, z2, z3⟩ : ∃ z : VZ, z.k = k ∧ z.M = σ 130 (6 + 3 * s + 1) ∧ z.t = s := ⟨(k, σ 130 (6 + 3 * s + 1), s), rfl, rfl, rfl⟩
      subst z1
      subst z3
      obtain ⟨s5, hs5⟩ : ∃ s5, s5 = mu (mu (mu (mu (mu σ 113 0 0) 113 1 0) 113 3 (nI z.k)) 113 4 z.M) 113 5 (nI z.t) := ⟨_, rfl⟩
      have x5 : f_X7_sound (0 + 11 + z.t) (nI v) c σ = f_X7_own (f_X7_begin 12) (nI v) c (nI 0) s5 := by
        unfold f_X7_sound
        simp only [lt_eq]
        have hne : 0 + 11 + z.t ≠ 113 := by omega
        repeat rw [mu_off _ _ hne]
        rw [j1, j2, j0, ← z2, ← hs5, bd_id]
        rfl
      have c5 : RC z 0 s5 := by subst hs5; refine ⟨?_, ?_, ?_, ?_, ?_⟩ <;> simp [mu_at] <;> rfl
      have f5 : FV σ s5 := by subst hs5; intro i h1 _; rw [mu_off _ _ h1, mu_off _ _ h1, mu_off _ _ h1, mu_off _ _ h1, mu_off _ _ h1]
      obtain ⟨r, σ', n', x1, hn', t1, F1, hp, y1⟩ := mainV (x := c) hk hs20 hv s5 0 (by omega) c5
      have F2 := f5.tr F1
      have ref : ∀ σx : MM, (∀ i, i ≠ 128 → σx i = σ' i) → ∃ r' τ', f_X9_voice (nI z.t) (nI v) c σx = u_X9_voice_81 r' τ' ∧ τ' 129 19 = nI n' ∧ (∀ k, k < n' → τ' 142 k = σ' 114 k) ∧ (∀ i, i ≠ 129 → i ≠ 142 → τ' i = σx i) ∧ τ' 129 3 = σ 129 3 ∧ τ' 129 20 = σ' 113 1 ∧ (σ' 113 1 = 0 → r' = r) := by
        intro σx hx
        have q130 : σx 130 = σ 130 := (hx 130 (by omega)).trans (F2 130 (by omega) (by omega))
        obtain ⟨r', τ', w1, w2, w3, w4, w5, w6⟩ := y1 (mu (mu σx 129 19 0) 129 20 0) ⟨by rw [mu_at, if_neg (by omega), mu_at, if_pos ⟨rfl, rfl⟩]; rfl, by rw [mu_at, if_pos ⟨rfl, rfl⟩], by rw [mu_off _ _ (by omega), mu_off _ _ (by omega), q130]; exact ek, by rw [mu_off _ _ (by omega), mu_off _ _ (by omega), q130, z2], fun k hk => by omega⟩
        refine ⟨r', τ', voice9 (by rw [q130]; exact e2) hn hs hv h1 h2 w1, w2, w3, fun i h1 h2 => by rw [w4.1 i h1 h2, mu_off _ _ h1, mu_off _ _ h1], ?_, w5, w6⟩
        rw [w4.2, mu_at, if_neg (by omega), mu_at, if_neg (by omega), hx 129 (by omega), F2 129 (by omega) (by omega)]
      rcases hp with hp | hp
      · obtain ⟨r', τ', w1, w2, w3, w4, w5, w6, w7⟩ := ref σ' (fun _ _ => rfl)
        refine ⟨r, σ', τ', ?_, ?_, h.vo (fun i a1 a2 a3 a4 a5 a6 => (w4 i a4 a6).trans (F2 i a1 a2)) w5 (fun k hk => ?_) ⟨n', hn', ?_, w2, fun k hk => ?_⟩⟩
        · unfold f_X8_voice
          rw [judgeOn_t e0 hn hs, bd_some, onO_some, if_pos (kd_j (Or.inl rfl) hs20), wi_t h1 h2, bd_some, if_neg n10, x5, x1, bd_some, hp, if_pos rfl]
        · rw [w1, w7 hp]
          unfold u_X9_voice_81
          rw [w6, hp, if_pos rfl]
        · rw [w4 128 (by omega) (by omega), w4 133 (by omega) (by omega), F2 128 (by omega) (by omega), F2 133 (by omega) (by omega)]; exact h.2.2.2.2.1 k hk
        · rw [w4 113 (by omega) (by omega)]; exact t1
        · rw [w4 114 (by omega) (by omega), w3 k hk]
      · obtain ⟨r', τ', w1, w2, w3, w4, w5, w6, w7⟩ := ref (mu σ' 128 6 (σ' 128 6 + 1)) (fun i hi => mu_off _ _ hi)
        refine ⟨-1000000006, mu σ' 128 6 (σ' 128 6 + 1), mu τ' 133 6 (τ' 133 6 + 1), ?_, ?_, h.vo (fun i a1 a2 a3 a4 a5 a6 => ?_) ?_ (fun k hk => ?_) ⟨n', hn', ?_, ?_, fun k hk => ?_⟩⟩
        · unfold f_X8_voice
          rw [judgeOn_t e0 hn hs, bd_some, onO_some, if_pos (kd_j (Or.inl rfl) hs20), wi_t h1 h2, bd_some, if_neg n10, x5, x1, bd_some, hp, if_neg n10, error8 (k := 6) (by omega) (by omega) eP, bd_some]
        · rw [w1]
          unfold u_X9_voice_81
          rw [w6, hp, if_neg n10, error9 (k := 6) (by omega) (by omega) eP, bd_some]
        · rw [mu_off _ _ a5, w4 i a4 a6, mu_off _ _ a3]; exact F2 i a1 a2
        · rw [mu_off _ _ (by omega)]; exact w5
        · have g1 : ∀ k, k < 7 → σ' 128 k = σ' 133 k := fun k hk => by rw [F2 128 (by omega) (by omega), F2 133 (by omega) (by omega)]; exact h.2.2.2.2.1 k hk
          rw [mu_off _ _ (by omega), w4 128 (by omega) (by omega), mu_at, mu_at, w4 133 (by omega) (by omega), mu_off _ _ (by omega)]
          by_cases e : k = 6
          · rw [if_pos ⟨rfl, e⟩, if_pos ⟨rfl, e⟩, g1 6 (by omega)]
          · rw [if_neg (fun q => e q.2), if_neg (fun q => e q.2), g1 k hk]
        · rw [mu_off _ _ (by omega), w4 113 (by omega) (by omega), mu_off _ _ (by omega)]; exact t1
        · rw [mu_off _ _ (by omega)]; exact w2
        · rw [mu_off _ _ (by omega), mu_off _ _ (by omega), w4 114 (by omega) (by omega), mu_off _ _ (by omega), w3 k hk]
    · refine SIM.B h (k := 1) (e := -1000000001) (by omega) (by omega) eB ?_ (fun t ht => ?_)
      · unfold f_X8_voice
        rw [judgeOn_t e0 hn hs, bd_some, onO_some, if_pos (kd_j (Or.inl rfl) (by omega)), wi_f hb, bd_some, if_pos rfl]; rfl
      · unfold f_X9_voice
        rw [isStep_t (by rw [ht 130 (by omega)]; exact e2) hn hs, bd_some, if_neg n10, in_f hb, bd_some, if_pos rfl]; rfl
  · refine SIM.B h (k := 1) (e := -1000000001) (by omega) (by omega) eB ?_ (fun t ht => ?_)
    · unfold f_X8_voice
      rw [judgeOn_f e0 ha, bd_some, onO_none]; rfl
    · unfold f_X9_voice
      rw [isStep_f (by rw [ht 130 (by omega)]; exact e2) hn ha, bd_some, if_pos rfl]; rfl

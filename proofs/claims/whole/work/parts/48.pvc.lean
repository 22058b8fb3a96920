theorem k1 (k : Nat) : nI k + (1 : Int32) = nI (k + 1) := by rw [lit 1, nI_add]
theorem n10 : ¬ (1 : Int32) = 0 := by decide
theorem hwL {q n : Nat} {s : MM} (e : s (120 + q) 2 = nI n) (hn : n ≤ 24) : ∀ (f k : Nat), k ≤ n → n - k < f → ((∀ i, k ≤ i → i < n → ∃ j, j ≤ 99 ∧ s (124 + q) i = nI j) → itr (fun _ _ _ => none) u_X5_holdsWordsAlone_2 f (120 + q) (nI k) s = some (1, s)) ∧ ((∃ i, k ≤ i ∧ i < n ∧ (s (124 + q) i < 0 ∨ (99 : Int32) < s (124 + q) i)) → itr (fun _ _ _ => none) u_X5_holdsWordsAlone_2 f (120 + q) (nI k) s = some (0, s)) := by
  intro f
  induction f with
  | zero => intro k _ h; omega
  | succ f ih =>
    intro k hk hf
    rw [itr_s]
    generalize itr (fun _ _ _ => none) u_X5_holdsWordsAlone_2 f = g at ih ⊢
    unfold u_X5_holdsWordsAlone_2
    rw [e]
    by_cases z : n ≤ k
    · rw [if_pos (nI_le z (by omega))]
      exact ⟨fun _ => rfl, fun ⟨i, h1, h2, _⟩ => by omega⟩
    · rw [if_neg (nI_ge (by omega) (by omega)), get_t e hn (by omega), bd_some]
      rcases btw_c (s (124 + q) k) (hi := 99) (n := 99) rfl (by decide) with ⟨j, hj, ej, h1, h2⟩ | hb
      · rw [ej] at h1 h2
        rw [ej, isWord8_t h1 h2, bd_some, if_neg n10, k1]
        obtain ⟨ih1, ih2⟩ := ih (k + 1) (by omega) (by omega)
        refine ⟨fun h => ih1 (fun i a b => h i (by omega) b), fun ⟨i, i1, i2, i3⟩ => ih2 ⟨i, ?_, i2, i3⟩⟩
        by_cases y : i = k
        · subst y
          rw [ej] at i3
          exact absurd i3 (fun t => t.elim h1 h2)
        · omega
      · rw [isWord8_f hb, bd_some, if_pos rfl]
        refine ⟨fun h => ?_, fun _ => rfl⟩
        obtain ⟨j, hj, ej⟩ := h k (Nat.le_refl _) (by omega)
        rw [ej] at hb
        exact absurd hb (fun t => t.elim (nI_pos (by omega)) (show ¬ (99 : Int32) < nI j from nI_nlt hj (by decide)))
theorem aw0 {q n : Nat} {s : MM} (hq : q < 4) (e : s 135 q = nI n) (hn : n ≤ 24) : ∀ (f k : Nat), k ≤ n → n - k < f → itr (fun _ _ _ _ => none) u_X9_areWords_4 f (nI q) 0 (nI k) s = some (0, s) := by
  intro f
  induction f with
  | zero => intro k _ h; omega
  | succ f ih =>
    intro k hk hf
    rw [itr_s]
    generalize itr (fun _ _ _ _ => none) u_X9_areWords_4 f = g at ih ⊢
    unfold u_X9_areWords_4
    rw [if_neg (ixN hq (by decide)), nI_cl (by omega), e]
    by_cases z : n ≤ k
    · rw [if_pos (nI_le z (by omega)), if_pos (Or.inl rfl)]
    · rw [if_neg (nI_ge (by omega) (by omega)), if_pos rfl, k1]
      exact ih (k + 1) (by omega) (by omega)
theorem awL {q n : Nat} {s : MM} (hq : q < 4) (e : s 135 q = nI n) (hn : n ≤ 24) : ∀ (f k : Nat), k ≤ n → n - k < f → ((∀ i, k ≤ i → i < n → ∃ j, j ≤ 99 ∧ s 136 (24 * q + i) = nI j) → itr (fun _ _ _ _ => none) u_X9_areWords_4 f (nI q) 1 (nI k) s = some (1, s)) ∧ ((∃ i, k ≤ i ∧ i < n ∧ (s 136 (24 * q + i) < 0 ∨ (99 : Int32) < s 136 (24 * q + i))) → itr (fun _ _ _ _ => none) u_X9_areWords_4 f (nI q) 1 (nI k) s = some (0, s)) := by
  intro f
  induction f with
  | zero => intro k _ h; omega
  | succ f ih =>
    intro k hk hf
    have h0 := fun (h : n - (k + 1) < f) (h2 : k + 1 ≤ n) => aw0 hq e hn f (k + 1) h2 h
    rw [itr_s]
    generalize itr (fun _ _ _ _ => none) u_X9_areWords_4 f = g at ih h0 ⊢
    unfold u_X9_areWords_4
    rw [if_neg (ixN hq (by decide)), nI_cl (by omega), e]
    by_cases z : n ≤ k
    · rw [if_pos (nI_le z (by omega)), if_pos (Or.inr rfl)]
      exact ⟨fun _ => rfl, fun ⟨i, h1, h2, _⟩ => by omega⟩
    · obtain ⟨c1, c2, c3⟩ := c24 hq (show k < 24 by omega)
      rw [if_neg (nI_ge (by omega) (by omega)), if_neg n10, c1, if_neg c2, c3]
      rcases btw_c (s 136 (24 * q + k)) (hi := 99) (n := 99) rfl (by decide) with ⟨j, hj, ej, h1, h2⟩ | hb
      · rw [ej] at h1 h2
        rw [ej, isWord9_t h1 h2, bd_some, if_neg n10, k1]
        obtain ⟨ih1, ih2⟩ := ih (k + 1) (by omega) (by omega)
        refine ⟨fun h => ih1 (fun i a b => h i (by omega) b), fun ⟨i, i1, i2, i3⟩ => ih2 ⟨i, ?_, i2, i3⟩⟩
        by_cases y : i = k
        · subst y
          rw [ej] at i3
          exact absurd i3 (fun t => t.elim h1 h2)
        · omega
      · rw [isWord9_f hb, bd_some, if_pos rfl, k1]
        refine ⟨fun h => ?_, fun _ => h0 (by omega) (by omega)⟩
        obtain ⟨j, hj, ej⟩ := h k (Nat.le_refl _) (by omega)
        rw [ej] at hb
        exact absurd hb (fun t => t.elim (nI_pos (by omega)) (show ¬ (99 : Int32) < nI j from nI_nlt hj (by decide)))
theorem endL {p k : Nat} {d c : Int32} {σ : MM} {ρ : Nat → Int32} (hC : CR 72 σ ρ) (hp : p < 5) : ∃ r, u_X8_climb_140 d (72 + 31 + p) (nI k) c σ = some (r, σ) ∧ ∀ τ : MM, τ 130 = ρ → ∃ τ', u_X9_climb_127 (nI p) d (nI k) c τ = some (r, τ') ∧ RO τ τ' ∧ ∀ j, j < 412 → τ' 130 j = τ 132 j := by
  have a0 : σ (72 + 31 + p) 0 = ρ (66 + 4 * p) := hC.p hp (k := 0) (by omega)
  refine ⟨if d = 0 then ρ (66 + 4 * p) else if d = 1 then nI k else c, ?_, fun τ hτ => ?_⟩
  · unfold u_X8_climb_140
    by_cases h0 : d = 0
    · rw [if_pos h0, if_pos h0, a0]
    · rw [if_neg h0, if_neg h0]
      by_cases h1 : d = 1
      · rw [if_pos h1, if_pos h1]
      · rw [if_neg h1, if_neg h1]
  · unfold u_X9_climb_127 f_X9_putsBack
    obtain ⟨t, f1, f2, -, f4⟩ := copyAllF (a := 132) (b := 130) (by omega) τ
    rw [about0 (by omega), bd_some, f1, bd_some, bd_some, hτ]
    refine ⟨t, ?_, fun i _ h2 => f4 i h2, f2⟩
    by_cases h0 : d = 0
    · rw [if_pos h0, if_pos h0]
    · rw [if_neg h0, if_neg h0]
      by_cases h1 : d = 1
      · rw [if_pos h1, if_pos h1]
      · rw [if_neg h1, if_neg h1]
theorem climbL {p q n : Nat} {d : Int32} {W : Nat → Int32} (hp : p < 5) (hq : q < 4) (hn : n ≤ 24) : ∀ (f k : Nat) (c : Int32) (σ : MM) (ρ : Nat → Int32), k ≤ n → n - k < f → CR 72 σ ρ → PL 72 σ → IR ρ → σ (120 + q) 2 = nI n → (∀ i, i < n → σ (124 + q) i = W i) →
    ∃ r σ', itr (fun _ _ _ _ _ _ => none) u_X8_climb_90 f d (72 + 31 + p) (120 + q) (nI k) c σ = some (r, σ') ∧ FR 72 σ σ' ∧ PL 72 σ' ∧ ∀ τ : MM, τ 130 = ρ → τ 135 q = nI n → (∀ i, i < n → τ 136 (24 * q + i) = W i) → ∃ τ', itr (fun _ _ _ _ _ _ => none) u_X9_climb_72 f (nI p) (nI q) d (nI k) c τ = some (r, τ') ∧ RO τ τ' ∧ ∀ j, j < 412 → τ' 130 j = τ 132 j := by
  intro f
  induction f with
  | zero => intro k _ _ _ hk; omega
  | succ f ih =>
    intro k c σ ρ hk hf hC hP hI hl hw
    obtain ⟨r0, x0, y0⟩ := endL (k := k) (d := d) (c := c) hC hp
    obtain ⟨m, hm, e2⟩ := step_b hI
    obtain ⟨s, hs, ea⟩ := at_b hI hp e2 hm
    obtain ⟨l, hl', el⟩ := legs_b hI hp
    obtain ⟨fl, hfl, ef⟩ := falls_b hI hp
    have c0 := canGo0 (b := 72) hC hp e2 hm ea (by omega) el hl'
    by_cases z : n ≤ k
    · refine ⟨r0, σ, ?_, FR.rf, hP, fun τ hτ h5 h6 => ?_⟩
      · rw [itr_s]
        generalize itr (fun _ _ _ _ _ _ => none) u_X8_climb_90 f = g8
        unfold u_X8_climb_90
        rw [hl, if_pos (nI_le z (by omega)), x0]
      · obtain ⟨τ', b1, b2, b3⟩ := y0 τ hτ
        refine ⟨τ', ?_, b2, b3⟩
        rw [itr_s]
        generalize itr (fun _ _ _ _ _ _ => none) u_X9_climb_72 f = g9
        unfold u_X9_climb_72
        rw [if_neg (ixN hq (by decide)), nI_cl (by omega), h5, if_pos (nI_le z (by omega)), b1]
    · obtain ⟨c1, c2, c3⟩ := c24 hq (show k < 24 by omega)
      by_cases hg : s < m ∧ 0 < l
      · have hgo : goP s m l = 1 := if_pos hg
        obtain ⟨hd, hhd, eh⟩ := heard_b hI (s := s) (by omega)
        obtain ⟨σ1, x1, C1, P1, F1⟩ := hear0 (w := W k) (b := 72) (Or.inr (Or.inr rfl)) hC hP hI hp e2 hm hg.1 ea eh hhd el hg.2 ef hfl
        have I1 := IR.he (c := contP ρ s (W k)) (h := hd) hI hp e2 hm hg.1 hl' hfl
        have y1 : ∀ τ : MM, τ 130 = ρ → ∃ τ', f_X9_says (nI p) (W k) τ = some (if contP ρ s (W k) = 0 then 1 else 0, τ') ∧ τ' 130 = heR ρ p s hd l fl (contP ρ s (W k)) ∧ RO τ τ' := by
          intro τ hτ
          subst hτ
          exact says9 hI hp e2 hm hg.1 ea eh hhd el hg.2 ef hfl
        have hc := cont01 ρ s (W k)
        generalize contP ρ s (W k) = b at x1 C1 I1 y1 hc
        have s1 : ∀ i, 120 ≤ i → i < 128 → σ1 i = σ i := fun i h1 h2 => F1 i (by unfold JK; omega) (by omega)
        obtain ⟨r, σ2, x2, F2, P2, y2⟩ := ih (k + 1) (if b = 0 then c + 1 else c) σ1 _ (by omega) (by omega) C1 P1 I1 (by rw [s1 _ (by omega) (by omega)]; exact hl) (fun i hi => by rw [s1 _ (by omega) (by omega)]; exact hw i hi)
        refine ⟨r, σ2, ?_, F1.tr F2, P2, fun τ hτ h5 h6 => ?_⟩
        · rw [itr_s]
          generalize itr (fun _ _ _ _ _ _ => none) u_X8_climb_90 f = g8 at x2 ⊢
          unfold u_X8_climb_90
          rw [hl, if_neg (nI_ge (by omega) (by omega)), c0, bd_some, hgo, if_neg n10, get_t hl hn (by omega), bd_some, hw k (by omega), x1, bd_some, k1]
          rcases hc with rfl | rfl
          · rw [if_pos rfl]; rw [if_pos rfl] at x2; exact x2
          · rw [if_neg n10]; rw [if_neg n10] at x2; exact x2
        · obtain ⟨τ1, b1, b2, b3⟩ := y1 τ hτ
          obtain ⟨τ2, d1, d2, d3⟩ := y2 τ1 b2 (by rw [b3 135 (by unfold JK; omega) (by omega)]; exact h5) (fun i hi => by rw [b3 136 (by unfold JK; omega) (by omega)]; exact h6 i hi)
          refine ⟨τ2, ?_, b3.tr d2, fun j hj => by rw [d3 j hj, b3 132 (by unfold JK; omega) (by omega)]⟩
          rw [itr_s]
          generalize itr (fun _ _ _ _ _ _ => none) u_X9_climb_72 f = g9 at d1 ⊢
          unfold u_X9_climb_72
          rw [if_neg (ixN hq (by decide)), nI_cl (by omega), h5, if_neg (nI_ge (by omega) (by omega)), canGo9 hp (by rw [hτ]; exact e2) hm (by rw [hτ]; exact ea) (by omega) (by rw [hτ]; exact el) hl', bd_some, hgo, if_neg n10, c1, if_neg c2, c3, h6 k (by omega), b1, bd_some, k1]
          rcases hc with rfl | rfl
          · rw [show (if (0 : Int32) = 0 then (1 : Int32) else 0) = 1 from if_pos rfl, if_neg n10]
            rw [if_pos rfl] at d1
            exact d1
          · rw [show (if (1 : Int32) = 0 then (1 : Int32) else 0) = 0 from if_neg n10, if_pos rfl, show c + (0 : Int32) = c from Int32.add_zero c]
            rw [if_neg n10] at d1
            exact d1
      · have hgo : goP s m l = 0 := if_neg hg
        refine ⟨r0, σ, ?_, FR.rf, hP, fun τ hτ h5 h6 => ?_⟩
        · rw [itr_s]
          generalize itr (fun _ _ _ _ _ _ => none) u_X8_climb_90 f = g8
          unfold u_X8_climb_90
          rw [hl, if_neg (nI_ge (by omega) (by omega)), c0, bd_some, hgo, if_pos rfl, x0]
        · obtain ⟨τ', b1, b2, b3⟩ := y0 τ hτ
          refine ⟨τ', ?_, b2, b3⟩
          rw [itr_s]
          generalize itr (fun _ _ _ _ _ _ => none) u_X9_climb_72 f = g9
          unfold u_X9_climb_72
          rw [if_neg (ixN hq (by decide)), nI_cl (by omega), h5, if_neg (nI_ge (by omega) (by omega)), canGo9 hp (by rw [hτ]; exact e2) hm (by rw [hτ]; exact ea) (by omega) (by rw [hτ]; exact el) hl', bd_some, hgo, if_pos rfl, b1]
theorem cpGE {σ s : MM} (p : PW 72 0 PA σ s) : GE σ s := by
  refine ⟨fun i hi => p.2 i (by unfold JJ at hi; omega), fun j hj => ?_, by rw [p.2 _ (by omega)], by rw [p.2 _ (by omega)], by rw [p.2 _ (by omega)]⟩
  have := (p.1 (11 + j) 0 (by omega)).2 (by unfold PA; omega)
  rw [show 72 + (11 + j) = 83 + j by omega] at this
  exact this
theorem FR.ge72 {σ s : MM} (f : FR 72 σ s) (p : PL 72 σ) (p2 : PL 72 s) : GE σ s := by
  refine ⟨fun i hi => f i (fun e => hi (Or.inl e)) (by unfold JJ at hi; omega), fun j hj => ?_, by rw [f _ (by unfold JK; omega) (by omega)], by rw [f _ (by unfold JK; omega) (by omega)], by rw [f _ (by unfold JK; omega) (by omega)]⟩
  have h1 := p j hj
  have h2 := p2 j hj
  rw [show 72 + 11 + j = 83 + j by omega] at h1 h2
  rw [h1, h2]
theorem E1.go1 {σ s : MM} (h : E1 132 σ s) : GO σ s := by
  refine ⟨fun i hi _ _ => h i (by unfold JJ at hi; omega), fun j hj => ?_, ?_, ?_, ?_⟩
  all_goals rw [h _ (by omega)]
set_option maxHeartbeats 1000000 in
/-- promise 21 -/
theorem op_climb {a b c : Int32} {σ : MM} (h : GD σ) : SIM (f_X8_climb a b c σ) (f_X9_climb a b c) := by
  obtain ⟨n, hn, e3⟩ := people_b h.1.2
  have hC := h.1.1
  obtain ⟨s, x0, pw⟩ := copyF (t0 := 72) (t1 := 0) (σ := σ) (Or.inr (by omega))
  have g0 : GE σ s := cpGE pw
  have h129 : ∀ i, 129 ≤ i → s i = σ i := fun i hi => pw.2 i (by omega)
  have C72 := hC.cp pw
  have P72 := h.2.1.2.2.cp pw
  have s3 : s 72 3 = nI n := C72.people.trans e3
  have err : ∀ {k : Nat} {e : Int32}, 1 ≤ k → k ≤ 6 → (-1000000000 : Int32) - e = nI k → f_X8_climb a b c σ = bd (f_X8_error e s) (fun r t => some (r, t)) → (∀ t, UP σ t → f_X9_climb a b c t = bd (f_X9_error e t) (fun r t => some (r, t))) → SIM (f_X8_climb a b c σ) (f_X9_climb a b c) := fun h1 h2 he hx hm => SIM.err (σ1 := s) h g0 h1 h2 he hx (fun t ht => ⟨t, GE.rf, hm t ht⟩) h129
  rcases arg_c a (n := n) (by omega) with ⟨p, hp, rfl⟩ | ha
  · have hp5 : p < 5 := by omega
    rcases arg_c b (n := 4) (by omega) with ⟨q, hq, rfl⟩ | hb
    · rcases btw_c c (hi := 2) (n := 2) rfl (by decide) with ⟨d, hd, rfl, h1, h2⟩ | hc
      · obtain ⟨⟨m, hm, m1, m2⟩, b1, b2, b3⟩ := h.2.2.2.1 q hq
        have z1 : s (120 + q) = σ (120 + q) := pw.2 _ (by omega)
        have z4 : s (124 + q) = σ (124 + q) := pw.2 _ (by omega)
        by_cases hz : σ 134 q = 0
        · refine err (k := 2) (e := -1000000002) (by omega) (by omega) eN ?_ (fun t ht => ?_)
          · unfold f_X8_climb
            rw [x0, bd_some, personOf_t s3 hn hp, bd_some, onO_some, if_pos (kd_p (Or.inr (Or.inr rfl)) hp5), sheetOf_t hq, bd_some, onO_some, if_pos (kd_s hq), wi_t h1 h2, bd_some, if_neg n10, miss_eq, bd_some, z1, b1, if_pos hz, if_neg n10]
          · unfold f_X9_climb
            rw [isPerson_t (by rw [ht 130 (by omega)]; exact e3) hn hp, bd_some, if_neg n10, isSheet_t hq, bd_some, if_neg n10, in_t h1 h2, bd_some, if_neg n10, if_neg (ixN hq (by decide)), nI_cl (by omega), ht 134 (by omega), if_pos hz]
        · by_cases hw : ∃ i, i < m ∧ (σ (124 + q) i < 0 ∨ (99 : Int32) < σ (124 + q) i)
          · obtain ⟨i, hi, hi2⟩ := hw
            have hr : σ 136 (24 * q + i) < 0 ∨ (99 : Int32) < σ 136 (24 * q + i) := by
              rcases (b3 i (by omega)).btw (n := 99) (by omega) with ⟨j, hj, e1, e2⟩ | ⟨_, y⟩
              · rw [e1] at hi2
                exact absurd hi2 (fun t => t.elim (nI_pos (by omega)) (show ¬ (99 : Int32) < nI j from nI_nlt hj (by decide)))
              · exact y
            refine err (k := 3) (e := -1000000003) (by omega) (by omega) eS ?_ (fun t ht => ?_)
            · have hh := (hwL (q := q) (s := s) (by rw [z1]; exact m1) hm FU 0 (by omega) (by rw [FU_eq]; omega)).2 ⟨i, by omega, hi, by rw [z4]; exact hi2⟩
              have hh' : f_X5_holdsWordsAlone (120 + q) s = some (0, s) := hh
              unfold f_X8_climb
              rw [x0, bd_some, personOf_t s3 hn hp, bd_some, onO_some, if_pos (kd_p (Or.inr (Or.inr rfl)) hp5), sheetOf_t hq, bd_some, onO_some, if_pos (kd_s hq), wi_t h1 h2, bd_some, if_neg n10, miss_eq, bd_some, z1, b1, if_neg hz, if_pos rfl, hh', bd_some, if_pos rfl]
            · have hh := (awL (q := q) (s := t) hq (by rw [ht 135 (by omega)]; exact m2) hm FU 0 (by omega) (by rw [FU_eq]; omega)).2 ⟨i, by omega, hi, by rw [ht 136 (by omega)]; exact hr⟩
              have hh' : f_X9_areWords (nI q) t = some (0, t) := hh
              unfold f_X9_climb
              rw [isPerson_t (by rw [ht 130 (by omega)]; exact e3) hn hp, bd_some, if_neg n10, isSheet_t hq, bd_some, if_neg n10, in_t h1 h2, bd_some, if_neg n10, if_neg (ixN hq (by decide)), nI_cl (by omega), ht 134 (by omega), if_neg hz, hh', bd_some, if_pos rfl]
          · have hwd : ∀ i, i < m → ∃ j, j ≤ 99 ∧ σ (124 + q) i = nI j ∧ σ 136 (24 * q + i) = nI j := by
              intro i hi
              rcases (b3 i (by omega)).btw (n := 99) (by omega) with y | ⟨y, _⟩
              · exact y
              · exact absurd ⟨i, hi, y⟩ hw
            obtain ⟨r, σ1, x1, F1, P1, y1⟩ := climbL (p := p) (q := q) (n := m) (d := nI d) (W := σ (124 + q)) hp5 hq hm FU 0 0 s (σ 130) (by omega) (by rw [FU_eq]; omega) C72 P72 h.1.2 (by rw [z1]; exact m1) (fun i _ => by rw [z4])
            have G1 : GE σ σ1 := g0.tr (F1.ge72 P72 P1)
            have r130 : σ1 130 = σ 130 := G1.row nJ130
            have r134 : σ1 134 = σ 134 := G1.row (by unfold JJ JK; omega)
            have r135 : σ1 135 = σ 135 := G1.row (by unfold JJ JK; omega)
            have r136 : σ1 136 = σ 136 := G1.row (by unfold JJ JK; omega)
            obtain ⟨t, t1, t2, -, t4⟩ := copyAllF (a := 130) (b := 132) (by omega) σ1
            obtain ⟨τ, w1, w2, w3⟩ := y1 t ((t4 130 (by omega)).trans r130) (by rw [t4 135 (by omega), r135]; exact m2) (fun i hi => by
              obtain ⟨j, _, e1, e2⟩ := hwd i hi
              rw [t4 136 (by omega), r136, e1, e2])
            have last : ∀ k, k < 412 → τ 130 k = σ 130 k := fun k hk => by rw [w3 k hk, t2 k hk, r130]
            refine SIM.mk (r := r) (σ1 := σ1) (σ2 := τ) (ρ1 := τ 130) h ?_ ?_ G1.go (t4.go1.tr w2.go) ((hC.ge (Or.inl rfl) G1).cg last) (h.2.1.1.gn G1.gn) (fun i hi hj => (w2 i hj (by omega)).trans (t4 i (by omega))) rfl (h.1.2.cg last)
            · have hh := (hwL (q := q) (s := s) (by rw [z1]; exact m1) hm FU 0 (by omega) (by rw [FU_eq]; omega)).1 (fun i _ hi => by
                obtain ⟨j, hj, e1, _⟩ := hwd i hi
                exact ⟨j, hj, by rw [z4]; exact e1⟩)
              have hh' : f_X5_holdsWordsAlone (120 + q) s = some (1, s) := hh
              unfold f_X8_climb
              rw [x0, bd_some, personOf_t s3 hn hp, bd_some, onO_some, if_pos (kd_p (Or.inr (Or.inr rfl)) hp5), sheetOf_t hq, bd_some, onO_some, if_pos (kd_s hq), wi_t h1 h2, bd_some, if_neg n10, miss_eq, bd_some, z1, b1, if_neg hz, if_pos rfl, hh', bd_some, if_neg n10]
              exact x1
            · have hh := (awL (q := q) (s := σ1) hq (by rw [r135]; exact m2) hm FU 0 (by omega) (by rw [FU_eq]; omega)).1 (fun i _ hi => by
                obtain ⟨j, hj, _, e2⟩ := hwd i hi
                exact ⟨j, hj, by rw [r136]; exact e2⟩)
              have hh' : f_X9_areWords (nI q) σ1 = some (1, σ1) := hh
              unfold f_X9_climb f_X9_thinks
              rw [isPerson_t (by rw [r130]; exact e3) hn hp, bd_some, if_neg n10, isSheet_t hq, bd_some, if_neg n10, in_t h1 h2, bd_some, if_neg n10, if_neg (ixN hq (by decide)), nI_cl (by omega), r134, if_neg hz, hh', bd_some, if_neg n10, t1, bd_some, bd_some]
              exact w1
      · refine err (k := 1) (e := -1000000001) (by omega) (by omega) eB ?_ (fun t ht => ?_)
        · unfold f_X8_climb
          rw [x0, bd_some, personOf_t s3 hn hp, bd_some, onO_some, if_pos (kd_p (Or.inr (Or.inr rfl)) hp5), sheetOf_t hq, bd_some, onO_some, if_pos (kd_s hq), wi_f hc, bd_some, if_pos rfl]; rfl
        · unfold f_X9_climb
          rw [isPerson_t (by rw [ht 130 (by omega)]; exact e3) hn hp, bd_some, if_neg n10, isSheet_t hq, bd_some, if_neg n10, in_f hc, bd_some, if_pos rfl]; rfl
    · refine err (k := 1) (e := -1000000001) (by omega) (by omega) eB ?_ (fun t ht => ?_)
      · unfold f_X8_climb
        rw [x0, bd_some, personOf_t s3 hn hp, bd_some, onO_some, if_pos (kd_p (Or.inr (Or.inr rfl)) hp5), sheetOf_f hb, bd_some, onO_none]; rfl
      · unfold f_X9_climb
        rw [isPerson_t (by rw [ht 130 (by omega)]; exact e3) hn hp, bd_some, if_neg n10, isSheet_f hb, bd_some, if_pos rfl]; rfl
  · refine err (k := 1) (e := -1000000001) (by omega) (by omega) eB ?_ (fun t ht => ?_)
    · unfold f_X8_climb
      rw [x0, bd_some, personOf_f s3 ha, bd_some, onO_none]
      rcases arg_c b (n := 4) (by omega) with ⟨q, hq, rfl⟩ | hb
      · rw [sheetOf_t hq, bd_some, onO_some, if_pos (kd_s hq)]; rfl
      · rw [sheetOf_f hb, bd_some, onO_none]; rfl
    · unfold f_X9_climb
      rw [isPerson_f (by rw [ht 130 (by omega)]; exact e3) hn ha, bd_some, if_pos rfl]; rfl

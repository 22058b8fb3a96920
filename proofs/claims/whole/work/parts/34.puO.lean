theorem goesS {n h : Nat} (hn : n ≤ 5) (hh : h + 1 ≤ 9999) {σ : MM} {ρ : Nat → Int32} (hC : CR 0 σ ρ) (hP : PL 0 σ) (hI : IR ρ) (hq : HQ h n ρ) : SB (HQ (h + 1) n) ρ σ (f_X0_passHour 0 σ) f_X9_goes := pass hn hh FU 0 σ ρ (by omega) (by rw [FU_eq]; omega) hC hP hI hq
theorem hoursL {n m h : Nat} (hn : n ≤ 5) (hm : m ≤ 48) : ∀ (f k : Nat) (σ : MM) (ρ : Nat → Int32), k ≤ m → m - k < f → h + (m - k) ≤ 9999 → CR 0 σ ρ → PL 0 σ → IR ρ → (∃ h', h' + (m - k) ≤ 9999 ∧ HQ h' n ρ) → SB (fun _ => True) ρ σ (itr (fun _ _ _ => none) u_X8_hours_41 f (nI m) (nI k) σ) (fun τ => itr (fun _ _ _ => none) u_X9_hours_40 f (nI m) (nI k) τ) := by
  intro f
  induction f with
  | zero => intro k _ _ _ hk; omega
  | succ f ih =>
    intro k σ ρ hk hf hx hC hP hI hq
    obtain ⟨h', hh, hq⟩ := hq
    by_cases q : m ≤ k
    · refine (SB.rf (r := nI h') hC hP hI trivial).to ?_ (fun τ hτ => ?_)
      · rw [itr_s]
        unfold u_X8_hours_41
        rw [if_pos (nI_le q (by omega)), hC.hour, hq.1]
      · show itr (fun _ _ _ => none) u_X9_hours_40 (f + 1) (nI m) (nI k) τ = _
        rw [itr_s]
        unfold u_X9_hours_40
        rw [if_pos (nI_le q (by omega)), hτ, hq.1]
    · refine ((goesS hn (h := h') (by omega) hC hP hI hq).tn (fun r σ' ρ' c1 c2 c3 c4 => ih (k + 1) σ' ρ' (by omega) (by omega) (by omega) c1 c2 c3 ⟨h' + 1, by omega, c4⟩)).to ?_ (fun τ hτ => ?_)
      · rw [itr_s]
        generalize itr (fun _ _ _ => none) u_X8_hours_41 f = g8
        unfold u_X8_hours_41
        rw [if_neg (nI_ge (by omega) (by omega)), lit 1, nI_add]
      · show itr (fun _ _ _ => none) u_X9_hours_40 (f + 1) (nI m) (nI k) τ = _
        rw [itr_s]
        generalize itr (fun _ _ _ => none) u_X9_hours_40 f = g9
        unfold u_X9_hours_40
        rw [if_neg (nI_ge (by omega) (by omega)), lit 1, nI_add]
theorem lastH {h m : Nat} (hh : h ≤ 9999) (hm : m ≤ 48) : (nI h ≤ (9999 : Int32) - nI m ↔ h + m ≤ 9999) ∧ (nI h + nI m ≤ (9999 : Int32) ↔ h + m ≤ 9999) := by
  rw [lit 9999, nI_sub' (by omega), nI_add]
  refine ⟨⟨fun q => ?_, fun q => nI_le (by omega) (by omega)⟩, ⟨fun q => ?_, fun q => nI_le q (by decide)⟩⟩
  · refine Classical.byContradiction (fun z => nI_ge (show 9999 - m < h by omega) (by omega) q)
  · refine Classical.byContradiction (fun z => nI_ge (show 9999 < h + m by omega) (by omega) q)
/-- promise 17 -/
theorem op_hours {a : Int32} {σ : MM} (h : GD σ) : SIM (f_X8_hours a σ) (f_X9_hours a) := by
  obtain ⟨n, hn, e3⟩ := people_b h.1.2
  obtain ⟨hr, hhr, eh⟩ := hour_b h.1.2
  have h0 : σ 0 10 = nI hr := h.1.1.hour.trans eh
  rcases btw1 a (hi := 48) (n := 48) rfl (by decide) with ⟨m, hm1, hm, rfl, h1, h2⟩ | hb
  · obtain ⟨l1, l2⟩ := lastH (h := hr) (m := m) hhr hm
    by_cases q : hr + m ≤ 9999
    · refine SIM.sb (Q := fun _ => True) h ((hoursL (n := n) (m := m) (h := hr) hn hm FU 0 σ (σ 130) (by omega) (by rw [FU_eq]; omega) (by omega) h.1.1 h.2.1.1 h.1.2 ⟨hr, by omega, eh, e3⟩).to ?_ (fun τ hτ => ?_))
      · unfold f_X8_hours
        rw [wi_t h1 h2, bd_some, if_neg (by decide), h0, if_pos (l1.mpr q)]; rfl
      · unfold f_X9_hours
        rw [in_t h1 h2, bd_some, if_neg (by decide), hτ, eh, if_pos (l2.mpr q)]; rfl
    · refine SIM.B h (k := 3) (e := -1000000003) (by omega) (by omega) eS ?_ (fun t ht => ?_)
      · unfold f_X8_hours
        rw [wi_t h1 h2, bd_some, if_neg (by decide), h0, if_neg (fun z => q (l1.mp z))]
      · unfold f_X9_hours
        rw [in_t h1 h2, bd_some, if_neg (by decide), ht 130 (by omega), eh, if_neg (fun z => q (l2.mp z))]
  · refine SIM.B h (k := 1) (e := -1000000001) (by omega) (by omega) eB ?_ (fun t ht => ?_)
    · unfold f_X8_hours
      rw [wi_f hb, bd_some, if_pos rfl]
    · unfold f_X9_hours
      rw [in_f hb, bd_some, if_pos rfl]
/-- one who can go says a word -/
theorem hearS {p s h l f n : Nat} {σ : MM} {ρ : Nat → Int32} {w : Int32} (hC : CR 0 σ ρ) (hP : PL 0 σ) (hI : IR ρ) (hp : p < 5) (e2 : ρ 2 = nI n) (hn : n ≤ 20) (hs : s < n) (ea : ρ (66 + 4 * p) = nI s) (eh : ρ (6 + 3 * s + 2) = nI h) (hh : h ≤ 9999) (el : ρ (66 + 4 * p + 1) = nI l) (hl : l ≤ 999) (hl0 : 0 < l) (ef : ρ (66 + 4 * p + 3) = nI f) (hf : f ≤ 9999) :
    ∃ (c : Int32) (σ' : MM), (c = 0 ∨ c = 1) ∧ f_X0_hear 0 (0 + 31 + p) w σ = some (c, σ') ∧ CR 0 σ' (heR ρ p s h l f c) ∧ PL 0 σ' ∧ FR 0 σ σ' ∧ IR (heR ρ p s h l f c) ∧ ∀ τ : MM, τ 130 = ρ → ∃ τ', f_X9_says (nI p) w τ = some (if c = 0 then 1 else 0, τ') ∧ τ' 130 = heR ρ p s h l f c ∧ RO τ τ' := by
  obtain ⟨σ', x1, C1, P1, F1⟩ := hear0 (w := w) (Or.inl rfl) hC hP hI hp e2 hn hs ea eh hh el hl0 ef hf
  refine ⟨contP ρ s w, σ', cont01 _ _ _, x1, C1, P1, F1, IR.he hI hp e2 hn hs hl hf, fun τ hτ => ?_⟩
  subst hτ
  exact says9 hI hp e2 hn hs ea eh hh el hl0 ef hf
theorem HQ.he {ρ : Nat → Int32} {p s h l f H n : Nat} {c : Int32} (q : HQ H n ρ) : HQ H n (heR ρ p s h l f c) := by
  unfold heR
  exact ⟨by rw [upd_at, upd_at, upd_at, upd_at, if_neg (by omega), if_neg (by omega), if_neg (by omega), if_neg (by omega)]; exact q.1, by rw [upd_at, upd_at, upd_at, upd_at, if_neg (by omega), if_neg (by omega), if_neg (by omega), if_neg (by omega)]; exact q.2⟩
theorem HQ.put {ρ : Nat → Int32} {k H n : Nat} {v : Int32} (q : HQ H n ρ) (h0 : k ≠ 0) (h3 : k ≠ 3) : HQ H n (upd ρ k v) := ⟨by rw [upd_at, if_neg (by omega)]; exact q.1, by rw [upd_at, if_neg (by omega)]; exact q.2⟩
theorem drawL {n h : Nat} (hn : n ≤ 5) (hh : h + 1 ≤ 9999) : ∀ (f k : Nat) (v : Int32) (σ : MM) (ρ : Nat → Int32), k ≤ n → n - k < f → CR 0 σ ρ → PL 0 σ → IR ρ → HQ h n ρ → SB (HQ (h + 1) n) ρ σ (itr (fun _ _ _ _ => none) u_X0_passHourByDraws_4 f 0 v (nI k) σ) (fun τ => itr (fun _ _ _ => none) u_X9_drawn_4 f v (nI k) τ) := by
  intro f
  induction f with
  | zero => intro k _ _ _ _ hk; omega
  | succ f ih =>
    intro k v σ ρ hk hf hC hP hI hq
    have e3 : σ 0 3 = nI n := hC.people.trans hq.2
    by_cases q : n ≤ k
    · refine ((goesS hn hh hC hP hI hq).tn (k := fun _ s => some (v, s)) (l := fun _ s => some (v, s)) (Q' := HQ (h + 1) n) (fun r σ' ρ' c1 c2 c3 c4 => SB.rf c1 c2 c3 c4)).to ?_ (fun τ hτ => ?_)
      · rw [itr_s]
        generalize itr (fun _ _ _ _ => none) u_X0_passHourByDraws_4 f = g8
        unfold u_X0_passHourByDraws_4 u_X0_passHourByDraws_60
        rw [e3, if_pos (nI_le q (by omega))]
      · show itr (fun _ _ _ => none) u_X9_drawn_4 (f + 1) v (nI k) τ = _
        rw [itr_s]
        generalize itr (fun _ _ _ => none) u_X9_drawn_4 f = g9
        unfold u_X9_drawn_4
        rw [hτ, hq.2, if_pos (nI_le q (by omega))]
    · have hk5 : k < 5 := by omega
      obtain ⟨l, hl, el⟩ := legs_b hI hk5
      obtain ⟨sn, hsn, e2⟩ := step_b hI
      obtain ⟨s, hs, ea⟩ := at_b hI hk5 e2 hsn
      obtain ⟨fl, hfl, ef⟩ := falls_b hI hk5
      have c0 := canGo0 (b := 0) hC hk5 e2 hsn ea (by omega) el hl
      by_cases hg : s < sn ∧ 0 < l
      · have hgo : goP s sn l = 1 := if_pos hg
        have C1 := hC.put (ρ 1 * 1103515245 + 12345) (k := 1) (i := 0) (s := 11) (Or.inl (by omega)) (by omega) rfl
        have P1 : PL 0 (mu σ 0 11 (ρ 1 * 1103515245 + 12345)) := hP.put (by omega)
        have I1 : IR (upd ρ 1 (ρ 1 * 1103515245 + 12345)) := hI.put (by omega) (Or.inl (by unfold di; omega)) (hI.2.1.pt _ (by omega) (fun p hp => by omega))
        have F1 : FR 0 σ (mu σ 0 11 (ρ 1 * 1103515245 + 12345)) := FR.mu (by omega) (by omega)
        have Q1 : HQ h n (upd ρ 1 (ρ 1 * 1103515245 + 12345)) := hq.put (by omega) (by omega)
        have u1 : ∀ j, j ≠ 1 → upd ρ 1 (ρ 1 * 1103515245 + 12345) j = ρ j := fun j hj => by rw [upd_at, if_neg hj]
        have d1 : f_X0_draw 0 σ = some ((((ρ 1 * 1103515245 + 12345).toUInt32 >>> ((8 : Int32).toUInt32 &&& Int32.toUInt32 31)).toInt32), mu σ 0 11 (ρ 1 * 1103515245 + 12345)) := by
          unfold f_X0_draw
          rw [hC.z, lt_eq, mu_at, if_pos ⟨rfl, rfl⟩]
        have d2 : ∀ τ : MM, τ 130 = ρ → f_X9_draw τ = some ((((ρ 1 * 1103515245 + 12345).toUInt32 >>> ((8 : Int32).toUInt32 &&& Int32.toUInt32 31)).toInt32), mu τ 130 1 (ρ 1 * 1103515245 + 12345)) := by
          intro τ hτ
          unfold f_X9_draw
          rw [hτ, lt_eq, mu_at, if_pos ⟨rfl, rfl⟩]
        have d3 : ∀ τ : MM, τ 130 = ρ → (mu τ 130 1 (ρ 1 * 1103515245 + 12345)) 130 = upd ρ 1 (ρ 1 * 1103515245 + 12345) := fun τ hτ => by rw [mu_row, hτ]
        generalize ((ρ 1 * 1103515245 + 12345).toUInt32 >>> ((8 : Int32).toUInt32 &&& Int32.toUInt32 31)).toInt32 = w at d1 d2
        generalize (ρ 1 * 1103515245 + 12345) = zz at C1 P1 I1 F1 Q1 u1 d1 d2 d3
        generalize mu σ 0 11 zz = σ1 at C1 P1 F1 d1
        generalize upd ρ 1 zz = ρ1 at C1 I1 Q1 u1 d3
        obtain ⟨hd, hhd, eh⟩ := heard_b hI (s := s) (by omega)
        obtain ⟨c, σ2, hc, x2, C2, P2, F2, I2, y2⟩ := hearS (w := w - w / (100 : Int32) * (100 : Int32)) C1 P1 I1 hk5 ((u1 2 (by omega)).trans e2) hsn hg.1 ((u1 _ (by omega)).trans ea) ((u1 _ (by omega)).trans eh) hhd ((u1 _ (by omega)).trans el) hl hg.2 ((u1 _ (by omega)).trans ef) hfl
        have Q2 : HQ h n (heR ρ1 k s hd l fl c) := Q1.he
        refine ((ih (k + 1) (if c = 0 then v + 1 else v) σ2 (heR ρ1 k s hd l fl c) (by omega) (by omega) C2 P2 I2 Q2).st (F1.tr F2) (z := fun τ => itr (fun _ _ _ => none) u_X9_drawn_4 (f + 1) v (nI k) τ) (fun τ hτ => ?_)).to ?_ (fun τ _ => rfl)
        · obtain ⟨τ', b1, b2, b3⟩ := y2 (mu τ 130 1 zz) (d3 τ hτ)
          refine ⟨τ', ?_, b2, RO.mu.tr b3⟩
          show itr (fun _ _ _ => none) u_X9_drawn_4 (f + 1) v (nI k) τ = _
          rw [itr_s]
          generalize itr (fun _ _ _ => none) u_X9_drawn_4 f = g9
          unfold u_X9_drawn_4
          rw [hτ, hq.2, if_neg (nI_ge (by omega) (by omega)), canGo9 hk5 (by rw [hτ]; exact e2) hsn (by rw [hτ]; exact ea) (by omega) (by rw [hτ]; exact el) hl, bd_some, hgo, if_neg (by decide), d2 τ hτ, bd_some, b1, bd_some, show nI k + 1 = nI (k + 1) by rw [lit 1, nI_add]]
          rcases hc with rfl | rfl
          · simp
          · simp
        · rw [itr_s]
          generalize itr (fun _ _ _ _ => none) u_X0_passHourByDraws_4 f = g8
          unfold u_X0_passHourByDraws_4
          rw [e3, if_neg (nI_ge (by omega) (by omega)), if_neg (show ¬ (5 : Int32) ≤ nI k from nI_ge hk5 (by decide)), if_neg (ixN hk5 (by decide)), nI_cl (by omega), show (0 + 2) + 29 + k = 0 + 31 + k by omega, c0, bd_some, hgo, if_neg (by decide), d1, bd_some, x2, bd_some, show nI k + 1 = nI (k + 1) by rw [lit 1, nI_add]]
          rcases hc with rfl | rfl
          · rw [if_pos rfl, if_pos rfl]
          · rw [if_neg (by decide), if_neg (by decide)]
      · have hgo : goP s sn l = 0 := if_neg hg
        refine (ih (k + 1) v σ ρ (by omega) (by omega) hC hP hI hq).to ?_ (fun τ hτ => ?_)
        · rw [itr_s]
          generalize itr (fun _ _ _ _ => none) u_X0_passHourByDraws_4 f = g8
          unfold u_X0_passHourByDraws_4
          rw [e3, if_neg (nI_ge (by omega) (by omega)), if_neg (show ¬ (5 : Int32) ≤ nI k from nI_ge hk5 (by decide)), if_neg (ixN hk5 (by decide)), nI_cl (by omega), show (0 + 2) + 29 + k = 0 + 31 + k by omega, c0, bd_some, hgo, if_pos rfl, lit 1, nI_add]
        · show itr (fun _ _ _ => none) u_X9_drawn_4 (f + 1) v (nI k) τ = _
          rw [itr_s]
          generalize itr (fun _ _ _ => none) u_X9_drawn_4 f = g9
          unfold u_X9_drawn_4
          rw [hτ, hq.2, if_neg (nI_ge (by omega) (by omega)), canGo9 hk5 (by rw [hτ]; exact e2) hsn (by rw [hτ]; exact ea) (by omega) (by rw [hτ]; exact el) hl, bd_some, hgo, if_pos rfl, lit 1, nI_add]
theorem drawS {n h : Nat} (hn : n ≤ 5) (hh : h + 1 ≤ 9999) {σ : MM} {ρ : Nat → Int32} (hC : CR 0 σ ρ) (hP : PL 0 σ) (hI : IR ρ) (hq : HQ h n ρ) : SB (HQ (h + 1) n) ρ σ (f_X0_passHourByDraws 0 σ) f_X9_drawn := drawL hn hh FU 0 0 σ ρ (by omega) (by rw [FU_eq]; omega) hC hP hI hq
theorem looseL {n m : Nat} (hn : n ≤ 5) (hm : m ≤ 30) : ∀ (f k : Nat) (v : Int32) (σ : MM) (ρ : Nat → Int32), k ≤ m → m - k < f → CR 0 σ ρ → PL 0 σ → IR ρ → (∃ h', h' + (m - k) ≤ 9999 ∧ HQ h' n ρ) → SB (fun _ => True) ρ σ (itr (fun _ _ _ _ => none) u_X8_loose_43 f (nI m) v (nI k) σ) (fun τ => itr (fun _ _ _ _ => none) u_X9_loose_42 f (nI m) v (nI k) τ) := by
  intro f
  induction f with
  | zero => intro k _ _ _ _ hk; omega
  | succ f ih =>
    intro k v σ ρ hk hf hC hP hI hq
    obtain ⟨h', hh, hq⟩ := hq
    by_cases q : m ≤ k
    · refine (SB.rf (r := v) hC hP hI trivial).to ?_ (fun τ hτ => ?_)
      · rw [itr_s]
        unfold u_X8_loose_43
        rw [if_pos (nI_le q (by omega))]
      · show itr (fun _ _ _ _ => none) u_X9_loose_42 (f + 1) (nI m) v (nI k) τ = _
        rw [itr_s]
        unfold u_X9_loose_42
        rw [if_pos (nI_le q (by omega))]
    · refine ((drawS hn (h := h') (by omega) hC hP hI hq).tn (fun r σ' ρ' c1 c2 c3 c4 => ih (k + 1) (v + r) σ' ρ' (by omega) (by omega) c1 c2 c3 ⟨h' + 1, by omega, c4⟩)).to ?_ (fun τ hτ => ?_)
      · rw [itr_s]
        generalize itr (fun _ _ _ _ => none) u_X8_loose_43 f = g8
        unfold u_X8_loose_43
        rw [if_neg (nI_ge (by omega) (by omega)), lit 1, nI_add]
      · show itr (fun _ _ _ _ => none) u_X9_loose_42 (f + 1) (nI m) v (nI k) τ = _
        rw [itr_s]
        generalize itr (fun _ _ _ _ => none) u_X9_loose_42 f = g9
        unfold u_X9_loose_42
        rw [if_neg (nI_ge (by omega) (by omega)), lit 1, nI_add]
/-- promise 18 -/
theorem op_loose {a : Int32} {σ : MM} (h : GD σ) : SIM (f_X8_loose a σ) (f_X9_loose a) := by
  obtain ⟨n, hn, e3⟩ := people_b h.1.2
  obtain ⟨hr, hhr, eh⟩ := hour_b h.1.2
  have h0 : σ 0 10 = nI hr := h.1.1.hour.trans eh
  rcases btw1 a (hi := 30) (n := 30) rfl (by decide) with ⟨m, hm1, hm, rfl, h1, h2⟩ | hb
  · obtain ⟨l1, l2⟩ := lastH (h := hr) (m := m) hhr (by omega)
    by_cases q : hr + m ≤ 9999
    · refine SIM.sb (Q := fun _ => True) h ((looseL (n := n) (m := m) hn hm FU 0 0 σ (σ 130) (by omega) (by rw [FU_eq]; omega) h.1.1 h.2.1.1 h.1.2 ⟨hr, by omega, eh, e3⟩).to ?_ (fun τ hτ => ?_))
      · unfold f_X8_loose
        rw [wi_t h1 h2, bd_some, if_neg (by decide), h0, if_pos (l1.mpr q)]; rfl
      · unfold f_X9_loose
        rw [in_t h1 h2, bd_some, if_neg (by decide), hτ, eh, if_pos (l2.mpr q)]; rfl
    · refine SIM.B h (k := 3) (e := -1000000003) (by omega) (by omega) eS ?_ (fun t ht => ?_)
      · unfold f_X8_loose
        rw [wi_t h1 h2, bd_some, if_neg (by decide), h0, if_neg (fun z => q (l1.mp z))]
      · unfold f_X9_loose
        rw [in_t h1 h2, bd_some, if_neg (by decide), ht 130 (by omega), eh, if_neg (fun z => q (l2.mp z))]
  · refine SIM.B h (k := 1) (e := -1000000001) (by omega) (by omega) eB ?_ (fun t ht => ?_)
    · unfold f_X8_loose
      rw [wi_f hb, bd_some, if_pos rfl]
    · unfold f_X9_loose
      rw [in_f hb, bd_some, if_pos rfl]

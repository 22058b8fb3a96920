theorem of0 {s : Nat} {σ : MM} (hs : s ≤ 40) : f_X9_of (nI s) 0 σ = some (σ 130 (6 + 3 * s), σ) := of_eq (k := 0) hs (by omega)
theorem of1 {s : Nat} {σ : MM} (hs : s ≤ 40) : f_X9_of (nI s) 1 σ = some (σ 130 (6 + 3 * s + 1), σ) := of_eq (k := 1) hs (by omega)
theorem of2 {s : Nat} {σ : MM} (hs : s ≤ 40) : f_X9_of (nI s) 2 σ = some (σ 130 (6 + 3 * s + 2), σ) := of_eq (k := 2) hs (by omega)
def plP (m w : Int32) : Int32 := if w < (5 : Int32) * m then 0 else 1
def stP (m w : Int32) : Int32 := if plP m w = 0 then 0 else if w - w / 3 * 3 = m - m / 3 * 3 then 1 else 0
def miP (m w : Int32) : Int32 := if plP m w = 0 then (if w - w / 10 * 10 = m then 1 else 0) else 1
def nodQ (k m h hour s w : Int32) : Int32 :=
  if k = 1 then stP m w else if k = 2 then miP m w else if k = 3 then (if w = (7 : Int32) * m then 1 else 0)
  else if k = 4 then (if stP m w = 0 then 0 else if hour - hour / 24 * 24 < 12 then 0 else 1)
  else if k = 5 then (if miP m w = 0 then 0 else if (90 : Int32) - s ≤ w then 0 else 1)
  else if k = 6 then (if plP m w = 0 then 0 else if h - h / 2 * 2 = 0 then 1 else 0) else plP m w
def nodP (ρ : Nat → Int32) (s : Nat) (w : Int32) : Int32 := nodQ (ρ (6 + 3 * s)) (ρ (6 + 3 * s + 1)) (ρ (6 + 3 * s + 2)) (ρ 0) (nI s) w
theorem pl01 (m w : Int32) : plP m w = 0 ∨ plP m w = 1 := by unfold plP; split <;> simp
theorem st01 (m w : Int32) : stP m w = 0 ∨ stP m w = 1 := by unfold stP; split <;> (try split) <;> simp
theorem mi01 (m w : Int32) : miP m w = 0 ∨ miP m w = 1 := by unfold miP; split <;> (try split) <;> simp
theorem nod01 (k m h hour s w : Int32) : nodQ k m h hour s w = 0 ∨ nodQ k m h hour s w = 1 := by
  unfold nodQ
  have := pl01 m w
  have := st01 m w
  have := mi01 m w
  repeat' split
  all_goals first | assumption | simp
theorem nodsPl {t : Nat} {w : Int32} {σ : MM} : f_X2_nodsPlainly t w σ = some (plP (σ t 2) w, σ) := by
  unfold f_X2_nodsPlainly plP; split <;> rfl
theorem nodsSt {t : Nat} {w : Int32} {σ : MM} : f_X2_nodsStrictly t w σ = some (stP (σ t 2) w, σ) := by
  unfold f_X2_nodsStrictly stP
  rw [nodsPl, bd_some]
  split
  · rfl
  · split <;> rfl
theorem nodsMi {t : Nat} {w : Int32} {σ : MM} : f_X2_nodsMildly t w σ = some (miP (σ t 2) w, σ) := by
  unfold f_X2_nodsMildly miP
  rw [nodsPl, bd_some]
  split
  · split <;> rfl
  · rfl
theorem nods_eq {t : Nat} {w hour : Int32} {σ : MM} : f_X2_nods t w hour σ = some (nodQ (σ t 1) (σ t 2) (σ t 3) hour (σ t 0) w, σ) := by
  unfold f_X2_nods nodQ
  rw [nodsPl, nodsSt, nodsMi]
  simp only [bd_some]
  rw [if_pos (pl01 _ _), if_pos (st01 _ _), if_pos (mi01 _ _)]
  repeat' split
  all_goals first | rfl | contradiction
theorem doesNod_eq {s : Nat} {w : Int32} {σ : MM} (hs : s ≤ 40) : f_X9_doesNod (nI s) w σ = some (nodP (σ 130) s w, σ) := by
  unfold f_X9_doesNod nodP
  rw [of1 hs, bd_some]
  have e60 : ∀ (a b c : Int32), (a = 0 ∨ a = 1) → (b = 0 ∨ b = 1) → (c = 0 ∨ c = 1) → u_X9_doesNod_60 (nI s) w (σ 130 (6 + 3 * s + 1)) a b c σ = some (if σ 130 (6 + 3 * s) = 1 then b else if σ 130 (6 + 3 * s) = 2 then c else if σ 130 (6 + 3 * s) = 3 then (if w = (7 : Int32) * σ 130 (6 + 3 * s + 1) then 1 else 0)
      else if σ 130 (6 + 3 * s) = 4 then (if b = 0 then 0 else if σ 130 0 - σ 130 0 / 24 * 24 < 12 then 0 else 1)
      else if σ 130 (6 + 3 * s) = 5 then (if c = 0 then 0 else if (90 : Int32) - nI s ≤ w then 0 else 1)
      else if σ 130 (6 + 3 * s) = 6 then (if a = 0 then 0 else if σ 130 (6 + 3 * s + 2) - σ 130 (6 + 3 * s + 2) / 2 * 2 = 0 then 1 else 0) else a, σ) := by
    intro a b c ha hb hc
    unfold u_X9_doesNod_60
    rw [of0 hs, bd_some, of2 hs, bd_some, if_pos ha, if_pos hb, if_pos hc]
    repeat' split
    all_goals first | rfl | contradiction
  have e40 : ∀ a b : Int32, (a = 0 ∨ a = 1) → (b = 0 ∨ b = 1) → u_X9_doesNod_40 (nI s) w (σ 130 (6 + 3 * s + 1)) a b σ = u_X9_doesNod_60 (nI s) w (σ 130 (6 + 3 * s + 1)) a b (if a = 0 then (if w - w / 10 * 10 = σ 130 (6 + 3 * s + 1) then 1 else 0) else 1) σ := by
    intro a b ha hb
    unfold u_X9_doesNod_40
    split
    · split <;> rfl
    · rfl
  have e19 : ∀ a : Int32, (a = 0 ∨ a = 1) → u_X9_doesNod_19 (nI s) w (σ 130 (6 + 3 * s + 1)) a σ = u_X9_doesNod_40 (nI s) w (σ 130 (6 + 3 * s + 1)) a (if a = 0 then 0 else if w - w / 3 * 3 = σ 130 (6 + 3 * s + 1) - σ 130 (6 + 3 * s + 1) / 3 * 3 then 1 else 0) σ := by
    intro a ha
    unfold u_X9_doesNod_19
    split
    · rfl
    · split <;> rfl
  have key : ∀ a, a = plP (σ 130 (6 + 3 * s + 1)) w → u_X9_doesNod_19 (nI s) w (σ 130 (6 + 3 * s + 1)) a σ = some (nodP (σ 130) s w, σ) := by
    intro a ea
    have h1 := pl01 (σ 130 (6 + 3 * s + 1)) w
    rw [← ea] at h1
    have h2 : (if a = 0 then 0 else if w - w / 3 * 3 = σ 130 (6 + 3 * s + 1) - σ 130 (6 + 3 * s + 1) / 3 * 3 then 1 else 0) = stP (σ 130 (6 + 3 * s + 1)) w := by unfold stP; rw [← ea]
    have h3 : (if a = 0 then (if w - w / 10 * 10 = σ 130 (6 + 3 * s + 1) then 1 else 0) else 1) = miP (σ 130 (6 + 3 * s + 1)) w := by unfold miP; rw [← ea]
    rw [e19 a h1, h2, e40 a _ h1 (st01 _ _), h3, e60 _ _ _ h1 (st01 _ _) (mi01 _ _), ea]
    rfl
  by_cases h : w < (5 : Int32) * σ 130 (6 + 3 * s + 1)
  · rw [if_pos h]; exact key 0 (by unfold plP; rw [if_pos h])
  · rw [if_neg h]; exact key 1 (by unfold plP; rw [if_neg h])
def contP (ρ : Nat → Int32) (s : Nat) (w : Int32) : Int32 := if nodP ρ s w = 0 then 0 else if givP ρ 0 w (nI s) (ρ (6 + 3 * s + 1)) = 1 then 1 else 0
theorem cont01 (ρ : Nat → Int32) (s : Nat) (w : Int32) : contP ρ s w = 0 ∨ contP ρ s w = 1 := by unfold contP; split <;> (try split) <;> simp
theorem cont9 {σ : MM} {s : Nat} {w : Int32} (hI : IR (σ 130)) (hs : s ≤ 40) : ∃ σ', f_X9_isContent (nI s) w σ = some (contP (σ 130) s w, σ') ∧ JE σ σ' := by
  unfold f_X9_isContent contP
  rw [doesNod_eq hs, bd_some]
  by_cases h : nodP (σ 130) s w = 0
  · rw [if_pos h, if_pos h]; exact ⟨σ, rfl, JE.rf⟩
  · rw [if_neg h, if_neg h, of1 hs, bd_some]
    obtain ⟨σ', e, hj⟩ := gives9 (σ := σ) (u := 0) (a := w) (b := nI s) (c := σ 130 (6 + 3 * s + 1)) hI (by omega)
    rw [show (0 : Int32) = nI 0 from rfl, e, bd_some]
    refine ⟨σ', ?_, hj⟩
    split <;> rfl
theorem loc_j {b s k : Nat} (hs : s < 20) (hk : k < 3) : loc b (6 + 3 * s + k) = (b + 11 + s, 1 + k) := by
  unfold loc
  rw [if_neg (by omega), if_neg (by omega), if_neg (by omega), if_neg (by omega), if_neg (by omega), if_neg (by omega), if_pos (by omega)]
  refine Prod.ext ?_ ?_
  · show b + 11 + (6 + 3 * s + k - 6) / 3 = _; omega
  · show 1 + (6 + 3 * s + k - 6) % 3 = _; omega
theorem loc_p {b s k : Nat} (hs : s < 5) (hk : k < 4) : loc b (66 + 4 * s + k) = (b + 31 + s, k) := by
  unfold loc
  rw [if_neg (by omega), if_neg (by omega), if_neg (by omega), if_neg (by omega), if_neg (by omega), if_neg (by omega), if_neg (by omega), if_pos (by omega)]
  refine Prod.ext ?_ ?_
  · show b + 31 + (66 + 4 * s + k - 66) / 4 = _; omega
  · show (66 + 4 * s + k - 66) % 4 = _; omega
theorem CR.j {b s k : Nat} {σ : MM} {ρ : Nat → Int32} (h : CR b σ ρ) (hs : s < 20) (hk : k < 3) : σ (b + 11 + s) (1 + k) = ρ (6 + 3 * s + k) := by
  have h1 := h.1 (6 + 3 * s + k) (Or.inl (by omega))
  rw [loc_j hs hk] at h1
  exact h1
theorem CR.p {b s k : Nat} {σ : MM} {ρ : Nat → Int32} (h : CR b σ ρ) (hs : s < 5) (hk : k < 4) : σ (b + 31 + s) k = ρ (66 + 4 * s + k) := by
  have h1 := h.1 (66 + 4 * s + k) (Or.inl (by omega))
  rw [loc_p hs hk] at h1
  exact h1
theorem CR.hour {b : Nat} {σ : MM} {ρ : Nat → Int32} (h : CR b σ ρ) : σ b 10 = ρ 0 := h.1 0 (Or.inl (by omega))
theorem CR.z {b : Nat} {σ : MM} {ρ : Nat → Int32} (h : CR b σ ρ) : σ b 11 = ρ 1 := h.1 1 (Or.inl (by omega))
theorem CR.steps {b : Nat} {σ : MM} {ρ : Nat → Int32} (h : CR b σ ρ) : σ b 1 = ρ 2 := h.1 2 (Or.inl (by omega))
theorem CR.people {b : Nat} {σ : MM} {ρ : Nat → Int32} (h : CR b σ ρ) : σ b 3 = ρ 3 := h.1 3 (Or.inl (by omega))
theorem CR.taped {b : Nat} {σ : MM} {ρ : Nat → Int32} (h : CR b σ ρ) : σ b 7 = ρ 4 := h.1 4 (Or.inl (by omega))
theorem CR.waits {b : Nat} {σ : MM} {ρ : Nat → Int32} (h : CR b σ ρ) : σ b 9 = ρ 5 := h.1 5 (Or.inl (by omega))
theorem cont0 {b s : Nat} {σ : MM} {ρ : Nat → Int32} {w : Int32} (hb : BB b) (hC : CR b σ ρ) (hp : PL b σ) (hI : IR ρ) (hs : s < 20) : ∃ σ', f_X0_isContent b (b + 11 + s) w σ = some (contP ρ s w, σ') ∧ JE σ σ' := by
  unfold f_X0_isContent contP
  have e1 := hC.j hs (k := 0) (by omega)
  have e2 := hC.j hs (k := 1) (by omega)
  have e3 := hC.j hs (k := 2) (by omega)
  have en : f_X2_nods (b + 11 + s) w (σ b 10) σ = some (nodP ρ s w, σ) := by
    rw [nods_eq, hp s hs, hC.hour, show σ (b + 11 + s) 1 = _ from e1, show σ (b + 11 + s) 2 = _ from e2, show σ (b + 11 + s) 3 = _ from e3]
    rfl
  rw [en, bd_some]
  by_cases h : nodP ρ s w = 0
  · rw [if_pos h, if_pos h]; exact ⟨σ, rfl, JE.rf⟩
  · rw [if_neg h, if_neg h, hp s hs, show σ (b + 11 + s) 2 = _ from e2]
    obtain ⟨σ', e, hj⟩ := gives0 (u := 0) (a1 := w) (b1 := nI s) (c1 := ρ (6 + 3 * s + 1)) hb hC hI (by omega)
    rw [show (0 : Int32) = nI 0 from rfl, e, bd_some]
    refine ⟨σ', ?_, hj⟩
    split <;> rfl
def wantQ (k m h s : Int32) : Int32 :=
  if k = 1 then (10 : Int32) + (h - h / 10 * 10) + m else if k = 2 then ((10 : Int32) + (h - h / 10 * 10)) / 2 else if k = 3 then ((10 : Int32) + (h - h / 10 * 10)) * 2
  else if k = 4 then (10 : Int32) + (h - h / 10 * 10) + m + s else if k = 5 then ((10 : Int32) + (h - h / 10 * 10)) / 2 - 1 else if k = 6 then 0 else (10 : Int32) + (h - h / 10 * 10)
def bribeP (ρ : Nat → Int32) (s : Nat) : Int32 := givP ρ 1 (wantQ (ρ (6 + 3 * s)) (ρ (6 + 3 * s + 1)) (ρ (6 + 3 * s + 2)) (nI s)) (nI s) (ρ (6 + 3 * s))
theorem bribe9 {σ : MM} {s : Nat} (hI : IR (σ 130)) (hs : s ≤ 40) : ∃ σ', f_X9_bribeOf (nI s) σ = some (bribeP (σ 130) s, σ') ∧ JE σ σ' := by
  unfold f_X9_bribeOf
  have ew : f_X9_wantsOf (nI s) σ = some (wantQ (σ 130 (6 + 3 * s)) (σ 130 (6 + 3 * s + 1)) (σ 130 (6 + 3 * s + 2)) (nI s), σ) := by
    unfold f_X9_wantsOf wantQ
    simp only [of0 hs, of1 hs, of2 hs, bd_some, lt_eq, Int32.mul_comm 2]
    repeat' split
    all_goals first | rfl | contradiction
  rw [ew, bd_some, of0 hs, bd_some]
  obtain ⟨σ', e, hj⟩ := gives9 (σ := σ) (u := 1) (a := wantQ (σ 130 (6 + 3 * s)) (σ 130 (6 + 3 * s + 1)) (σ 130 (6 + 3 * s + 2)) (nI s)) (b := nI s) (c := σ 130 (6 + 3 * s)) hI (by omega)
  rw [show (1 : Int32) = nI 1 from rfl, e, bd_some]
  exact ⟨σ', rfl, hj⟩
theorem bribe0 {b s : Nat} {σ : MM} {ρ : Nat → Int32} (hb : BB b) (hC : CR b σ ρ) (hp : PL b σ) (hI : IR ρ) (hs : s < 20) : ∃ σ', f_X0_bribeOf b (b + 11 + s) σ = some (bribeP ρ s, σ') ∧ JE σ σ' := by
  unfold f_X0_bribeOf
  have e1 := hC.j hs (k := 0) (by omega)
  have e2 := hC.j hs (k := 1) (by omega)
  have e3 := hC.j hs (k := 2) (by omega)
  have ew : f_X2_wants (b + 11 + s) σ = some (wantQ (ρ (6 + 3 * s)) (ρ (6 + 3 * s + 1)) (ρ (6 + 3 * s + 2)) (nI s), σ) := by
    unfold f_X2_wants wantQ
    rw [hp s hs, show σ (b + 11 + s) 1 = _ from e1, show σ (b + 11 + s) 2 = _ from e2, show σ (b + 11 + s) 3 = _ from e3, lt_eq]
    repeat' split
    all_goals first | rfl | contradiction
  rw [ew, bd_some, hp s hs, show σ (b + 11 + s) 1 = _ from e1]
  obtain ⟨σ', e, hj⟩ := gives0 (u := 1) (a1 := wantQ (ρ (6 + 3 * s)) (ρ (6 + 3 * s + 1)) (ρ (6 + 3 * s + 2)) (nI s)) (b1 := nI s) (c1 := ρ (6 + 3 * s)) hb hC hI (by omega)
  rw [show (1 : Int32) = nI 1 from rfl]
  have e' : f_X0_gives b (nI 1) (wantQ (ρ (6 + 3 * s)) (ρ (6 + 3 * s + 1)) (ρ (6 + 3 * s + 2)) (nI s)) (nI s) (ρ (6 + 3 * s + 0)) σ = _ := e
  rw [e', bd_some]
  exact ⟨σ', rfl, hj⟩

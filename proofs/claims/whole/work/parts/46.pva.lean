/-- part of the court at t1 copied to the court at t0 -/
def PW (t0 t1 : Nat) (P : Nat → Nat → Prop) (σ σ' : MM) : Prop := (∀ x s, x < 36 → (P x s → σ' (t0 + x) s = σ (t1 + x) s) ∧ (¬ P x s → σ' (t0 + x) s = σ (t0 + x) s)) ∧ ∀ i, i < t0 ∨ t0 + 36 ≤ i → σ' i = σ i
def DJ (t0 t1 : Nat) : Prop := t0 + 36 ≤ t1 ∨ t1 + 36 ≤ t0
theorem PW.rf {t0 t1 : Nat} {σ : MM} : PW t0 t1 (fun _ _ => False) σ σ := ⟨fun _ _ _ => ⟨fun h => h.elim, fun _ => rfl⟩, fun _ _ => rfl⟩
theorem PW.tr {t0 t1 : Nat} {P Q : Nat → Nat → Prop} {σ s t : MM} (d : DJ t0 t1) (h : PW t0 t1 P σ s) (h2 : PW t0 t1 Q s t) : PW t0 t1 (fun x u => P x u ∨ Q x u) σ t := by
  refine ⟨fun x u hx => ⟨fun hp => ?_, fun hp => ?_⟩, fun i hi => (h2.2 i hi).trans (h.2 i hi)⟩
  · by_cases q : Q x u
    · rw [(h2.1 x u hx).1 q, h.2 (t1 + x) (by unfold DJ at d; omega)]
    · rw [(h2.1 x u hx).2 q, (h.1 x u hx).1 (hp.resolve_right q)]
  · rw [(h2.1 x u hx).2 (fun q => hp (Or.inr q)), (h.1 x u hx).2 (fun q => hp (Or.inl q))]
theorem PW.to {t0 t1 : Nat} {P Q : Nat → Nat → Prop} {σ s : MM} (h : PW t0 t1 P σ s) (e : ∀ x u, P x u ↔ Q x u) : PW t0 t1 Q σ s := ⟨fun x u hx => ⟨fun q => (h.1 x u hx).1 ((e x u).mpr q), fun q => (h.1 x u hx).2 (fun y => q ((e x u).mp y))⟩, h.2⟩
theorem PW.m {t0 t1 x u : Nat} {σ : MM} {i : Nat} {v : Int32} (hx : x < 36) (ei : i = t0 + x) (ev : v = σ (t1 + x) u) : PW t0 t1 (fun y w => y = x ∧ w = u) σ (mu σ i u v) := by
  subst ei; subst ev
  refine ⟨fun y w hy => ⟨fun h => ?_, fun h => ?_⟩, fun j hj => mu_off _ _ (by omega)⟩
  · obtain ⟨rfl, rfl⟩ := h; rw [mu_at, if_pos ⟨rfl, rfl⟩]
  · rw [mu_at, if_neg (by omega)]
theorem PW.a {t0 t1 x N : Nat} {σ : MM} (hx : x < 36) : PW t0 t1 (fun y w => y = x ∧ w < N) σ (ma σ (t0 + x) (va_cpy (σ (t1 + x)) (σ (t0 + x)) 0 0 N)) := by
  refine ⟨fun y w hy => ⟨fun h => ?_, fun h => ?_⟩, fun j hj => ma_off _ (by omega)⟩
  · obtain ⟨rfl, h⟩ := h
    rw [ma_row]; unfold va_cpy
    rw [if_pos ⟨by omega, by omega⟩, Nat.zero_add, Nat.sub_zero]
  · by_cases e : y = x
    · subst e
      rw [ma_row]; unfold va_cpy
      rw [if_neg (fun q => h ⟨rfl, by omega⟩)]
    · rw [ma_off _ (by omega)]
theorem cp2 {t0 t1 x : Nat} {σ : MM} (d : DJ t0 t1) (hx : x < 36) : ∃ σ', f_X2_copyFrom (t0 + x) (t1 + x) σ = some ((), σ') ∧ PW t0 t1 (fun y w => y = x ∧ 1 ≤ w ∧ w ≤ 3) σ σ' := by
  refine ⟨_, rfl, ?_⟩
  refine (((PW.m (u := 1) hx rfl rfl).tr d (PW.m (u := 2) hx rfl rfl)).tr d (PW.m (u := 3) hx rfl rfl)).to (fun y w => ?_)
  constructor <;> intro h <;> omega
theorem cp3 {t0 t1 x : Nat} {σ : MM} (d : DJ t0 t1) (hx : x < 36) : ∃ σ', f_X3_copyFrom (t0 + x) (t1 + x) σ = some ((), σ') ∧ PW t0 t1 (fun y w => y = x ∧ w ≤ 3) σ σ' := by
  refine ⟨_, rfl, ?_⟩
  refine ((((PW.m (u := 0) hx rfl rfl).tr d (PW.m (u := 1) hx rfl rfl)).tr d (PW.m (u := 2) hx rfl rfl)).tr d (PW.m (u := 3) hx rfl rfl)).to (fun y w => ?_)
  constructor <;> intro h <;> omega
theorem cp6 {t0 t1 x : Nat} {σ : MM} (d : DJ t0 t1) (hx : x < 35) : ∃ σ', f_X6_copyFrom (t0 + x) (t1 + x) σ = some ((), σ') ∧ PW t0 t1 (fun y w => (y = x + 1 ∧ w < 60) ∨ (y = x ∧ w = 2)) σ σ' := by
  refine ⟨_, rfl, ?_⟩
  exact (PW.a (x := x + 1) (N := 60) (by omega)).tr d (PW.m (u := 2) (by omega) rfl rfl)
def PE (y w : Nat) : Prop := ((y = 4 ∨ y = 7) ∧ w < 60) ∨ ((y = 3 ∨ y = 6) ∧ w = 2) ∨ (y = 9 ∧ w < 60) ∨ (y = 10 ∧ w < 24) ∨ (y = 0 ∧ (w = 7 ∨ w = 9 ∨ w = 10 ∨ w = 11))
theorem cp98 {t0 t1 : Nat} {σ : MM} (d : DJ t0 t1) : ∃ σ', u_X0_copyFrom_98 t0 t1 σ = some ((), σ') ∧ PW t0 t1 PE σ σ' := by
  obtain ⟨s1, e1, p1⟩ := cp6 (σ := σ) (x := 3) d (by omega)
  obtain ⟨s2, e2, p2⟩ := cp6 (σ := s1) (x := 6) d (by omega)
  unfold u_X0_copyFrom_98
  rw [e1, bd_some, e2, bd_some]
  refine ⟨_, rfl, ?_⟩
  refine (((((((p1.tr d p2).tr d (PW.a (x := 9) (N := 60) (by omega))).tr d (PW.m (x := 0) (u := 7) (by omega) rfl rfl)).tr d (PW.a (x := 10) (N := 24) (by omega))).tr d (PW.m (x := 0) (u := 9) (by omega) rfl rfl)).tr d (PW.m (x := 0) (u := 10) (by omega) rfl rfl)).tr d (PW.m (x := 0) (u := 11) (by omega) rfl rfl)).to (fun y w => ?_)
  unfold PE
  constructor <;> intro h <;> omega
theorem cp59 {t0 t1 : Nat} (d : DJ t0 t1) : ∀ (f k : Nat) (σ : MM), k ≤ 5 → 5 - k < f → ∃ σ', itr (fun _ _ _ _ => none) u_X0_copyFrom_59 f t0 t1 (nI k) σ = some ((), σ') ∧ PW t0 t1 (fun y w => (31 + k ≤ y ∧ y < 36 ∧ w ≤ 3) ∨ PE y w) σ σ' := by
  intro f
  induction f with
  | zero => intro k _ _ hk; omega
  | succ f ih =>
    intro k σ hk hf
    rw [itr_s]
    generalize itr (fun _ _ _ _ => none) u_X0_copyFrom_59 f = g at ih ⊢
    unfold u_X0_copyFrom_59
    by_cases z : 5 ≤ k
    · rw [if_pos (show (5 : Int32) ≤ nI k from nI_le (a := 5) z (by omega))]
      obtain ⟨s, e, p⟩ := cp98 (σ := σ) d
      exact ⟨s, e, p.to (fun y w => ⟨Or.inr, fun h => h.elim (fun q => by omega) (fun q => q)⟩)⟩
    · have z1 : ¬ (5 : Int32) ≤ nI k := nI_ge (show k < 5 by omega) (by decide)
      rw [if_neg z1, if_neg z1, if_neg (ixN (by omega) (by decide)), nI_cl (by omega)]
      obtain ⟨s, e, p⟩ := cp3 (σ := σ) (x := 31 + k) d (by omega)
      rw [show t0 + 2 + 29 + k = t0 + (31 + k) by omega, show t1 + 2 + 29 + k = t1 + (31 + k) by omega, e, bd_some, lit 1, nI_add]
      obtain ⟨s2, e2, p2⟩ := ih (k + 1) s (by omega) (by omega)
      refine ⟨s2, e2, (p.tr d p2).to (fun y w => ?_)⟩
      unfold PE
      constructor <;> intro h <;> omega
theorem cp10 {t0 t1 : Nat} (d : DJ t0 t1) : ∀ (f k : Nat) (σ : MM), k ≤ 20 → 20 - k < f → ∃ σ', itr (fun _ _ _ _ => none) u_X0_copyFrom_10 f t0 t1 (nI k) σ = some ((), σ') ∧ PW t0 t1 (fun y w => (11 + k ≤ y ∧ y < 31 ∧ 1 ≤ w ∧ w ≤ 3) ∨ (31 ≤ y ∧ y < 36 ∧ w ≤ 3) ∨ (y = 0 ∧ w = 3) ∨ PE y w) σ σ' := by
  intro f
  induction f with
  | zero => intro k _ _ hk; omega
  | succ f ih =>
    intro k σ hk hf
    rw [itr_s]
    generalize itr (fun _ _ _ _ => none) u_X0_copyFrom_10 f = g at ih ⊢
    unfold u_X0_copyFrom_10
    by_cases z : 20 ≤ k
    · rw [if_pos (show (20 : Int32) ≤ nI k from nI_le (a := 20) z (by omega))]
      obtain ⟨s, e, p⟩ := cp59 d FU 0 (mu σ t0 3 (σ t1 3)) (by omega) (by rw [FU_eq]; omega)
      refine ⟨s, by unfold u_X0_copyFrom_49 l_X0_copyFrom_59; rw [lt_eq, lit 0]; exact e, ((PW.m (x := 0) (u := 3) (by omega) rfl rfl).tr d p).to (fun y w => ?_)⟩
      unfold PE
      constructor <;> intro h <;> omega
    · have z1 : ¬ (20 : Int32) ≤ nI k := nI_ge (show k < 20 by omega) (by decide)
      rw [if_neg z1, if_neg z1, if_neg (ixN (by omega) (by decide)), nI_cl (by omega)]
      obtain ⟨s, e, p⟩ := cp2 (σ := σ) (x := 11 + k) d (by omega)
      rw [show t0 + 1 + 10 + k = t0 + (11 + k) by omega, show t1 + 1 + 10 + k = t1 + (11 + k) by omega, e, bd_some, lit 1, nI_add]
      obtain ⟨s2, e2, p2⟩ := ih (k + 1) s (by omega) (by omega)
      refine ⟨s2, e2, (p.tr d p2).to (fun y w => ?_)⟩
      unfold PE
      constructor <;> intro h <;> omega
def PA (y w : Nat) : Prop := (y = 0 ∧ (w = 1 ∨ w = 3 ∨ w = 7 ∨ w = 9 ∨ w = 10 ∨ w = 11)) ∨ (11 ≤ y ∧ y < 31 ∧ 1 ≤ w ∧ w ≤ 3) ∨ (31 ≤ y ∧ y < 36 ∧ w ≤ 3) ∨ ((y = 4 ∨ y = 7) ∧ w < 60) ∨ ((y = 3 ∨ y = 6) ∧ w = 2) ∨ (y = 9 ∧ w < 60) ∨ (y = 10 ∧ w < 24)
theorem copyF {t0 t1 : Nat} {σ : MM} (d : DJ t0 t1) : ∃ σ', f_X0_copyFrom t0 t1 σ = some ((), σ') ∧ PW t0 t1 PA σ σ' := by
  obtain ⟨s, e, p⟩ := cp10 d FU 0 (mu σ t0 1 (σ t1 1)) (by omega) (by rw [FU_eq]; omega)
  refine ⟨s, by unfold f_X0_copyFrom l_X0_copyFrom_10; rw [lt_eq, lit 0]; exact e, ((PW.m (x := 0) (u := 1) (by omega) rfl rfl).tr d p).to (fun y w => ?_)⟩
  unfold PE PA
  constructor <;> intro h <;> omega

/-! Pure rows: reads and writes of the memory, the relation of the two systems. -/
theorem mu_row (σ : MM) (i k : Nat) (v : Int32) : mu σ i k v i = upd (σ i) k v := by simp [mu, ma]
theorem mu_off {σ : MM} {i j : Nat} (k : Nat) (v : Int32) (h : j ≠ i) : mu σ i k v j = σ j := by simp [mu, ma, h]
theorem ma_row (σ : MM) (i : Nat) (f : Nat → Int32) : ma σ i f i = f := by simp [ma]
theorem ma_off {σ : MM} {i j : Nat} (f : Nat → Int32) (h : j ≠ i) : ma σ i f j = σ j := by simp [ma, h]
theorem mu_at (σ : MM) (i k : Nat) (v : Int32) (i' k' : Nat) : mu σ i k v i' k' = if i' = i ∧ k' = k then v else σ i' k' := by
  by_cases h : i' = i
  · subst h
    rw [mu_row]
    by_cases h2 : k' = k
    · simp [upd, h2]
    · simp [upd, h2]
  · rw [mu_off _ _ h]
    simp [h]
theorem upd_at (f : Nat → Int32) (k : Nat) (v : Int32) (j : Nat) : upd f k v j = if j = k then v else f j := rfl
theorem upd_comm {f : Nat → Int32} {i j : Nat} (v w : Int32) (h : i ≠ j) : upd (upd f i v) j w = upd (upd f j w) i v := by
  funext k
  simp only [upd_at]
  by_cases h1 : k = i
  · subst h1; simp [h]
  · simp [h1]
theorem upd_same {f : Nat → Int32} {i : Nat} : upd f i (f i) = f := by
  funext k
  simp only [upd_at]
  by_cases h1 : k = i
  · subst h1; simp
  · simp [h1]
theorem upd_upd {f : Nat → Int32} {i : Nat} (v w : Int32) : upd (upd f i v) i w = upd f i w := by
  funext k
  simp only [upd_at]
  by_cases h1 : k = i <;> simp [h1]
theorem lit (n : Nat) : (OfNat.ofNat n : Int32) = nI n := rfl
theorem bd_some {α β : Type} (a : α) (s : MM) (k : α → MM → Option β) : bd (some (a, s)) k = k a s := rfl
theorem lt_eq {α β : Type} (a : α) (k : α → Option β) : lt a k = k a := rfl
theorem onO_none {β : Type} (a : β) (b : Nat → β) : onO none a b = a := rfl
theorem onO_some {β : Type} (i : Nat) (a : β) (b : Nat → β) : onO (some i) a b = b i := rfl
theorem itr_s {α : Type} (z : α) (f : α → α) (n : Nat) : itr z f (n + 1) = f (itr z f n) := rfl
theorem nI_cl {n : Nat} (h : n < 2 ^ 31) : (nI n).toNatClampNeg = n := nI_clamp h
/-- an index that is a number is within -/
theorem ixN {n N : Nat} (h : n < N) (hN : N < 2 ^ 31) : ¬ (nI n < 0 ∨ N ≤ (nI n).toNatClampNeg) := vp_in_nI h hN
theorem in_ite {a lo hi : Int32} {σ : MM} : f_X9_in a lo hi σ = some (if a < lo then 0 else if hi < a then 0 else 1, σ) := by
  unfold f_X9_in
  split
  · rfl
  · split <;> rfl
theorem within_ite {a lo hi : Int32} {σ : MM} : f_X8_within a lo hi σ = some (if a < lo then 0 else if hi < a then 0 else 1, σ) := by
  unfold f_X8_within
  split
  · rfl
  · split <;> rfl
theorem in_t {a lo hi : Int32} {σ : MM} (h1 : ¬ a < lo) (h2 : ¬ hi < a) : f_X9_in a lo hi σ = some (1, σ) := by rw [in_ite, if_neg h1, if_neg h2]
theorem in_f {a lo hi : Int32} {σ : MM} (h : a < lo ∨ hi < a) : f_X9_in a lo hi σ = some (0, σ) := by
  rw [in_ite]
  rcases h with h | h
  · rw [if_pos h]
  · by_cases h1 : a < lo
    · rw [if_pos h1]
    · rw [if_neg h1, if_pos h]
theorem wi_t {a lo hi : Int32} {σ : MM} (h1 : ¬ a < lo) (h2 : ¬ hi < a) : f_X8_within a lo hi σ = some (1, σ) := by rw [within_ite, if_neg h1, if_neg h2]
theorem wi_f {a lo hi : Int32} {σ : MM} (h : a < lo ∨ hi < a) : f_X8_within a lo hi σ = some (0, σ) := by
  rw [within_ite]
  rcases h with h | h
  · rw [if_pos h]
  · by_cases h1 : a < lo
    · rw [if_pos h1]
    · rw [if_neg h1, if_pos h]
/-- a number between nought and n, as a natural number -/
theorem nI_btw {a : Int32} {n : Nat} (hn : n < 2 ^ 31) (h1 : ¬ a < 0) (h2 : ¬ nI n < a) : ∃ j, j ≤ n ∧ a = nI j := by
  obtain ⟨j, hj, rfl⟩ := nI_of h1
  refine ⟨j, ?_, rfl⟩
  rcases Nat.lt_or_ge n j with q | q
  · exact absurd ((nI_ltI hn hj).mpr q) h2
  · exact q
/-- where row k of the reference's numbers stands in the court at b -/
def loc (b k : Nat) : Nat × Nat :=
  if k = 0 then (b, 10) else if k = 1 then (b, 11) else if k = 2 then (b, 1) else if k = 3 then (b, 3) else if k = 4 then (b, 7) else if k = 5 then (b, 9)
  else if k < 66 then (b + 11 + (k - 6) / 3, 1 + (k - 6) % 3)
  else if k < 86 then (b + 31 + (k - 66) / 4, (k - 66) % 4)
  else if k < 146 then (b + 9, k - 86)
  else if k < 170 then (b + 10, k - 146)
  else if k = 170 then (b + 3, 2) else (b + 6, 2)
def dm (k : Nat) : Prop := k ≤ 170 ∨ k = 291
def linv (b : Nat) (q : Nat × Nat) : Nat :=
  if q.1 = b then (if q.2 = 10 then 0 else if q.2 = 11 then 1 else if q.2 = 1 then 2 else if q.2 = 3 then 3 else if q.2 = 7 then 4 else 5)
  else if q.1 = b + 3 then 170 else if q.1 = b + 6 then 291 else if q.1 = b + 9 then 86 + q.2 else if q.1 = b + 10 then 146 + q.2
  else if q.1 < b + 31 then 6 + 3 * (q.1 - (b + 11)) + (q.2 - 1) else 66 + 4 * (q.1 - (b + 31)) + q.2
theorem loc_inv {b k : Nat} (hk : dm k) : k = linv b (loc b k) := by
  unfold dm at hk
  unfold loc
  repeat' split
  all_goals (unfold linv; dsimp only; repeat' split)
  all_goals omega
theorem loc_inj {b j k : Nat} (hj : dm j) (hk : dm k) (h : loc b j = loc b k) : j = k := by
  rw [loc_inv (b := b) hj, loc_inv (b := b) hk, h]
theorem loc_lt {b k : Nat} : b ≤ (loc b k).1 ∧ (loc b k).1 < b + 36 := by
  unfold loc
  repeat' split
  all_goals (constructor <;> simp only <;> omega)
theorem loc_J {b k : Nat} (hk : dm k) : (loc b k).1 ≠ b + 4 ∧ (loc b k).1 ≠ b + 5 ∧ (loc b k).1 ≠ b + 7 ∧ (loc b k).1 ≠ b + 8 := by
  unfold dm at hk
  unfold loc
  repeat' split
  all_goals (refine ⟨?_, ?_, ?_, ?_⟩ <;> simp only <;> omega)
def bnd (k : Nat) : Nat :=
  if k = 0 then 9999 else if k = 2 then 20 else if k = 3 then 5 else if k = 4 then 60 else if k = 5 then 24
  else if k < 66 then (if (k - 6) % 3 = 0 then 6 else if (k - 6) % 3 = 1 then 9 else 9999)
  else if k < 86 then (if (k - 66) % 4 = 0 then 20 else if (k - 66) % 4 = 1 then 999 else if (k - 66) % 4 = 2 then 99999 else 9999)
  else if k < 146 then 255 else 60
def di (k : Nat) : Prop := (k < 146 ∧ k ≠ 1) ∨ k = 170 ∨ k = 291
def IB (ρ : Nat → Int32) : Prop := ∀ k, di k → ∃ j, j ≤ bnd k ∧ ρ k = nI j
def AT (ρ : Nat → Int32) : Prop := ∀ p, p < 5 → (ρ (66 + 4 * p)).toNatClampNeg ≤ (ρ 2).toNatClampNeg
theorem IB.pt {ρ : Nat → Int32} (h : IB ρ) {k j : Nat} (hj : j ≤ bnd k) : IB (upd ρ k (nI j)) := by
  intro i hi
  by_cases e : i = k
  · subst e; exact ⟨j, hj, by simp [upd_at]⟩
  · obtain ⟨x, h1, h2⟩ := h i hi
    exact ⟨x, h1, by simp [upd_at, e, h2]⟩
theorem IB.pt' {ρ : Nat → Int32} (h : IB ρ) {k : Nat} (v : Int32) (hk : ¬ di k) : IB (_root_.id (fun j => if j = k then v else ρ j)) := by
  intro i hi
  by_cases e : i = k
  · subst e; exact absurd hi hk
  · obtain ⟨x, h1, h2⟩ := h i hi
    exact ⟨x, h1, by simp [upd_at, e, h2]⟩
/-- the code that the class keeps for a step of a law -/
def cdX (w v : Int32) : Int32 := if w = 1 then v else if w = 2 then (-1 : Int32) - v else if w = 3 then (10033 : Int32) else (10000 : Int32) + w
/-- how many numbers lie on the pile behind k steps of the law at a -/
def dp (ρ : Nat → Int32) (a : Nat) : Nat → Nat
  | 0 => 0
  | k + 1 => if ρ (a + 1 + k) = 1 ∨ ρ (a + 1 + k) = 2 then dp ρ a k + 1 else if ρ (a + 1 + k) = 3 then dp ρ a k else dp ρ a k - 1
theorem dp_le (ρ : Nat → Int32) (a : Nat) : ∀ k, dp ρ a k ≤ k
  | 0 => Nat.le_refl _
  | k + 1 => by
    have := dp_le ρ a k
    unfold dp
    split
    · omega
    · split <;> omega
def SG (w : Int32) : Prop := w = 37 ∨ w = 38 ∨ w = 42 ∨ w = 43 ∨ w = 45 ∨ w = 47 ∨ w = 60 ∨ w = 61 ∨ w = 62 ∨ w = 124
def okc (ρ : Nat → Int32) (a k : Nat) : Prop :=
  (ρ (a + 1 + k) = 1 ∧ ∃ j, j ≤ 9999 ∧ ρ (a + 61 + k) = nI j) ∨ (ρ (a + 1 + k) = 2 ∧ ∃ j, j ≤ 2 ∧ ρ (a + 61 + k) = nI j) ∨ (ρ (a + 1 + k) = 3 ∧ 1 ≤ dp ρ a k) ∨ (SG (ρ (a + 1 + k)) ∧ 2 ≤ dp ρ a k)
def WF (ρ : Nat → Int32) (a : Nat) : Prop := ∀ n, n ≤ 60 → ρ a = nI n → (∀ k, k < n → okc ρ a k) ∧ (0 < n → 1 ≤ dp ρ a n)
/-- the class's law at the cell t is the reference's at a -/
def TC (σ : MM) (t : Nat) (ρ : Nat → Int32) (a : Nat) : Prop := ∀ n, n ≤ 60 → ρ a = nI n → ∀ k, k < n → σ (t + 1) k = cdX (ρ (a + 1 + k)) (ρ (a + 61 + k))
def CR (b : Nat) (σ : MM) (ρ : Nat → Int32) : Prop := (∀ k, dm k → σ (loc b k).1 (loc b k).2 = ρ k) ∧ TC σ (b + 3) ρ 170 ∧ TC σ (b + 6) ρ 291
def PL (b : Nat) (σ : MM) : Prop := ∀ j, j < 20 → σ (b + 11 + j) 0 = nI j
def IR (ρ : Nat → Int32) : Prop := IB ρ ∧ AT ρ ∧ WF ρ 170 ∧ WF ρ 291
/-- the cells in which laws are worked out -/
def JK (i : Nat) : Prop := i = 5 ∨ i = 8 ∨ i = 41 ∨ i = 44 ∨ i = 77 ∨ i = 80 ∨ i = 139 ∨ i = 140
def JE (σ σ' : MM) : Prop := ∀ i, ¬ JK i → σ' i = σ i
theorem JE.rf {σ : MM} : JE σ σ := fun _ _ => rfl
theorem JE.tr {σ σ' σ'' : MM} (h : JE σ σ') (h2 : JE σ' σ'') : JE σ σ'' := fun i hi => (h2 i hi).trans (h i hi)
theorem JE.mu {σ : MM} {i k : Nat} {v : Int32} (hi : JK i) : JE σ (mu σ i k v) := fun j hj => mu_off _ _ (fun e => hj (e ▸ hi))
def BB (b : Nat) : Prop := b = 0 ∨ b = 36 ∨ b = 72
theorem CR.je {b : Nat} {σ σ' : MM} {ρ : Nat → Int32} (hb : BB b) (h : CR b σ ρ) (hj : JE σ σ') : CR b σ' ρ := by
  refine ⟨fun k hk => ?_, fun n hn hr k hk => ?_, fun n hn hr k hk => ?_⟩
  · rw [hj _ ?_]; exact h.1 k hk
    obtain ⟨h1, h2⟩ := loc_lt (b := b) (k := k)
    obtain ⟨h3, h4, h5, h6⟩ := loc_J (b := b) hk
    unfold JK
    rcases hb with rfl | rfl | rfl <;> omega
  · rw [hj _ ?_]; exact h.2.1 n hn hr k hk
    unfold JK
    rcases hb with rfl | rfl | rfl <;> omega
  · rw [hj _ ?_]; exact h.2.2 n hn hr k hk
    unfold JK
    rcases hb with rfl | rfl | rfl <;> omega
theorem PL.je {b : Nat} {σ σ' : MM} (hb : BB b) (h : PL b σ) (hj : JE σ σ') : PL b σ' := by
  intro j hj2
  rw [hj _ ?_]; exact h j hj2
  unfold JK
  rcases hb with rfl | rfl | rfl <;> omega
/-- one number of the court changes -/
theorem CR.put {b : Nat} {σ : MM} {ρ : Nat → Int32} (h : CR b σ ρ) {k i s : Nat} (v : Int32) (hk : dm k) (h170 : k < 170) (e : loc b k = (i, s)) : CR b (mu σ i s v) (upd ρ k v) := by
  have hm := (Prod.mk.injEq _ _ _ _).mp e
  refine ⟨fun j hj => ?_, fun n hn hr q hq => ?_, fun n hn hr q hq => ?_⟩
  · rw [mu_at, upd_at]
    by_cases hjk : j = k
    · subst hjk
      rw [if_pos rfl, if_pos ⟨by rw [e], by rw [e]⟩]
    · rw [if_neg hjk, if_neg ?_]
      · exact h.1 j hj
      · intro hc
        refine hjk (loc_inj (b := b) hj hk ?_)
        rw [e]
        exact Prod.ext hc.1 hc.2
  · rw [upd_at, if_neg (by omega)] at hr
    rw [upd_at, upd_at, if_neg (by omega), if_neg (by omega), mu_at, if_neg ?_]
    · exact h.2.1 n hn hr q hq
    · intro hc
      have := loc_J (b := b) hk
      rw [e] at this
      simp only at this
      omega
  · rw [upd_at, if_neg (by omega)] at hr
    rw [upd_at, upd_at, if_neg (by omega), if_neg (by omega), mu_at, if_neg ?_]
    · exact h.2.2 n hn hr q hq
    · intro hc
      have := loc_J (b := b) hk
      rw [e] at this
      simp only at this
      omega
/-- a cell that no court's number stands in -/
theorem CR.off {b : Nat} {σ σ' : MM} {ρ : Nat → Int32} (h : CR b σ ρ) (hs : ∀ i, b ≤ i → i < b + 36 → σ' i = σ i) : CR b σ' ρ := by
  refine ⟨fun j hj => ?_, fun n hn hr q hq => ?_, fun n hn hr q hq => ?_⟩
  · rw [hs _ loc_lt.1 loc_lt.2]; exact h.1 j hj
  · rw [hs _ (by omega) (by omega)]; exact h.2.1 n hn hr q hq
  · rw [hs _ (by omega) (by omega)]; exact h.2.2 n hn hr q hq

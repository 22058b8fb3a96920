def nL (n : Nat) : Int64 := Int64.ofNat n
theorem nL_toI {n : Nat} (h : n < 2 ^ 31) : (nI n).toInt64 = nL n := by
  have := Int64.ofNat_int32ToNatClampNeg (nI n) (nI_pos' h)
  rw [nI_cl h] at this
  exact this.symm
theorem nL_mul (a b : Nat) : nL a * nL b = nL (a * b) := (Int64.ofNat_mul a b).symm
theorem nL_div {a b : Nat} (ha : a < 2 ^ 31) (hb : b < 2 ^ 31) : nL a / nL b = nL (a / b) := (Int64.ofNat_div (by omega) (by omega)).symm
theorem nL_rem {a b : Nat} (ha : a < 2 ^ 31) (hb : b < 2 ^ 31) : nL a - nL a / nL b * nL b = nL (a % b) := by
  rw [nL_div ha hb, nL_mul]
  have h := Nat.div_add_mod a b
  have h2 : a / b * b = b * (a / b) := Nat.mul_comm _ _
  unfold nL
  rw [← Int64.ofNat_sub _ _ (by omega)]
  congr 1
  omega
theorem nL_0 {a : Nat} (ha : a < 2 ^ 31) : nL a = 0 ↔ a = 0 := by
  refine ⟨fun e => ?_, fun e => by subst e; rfl⟩
  have h1 : ¬ nL 0 < nL a := by rw [e]; decide
  have h2 := (Int64.ofNat_lt_iff_lt (a := 0) (b := a) (by omega) (by omega))
  exact Classical.byContradiction (fun q => h1 (h2.mpr (by omega)))
theorem nL_1 {a : Nat} (ha : a < 2 ^ 31) : nL a ≤ 1 ↔ a ≤ 1 := Int64.ofNat_le_iff_le (a := a) (b := 1) (by omega) (by omega)
theorem sd_s {a b i f : Nat} {σ : MM} (ha : 0 < a) (ha2 : a < 2 ^ 31) (hb : b < 2 ^ 31) (hi : i < 128) : itr (fun _ _ _ _ => none) u_X8_sharedDivisor_9 (f + 1) (nL b) (nL a) (nI i) σ = itr (fun _ _ _ _ => none) u_X8_sharedDivisor_9 f (nL a) (nL (b % a)) (nI (i + 1)) σ := by
  rw [itr_s]
  generalize itr (fun _ _ _ _ => none) u_X8_sharedDivisor_9 f = g8
  unfold u_X8_sharedDivisor_9
  have h0 : ¬ nL a = 0 := fun e => by have := (nL_0 ha2).mp e; omega
  rw [if_neg (show ¬ (128 : Int32) ≤ nI i from nI_ge hi (by decide)), if_neg h0, if_neg h0, nL_rem hb ha2, lit 1, nI_add]
theorem sd_z {b i f : Nat} {σ : MM} (hi : i < 128) : itr (fun _ _ _ _ => none) u_X8_sharedDivisor_9 (f + 1) (nL b) (nL 0) (nI i) σ = some (nL b, σ) := by
  rw [itr_s]
  generalize itr (fun _ _ _ _ => none) u_X8_sharedDivisor_9 f = g8
  unfold u_X8_sharedDivisor_9
  rw [if_neg (show ¬ (128 : Int32) ≤ nI i from nI_ge hi (by decide)), if_pos (show nL 0 = (0 : Int64) from rfl)]
theorem od_s {a b f : Nat} {w : Int32} {x y : Int64} {σ : MM} (ha : 0 < a) (ha2 : a < 2 ^ 31) (hb : b < 2 ^ 31) : itr (fun _ _ _ _ _ _ => none) u_X9_odds_106 (f + 1) w x y (nL a) (nL b) σ = itr (fun _ _ _ _ _ _ => none) u_X9_odds_106 f w x y (nL (b % a)) (nL a) σ := by
  rw [itr_s]
  generalize itr (fun _ _ _ _ _ _ => none) u_X9_odds_106 f = g8
  unfold u_X9_odds_106
  have h0 : ¬ nL a = 0 := fun e => by have := (nL_0 ha2).mp e; omega
  rw [if_neg h0, if_neg h0, nL_rem hb ha2]
theorem od_z {b f : Nat} {w : Int32} {x y : Int64} {σ : MM} (hb : 0 < b) (hb2 : b < 2 ^ 31) : itr (fun _ _ _ _ _ _ => none) u_X9_odds_106 (f + 1) w x y (nL 0) (nL b) σ = some (if w = 0 then x / nL b else y / nL b, σ) := by
  rw [itr_s]
  generalize itr (fun _ _ _ _ _ _ => none) u_X9_odds_106 f = g8
  unfold u_X9_odds_106
  have h0 : ¬ nL b = 0 := fun e => by have := (nL_0 hb2).mp e; omega
  rw [if_pos (show nL 0 = (0 : Int64) from rfl), if_neg h0, if_neg h0]
  split <;> rfl
theorem mod_half {a r k : Nat} (h : a < 2 ^ (k + 1)) (hr : 0 < r) (hra : r < a) : a % r < 2 ^ k := by
  have h1 := Nat.mod_lt a hr
  have h2 : a % r = (a - r) % r := by rw [Nat.mod_eq_sub_mod (by omega)]
  have h3 := Nat.mod_le (a - r) r
  rw [Nat.pow_succ] at h
  omega
theorem sd_eq : ∀ (k a b i f : Nat) (σ : MM), a < 2 ^ k → a < 2 ^ 31 → b < 2 ^ 31 → i + 2 * k ≤ 127 → 2 * k < f → itr (fun _ _ _ _ => none) u_X8_sharedDivisor_9 f (nL b) (nL a) (nI i) σ = some (nL (Nat.gcd a b), σ) := by
  intro k
  induction k with
  | zero =>
    intro a b i f σ ha _ hb hi hf
    obtain ⟨f, rfl⟩ : ∃ g, f = g + 1 := ⟨f - 1, by omega⟩
    have : a = 0 := by omega
    subst this
    rw [sd_z (by omega), Nat.gcd_zero_left]
  | succ k ih =>
    intro a b i f σ ha ha2 hb hi hf
    obtain ⟨f, rfl⟩ : ∃ g, f = g + 2 := ⟨f - 2, by omega⟩
    rcases Nat.eq_zero_or_pos a with rfl | hp
    · rw [sd_z (by omega), Nat.gcd_zero_left]
    · rw [sd_s hp ha2 hb (by omega), Nat.gcd_rec]
      have hm := Nat.mod_lt b hp
      rcases Nat.eq_zero_or_pos (b % a) with e | hq
      · rw [e, sd_z (by omega), Nat.gcd_zero_left]
      · rw [sd_s hq (by omega) ha2 (by omega), Nat.gcd_rec]
        exact ih _ _ _ _ _ (mod_half ha hq hm) (by have := Nat.mod_lt a hq; omega) (by omega) (by omega) (by omega)
theorem od_eq : ∀ (k a b f : Nat) (w : Int32) (x y : Int64) (σ : MM), a < 2 ^ k → a < 2 ^ 31 → 0 < b → b < 2 ^ 31 → 2 * k < f → itr (fun _ _ _ _ _ _ => none) u_X9_odds_106 f w x y (nL a) (nL b) σ = some (if w = 0 then x / nL (Nat.gcd a b) else y / nL (Nat.gcd a b), σ) := by
  intro k
  induction k with
  | zero =>
    intro a b f w x y σ ha _ hb hb2 hf
    obtain ⟨f, rfl⟩ : ∃ g, f = g + 1 := ⟨f - 1, by omega⟩
    have : a = 0 := by omega
    subst this
    rw [od_z hb hb2, Nat.gcd_zero_left]
  | succ k ih =>
    intro a b f w x y σ ha ha2 hb hb2 hf
    obtain ⟨f, rfl⟩ : ∃ g, f = g + 2 := ⟨f - 2, by omega⟩
    rcases Nat.eq_zero_or_pos a with rfl | hp
    · rw [od_z hb hb2, Nat.gcd_zero_left]
    · rw [od_s hp ha2 hb2, Nat.gcd_rec]
      have hm := Nat.mod_lt b hp
      rcases Nat.eq_zero_or_pos (b % a) with e | hq
      · rw [e, od_z hp ha2, Nat.gcd_zero_left]
      · rw [od_s hq (by omega) ha2, Nat.gcd_rec]
        exact ih _ _ _ _ _ _ _ (mod_half ha hq hm) (by have := Nat.mod_lt a hq; omega) hq (by omega) (by omega)
theorem finS {σ : MM} {A B : Nat} {w : Int32} (hA : A ≤ 100000000) (hB1 : 0 < B) (hB : B ≤ 100000000) : SR (fun _ => True) σ (fun s => bd (f_X8_sharedDivisor (nL B) (nL A) s) (fun r s' => if w = 0 then u_X8_odds_127 r (nL A) s' else u_X8_odds_127 r (nL B) s')) (u_X9_odds_98 w (nL A) (nL B)) := by
  have hg : 0 < Nat.gcd A B := Nat.gcd_pos_of_pos_right _ hB1
  have hg2 : Nat.gcd A B ≤ B := Nat.gcd_le_right _ hB1
  have q127 : ∀ (x : Nat) (s : MM), x ≤ 100000000 → u_X8_odds_127 (nL (Nat.gcd A B)) (nL x) s = some (nL x / nL (Nat.gcd A B), s) := by
    intro x s hx
    unfold u_X8_odds_127
    by_cases z : Nat.gcd A B ≤ 1
    · rw [if_pos ((nL_1 (by omega)).mpr z), show Nat.gcd A B = 1 by omega, nL_div (by omega) (by omega), Nat.div_one]
    · rw [if_neg (fun e => z ((nL_1 (by omega)).mp e)), if_neg (fun e => by have := (nL_0 (by omega)).mp e; omega)]
  refine (SR.rf (r := if w = 0 then nL A / nL (Nat.gcd A B) else nL B / nL (Nat.gcd A B)) trivial).to (fun s g => ?_) (fun s g => ?_)
  · show bd (itr (fun _ _ _ _ => none) u_X8_sharedDivisor_9 FU (nL B) (nL A) (nI 0) s) _ = _
    rw [sd_eq 27 A B 0 FU s (by omega) (by omega) (by omega) (by omega) (by rw [FU_eq]; omega), bd_some, q127 A s hA, q127 B s hB]
    split <;> rfl
  · show itr (fun _ _ _ _ _ _ => none) u_X9_odds_106 FU w (nL A) (nL B) (nL A) (nL B) s = _
    rw [od_eq 27 A B FU w _ _ s (by omega) (by omega) hB1 (by omega) (by rw [FU_eq]; omega)]

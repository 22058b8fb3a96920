theorem byt (b : BitVec 64) (s : Nat) (hs : s ≤ 56) : ((b >>> s).signExtend 32 &&& 255#32) = ((b.sshiftRight s &&& 255#64).signExtend 32) := by
  apply BitVec.eq_of_getLsbD_eq
  intro i hi
  rw [BitVec.getLsbD_and, BitVec.getLsbD_signExtend, BitVec.getLsbD_signExtend, BitVec.getLsbD_and, BitVec.getLsbD_sshiftRight, BitVec.getLsbD_ushiftRight, BitVec.getLsbD_ofNat, BitVec.getLsbD_ofNat]
  have h64 : i < 64 := by omega
  by_cases h : i < 8
  · have h3 : s + i < 64 := by omega
    have h4 : ¬ 64 ≤ i := by omega
    simp [hi, h64, h3, h4]
  · have h2 : Nat.testBit 255 i = false := Nat.testBit_lt_two_pow (Nat.lt_of_lt_of_le (by decide : 255 < 2 ^ 8) (Nat.pow_le_pow_right (by decide) (by omega)))
    simp [hi, h64, h2]
theorem bytE (v : Int64) {k : Nat} (hk : k < 8) : (((v.toUInt64 >>> (((8 : Int32) * nI k).toInt64.toUInt64 &&& Int64.toUInt64 63)).toInt64).toInt32) &&& (255 : Int32) = (((v >>> (((8 : Int32) * nI k).toInt64 &&& 63)) &&& (255 : Int64)).toInt32) := by
  apply Int32.toBitVec_inj.mp
  rcases (show k = 0 ∨ k = 1 ∨ k = 2 ∨ k = 3 ∨ k = 4 ∨ k = 5 ∨ k = 6 ∨ k = 7 by omega) with rfl | rfl | rfl | rfl | rfl | rfl | rfl | rfl
  · exact byt v.toBitVec 0 (by omega)
  · exact byt v.toBitVec 8 (by omega)
  · exact byt v.toBitVec 16 (by omega)
  · exact byt v.toBitVec 24 (by omega)
  · exact byt v.toBitVec 32 (by omega)
  · exact byt v.toBitVec 40 (by omega)
  · exact byt v.toBitVec 48 (by omega)
  · exact byt v.toBitVec 56 (by omega)
theorem bytB (w : Int32) : ∃ j, j ≤ 255 ∧ w &&& (255 : Int32) = nI j := by
  refine ⟨(w.toInt % 256).toNat, by omega, Int32.toInt_inj.mp ?_⟩
  rw [and_8, nI_toInt (by omega)]
  omega
theorem bnd_t {t : Nat} (h : t < 60) : bnd (86 + t) = 255 := by
  unfold bnd
  rw [if_neg (by omega), if_neg (by omega), if_neg (by omega), if_neg (by omega), if_neg (by omega), if_neg (by omega), if_neg (by omega), if_pos (by omega)]
theorem feedL {v : Int64} {m : Nat} (hm : m ≤ 8) : ∀ (f k t : Nat) (σ : MM) (ρ : Nat → Int32), k ≤ m → m - k < f → t + (m - k) ≤ 60 → ρ 4 = nI t → CR 0 σ ρ → PL 0 σ → IR ρ → SB (fun _ => True) ρ σ (itr (fun _ _ _ _ => none) u_X8_feed_41 f v (nI m) (nI k) σ) (fun τ => itr (fun _ _ _ _ => none) u_X9_feed_40 f v (nI m) (nI k) τ) := by
  intro f
  induction f with
  | zero => intro k _ _ _ hk; omega
  | succ f ih =>
    intro k t σ ρ hk hf ht e4 hC hP hI
    have e0 : σ 0 7 = nI t := hC.taped.trans e4
    by_cases q : m ≤ k
    · refine (SB.rf (r := nI t) hC hP hI trivial).to ?_ (fun τ hτ => ?_)
      · rw [itr_s]
        generalize itr (fun _ _ _ _ => none) u_X8_feed_41 f = g8
        unfold u_X8_feed_41
        rw [if_pos (nI_le q (by omega)), e0]
      · show itr (fun _ _ _ _ => none) u_X9_feed_40 (f + 1) v (nI m) (nI k) τ = _
        rw [itr_s]
        generalize itr (fun _ _ _ _ => none) u_X9_feed_40 f = g9
        unfold u_X9_feed_40
        rw [if_pos (nI_le q (by omega)), hτ, e4]
    · have ht6 : t < 60 := by omega
      have hb := bytE v (k := k) (by omega)
      obtain ⟨j, hj, ej⟩ := bytB ((v.toUInt64 >>> (((8 : Int32) * nI k).toInt64.toUInt64 &&& Int64.toUInt64 63)).toInt64).toInt32
      rw [ej] at hb
      have C1 := hC.put (nI j) (k := 86 + t) (i := 0 + 9) (s := t) (Or.inl (by omega)) (by omega) (loc_t ht6)
      have C2 := C1.put (nI (t + 1)) (k := 4) (i := 0) (s := 7) (Or.inl (by omega)) (by omega) rfl
      have P2 : PL 0 (mu (mu σ (0 + 9) t (nI j)) 0 7 (nI (t + 1))) := (hP.put (by omega)).put (by omega)
      have F2 : FR 0 σ (mu (mu σ (0 + 9) t (nI j)) 0 7 (nI (t + 1))) := (FR.mu (by omega) (by omega)).tr (FR.mu (by omega) (by omega))
      have I1 : IR (upd ρ (86 + t) (nI j)) := hI.put (by omega) (Or.inr ⟨j, by rw [bnd_t ht6]; exact hj, rfl⟩) (hI.2.1.pt _ (by omega) (fun p hp => by omega))
      have I2 : IR (upd (upd ρ (86 + t) (nI j)) 4 (nI (t + 1))) := I1.put (by omega) (Or.inr ⟨t + 1, show t + 1 ≤ 60 by omega, rfl⟩) (I1.2.1.pt _ (by omega) (fun p hp => by omega))
      refine ((ih (k + 1) (t + 1) _ _ (by omega) (by omega) (by omega) (by rw [upd_at, if_pos rfl]) C2 P2 I2).st F2 (z := fun τ => itr (fun _ _ _ _ => none) u_X9_feed_40 (f + 1) v (nI m) (nI k) τ) (fun τ hτ => ?_)).to ?_ (fun τ _ => rfl)
      · refine ⟨mu (mu τ 130 (86 + t) (nI j)) 130 4 (nI (t + 1)), ?_, by rw [mu_row, mu_row, hτ], RO.mu.tr RO.mu⟩
        show itr (fun _ _ _ _ => none) u_X9_feed_40 (f + 1) v (nI m) (nI k) τ = _
        rw [itr_s]
        generalize itr (fun _ _ _ _ => none) u_X9_feed_40 f = g9
        unfold u_X9_feed_40
        rw [if_neg (nI_ge (by omega) (by omega)), hτ, e4, ← hb, lit 86, nI_add, if_neg (ixN (by omega) (by decide)), nI_cl (by omega), lt_eq, mu_at, if_neg (by omega), hτ, e4, k1, k1, lt_eq]
      · rw [itr_s]
        generalize itr (fun _ _ _ _ => none) u_X8_feed_41 f = g8
        unfold u_X8_feed_41
        rw [if_neg (nI_ge (by omega) (by omega)), e0, if_neg (show ¬ (60 : Int32) ≤ nI t from nI_ge ht6 (by decide)), if_neg (ixN ht6 (by decide)), nI_cl (by omega), ej, lt_eq, mu_off _ _ (by omega), e0, k1, k1, lt_eq]
theorem lastT {t m : Nat} (ht : t ≤ 60) (hm : m ≤ 8) : (nI t ≤ (60 : Int32) - nI m ↔ t + m ≤ 60) ∧ (nI t + nI m ≤ (60 : Int32) ↔ t + m ≤ 60) := by
  rw [lit 60, nI_sub' (by omega), nI_add]
  refine ⟨⟨fun q => ?_, fun q => nI_le (by omega) (by omega)⟩, ⟨fun q => ?_, fun q => nI_le q (by decide)⟩⟩
  · refine Classical.byContradiction (fun z => nI_ge (show 60 - m < t by omega) (by omega) q)
  · refine Classical.byContradiction (fun z => nI_ge (show 60 < t + m by omega) (by omega) q)
/-- promise 13 -/
theorem op_feed {v : Int64} {a : Int32} {σ : MM} (h : GD σ) : SIM (f_X8_feed v a σ) (f_X9_feed v a) := by
  obtain ⟨t, ht, e4⟩ := taped_b h.1.2
  have h0 : σ 0 7 = nI t := h.1.1.taped.trans e4
  rcases btw1 a (hi := 8) (n := 8) rfl (by decide) with ⟨m, hm1, hm, rfl, h1, h2⟩ | hb
  · obtain ⟨l1, l2⟩ := lastT ht hm
    by_cases q : t + m ≤ 60
    · refine SIM.sb (Q := fun _ => True) h ((feedL (v := v) hm FU 0 t σ (σ 130) (by omega) (by rw [FU_eq]; omega) (by omega) e4 h.1.1 h.2.1.1 h.1.2).to ?_ (fun τ hτ => ?_))
      · unfold f_X8_feed
        rw [wi_t h1 h2, bd_some, if_neg n10, h0, if_pos (l1.mpr q)]; rfl
      · unfold f_X9_feed
        rw [in_t h1 h2, bd_some, if_neg n10, hτ, e4, if_pos (l2.mpr q)]; rfl
    · refine SIM.B h (k := 4) (e := -1000000004) (by omega) (by omega) eF ?_ (fun s hs => ?_)
      · unfold f_X8_feed
        rw [wi_t h1 h2, bd_some, if_neg n10, h0, if_neg (fun z => q (l1.mp z))]
      · unfold f_X9_feed
        rw [in_t h1 h2, bd_some, if_neg n10, hs 130 (by omega), e4, if_neg (fun z => q (l2.mp z))]
  · refine SIM.B h (k := 1) (e := -1000000001) (by omega) (by omega) eB ?_ (fun s hs => ?_)
    · unfold f_X8_feed
      rw [wi_f hb, bd_some, if_pos rfl]
    · unfold f_X9_feed
      rw [in_f hb, bd_some, if_pos rfl]

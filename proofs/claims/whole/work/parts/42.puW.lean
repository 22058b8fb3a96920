theorem and_8 (v : Int32) : (v &&& 255).toInt = v.toInt % 256 := by
  have e1 : (v &&& 255).toBitVec.toNat = v.toBitVec.toNat % 256 := by
    rw [Int32.toBitVec_and, BitVec.toNat_and]; exact Nat.and_two_pow_sub_one_eq_mod _ 8
  show (v &&& 255).toBitVec.toInt = v.toBitVec.toInt % 256
  rw [BitVec.toInt_eq_toNat_cond, BitVec.toInt_eq_toNat_cond, e1]
  have := v.toBitVec.isLt
  split <;> split <;> omega
theorem and_16 (v : Int32) : (v &&& 65535).toInt = v.toInt % 65536 := by
  have e1 : (v &&& 65535).toBitVec.toNat = v.toBitVec.toNat % 65536 := by
    rw [Int32.toBitVec_and, BitVec.toNat_and]; exact Nat.and_two_pow_sub_one_eq_mod _ 16
  show (v &&& 65535).toBitVec.toInt = v.toBitVec.toInt % 65536
  rw [BitVec.toInt_eq_toNat_cond, BitVec.toInt_eq_toNat_cond, e1]
  have := v.toBitVec.isLt
  split <;> split <;> omega
theorem NR.of {c r : Int32} {x m : Int} (hm : m = 256 ∨ m = 65536) (hc : c.toInt = x % m) (hr : r.toInt = if x % m < m / 2 then x % m else x % m - m) : NR c r := by
  by_cases q : x % m < m / 2
  · exact Or.inl (Int32.toInt_inj.mp (by rw [hc, hr, if_pos q]))
  · rw [if_neg q] at hr
    refine Or.inr ⟨Or.inr (Int32.lt_iff_toInt_lt.mpr ?_), Or.inl (Int32.lt_iff_toInt_lt.mpr ?_)⟩
    · rw [hc, show (127 : Int32).toInt = 127 from rfl]; rcases hm with rfl | rfl <;> omega
    · rw [hr, show (0 : Int32).toInt = 0 from rfl]; rcases hm with rfl | rfl <;> omega
theorem NR8 (v : Int32) : NR (v &&& 255) v.toInt8.toInt32 := by
  refine NR.of (x := v.toInt) (m := 256) (Or.inl rfl) (and_8 v) ?_
  rw [Int8.toInt_toInt32, Int32.toInt_toInt8, Int.bmod_def]
  split <;> split <;> omega
theorem NR16 (v : Int32) : NR (v &&& 65535) v.toInt16.toInt32 := by
  refine NR.of (x := v.toInt) (m := 65536) (Or.inr rfl) (and_16 v) ?_
  rw [Int16.toInt_toInt32, Int32.toInt_toInt16, Int.bmod_def]
  split <;> split <;> omega
/-- alike but for the sheets -/
def GS (σ σ' : MM) : Prop := ∀ i, i < 120 ∨ (128 ≤ i ∧ i < 134) ∨ 137 ≤ i → σ' i = σ i
theorem GS.rf {σ : MM} : GS σ σ := fun _ _ => rfl
theorem GS.tr {σ s t : MM} (h : GS σ s) (h2 : GS s t) : GS σ t := fun i hi => (h2 i hi).trans (h i hi)
theorem GS.c {σ : MM} {i k : Nat} {v : Int32} (h : (120 ≤ i ∧ i < 128) ∨ (134 ≤ i ∧ i < 137)) : GS σ (mu σ i k v) := fun j hj => mu_off _ _ (by omega)
theorem GS.e1 {σ t : MM} {i : Nat} (e : E1 i σ t) (h : (120 ≤ i ∧ i < 128) ∨ (134 ≤ i ∧ i < 137)) : GS σ t := fun j hj => e j (by omega)
theorem GD.sh {σ σ' : MM} (h : GD σ) (g : GS σ σ') (hs : SH σ') : GD σ' := by
  have e130 : σ' 130 = σ 130 := g 130 (by omega)
  have e131 : σ' 131 = σ 131 := g 131 (by omega)
  have e129 : σ' 129 = σ 129 := g 129 (by omega)
  refine ⟨⟨?_, by rw [e130]; exact h.1.2⟩, ⟨?_, ?_, ?_⟩, ⟨?_, ?_⟩, hs, ?_, ?_⟩
  · rw [e130]; exact h.1.1.off (fun i _ hi => g i (by omega))
  · intro j hj; rw [g _ (by omega)]; exact h.2.1.1 j hj
  · intro j hj; rw [g _ (by omega)]; exact h.2.1.2.1 j hj
  · intro j hj; rw [g _ (by omega)]; exact h.2.1.2.2 j hj
  · rw [e129, g 108 (by omega)]; exact h.2.2.1.1
  · intro q
    rw [e129] at q
    rw [e131]
    exact ⟨(h.2.2.1.2 q).1.off (fun i _ hi => g i (by omega)), (h.2.2.1.2 q).2⟩
  · intro k hk; rw [g 128 (by omega), g 133 (by omega)]; exact h.2.2.2.2.1 k hk
  · obtain ⟨n, hn, t1, t2, t3⟩ := h.2.2.2.2.2
    exact ⟨n, hn, by rw [g 113 (by omega)]; exact t1, by rw [e129]; exact t2, fun k hk => by rw [g 114 (by omega), g 142 (by omega)]; exact t3 k hk⟩
/-- promise 27 -/
theorem op_put {a b v : Int32} {σ : MM} (h : GD σ) : SIM (f_X8_put a b v σ) (f_X9_put a b v) := by
  have EB := SE.er (σ := σ) 1 (e := -1000000001) (by omega) (by omega) eB
  rcases arg_c a (n := 4) (by omega) with ⟨q, hq, rfl⟩ | ha
  · have i4 : ¬ (nI q < 0 ∨ 4 ≤ (nI q).toNatClampNeg) := ixN hq (by decide)
    have c4 : (nI q).toNatClampNeg = q := nI_cl (by omega)
    obtain ⟨n, hn, hl⟩ := shL h hq
    by_cases z : σ 134 q = 0
    · refine SIM.se h ((SE.er 2 (e := -1000000002) (by omega) (by omega) eN).to (x' := f_X8_put (nI q) b v) (y' := f_X9_put (nI q) b v) (fun s g => ?_) (fun s g => ?_))
      · unfold f_X8_put
        rw [sheetOf_t hq, bd_some, onO_some, if_pos (kd_s hq), miss_eq, bd_some, (shB h hq g).1, if_pos z, if_neg (by decide)]
      · unfold f_X9_put u_X9_put_35
        rw [notThere_t hq, bd_some, (shB h hq g).2, if_pos z, if_neg (by decide), if_neg (by decide)]
    · rcases arg_c b (n := n) (by omega) with ⟨i, hi, rfl⟩ | hb
      · obtain ⟨x1, x2, x3⟩ := c24 (k := i) hq (by omega)
        have hlow : ∃ X Y : Int32, NR X Y ∧ f_X5_lowest (120 + q) v σ = some (X, σ) ∧ ∀ s, s 134 = σ 134 → u_X9_put_35 (nI q) (nI i) v 0 s = some (1, mu s 136 (24 * q + i) Y) := by
          have u92 : ∀ (Y : Int32) (s : MM), u_X9_put_92 Y (nI (24 * q + i)) s = some (1, mu s 136 (24 * q + i) Y) := by
            intro Y s
            unfold u_X9_put_92
            rw [if_neg x2, x3, lt_eq]
          rcases (h.2.2.2.1 q hq).2.2.1 with e | e | e | e
          · exact absurd e z
          · refine ⟨v &&& 255, v.toInt8.toInt32, NR8 v, ?_, fun s hs => ?_⟩
            · unfold f_X5_lowest; rw [(shB h hq GN.rf).1, e, if_pos rfl]
            · unfold u_X9_put_35
              rw [if_pos rfl, if_neg i4, c4, hs, e, if_pos rfl, x1, u92]
          · refine ⟨v &&& 65535, v.toInt16.toInt32, NR16 v, ?_, fun s hs => ?_⟩
            · unfold f_X5_lowest; rw [(shB h hq GN.rf).1, e, if_neg (by decide), if_pos rfl]
            · unfold u_X9_put_35
              rw [if_pos rfl, if_neg i4, c4, hs, e, if_neg (by decide), if_pos rfl, x1, u92]
          · refine ⟨v, v, Or.inl rfl, ?_, fun s hs => ?_⟩
            · unfold f_X5_lowest; rw [(shB h hq GN.rf).1, e, if_neg (by decide), if_neg (by decide)]
            · unfold u_X9_put_35
              rw [if_pos rfl, if_neg i4, c4, hs, e, if_neg (by decide), if_neg (by decide), x1, u92]
        obtain ⟨X, Y, nr, l1, l2⟩ := hlow
        have p1 : ¬ nI n - 1 < nI i := pred_nlt (by omega) hi
        refine ⟨1, mu σ (124 + q) i X, mu (mu σ (124 + q) i X) 136 (24 * q + i) Y, ?_, ?_, h.sh ((GS.c (by omega)).tr (GS.c (by omega))) ?_⟩
        · unfold f_X8_put f_X5_set
          rw [sheetOf_t hq, bd_some, onO_some, if_pos (kd_s hq), miss_eq, bd_some, (shB h hq GN.rf).1, if_neg z, if_pos rfl, (hl σ GN.rf).1, wi_t (nI_pos (by omega)) p1, bd_some, if_neg (by decide), if_neg (nI_pos (by omega)), (hl σ GN.rf).1, if_neg (nI_ge hi (by omega)), if_neg (show ¬ (24 : Int32) ≤ nI i from nI_ge (show i < 24 by omega) (by decide)), l1, bd_some, if_neg (ixN (by omega) (by decide)), nI_cl (by omega), lt_eq, bd_some, show 120 + q + 4 = 124 + q by omega]
        · have e134 : (mu σ (124 + q) i X) 134 = σ 134 := mu_off _ _ (by omega)
          have e135 : (mu σ (124 + q) i X) 135 = σ 135 := mu_off _ _ (by omega)
          unfold f_X9_put
          rw [notThere_t hq, bd_some, e134, if_neg z, if_pos rfl, if_neg i4, c4, e135, (hl σ GN.rf).2, in_t (nI_pos (by omega)) p1, bd_some, if_neg (by decide), l2 _ e134]
        · intro s hs
          obtain ⟨⟨m, hm, m1, m2⟩, b1, b2, b3⟩ := h.2.2.2.1 s hs
          refine ⟨⟨m, hm, ?_, ?_⟩, ?_, ?_, fun k hk => ?_⟩
          · rw [mu_off _ _ (by omega), mu_off _ _ (by omega)]; exact m1
          · rw [mu_off _ _ (by omega), mu_off _ _ (by omega)]; exact m2
          · rw [mu_off _ _ (by omega), mu_off _ _ (by omega), mu_off _ _ (by omega), mu_off _ _ (by omega)]; exact b1
          · rw [mu_off _ _ (by omega), mu_off _ _ (by omega)]; exact b2
          · rw [mu_at, if_neg (by omega), mu_at, mu_at, mu_at]
            by_cases y : s = q ∧ k = i
            · obtain ⟨rfl, rfl⟩ := y
              rw [if_pos ⟨rfl, rfl⟩, if_pos ⟨rfl, rfl⟩]; exact nr
            · rw [if_neg (by omega), if_neg (by omega), if_neg (by omega)]; exact b3 k hk
      · have hb' : b < 0 ∨ nI n - 1 < b := by
          by_cases y : b < 0
          · exact Or.inl y
          · exact Or.inr (pred_lt (by omega) y (hb.resolve_left y))
        refine SIM.se h (EB.to (x' := f_X8_put (nI q) b v) (y' := f_X9_put (nI q) b v) (fun s g => ?_) (fun s g => ?_))
        · unfold f_X8_put
          rw [sheetOf_t hq, bd_some, onO_some, if_pos (kd_s hq), miss_eq, bd_some, (shB h hq g).1, if_neg z, if_pos rfl, (hl s g).1, wi_f hb', bd_some, if_pos rfl]
        · unfold f_X9_put u_X9_put_35
          rw [notThere_t hq, bd_some, (shB h hq g).2, if_neg z, if_pos rfl, if_neg i4, c4, (hl s g).2, in_f hb', bd_some, if_pos rfl, if_neg (by decide)]
  · refine SIM.se h (EB.to (x' := f_X8_put a b v) (y' := f_X9_put a b v) (fun s g => ?_) (fun s g => ?_))
    · unfold f_X8_put
      rw [sheetOf_f ha, bd_some, onO_none]
    · unfold f_X9_put u_X9_put_35
      rw [notThere_f ha, bd_some, if_neg (by decide), if_neg (by decide)]

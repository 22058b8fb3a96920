def lKL (K : KX) (b : Nat) : Prop := match K with
  | (_, _, s, _, args, below, _, _, Q) => args = #[Value.ref b] ∧ Q = lw_Z below #[Value.ref b] s
theorem l_fin {l : Launch} {G : GX} {K : KX} {b L : Nat} {xs : Nat → Int32} {lv : List (Nat × Value)} {σ : MM} (X : FL G K b L xs) (Y : lKL K b) : VL l G K 1364 lv [] σ := by
  obtain ⟨p, e, s, m, args, below, meth, c, Q⟩ := K
  obtain ⟨hx, hb, hr, hml, hown, hts, hlk, hE, hX, hbl⟩ := X
  obtain ⟨rfl, rfl⟩ := Y
  intro H locs ls hP hS hl
  refine lv_iconst (v := 1) hx hb dL_law_1364 (by decide) ?_
  refine va_forget (fun q hq => hS.2.2 q hq) ?_
  refine W.widen (k := 600000) (n := 7302250) (Nat.le_of_ble_eq_true rfl) (Nat.le_of_ble_eq_true rfl) ?_
  exact lw_ret hx hb hr hlk dL_law_1365
set_option maxRecDepth 100000 in
set_option maxHeartbeats 4000000 in
theorem l_turn {l : Launch} {G : GX} {K : KX} {b L k : Nat} {xs : Nat → Int32} {σ : MM} (X : FL G K b L xs) (Y : lKL K b) (hL : L ≤ 3072) (hk3 : k ≤ 3078) (h : GD σ) (next : k + 6 ≤ L → ∀ σ2, GD σ2 → VL l G K 18 [(3, .int (nI (k + 6))), (2, .ref (G.1 129)), (1, .ref (G.1 108)), (0, .ref b)] [] σ2) : VL l G K 18 [(3, .int (nI k)), (2, .ref (G.1 129)), (1, .ref (G.1 108)), (0, .ref b)] [] σ := by
  refine l_iload_n X dL_law_18 0 rfl ?_
  refine l_aload_n X dL_law_19 3 rfl isr_ref ?_
  refine l_slen X dL_law_20 ?_
  refine l_bipush (v := (6 : Int32)) X dL_law_21 (by decide) ?_
  refine l_isub X dL_law_23 ?_
  refine l_icmp_gt (tgt := 1364) X dL_law_24 (by decide) (fun _ => l_fin X Y) (fun hn => ?_)
  have hk : k + 6 ≤ L := by
    rcases Nat.lt_or_ge L (k + 6) with q | q
    · refine absurd ?_ hn
      rw [show (6 : Int32) = nI 6 from rfl, Int32.lt_iff_toInt_lt, pk_sub_toInt (by omega) (by decide), nI_toInt (by omega)]
      omega
    · exact q
  have kk : ∀ σ2, GD σ2 → VL l G K 1358 [(3, .int (nI k)), (2, .ref (G.1 129)), (1, .ref (G.1 108)), (0, .ref b)] [] σ2 := fun σ2 g2 => by
    refine l_iinc (v := nI (k + 6)) (lv' := [(3, .int (nI (k + 6))), (2, .ref (G.1 129)), (1, .ref (G.1 108)), (0, .ref b)]) X dL_law_1358 0 rfl (nI_add k 6) (by decide) rfl ?_
    exact l_goto (tgt := 18) X dL_law_1361 (by decide) (next hk σ2 g2)
  refine l_aload_n X dL_law_27 3 rfl isr_ref ?_
  refine l_iload_n X dL_law_28 0 rfl ?_
  refine l_sld X k rfl (by omega) hL dL_law_29 ?_
  refine l_bipush (v := (63 : Int32)) X dL_law_30 (by decide) ?_
  refine l_iand X dL_law_32 ?_
  generalize xs k &&& 63 = o
  by_cases ho : o.toInt < 0 ∨ 36 < o.toInt
  · exact l_tableOut (tgt := 1358) X dL_law_33 ho (by decide) (kk σ h)
  · have h1 : ¬ o.toInt < 0 := fun q => ho (Or.inl q)
    have h2 : ¬ 36 < o.toInt := fun q => ho (Or.inr q)
    obtain ⟨i, hi, e⟩ : ∃ i : Nat, i < 37 ∧ o.toInt = (i : Int) := ⟨o.toInt.toNat, by omega, by omega⟩
    rcases (show i = 0 ∨ i = 1 ∨ i = 2 ∨ i = 3 ∨ i = 4 ∨ i = 5 ∨ i = 6 ∨ i = 7 ∨ i = 8 ∨ i = 9 ∨ i = 10 ∨ i = 11 ∨ i = 12 ∨ i = 13 ∨ i = 14 ∨ i = 15 ∨ i = 16 ∨ i = 17 ∨ i = 18 ∨ i = 19 ∨ i = 20 ∨ i = 21 ∨ i = 22 ∨ i = 23 ∨ i = 24 ∨ i = 25 ∨ i = 26 ∨ i = 27 ∨ i = 28 ∨ i = 29 ∨ i = 30 ∨ i = 31 ∨ i = 32 ∨ i = 33 ∨ i = 34 ∨ i = 35 ∨ i = 36 by omega) with rfl | rfl | rfl | rfl | rfl | rfl | rfl | rfl | rfl | rfl | rfl | rfl | rfl | rfl | rfl | rfl | rfl | rfl | rfl | rfl | rfl | rfl | rfl | rfl | rfl | rfl | rfl | rfl | rfl | rfl | rfl | rfl | rfl | rfl | rfl | rfl | rfl
    · exact l_tableIn (off := 163) (tgt := 196) X dL_law_33 h1 h2 (by rw [e]; rfl) (by decide) (la_0 X hk hL h kk)
    · exact l_tableIn (off := 186) (tgt := 219) X dL_law_33 h1 h2 (by rw [e]; rfl) (by decide) (la_1 X hk hL h kk)
    · exact l_tableIn (off := 219) (tgt := 252) X dL_law_33 h1 h2 (by rw [e]; rfl) (by decide) (la_2 X hk hL h kk)
    · exact l_tableIn (off := 252) (tgt := 285) X dL_law_33 h1 h2 (by rw [e]; rfl) (by decide) (la_3 X hk hL h kk)
    · exact l_tableIn (off := 285) (tgt := 318) X dL_law_33 h1 h2 (by rw [e]; rfl) (by decide) (la_4 X hk hL h kk)
    · exact l_tableIn (off := 308) (tgt := 341) X dL_law_33 h1 h2 (by rw [e]; rfl) (by decide) (la_5 X hk hL h kk)
    · exact l_tableIn (off := 341) (tgt := 374) X dL_law_33 h1 h2 (by rw [e]; rfl) (by decide) (la_6 X hk hL h kk)
    · exact l_tableIn (off := 374) (tgt := 407) X dL_law_33 h1 h2 (by rw [e]; rfl) (by decide) (la_7 X hk hL h kk)
    · exact l_tableIn (off := 407) (tgt := 440) X dL_law_33 h1 h2 (by rw [e]; rfl) (by decide) (la_8 X hk hL h kk)
    · exact l_tableIn (off := 440) (tgt := 473) X dL_law_33 h1 h2 (by rw [e]; rfl) (by decide) (la_9 X hk hL h kk)
    · exact l_tableIn (off := 473) (tgt := 506) X dL_law_33 h1 h2 (by rw [e]; rfl) (by decide) (la_10 X hk hL h kk)
    · exact l_tableIn (off := 496) (tgt := 529) X dL_law_33 h1 h2 (by rw [e]; rfl) (by decide) (la_11 X hk hL h kk)
    · exact l_tableIn (off := 559) (tgt := 592) X dL_law_33 h1 h2 (by rw [e]; rfl) (by decide) (la_12 X hk hL h kk)
    · exact l_tableIn (off := 582) (tgt := 615) X dL_law_33 h1 h2 (by rw [e]; rfl) (by decide) (la_13 X hk hL h kk)
    · exact l_tableIn (off := 605) (tgt := 638) X dL_law_33 h1 h2 (by rw [e]; rfl) (by decide) (la_14 X hk hL h kk)
    · exact l_tableIn (off := 658) (tgt := 691) X dL_law_33 h1 h2 (by rw [e]; rfl) (by decide) (la_15 X hk hL h kk)
    · exact l_tableIn (off := 681) (tgt := 714) X dL_law_33 h1 h2 (by rw [e]; rfl) (by decide) (la_16 X hk hL h kk)
    · exact l_tableIn (off := 704) (tgt := 737) X dL_law_33 h1 h2 (by rw [e]; rfl) (by decide) (la_17 X hk hL h kk)
    · exact l_tableIn (off := 727) (tgt := 760) X dL_law_33 h1 h2 (by rw [e]; rfl) (by decide) (la_18 X hk hL h kk)
    · exact l_tableIn (off := 760) (tgt := 793) X dL_law_33 h1 h2 (by rw [e]; rfl) (by decide) (la_19 X hk hL h kk)
    · exact l_tableIn (off := 803) (tgt := 836) X dL_law_33 h1 h2 (by rw [e]; rfl) (by decide) (la_20 X hk hL h kk)
    · exact l_tableIn (off := 836) (tgt := 869) X dL_law_33 h1 h2 (by rw [e]; rfl) (by decide) (la_21 X hk hL h kk)
    · exact l_tableIn (off := 879) (tgt := 912) X dL_law_33 h1 h2 (by rw [e]; rfl) (by decide) (la_22 X hk hL h kk)
    · exact l_tableIn (off := 923) (tgt := 956) X dL_law_33 h1 h2 (by rw [e]; rfl) (by decide) (la_23 X hk hL h kk)
    · exact l_tableIn (off := 956) (tgt := 989) X dL_law_33 h1 h2 (by rw [e]; rfl) (by decide) (la_24 X hk hL h kk)
    · exact l_tableIn (off := 999) (tgt := 1032) X dL_law_33 h1 h2 (by rw [e]; rfl) (by decide) (la_25 X hk hL h kk)
    · exact l_tableIn (off := 1022) (tgt := 1055) X dL_law_33 h1 h2 (by rw [e]; rfl) (by decide) (la_26 X hk hL h kk)
    · exact l_tableIn (off := 1065) (tgt := 1098) X dL_law_33 h1 h2 (by rw [e]; rfl) (by decide) (la_27 X hk hL h kk)
    · exact l_tableIn (off := 1108) (tgt := 1141) X dL_law_33 h1 h2 (by rw [e]; rfl) (by decide) (la_28 X hk hL h kk)
    · exact l_tableIn (off := 1171) (tgt := 1204) X dL_law_33 h1 h2 (by rw [e]; rfl) (by decide) (la_29 X hk hL h kk)
    · exact l_tableIn (off := 1194) (tgt := 1227) X dL_law_33 h1 h2 (by rw [e]; rfl) (by decide) (la_30 X hk hL h kk)
    · exact l_tableIn (off := 1217) (tgt := 1250) X dL_law_33 h1 h2 (by rw [e]; rfl) (by decide) (la_31 X hk hL h kk)
    · exact l_tableIn (off := 1230) (tgt := 1263) X dL_law_33 h1 h2 (by rw [e]; rfl) (by decide) (la_32 X hk hL h kk)
    · exact l_tableIn (off := 1243) (tgt := 1276) X dL_law_33 h1 h2 (by rw [e]; rfl) (by decide) (la_33 X hk hL h kk)
    · exact l_tableIn (off := 1266) (tgt := 1299) X dL_law_33 h1 h2 (by rw [e]; rfl) (by decide) (la_34 X hk hL h kk)
    · exact l_tableIn (off := 1279) (tgt := 1312) X dL_law_33 h1 h2 (by rw [e]; rfl) (by decide) (la_35 X hk hL h kk)
    · exact l_tableIn (off := 1302) (tgt := 1335) X dL_law_33 h1 h2 (by rw [e]; rfl) (by decide) (la_36 X hk hL h kk)
theorem l_loop {l : Launch} {G : GX} {K : KX} {b L : Nat} {xs : Nat → Int32} (X : FL G K b L xs) (Y : lKL K b) (hL : L ≤ 3072) : ∀ (n k : Nat) (σ : MM), L ≤ k + n → k ≤ 3078 → GD σ → VL l G K 18 [(3, .int (nI k)), (2, .ref (G.1 129)), (1, .ref (G.1 108)), (0, .ref b)] [] σ := by
  intro n
  induction n with
  | zero => exact fun k σ h1 h2 h => l_turn X Y hL h2 h (fun q => absurd q (by omega))
  | succ n ih => exact fun k σ h1 h2 h => l_turn X Y hL h2 h (fun q σ2 g2 => ih (k + 6) σ2 (by omega) (by omega) g2)

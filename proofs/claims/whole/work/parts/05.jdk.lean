-- J0_coder_7d493
def f_J0_coder_7d493 (a0 : Int32) (σ : MM) : Option (Int32 × MM) :=
  some ((0 : Int32), σ)
set_option maxRecDepth 100000 in
set_option maxHeartbeats 4000000 in
theorem e_J0_coder_7d493 {l : Launch} {G : GX} {K : KX} (X : FX G K cJ0_coder_7d493 RJ0 (some .byte) wsJ0_coder_7d493 1) {Φ : Int32 → MM → Prop} (hR : Ri G K Φ) (a0 : Int32) (hs0 : a0 = 0 ∨ a0 = 1) (σ : MM) (hf : Ok Φ (f_J0_coder_7d493 a0 σ)) : V l G 3 K 1 0 [(0, .ref (G.2.2.2 (2 + a0.toNatClampNeg)))] [] σ := by
    unfold f_J0_coder_7d493 at hf
    refine r_compact X (mem_ix 1 rfl) dJ0_coder_7d493_0 ?_
    refine r_if_eq (tgt := 13) X dJ0_coder_7d493_3 (by decide) (fun h => absurd h (by decide)) (fun _ => ?_)
    refine r_aload_n X dJ0_coder_7d493_6 0 rfl isr_ref ?_
    refine r_scoder X hs0 (mem_ix 2 rfl) dJ0_coder_7d493_7 ?_
    refine r_goto (tgt := 14) X dJ0_coder_7d493_10 (by decide) ?_
    exact r_bret X rfl hR rfl (ok0 hf) dJ0_coder_7d493_14
theorem md_J0_coder_7d493 : MD yJ0_coder_7d493 wsJ0_coder_7d493 cJ0_coder_7d493 1 0 (some .byte) := ⟨⟨_, rfl⟩, by decide +kernel, by decide +kernel, by decide⟩
theorem c_J0_coder_7d493 (l : Launch) (G : GX)  (a0 : Int32) (hs0 : a0 = 0 ∨ a0 = 1) (σ : MM) (h : (f_J0_coder_7d493 a0 σ).isSome = true) : CTi l G yJ0_coder_7d493 wsJ0_coder_7d493 3 [.ref (G.2.2.2 (2 + a0.toNatClampNeg))] σ (f_J0_coder_7d493 a0 σ) :=
  CTi_of md_J0_coder_7d493 (Nat.le_of_ble_eq_true rfl) (fun K X hR => e_J0_coder_7d493 X hR a0 hs0 σ (ok_is h))
-- J0_length_8abf5
def f_J0_length_8abf5 (a0 : Int32) (σ : MM) : Option (Int32 × MM) :=
  bd (f_J0_coder_7d493 a0 σ) (fun r4 σ5 => some (((3 : Int32) >>> (r4 &&& 31)), σ5))
set_option maxRecDepth 100000 in
set_option maxHeartbeats 4000000 in
theorem e_J0_length_8abf5 {l : Launch} {G : GX} {K : KX} (X : FX G K cJ0_length_8abf5 RJ0 (some .int) wsJ0_length_8abf5 1) {Φ : Int32 → MM → Prop} (hR : Ri G K Φ) (a0 : Int32) (hs0 : a0 = 0 ∨ a0 = 1) (σ : MM) (hf : Ok Φ (f_J0_length_8abf5 a0 σ)) : V l G 4 K 1 0 [(0, .ref (G.2.2.2 (2 + a0.toNatClampNeg)))] [] σ := by
    unfold f_J0_length_8abf5 at hf
    refine r_aload_n X dJ0_length_8abf5_0 0 rfl isr_ref ?_
    refine r_svalue X hs0 (mem_ix 1 rfl) dJ0_length_8abf5_1 ?_
    refine r_btlen (v := (3 : Int32)) X hs0 (by decide) dJ0_length_8abf5_4 ?_
    refine r_aload_n X dJ0_length_8abf5_5 0 rfl isr_ref ?_
    refine r_callSVi (rest := [.int (3 : Int32)]) X (c_J0_coder_7d493 l G a0 hs0 σ (oks hf)) md_J0_coder_7d493 gJ0_length_8abf5_J0_coder_7d493 (by decide) rfl hs0 rfl rfl (Nat.le_of_ble_eq_true rfl) dJ0_length_8abf5_6 (fun r4 σ5 e6 => ?_)
    replace hf := okn e6 hf
    refine r_ishr X dJ0_length_8abf5_9 ?_
    exact r_iret X rfl hR (ok0 hf) dJ0_length_8abf5_10
theorem md_J0_length_8abf5 : MD yJ0_length_8abf5 wsJ0_length_8abf5 cJ0_length_8abf5 1 0 (some .int) := ⟨⟨_, rfl⟩, by decide +kernel, by decide +kernel, by decide⟩
theorem c_J0_length_8abf5 (l : Launch) (G : GX)  (a0 : Int32) (hs0 : a0 = 0 ∨ a0 = 1) (σ : MM) (h : (f_J0_length_8abf5 a0 σ).isSome = true) : CTi l G yJ0_length_8abf5 wsJ0_length_8abf5 4 [.ref (G.2.2.2 (2 + a0.toNatClampNeg))] σ (f_J0_length_8abf5 a0 σ) :=
  CTi_of md_J0_length_8abf5 (Nat.le_of_ble_eq_true rfl) (fun K X hR => e_J0_length_8abf5 X hR a0 hs0 σ (ok_is h))
-- J0_isLatin1_aae02
def f_J0_isLatin1_aae02 (a0 : Int32) (σ : MM) : Option (Int32 × MM) :=
  some ((1 : Int32), σ)
set_option maxRecDepth 100000 in
set_option maxHeartbeats 4000000 in
theorem e_J0_isLatin1_aae02 {l : Launch} {G : GX} {K : KX} (X : FX G K cJ0_isLatin1_aae02 RJ0 (some .boolean) wsJ0_isLatin1_aae02 1) {Φ : Int32 → MM → Prop} (hR : Ri G K Φ) (a0 : Int32) (hs0 : a0 = 0 ∨ a0 = 1) (σ : MM) (hf : Ok Φ (f_J0_isLatin1_aae02 a0 σ)) : V l G 3 K 1 0 [(0, .ref (G.2.2.2 (2 + a0.toNatClampNeg)))] [] σ := by
    unfold f_J0_isLatin1_aae02 at hf
    refine r_compact X (mem_ix 1 rfl) dJ0_isLatin1_aae02_0 ?_
    refine r_if_eq (tgt := 17) X dJ0_isLatin1_aae02_3 (by decide) (fun h => absurd h (by decide)) (fun _ => ?_)
    refine r_aload_n X dJ0_isLatin1_aae02_6 0 rfl isr_ref ?_
    refine r_scoder X hs0 (mem_ix 2 rfl) dJ0_isLatin1_aae02_7 ?_
    refine r_if_ne (tgt := 17) X dJ0_isLatin1_aae02_10 (by decide) (fun h => absurd h (by decide)) (fun _ => ?_)
    refine r_iconst X dJ0_isLatin1_aae02_13 ci_1 ?_
    refine r_goto (tgt := 18) X dJ0_isLatin1_aae02_14 (by decide) ?_
    exact r_zret X rfl hR (by decide) (ok0 hf) dJ0_isLatin1_aae02_18
theorem md_J0_isLatin1_aae02 : MD yJ0_isLatin1_aae02 wsJ0_isLatin1_aae02 cJ0_isLatin1_aae02 1 0 (some .boolean) := ⟨⟨_, rfl⟩, by decide +kernel, by decide +kernel, by decide⟩
theorem c_J0_isLatin1_aae02 (l : Launch) (G : GX)  (a0 : Int32) (hs0 : a0 = 0 ∨ a0 = 1) (σ : MM) (h : (f_J0_isLatin1_aae02 a0 σ).isSome = true) : CTi l G yJ0_isLatin1_aae02 wsJ0_isLatin1_aae02 3 [.ref (G.2.2.2 (2 + a0.toNatClampNeg))] σ (f_J0_isLatin1_aae02 a0 σ) :=
  CTi_of md_J0_isLatin1_aae02 (Nat.le_of_ble_eq_true rfl) (fun K X hR => e_J0_isLatin1_aae02 X hR a0 hs0 σ (ok_is h))
-- J1_canEncode_9a6ad
def f_J1_canEncode_9a6ad (a0 : Int32) (σ : MM) : Option (Int32 × MM) :=
  if a0 < 0 then some ((0 : Int32), σ) else if (255 : Int32) < a0 then some ((0 : Int32), σ) else some ((1 : Int32), σ)
set_option maxRecDepth 100000 in
set_option maxHeartbeats 4000000 in
theorem e_J1_canEncode_9a6ad {l : Launch} {G : GX} {K : KX} (X : FX G K cJ1_canEncode_9a6ad RJ1 (some .boolean) wsJ1_canEncode_9a6ad 1) {Φ : Int32 → MM → Prop} (hR : Ri G K Φ) (a0 : Int32) (σ : MM) (hf : Ok Φ (f_J1_canEncode_9a6ad a0 σ)) : V l G 3 K 1 0 [(0, .int a0)] [] σ := by
    unfold f_J1_canEncode_9a6ad at hf
    refine r_iload_n X dJ1_canEncode_9a6ad_0 0 rfl ?_
    refine r_if_lt (tgt := 15) X dJ1_canEncode_9a6ad_1 (by decide) (fun h3 => ?_) (fun h3 => ?_)
    · replace hf := okt h3 hf
      refine r_iconst X dJ1_canEncode_9a6ad_15 ci_0 ?_
      exact r_zret X rfl hR (by decide) (ok0 hf) dJ1_canEncode_9a6ad_16
    · replace hf := okf h3 hf
      refine r_iload_n X dJ1_canEncode_9a6ad_4 0 rfl ?_
      refine r_sipush X dJ1_canEncode_9a6ad_5 cs_255 ?_
      refine r_icmp_gt (tgt := 15) X dJ1_canEncode_9a6ad_8 (by decide) (fun h4 => ?_) (fun h4 => ?_)
      · replace hf := okt h4 hf
        refine r_iconst X dJ1_canEncode_9a6ad_15 ci_0 ?_
        exact r_zret X rfl hR (by decide) (ok0 hf) dJ1_canEncode_9a6ad_16
      · replace hf := okf h4 hf
        refine r_iconst X dJ1_canEncode_9a6ad_11 ci_1 ?_
        refine r_goto (tgt := 16) X dJ1_canEncode_9a6ad_12 (by decide) ?_
        exact r_zret X rfl hR (by decide) (ok0 hf) dJ1_canEncode_9a6ad_16
theorem md_J1_canEncode_9a6ad : MD yJ1_canEncode_9a6ad wsJ1_canEncode_9a6ad cJ1_canEncode_9a6ad 1 1 (some .boolean) := ⟨⟨_, rfl⟩, by decide +kernel, by decide +kernel, by decide⟩
theorem c_J1_canEncode_9a6ad (l : Launch) (G : GX)  (a0 : Int32) (σ : MM) (h : (f_J1_canEncode_9a6ad a0 σ).isSome = true) : CTi l G yJ1_canEncode_9a6ad wsJ1_canEncode_9a6ad 3 [.int a0] σ (f_J1_canEncode_9a6ad a0 σ) :=
  CTi_of md_J1_canEncode_9a6ad (Nat.le_of_ble_eq_true rfl) (fun K X hR => e_J1_canEncode_9a6ad X hR a0 σ (ok_is h))
-- J1_indexOfChar_4cfef
def u_J1_indexOfChar_4cfef_7 (k7 : Int32 → Int32 → Int32 → Int32 → MM → Option (Int32 × MM)) (v0 : Int32) (v3 : Int32) (v4 : Int32) (v5 : Int32) (σ : MM) : Option (Int32 × MM) :=
  if v3 ≤ v5 then some ((-1 : Int32), σ) else if v5 < 0 ∨ 3 ≤ v5.toNatClampNeg then none else if (sbyt v0 v5.toNatClampNeg) = v4 then some (v5, σ) else k7 v0 v3 v4 (v5 + (1 : Int32)) σ
def l_J1_indexOfChar_4cfef_7 (v0 : Int32) (v3 : Int32) (v4 : Int32) (v5 : Int32) (σ : MM) : Option (Int32 × MM) :=
  itr (fun _ _ _ _ _ => none) (u_J1_indexOfChar_4cfef_7) FU v0 v3 v4 v5 σ
def f_J1_indexOfChar_4cfef (a0 : Int32) (a1 : Int32) (a2 : Int32) (a3 : Int32) (σ : MM) : Option (Int32 × MM) :=
  l_J1_indexOfChar_4cfef_7 a0 a3 (a1.toInt8.toInt32) a2 σ
set_option maxRecDepth 100000 in
set_option maxHeartbeats 4000000 in
theorem t_J1_indexOfChar_4cfef_7 {l : Launch} {G : GX} {K : KX} (X : FX G K cJ1_indexOfChar_4cfef RJ1 (some .int) wsJ1_indexOfChar_4cfef 6) {Φ : Int32 → MM → Prop} (hR : Ri G K Φ) (k7 : Int32 → Int32 → Int32 → Int32 → MM → Option (Int32 × MM)) (hk7c : ∀ (v0 : Int32) (v3 : Int32) (v4 : Int32) (v5 : Int32) (hs0 : v0 = 0 ∨ v0 = 1) (σ : MM), Ok Φ (k7 v0 v3 v4 v5 σ) → V l G 3 K 6 7 [(0, .ref (G.2.2.2 (4 + v0.toNatClampNeg))), (3, .int v3), (4, .int v4), (5, .int v5)] [] σ) (v0 : Int32) (v3 : Int32) (v4 : Int32) (v5 : Int32) (hs0 : v0 = 0 ∨ v0 = 1) (σ : MM) (hf : Ok Φ (u_J1_indexOfChar_4cfef_7 k7 v0 v3 v4 v5 σ)) : V l G 3 K 6 7 [(0, .ref (G.2.2.2 (4 + v0.toNatClampNeg))), (3, .int v3), (4, .int v4), (5, .int v5)] [] σ := by
    unfold u_J1_indexOfChar_4cfef_7 at hf
    refine r_iload X dJ1_indexOfChar_4cfef_7 3 rfl ?_
    refine r_iload_n X dJ1_indexOfChar_4cfef_9 1 rfl ?_
    refine r_icmp_ge (tgt := 31) X dJ1_indexOfChar_4cfef_10 (by decide) (fun h4 => ?_) (fun h4 => ?_)
    · replace hf := okt h4 hf
      refine r_iconst X dJ1_indexOfChar_4cfef_31 ci_m1 ?_
      exact r_iret X rfl hR (ok0 hf) dJ1_indexOfChar_4cfef_32
    · replace hf := okf h4 hf
      refine r_aload_n X dJ1_indexOfChar_4cfef_13 0 rfl isr_ref ?_
      refine r_iload X dJ1_indexOfChar_4cfef_14 3 rfl ?_
      obtain ⟨g5, hf⟩ := okg hf
      refine r_bald X hs0 g5 dJ1_indexOfChar_4cfef_16 ?_
      refine r_iload X dJ1_indexOfChar_4cfef_17 2 rfl ?_
      refine r_icmp_ne (tgt := 25) X dJ1_indexOfChar_4cfef_19 (by decide) (fun h6 => ?_) (fun h6 => ?_)
      · replace hf := okf h6 hf
        refine r_iinc (v := (v5 + (1 : Int32))) X dJ1_indexOfChar_4cfef_25 3 rfl (congrArg _ ci_1) (by decide) (lv' := [(5, .int (v5 + (1 : Int32))), (0, .ref (G.2.2.2 (4 + v0.toNatClampNeg))), (3, .int v3), (4, .int v4)]) rfl ?_
        refine r_goto (tgt := 7) X dJ1_indexOfChar_4cfef_28 (by decide) ?_
        refine r_sub [1, 2, 3, 0] rfl ?_
        exact hk7c v0 v3 v4 (v5 + (1 : Int32)) hs0 σ hf
      · replace hf := okt h6 hf
        refine r_iload X dJ1_indexOfChar_4cfef_22 3 rfl ?_
        exact r_iret X rfl hR (ok0 hf) dJ1_indexOfChar_4cfef_24
theorem tl_J1_indexOfChar_4cfef_7 {l : Launch} {G : GX} {K : KX} (X : FX G K cJ1_indexOfChar_4cfef RJ1 (some .int) wsJ1_indexOfChar_4cfef 6) {Φ : Int32 → MM → Prop} (hR : Ri G K Φ) : ∀ (m : Nat) (v0 : Int32) (v3 : Int32) (v4 : Int32) (v5 : Int32) (hs0 : v0 = 0 ∨ v0 = 1) (σ : MM), Ok Φ (itr (fun _ _ _ _ _ => none) (u_J1_indexOfChar_4cfef_7) m v0 v3 v4 v5 σ) → V l G 3 K 6 7 [(0, .ref (G.2.2.2 (4 + v0.toNatClampNeg))), (3, .int v3), (4, .int v4), (5, .int v5)] [] σ := by
  intro m
  induction m with
  | zero => intro v0 v3 v4 v5 hs0 σ hf; exact (okx hf).elim
  | succ m ih => intro v0 v3 v4 v5 hs0 σ hf; exact t_J1_indexOfChar_4cfef_7 X hR _ ih v0 v3 v4 v5 hs0 σ hf
set_option maxRecDepth 100000 in
set_option maxHeartbeats 4000000 in
theorem e_J1_indexOfChar_4cfef {l : Launch} {G : GX} {K : KX} (X : FX G K cJ1_indexOfChar_4cfef RJ1 (some .int) wsJ1_indexOfChar_4cfef 6) {Φ : Int32 → MM → Prop} (hR : Ri G K Φ) (a0 : Int32) (a1 : Int32) (a2 : Int32) (a3 : Int32) (hs0 : a0 = 0 ∨ a0 = 1) (σ : MM) (hf : Ok Φ (f_J1_indexOfChar_4cfef a0 a1 a2 a3 σ)) : V l G 3 K 6 0 [(0, .ref (G.2.2.2 (4 + a0.toNatClampNeg))), (1, .int a1), (2, .int a2), (3, .int a3)] [] σ := by
    unfold f_J1_indexOfChar_4cfef at hf
    refine r_iload_n X dJ1_indexOfChar_4cfef_0 1 rfl ?_
    refine r_i2b X dJ1_indexOfChar_4cfef_1 ?_
    refine r_istore X dJ1_indexOfChar_4cfef_2 (by decide) (lv' := [(4, .int (a1.toInt8.toInt32)), (0, .ref (G.2.2.2 (4 + a0.toNatClampNeg))), (1, .int a1), (2, .int a2), (3, .int a3)]) rfl ?_
    refine r_iload_n X dJ1_indexOfChar_4cfef_4 3 rfl ?_
    refine r_istore X dJ1_indexOfChar_4cfef_5 (by decide) (lv' := [(5, .int a2), (4, .int (a1.toInt8.toInt32)), (0, .ref (G.2.2.2 (4 + a0.toNatClampNeg))), (1, .int a1), (2, .int a2), (3, .int a3)]) rfl ?_
    refine r_sub [2, 5, 1, 0] rfl ?_
    exact tl_J1_indexOfChar_4cfef_7 X hR FU a0 a3 (a1.toInt8.toInt32) a2 hs0 σ hf
theorem md_J1_indexOfChar_4cfef : MD yJ1_indexOfChar_4cfef wsJ1_indexOfChar_4cfef cJ1_indexOfChar_4cfef 6 4 (some .int) := ⟨⟨_, rfl⟩, by decide +kernel, by decide +kernel, by decide⟩
theorem c_J1_indexOfChar_4cfef (l : Launch) (G : GX)  (a0 : Int32) (a1 : Int32) (a2 : Int32) (a3 : Int32) (hs0 : a0 = 0 ∨ a0 = 1) (σ : MM) (h : (f_J1_indexOfChar_4cfef a0 a1 a2 a3 σ).isSome = true) : CTi l G yJ1_indexOfChar_4cfef wsJ1_indexOfChar_4cfef 3 [.ref (G.2.2.2 (4 + a0.toNatClampNeg)), .int a1, .int a2, .int a3] σ (f_J1_indexOfChar_4cfef a0 a1 a2 a3 σ) :=
  CTi_of md_J1_indexOfChar_4cfef (Nat.le_of_ble_eq_true rfl) (fun K X hR => e_J1_indexOfChar_4cfef X hR a0 a1 a2 a3 hs0 σ (ok_is h))
-- J1_indexOf_4cfef
def f_J1_indexOf_4cfef (a0 : Int32) (a1 : Int32) (a2 : Int32) (a3 : Int32) (σ : MM) : Option (Int32 × MM) :=
  bd (f_J1_canEncode_9a6ad a1 σ) (fun r13 σ14 => if r13 = 0 then some ((-1 : Int32), σ14) else lt (if a2 < (0 : Int32) then (0 : Int32) else a2) (fun y17 => lt (if (3 : Int32) < a3 then (3 : Int32) else a3) (fun y19 => if y17 < y19 then bd (f_J1_indexOfChar_4cfef a0 a1 y17 y19 σ14) (fun r22 σ23 => some (r22, σ23)) else some ((-1 : Int32), σ14))))
set_option maxRecDepth 100000 in
set_option maxHeartbeats 4000000 in
theorem e_J1_indexOf_4cfef {l : Launch} {G : GX} {K : KX} (X : FX G K cJ1_indexOf_4cfef RJ1 (some .int) wsJ1_indexOf_4cfef 4) {Φ : Int32 → MM → Prop} (hR : Ri G K Φ) (a0 : Int32) (a1 : Int32) (a2 : Int32) (a3 : Int32) (hs0 : a0 = 0 ∨ a0 = 1) (σ : MM) (hf : Ok Φ (f_J1_indexOf_4cfef a0 a1 a2 a3 σ)) : V l G 4 K 4 0 [(0, .ref (G.2.2.2 (4 + a0.toNatClampNeg))), (1, .int a1), (2, .int a2), (3, .int a3)] [] σ := by
    unfold f_J1_indexOf_4cfef at hf
    refine r_iload_n X dJ1_indexOf_4cfef_0 1 rfl ?_
    refine r_callSi (rest := []) X (c_J1_canEncode_9a6ad l G a1 σ (oks hf)) md_J1_canEncode_9a6ad gJ1_indexOf_4cfef_J1_canEncode_9a6ad (by decide) rfl rfl (Nat.le_of_ble_eq_true rfl) dJ1_indexOf_4cfef_1 (fun r13 σ14 e15 => ?_)
    replace hf := okn e15 hf
    refine r_if_ne (tgt := 9) X dJ1_indexOf_4cfef_4 (by decide) (fun h16 => ?_) (fun h16 => ?_)
    · replace hf := okf h16 hf
      refine r_iload_n X dJ1_indexOf_4cfef_9 2 rfl ?_
      refine r_iconst X dJ1_indexOf_4cfef_10 ci_0 ?_
      refine r_mmax X (mem_ix 1 rfl) (mem_ix 2 rfl) (mem_ix 3 rfl) (mem_ix 4 rfl) (Nat.le_of_ble_eq_true rfl) (by decide) dJ1_indexOf_4cfef_11 ?_
      obtain ⟨y17, e18, hf⟩ := okl hf
      refine r_topi e18 ?_
      refine r_istore_n X dJ1_indexOf_4cfef_14 (i := 2) rfl (by decide) (lv' := [(2, .int y17), (0, .ref (G.2.2.2 (4 + a0.toNatClampNeg))), (1, .int a1), (3, .int a3)]) rfl ?_
      refine r_iload_n X dJ1_indexOf_4cfef_15 3 rfl ?_
      refine r_aload_n X dJ1_indexOf_4cfef_16 1 rfl isr_ref ?_
      refine r_btlen (v := (3 : Int32)) X hs0 (by decide) dJ1_indexOf_4cfef_17 ?_
      refine r_mmin X (mem_ix 5 rfl) (mem_ix 6 rfl) (mem_ix 3 rfl) (mem_ix 7 rfl) (Nat.le_of_ble_eq_true rfl) (by decide) dJ1_indexOf_4cfef_18 ?_
      obtain ⟨y19, e20, hf⟩ := okl hf
      refine r_topi e20 ?_
      refine r_istore_n X dJ1_indexOf_4cfef_21 (i := 3) rfl (by decide) (lv' := [(3, .int y19), (2, .int y17), (0, .ref (G.2.2.2 (4 + a0.toNatClampNeg))), (1, .int a1)]) rfl ?_
      refine r_iload_n X dJ1_indexOf_4cfef_22 1 rfl ?_
      refine r_iload_n X dJ1_indexOf_4cfef_23 0 rfl ?_
      refine r_icmp_lt (tgt := 29) X dJ1_indexOf_4cfef_24 (by decide) (fun h21 => ?_) (fun h21 => ?_)
      · replace hf := okt h21 hf
        refine r_aload_n X dJ1_indexOf_4cfef_29 2 rfl isr_ref ?_
        refine r_iload_n X dJ1_indexOf_4cfef_30 3 rfl ?_
        refine r_iload_n X dJ1_indexOf_4cfef_31 1 rfl ?_
        refine r_iload_n X dJ1_indexOf_4cfef_32 0 rfl ?_
        refine r_callSi (rest := []) X (c_J1_indexOfChar_4cfef l G a0 a1 y17 y19 hs0 σ14 (oks hf)) md_J1_indexOfChar_4cfef gJ1_indexOf_4cfef_J1_indexOfChar_4cfef (by decide) rfl rfl (Nat.le_of_ble_eq_true rfl) dJ1_indexOf_4cfef_33 (fun r22 σ23 e24 => ?_)
        replace hf := okn e24 hf
        exact r_iret X rfl hR (ok0 hf) dJ1_indexOf_4cfef_36
      · replace hf := okf h21 hf
        refine r_iconst X dJ1_indexOf_4cfef_27 ci_m1 ?_
        exact r_iret X rfl hR (ok0 hf) dJ1_indexOf_4cfef_28
    · replace hf := okt h16 hf
      refine r_iconst X dJ1_indexOf_4cfef_7 ci_m1 ?_
      exact r_iret X rfl hR (ok0 hf) dJ1_indexOf_4cfef_8
theorem md_J1_indexOf_4cfef : MD yJ1_indexOf_4cfef wsJ1_indexOf_4cfef cJ1_indexOf_4cfef 4 4 (some .int) := ⟨⟨_, rfl⟩, by decide +kernel, by decide +kernel, by decide⟩
theorem c_J1_indexOf_4cfef (l : Launch) (G : GX)  (a0 : Int32) (a1 : Int32) (a2 : Int32) (a3 : Int32) (hs0 : a0 = 0 ∨ a0 = 1) (σ : MM) (h : (f_J1_indexOf_4cfef a0 a1 a2 a3 σ).isSome = true) : CTi l G yJ1_indexOf_4cfef wsJ1_indexOf_4cfef 4 [.ref (G.2.2.2 (4 + a0.toNatClampNeg)), .int a1, .int a2, .int a3] σ (f_J1_indexOf_4cfef a0 a1 a2 a3 σ) :=
  CTi_of md_J1_indexOf_4cfef (Nat.le_of_ble_eq_true rfl) (fun K X hR => e_J1_indexOf_4cfef X hR a0 a1 a2 a3 hs0 σ (ok_is h))
-- J0_indexOf_7cf53
def f_J0_indexOf_7cf53 (a0 : Int32) (a1 : Int32) (a2 : Int32) (σ : MM) : Option (Int32 × MM) :=
  bd (f_J0_isLatin1_aae02 a0 σ) (fun r14 σ15 => if r14 = 0 then bd (f_J0_length_8abf5 a0 σ15) (fun r18 σ19 => none) else bd (f_J0_length_8abf5 a0 σ15) (fun r21 σ22 => bd (f_J1_indexOf_4cfef a0 a1 a2 r21 σ22) (fun r24 σ25 => some (r24, σ25))))
set_option maxRecDepth 100000 in
set_option maxHeartbeats 4000000 in
theorem e_J0_indexOf_7cf53 {l : Launch} {G : GX} {K : KX} (X : FX G K cJ0_indexOf_7cf53 RJ0 (some .int) wsJ0_indexOf_7cf53 3) {Φ : Int32 → MM → Prop} (hR : Ri G K Φ) (a0 : Int32) (a1 : Int32) (a2 : Int32) (hs0 : a0 = 0 ∨ a0 = 1) (σ : MM) (hf : Ok Φ (f_J0_indexOf_7cf53 a0 a1 a2 σ)) : V l G 5 K 3 0 [(0, .ref (G.2.2.2 (2 + a0.toNatClampNeg))), (1, .int a1), (2, .int a2)] [] σ := by
    unfold f_J0_indexOf_7cf53 at hf
    refine r_aload_n X dJ0_indexOf_7cf53_0 0 rfl isr_ref ?_
    refine r_callSVi (rest := []) X (c_J0_isLatin1_aae02 l G a0 hs0 σ (oks hf)) md_J0_isLatin1_aae02 gJ0_indexOf_7cf53_J0_isLatin1_aae02 (by decide) rfl hs0 rfl rfl (Nat.le_of_ble_eq_true rfl) dJ0_indexOf_7cf53_1 (fun r14 σ15 e16 => ?_)
    replace hf := okn e16 hf
    refine r_if_eq (tgt := 23) X dJ0_indexOf_7cf53_4 (by decide) (fun h17 => ?_) (fun h17 => ?_)
    · replace hf := okt h17 hf
      refine r_aload_n X dJ0_indexOf_7cf53_23 0 rfl isr_ref ?_
      refine r_svalue X hs0 (mem_ix 1 rfl) dJ0_indexOf_7cf53_24 ?_
      refine r_iload_n X dJ0_indexOf_7cf53_27 1 rfl ?_
      refine r_iload_n X dJ0_indexOf_7cf53_28 2 rfl ?_
      refine r_aload_n X dJ0_indexOf_7cf53_29 0 rfl isr_ref ?_
      refine r_callSVi (rest := [.int a2, .int a1, .ref (G.2.2.2 (4 + a0.toNatClampNeg))]) X (c_J0_length_8abf5 l G a0 hs0 σ15 (oks hf)) md_J0_length_8abf5 gJ0_indexOf_7cf53_J0_length_8abf5 (by decide) rfl hs0 rfl rfl (Nat.le_of_ble_eq_true rfl) dJ0_indexOf_7cf53_30 (fun r18 σ19 e20 => ?_)
      replace hf := okn e20 hf
      exact (okx hf).elim
    · replace hf := okf h17 hf
      refine r_aload_n X dJ0_indexOf_7cf53_7 0 rfl isr_ref ?_
      refine r_svalue X hs0 (mem_ix 1 rfl) dJ0_indexOf_7cf53_8 ?_
      refine r_iload_n X dJ0_indexOf_7cf53_11 1 rfl ?_
      refine r_iload_n X dJ0_indexOf_7cf53_12 2 rfl ?_
      refine r_aload_n X dJ0_indexOf_7cf53_13 0 rfl isr_ref ?_
      refine r_callSVi (rest := [.int a2, .int a1, .ref (G.2.2.2 (4 + a0.toNatClampNeg))]) X (c_J0_length_8abf5 l G a0 hs0 σ15 (oks hf)) md_J0_length_8abf5 gJ0_indexOf_7cf53_J0_length_8abf5 (by decide) rfl hs0 rfl rfl (Nat.le_of_ble_eq_true rfl) dJ0_indexOf_7cf53_14 (fun r21 σ22 e23 => ?_)
      replace hf := okn e23 hf
      refine r_callSi (rest := []) X (c_J1_indexOf_4cfef l G a0 a1 a2 r21 hs0 σ22 (oks hf)) md_J1_indexOf_4cfef gJ0_indexOf_7cf53_J1_indexOf_4cfef (by decide) rfl rfl (Nat.le_of_ble_eq_true rfl) dJ0_indexOf_7cf53_17 (fun r24 σ25 e26 => ?_)
      replace hf := okn e26 hf
      refine r_goto (tgt := 36) X dJ0_indexOf_7cf53_20 (by decide) ?_
      exact r_iret X rfl hR (ok0 hf) dJ0_indexOf_7cf53_36
theorem md_J0_indexOf_7cf53 : MD yJ0_indexOf_7cf53 wsJ0_indexOf_7cf53 cJ0_indexOf_7cf53 3 2 (some .int) := ⟨⟨_, rfl⟩, by decide +kernel, by decide +kernel, by decide⟩
theorem c_J0_indexOf_7cf53 (l : Launch) (G : GX)  (a0 : Int32) (a1 : Int32) (a2 : Int32) (hs0 : a0 = 0 ∨ a0 = 1) (σ : MM) (h : (f_J0_indexOf_7cf53 a0 a1 a2 σ).isSome = true) : CTi l G yJ0_indexOf_7cf53 wsJ0_indexOf_7cf53 5 [.ref (G.2.2.2 (2 + a0.toNatClampNeg)), .int a1, .int a2] σ (f_J0_indexOf_7cf53 a0 a1 a2 σ) :=
  CTi_of md_J0_indexOf_7cf53 (Nat.le_of_ble_eq_true rfl) (fun K X hR => e_J0_indexOf_7cf53 X hR a0 a1 a2 hs0 σ (ok_is h))
-- J0_indexOf_0f7a4
def f_J0_indexOf_0f7a4 (a0 : Int32) (a1 : Int32) (σ : MM) : Option (Int32 × MM) :=
  bd (f_J0_indexOf_7cf53 a0 a1 (0 : Int32) σ) (fun r4 σ5 => some (r4, σ5))
set_option maxRecDepth 100000 in
set_option maxHeartbeats 4000000 in
theorem e_J0_indexOf_0f7a4 {l : Launch} {G : GX} {K : KX} (X : FX G K cJ0_indexOf_0f7a4 RJ0 (some .int) wsJ0_indexOf_0f7a4 2) {Φ : Int32 → MM → Prop} (hR : Ri G K Φ) (a0 : Int32) (a1 : Int32) (hs0 : a0 = 0 ∨ a0 = 1) (σ : MM) (hf : Ok Φ (f_J0_indexOf_0f7a4 a0 a1 σ)) : V l G 6 K 2 0 [(0, .ref (G.2.2.2 (2 + a0.toNatClampNeg))), (1, .int a1)] [] σ := by
    unfold f_J0_indexOf_0f7a4 at hf
    refine r_aload_n X dJ0_indexOf_0f7a4_0 0 rfl isr_ref ?_
    refine r_iload_n X dJ0_indexOf_0f7a4_1 1 rfl ?_
    refine r_iconst X dJ0_indexOf_0f7a4_2 ci_0 ?_
    refine r_callSVi (rest := []) X (c_J0_indexOf_7cf53 l G a0 a1 (0 : Int32) hs0 σ (oks hf)) md_J0_indexOf_7cf53 gJ0_indexOf_0f7a4_J0_indexOf_7cf53 (by decide) rfl hs0 rfl rfl (Nat.le_of_ble_eq_true rfl) dJ0_indexOf_0f7a4_3 (fun r4 σ5 e6 => ?_)
    replace hf := okn e6 hf
    exact r_iret X rfl hR (ok0 hf) dJ0_indexOf_0f7a4_6
theorem md_J0_indexOf_0f7a4 : MD yJ0_indexOf_0f7a4 wsJ0_indexOf_0f7a4 cJ0_indexOf_0f7a4 2 1 (some .int) := ⟨⟨_, rfl⟩, by decide +kernel, by decide +kernel, by decide⟩
theorem c_J0_indexOf_0f7a4 (l : Launch) (G : GX)  (a0 : Int32) (a1 : Int32) (hs0 : a0 = 0 ∨ a0 = 1) (σ : MM) (h : (f_J0_indexOf_0f7a4 a0 a1 σ).isSome = true) : CTi l G yJ0_indexOf_0f7a4 wsJ0_indexOf_0f7a4 6 [.ref (G.2.2.2 (2 + a0.toNatClampNeg)), .int a1] σ (f_J0_indexOf_0f7a4 a0 a1 σ) :=
  CTi_of md_J0_indexOf_0f7a4 (Nat.le_of_ble_eq_true rfl) (fun K X hR => e_J0_indexOf_0f7a4 X hR a0 a1 hs0 σ (ok_is h))
-- J7_fill_53178
def u_J7_fill_53178_5 (k5 : Nat → Nat → Int32 → Int32 → Int32 → MM → Option (Unit × MM)) (t0 : Nat) (N0 : Nat) (v1 : Int32) (v2 : Int32) (v3 : Int32) (σ : MM) : Option (Unit × MM) :=
  if v3 ≤ v2 then some ((), σ) else if v2 < 0 ∨ N0 ≤ v2.toNatClampNeg then none else lt (mu σ t0 (v2.toNatClampNeg) v1) (fun σ7 => k5 t0 N0 v1 (v2 + (1 : Int32)) v3 σ7)
def l_J7_fill_53178_5 (t0 : Nat) (N0 : Nat) (v1 : Int32) (v2 : Int32) (v3 : Int32) (σ : MM) : Option (Unit × MM) :=
  itr (fun _ _ _ _ _ _ => none) (u_J7_fill_53178_5) FU t0 N0 v1 v2 v3 σ
def f_J7_fill_53178 (t0 : Nat) (N0 : Nat) (a1 : Int32) (σ : MM) : Option (Unit × MM) :=
  l_J7_fill_53178_5 t0 N0 a1 (0 : Int32) (Int32.ofNat N0) σ
set_option maxRecDepth 100000 in
set_option maxHeartbeats 4000000 in
theorem t_J7_fill_53178_5 {l : Launch} {G : GX} {K : KX} (X : FX G K cJ7_fill_53178 RJ7 (none) wsJ7_fill_53178 4) {Φ : Unit → MM → Prop} (hR : Rv G K Φ) (k5 : Nat → Nat → Int32 → Int32 → Int32 → MM → Option (Unit × MM)) (hk5c : ∀ (t0 : Nat) (N0 : Nat) (v1 : Int32) (v2 : Int32) (v3 : Int32) (hE0 : ∀ f, EE G t0 f = .inl (G.2.2.1 0, N0, .inl f)) (hi0 : t0 < 143) (σ : MM), Ok Φ (k5 t0 N0 v1 v2 v3 σ) → V l G 3 K 4 5 [(0, .ref (G.1 t0)), (1, .int v1), (2, .int v2), (3, .int v3)] [] σ) (t0 : Nat) (N0 : Nat) (v1 : Int32) (v2 : Int32) (v3 : Int32) (hE0 : ∀ f, EE G t0 f = .inl (G.2.2.1 0, N0, .inl f)) (hi0 : t0 < 143) (σ : MM) (hf : Ok Φ (u_J7_fill_53178_5 k5 t0 N0 v1 v2 v3 σ)) : V l G 3 K 4 5 [(0, .ref (G.1 t0)), (1, .int v1), (2, .int v2), (3, .int v3)] [] σ := by
    unfold u_J7_fill_53178_5 at hf
    refine r_iload_n X dJ7_fill_53178_5 2 rfl ?_
    refine r_iload_n X dJ7_fill_53178_6 3 rfl ?_
    refine r_icmp_ge (tgt := 20) X dJ7_fill_53178_7 (by decide) (fun h5 => ?_) (fun h5 => ?_)
    · replace hf := okt h5 hf
      exact r_vret X rfl hR (ok0 hf) dJ7_fill_53178_20
    · replace hf := okf h5 hf
      refine r_aload_n X dJ7_fill_53178_10 0 rfl isr_ref ?_
      refine r_iload_n X dJ7_fill_53178_11 2 rfl ?_
      refine r_iload_n X dJ7_fill_53178_12 1 rfl ?_
      obtain ⟨g6, hf⟩ := okg hf
      obtain ⟨σ7, e8, hf⟩ := okl hf
      refine r_iast (i := t0) (jn := v2.toNatClampNeg) X hi0 hE0 rfl g6 dJ7_fill_53178_13 ?_
      refine r_sg e8 ?_
      refine r_iinc (v := (v2 + (1 : Int32))) X dJ7_fill_53178_14 2 rfl (congrArg _ ci_1) (by decide) (lv' := [(2, .int (v2 + (1 : Int32))), (0, .ref (G.1 t0)), (1, .int v1), (3, .int v3)]) rfl ?_
      refine r_goto (tgt := 5) X dJ7_fill_53178_17 (by decide) ?_
      refine r_sub [1, 2, 0, 3] rfl ?_
      exact hk5c t0 N0 v1 (v2 + (1 : Int32)) v3 hE0 hi0 σ7 hf
theorem tl_J7_fill_53178_5 {l : Launch} {G : GX} {K : KX} (X : FX G K cJ7_fill_53178 RJ7 (none) wsJ7_fill_53178 4) {Φ : Unit → MM → Prop} (hR : Rv G K Φ) : ∀ (m : Nat) (t0 : Nat) (N0 : Nat) (v1 : Int32) (v2 : Int32) (v3 : Int32) (hE0 : ∀ f, EE G t0 f = .inl (G.2.2.1 0, N0, .inl f)) (hi0 : t0 < 143) (σ : MM), Ok Φ (itr (fun _ _ _ _ _ _ => none) (u_J7_fill_53178_5) m t0 N0 v1 v2 v3 σ) → V l G 3 K 4 5 [(0, .ref (G.1 t0)), (1, .int v1), (2, .int v2), (3, .int v3)] [] σ := by
  intro m
  induction m with
  | zero => intro t0 N0 v1 v2 v3 hE0 hi0 σ hf; exact (okx hf).elim
  | succ m ih => intro t0 N0 v1 v2 v3 hE0 hi0 σ hf; exact t_J7_fill_53178_5 X hR _ ih t0 N0 v1 v2 v3 hE0 hi0 σ hf
set_option maxRecDepth 100000 in
set_option maxHeartbeats 4000000 in
theorem e_J7_fill_53178 {l : Launch} {G : GX} {K : KX} (X : FX G K cJ7_fill_53178 RJ7 (none) wsJ7_fill_53178 4) {Φ : Unit → MM → Prop} (hR : Rv G K Φ) (t0 : Nat) (N0 : Nat) (a1 : Int32) (hE0 : ∀ f, EE G t0 f = .inl (G.2.2.1 0, N0, .inl f)) (hi0 : t0 < 143) (σ : MM) (hf : Ok Φ (f_J7_fill_53178 t0 N0 a1 σ)) : V l G 3 K 4 0 [(0, .ref (G.1 t0)), (1, .int a1)] [] σ := by
    unfold f_J7_fill_53178 at hf
    refine r_iconst X dJ7_fill_53178_0 ci_0 ?_
    refine r_istore_n X dJ7_fill_53178_1 (i := 2) rfl (by decide) (lv' := [(2, .int (0 : Int32)), (0, .ref (G.1 t0)), (1, .int a1)]) rfl ?_
    refine r_aload_n X dJ7_fill_53178_2 1 rfl isr_ref ?_
    refine r_alen (i := t0) (t := 0) (v := (Int32.ofNat N0)) X hi0 (hE0 _) rfl rfl dJ7_fill_53178_3 ?_
    refine r_istore_n X dJ7_fill_53178_4 (i := 3) rfl (by decide) (lv' := [(3, .int (Int32.ofNat N0)), (2, .int (0 : Int32)), (0, .ref (G.1 t0)), (1, .int a1)]) rfl ?_
    refine r_sub [2, 3, 1, 0] rfl ?_
    exact tl_J7_fill_53178_5 X hR FU t0 N0 a1 (0 : Int32) (Int32.ofNat N0) hE0 hi0 σ hf
theorem md_J7_fill_53178 : MD yJ7_fill_53178 wsJ7_fill_53178 cJ7_fill_53178 4 2 (none) := ⟨⟨_, rfl⟩, by decide +kernel, by decide +kernel, by decide⟩
theorem c_J7_fill_53178 (l : Launch) (G : GX)  (t0 : Nat) (N0 : Nat) (a1 : Int32) (hE0 : ∀ f, EE G t0 f = .inl (G.2.2.1 0, N0, .inl f)) (hi0 : t0 < 143) (σ : MM) (h : (f_J7_fill_53178 t0 N0 a1 σ).isSome = true) : CTv l G yJ7_fill_53178 wsJ7_fill_53178 3 [.ref (G.1 t0), .int a1] σ (f_J7_fill_53178 t0 N0 a1 σ) :=
  CTv_of md_J7_fill_53178 (Nat.le_of_ble_eq_true rfl) (fun K X hR => e_J7_fill_53178 X hR t0 N0 a1 hE0 hi0 σ (ok_is h))

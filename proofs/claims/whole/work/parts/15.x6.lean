-- X8_isToldBy
theorem in_X8_isToldBy_5 : ∀ w ∈ u_ws RX5 TX5 3, w ∈ wsX8_isToldBy := fun _ h => List.mem_cons_of_mem _ (List.mem_append_left _ (List.mem_append_left _ (List.mem_append_left _ (List.mem_append_left _ (List.mem_append_right _ h)))))
theorem in_X8_isToldBy_8 : ∀ w ∈ u_ws RX8 TX8 9, w ∈ wsX8_isToldBy := fun _ h => List.mem_cons_of_mem _ (List.mem_append_left _ (List.mem_append_left _ (List.mem_append_left _ (List.mem_append_right _ h))))
theorem in_X8_isToldBy_0 : ∀ w ∈ u_ws RX0 TX0 12, w ∈ wsX8_isToldBy := fun _ h => List.mem_cons_of_mem _ (List.mem_append_left _ (List.mem_append_left _ (List.mem_append_right _ h)))
theorem in_X8_isToldBy_2 : ∀ w ∈ u_ws RX2 TX2 4, w ∈ wsX8_isToldBy := fun _ h => List.mem_cons_of_mem _ (List.mem_append_left _ (List.mem_append_right _ h))
theorem in_X8_isToldBy_6 : ∀ w ∈ u_ws RX6 TX6 3, w ∈ wsX8_isToldBy := fun _ h => List.mem_cons_of_mem _ (List.mem_append_right _ h)
def u_X8_isToldBy_48 (k2 : Nat → Int32 → Int32 → MM → Option (Int32 × MM)) (t1 : Nat) (v2 : Int32) (v3 : Int32) (vs0 : Int32) (vs1 : Int32) (σ : MM) : Option (Int32 × MM) :=
  if vs1 = vs0 then k2 t1 v2 (v3 + (1 : Int32)) σ else some ((0 : Int32), σ)
def u_X8_isToldBy_2 (k2 : Nat → Int32 → Int32 → MM → Option (Int32 × MM)) (t1 : Nat) (v2 : Int32) (v3 : Int32) (σ : MM) : Option (Int32 × MM) :=
  if (σ t1 2) ≤ v3 then some ((1 : Int32), σ) else bd (f_X0_judgeOn 0 v3 σ) (fun r16 σ17 => onO r16 (some ((0 : Int32), σ17)) (fun i19 => if kd i19 = 2 then bd (f_X5_get t1 v3 σ17) (fun r21 σ22 => bd (f_X0_isContent 0 i19 v2 σ22) (fun r24 σ25 => if r24 = 0 then u_X8_isToldBy_48 k2 t1 v2 v3 (0 : Int32) r21 σ25 else u_X8_isToldBy_48 k2 t1 v2 v3 (1 : Int32) r21 σ25)) else none))
def l_X8_isToldBy_2 (t1 : Nat) (v2 : Int32) (v3 : Int32) (σ : MM) : Option (Int32 × MM) :=
  itr (fun _ _ _ _ => none) (u_X8_isToldBy_2) FU t1 v2 v3 σ
def f_X8_isToldBy (t1 : Nat) (a2 : Int32) (σ : MM) : Option (Int32 × MM) :=
  l_X8_isToldBy_2 t1 a2 (0 : Int32) σ
set_option maxRecDepth 100000 in
set_option maxHeartbeats 4000000 in
theorem t_X8_isToldBy_48 {l : Launch} {G : GX} {K : KX} (X : FX G K cX8_isToldBy RX8 (some .boolean) wsX8_isToldBy 5) {Φ : Int32 → MM → Prop} (hR : Ri G K Φ) (k2 : Nat → Int32 → Int32 → MM → Option (Int32 × MM)) (hk2c : ∀ (t1 : Nat) (v2 : Int32) (v3 : Int32) (hk1 : kd t1 = 5) (σ : MM), Ok Φ (k2 t1 v2 v3 σ) → V l G 7 K 5 2 [(0, .ref (G.1 108)), (1, .ref (G.1 t1)), (2, .int v2), (3, .int v3)] [] σ) (t1 : Nat) (v2 : Int32) (v3 : Int32) (vs0 : Int32) (vs1 : Int32) (hk1 : kd t1 = 5) (σ : MM) (hf : Ok Φ (u_X8_isToldBy_48 k2 t1 v2 v3 vs0 vs1 σ)) : V l G 7 K 5 48 [(0, .ref (G.1 108)), (1, .ref (G.1 t1)), (2, .int v2), (3, .int v3)] [.int vs0, .int vs1] σ := by
    unfold u_X8_isToldBy_48 at hf
    refine r_icmp_eq (tgt := 53) X dX8_isToldBy_48 (by decide) (fun h28 => ?_) (fun h28 => ?_)
    · replace hf := okt h28 hf
      refine r_iinc (v := (v3 + (1 : Int32))) X dX8_isToldBy_53 3 rfl (congrArg _ ci_1) (by decide) (lv' := [(3, .int (v3 + (1 : Int32))), (0, .ref (G.1 108)), (1, .ref (G.1 t1)), (2, .int v2)]) rfl ?_
      refine r_goto (tgt := 2) X dX8_isToldBy_56 (by decide) ?_
      refine r_sub [1, 2, 3, 0] rfl ?_
      exact hk2c t1 v2 (v3 + (1 : Int32)) hk1 σ hf
    · replace hf := okf h28 hf
      refine r_iconst X dX8_isToldBy_51 ci_0 ?_
      exact r_zret X rfl hR (by decide) (ok0 hf) dX8_isToldBy_52
set_option maxRecDepth 100000 in
set_option maxHeartbeats 4000000 in
theorem t_X8_isToldBy_2 {l : Launch} {G : GX} {K : KX} (X : FX G K cX8_isToldBy RX8 (some .boolean) wsX8_isToldBy 5) {Φ : Int32 → MM → Prop} (hR : Ri G K Φ) (k2 : Nat → Int32 → Int32 → MM → Option (Int32 × MM)) (hk2c : ∀ (t1 : Nat) (v2 : Int32) (v3 : Int32) (hk1 : kd t1 = 5) (σ : MM), Ok Φ (k2 t1 v2 v3 σ) → V l G 7 K 5 2 [(0, .ref (G.1 108)), (1, .ref (G.1 t1)), (2, .int v2), (3, .int v3)] [] σ) (t1 : Nat) (v2 : Int32) (v3 : Int32) (hk1 : kd t1 = 5) (σ : MM) (hf : Ok Φ (u_X8_isToldBy_2 k2 t1 v2 v3 σ)) : V l G 7 K 5 2 [(0, .ref (G.1 108)), (1, .ref (G.1 t1)), (2, .int v2), (3, .int v3)] [] σ := by
    unfold u_X8_isToldBy_2 at hf
    refine r_iload_n X dX8_isToldBy_2 3 rfl ?_
    refine r_aload_n X dX8_isToldBy_3 1 rfl isr_ref ?_
    refine r_get (i := t1) (v := .int (σ t1 2)) X in_X8_isToldBy_5 rfl 2 (by decide) (kd_in hk1 (by decide)) (EE_5 _ hk1) rfl (mem_ix 1 rfl) dX8_isToldBy_4 ?_
    refine r_icmp_ge (tgt := 59) X dX8_isToldBy_7 (by decide) (fun h15 => ?_) (fun h15 => ?_)
    · replace hf := okt h15 hf
      refine r_iconst X dX8_isToldBy_59 ci_1 ?_
      exact r_zret X rfl hR (by decide) (ok0 hf) dX8_isToldBy_60
    · replace hf := okf h15 hf
      refine r_aload_n X dX8_isToldBy_10 0 rfl isr_ref ?_
      refine r_get (i := 108) (v := .ref (G.1 0)) X in_X8_isToldBy_8 rfl 0 (by decide) (kd_in kc_108 (by decide)) (EE_8 _ kc_108) rfl (mem_ix 2 rfl) dX8_isToldBy_11 ?_
      refine r_iload_n X dX8_isToldBy_14 3 rfl ?_
      refine r_callVq (rest := []) X (c_X0_judgeOn l G 0 v3 kc_0 σ (oks hf)) md_X0_judgeOn gX8_isToldBy_X0_judgeOn (by decide) rfl rfl (kd_in kc_0 (by decide)) (EE_0 _ kc_0) rfl rfl (Nat.le_of_ble_eq_true rfl) dX8_isToldBy_15 (fun r16 σ17 e18 => ?_)
      replace hf := okn e18 hf
      rcases r16 with _ | i19
      · replace hf := okz hf
        refine r_astore X dX8_isToldBy_18 (by decide) isr_null (lv' := [(4, .null), (0, .ref (G.1 108)), (1, .ref (G.1 t1)), (2, .int v2), (3, .int v3)]) rfl ?_
        refine r_aload X dX8_isToldBy_20 0 rfl isr_null ?_
        refine r_ifnullN (tgt := 51) X dX8_isToldBy_22 (by decide) ?_
        refine r_iconst X dX8_isToldBy_51 ci_0 ?_
        exact r_zret X rfl hR (by decide) (ok0 hf) dX8_isToldBy_52
      · replace hf := oky hf
        obtain ⟨hi20, hf⟩ := okp hf
        refine r_astore X dX8_isToldBy_18 (by decide) isr_ref (lv' := [(4, .ref (G.1 i19)), (0, .ref (G.1 108)), (1, .ref (G.1 t1)), (2, .int v2), (3, .int v3)]) rfl ?_
        refine r_aload X dX8_isToldBy_20 0 rfl isr_ref ?_
        refine r_ifnull X dX8_isToldBy_22 ?_
        refine r_aload_n X dX8_isToldBy_25 2 rfl isr_ref ?_
        refine r_iload_n X dX8_isToldBy_26 4 rfl ?_
        refine r_callVi (rest := []) X (c_X5_get l G t1 v3 hk1 σ17 (oks hf)) md_X5_get gX8_isToldBy_X5_get (by decide) rfl rfl (kd_in hk1 (by decide)) (EE_5 _ hk1) rfl rfl (Nat.le_of_ble_eq_true rfl) dX8_isToldBy_27 (fun r21 σ22 e23 => ?_)
        replace hf := okn e23 hf
        refine r_aload_n X dX8_isToldBy_30 1 rfl isr_ref ?_
        refine r_get (i := 108) (v := .ref (G.1 0)) X in_X8_isToldBy_8 rfl 0 (by decide) (kd_in kc_108 (by decide)) (EE_8 _ kc_108) rfl (mem_ix 2 rfl) dX8_isToldBy_31 ?_
        refine r_aload X dX8_isToldBy_34 0 rfl isr_ref ?_
        refine r_iload_n X dX8_isToldBy_36 3 rfl ?_
        refine r_callVi (rest := [.int r21]) X (c_X0_isContent l G 0 i19 v2 kc_0 hi20 σ22 (oks hf)) md_X0_isContent gX8_isToldBy_X0_isContent (by decide) rfl rfl (kd_in kc_0 (by decide)) (EE_0 _ kc_0) rfl rfl (Nat.le_of_ble_eq_true rfl) dX8_isToldBy_37 (fun r24 σ25 e26 => ?_)
        replace hf := okn e26 hf
        refine r_if_eq (tgt := 47) X dX8_isToldBy_40 (by decide) (fun h27 => ?_) (fun h27 => ?_)
        · replace hf := okt h27 hf
          refine r_iconst X dX8_isToldBy_47 ci_0 ?_
          refine r_sub [1, 2, 3, 4] rfl ?_
          exact t_X8_isToldBy_48 X hR k2 hk2c t1 v2 v3 (0 : Int32) r21 hk1 σ25 hf
        · replace hf := okf h27 hf
          refine r_iconst X dX8_isToldBy_43 ci_1 ?_
          refine r_goto (tgt := 48) X dX8_isToldBy_44 (by decide) ?_
          refine r_sub [1, 2, 3, 4] rfl ?_
          exact t_X8_isToldBy_48 X hR k2 hk2c t1 v2 v3 (1 : Int32) r21 hk1 σ25 hf
theorem tl_X8_isToldBy_2 {l : Launch} {G : GX} {K : KX} (X : FX G K cX8_isToldBy RX8 (some .boolean) wsX8_isToldBy 5) {Φ : Int32 → MM → Prop} (hR : Ri G K Φ) : ∀ (m : Nat) (t1 : Nat) (v2 : Int32) (v3 : Int32) (hk1 : kd t1 = 5) (σ : MM), Ok Φ (itr (fun _ _ _ _ => none) (u_X8_isToldBy_2) m t1 v2 v3 σ) → V l G 7 K 5 2 [(0, .ref (G.1 108)), (1, .ref (G.1 t1)), (2, .int v2), (3, .int v3)] [] σ := by
  intro m
  induction m with
  | zero => intro t1 v2 v3 hk1 σ hf; exact (okx hf).elim
  | succ m ih => intro t1 v2 v3 hk1 σ hf; exact t_X8_isToldBy_2 X hR _ ih t1 v2 v3 hk1 σ hf
set_option maxRecDepth 100000 in
set_option maxHeartbeats 4000000 in
theorem e_X8_isToldBy {l : Launch} {G : GX} {K : KX} (X : FX G K cX8_isToldBy RX8 (some .boolean) wsX8_isToldBy 5) {Φ : Int32 → MM → Prop} (hR : Ri G K Φ) (t1 : Nat) (a2 : Int32) (hk1 : kd t1 = 5) (σ : MM) (hf : Ok Φ (f_X8_isToldBy t1 a2 σ)) : V l G 7 K 5 0 [(0, .ref (G.1 108)), (1, .ref (G.1 t1)), (2, .int a2)] [] σ := by
    unfold f_X8_isToldBy at hf
    refine r_iconst X dX8_isToldBy_0 ci_0 ?_
    refine r_istore_n X dX8_isToldBy_1 (i := 3) rfl (by decide) (lv' := [(3, .int (0 : Int32)), (0, .ref (G.1 108)), (1, .ref (G.1 t1)), (2, .int a2)]) rfl ?_
    refine r_sub [1, 2, 3, 0] rfl ?_
    exact tl_X8_isToldBy_2 X hR FU t1 a2 (0 : Int32) hk1 σ hf
theorem md_X8_isToldBy : MD yX8_isToldBy wsX8_isToldBy cX8_isToldBy 5 2 (some .boolean) := ⟨⟨_, rfl⟩, by decide +kernel, by decide +kernel, by decide⟩
theorem c_X8_isToldBy (l : Launch) (G : GX)  (t1 : Nat) (a2 : Int32) (hk1 : kd t1 = 5) (σ : MM) (h : (f_X8_isToldBy t1 a2 σ).isSome = true) : CTi l G yX8_isToldBy wsX8_isToldBy 7 [.ref (G.1 108), .ref (G.1 t1), .int a2] σ (f_X8_isToldBy t1 a2 σ) :=
  CTi_of md_X8_isToldBy (Nat.le_of_ble_eq_true rfl) (fun K X hR => e_X8_isToldBy X hR t1 a2 hk1 σ (ok_is h))
-- X8_fits
theorem in_X8_fits_8 : ∀ w ∈ u_ws RX8 TX8 9, w ∈ wsX8_fits := fun _ h => List.mem_cons_of_mem _ (List.mem_append_left _ (List.mem_append_left _ (List.mem_append_left _ (List.mem_append_left _ (List.mem_append_right _ h)))))
theorem in_X8_fits_5 : ∀ w ∈ u_ws RX5 TX5 3, w ∈ wsX8_fits := fun _ h => List.mem_cons_of_mem _ (List.mem_append_left _ (List.mem_append_left _ (List.mem_append_left _ (List.mem_append_right _ h))))
theorem in_X8_fits_0 : ∀ w ∈ u_ws RX0 TX0 12, w ∈ wsX8_fits := fun _ h => List.mem_cons_of_mem _ (List.mem_append_left _ (List.mem_append_left _ (List.mem_append_right _ h)))
theorem in_X8_fits_2 : ∀ w ∈ u_ws RX2 TX2 4, w ∈ wsX8_fits := fun _ h => List.mem_cons_of_mem _ (List.mem_append_left _ (List.mem_append_right _ h))
theorem in_X8_fits_6 : ∀ w ∈ u_ws RX6 TX6 3, w ∈ wsX8_fits := fun _ h => List.mem_cons_of_mem _ (List.mem_append_right _ h)
def u_X8_fits_19  (σ : MM) : Option (Int32 × MM) :=
  bd (f_X8_error (-1000000001 : Int32) σ) (fun r35 σ36 => some (r35, σ36))
def u_X8_fits_50 (k50 : Int32 → Nat → Int32 → Int32 → Int32 → MM → Option (Int32 × MM)) (v2 : Int32) (t3 : Nat) (v4 : Int32) (v5 : Int32) (v6 : Int32) (σ : MM) : Option (Int32 × MM) :=
  if v6 < 0 then if v2 = 0 then some (v4, σ) else if v4 = 0 then bd (f_X8_error (-1000000002 : Int32) σ) (fun r49 σ50 => some (r49, σ50)) else some (v5, σ) else bd (f_X8_isToldBy t3 v6 σ) (fun r52 σ53 => if r52 = 0 then k50 v2 t3 v4 v5 (v6 + (-1 : Int32)) σ53 else k50 v2 t3 (v4 + (1 : Int32)) v6 (v6 + (-1 : Int32)) σ53)
def l_X8_fits_50 (v2 : Int32) (t3 : Nat) (v4 : Int32) (v5 : Int32) (v6 : Int32) (σ : MM) : Option (Int32 × MM) :=
  itr (fun _ _ _ _ _ _ => none) (u_X8_fits_50) FU v2 t3 v4 v5 v6 σ
def f_X8_fits (a1 : Int32) (a2 : Int32) (σ : MM) : Option (Int32 × MM) :=
  bd (f_X8_sheetOf a1 σ) (fun r30 σ31 => onO r30 (u_X8_fits_19 σ31) (fun i33 => if kd i33 = 5 then bd (f_X8_within a2 (0 : Int32) (1 : Int32) σ31) (fun r38 σ39 => if r38 = 0 then u_X8_fits_19 σ39 else bd (f_X5_isMissing i33 σ39) (fun r42 σ43 => if r42 = 0 then l_X8_fits_50 a2 i33 (0 : Int32) (-1 : Int32) (99 : Int32) σ43 else bd (f_X8_error (-1000000002 : Int32) σ43) (fun r56 σ57 => some (r56, σ57)))) else none))
set_option maxRecDepth 100000 in
set_option maxHeartbeats 4000000 in
theorem t_X8_fits_19 {l : Launch} {G : GX} {K : KX} (X : FX G K cX8_fits RX8 (some .int) wsX8_fits 7) {Φ : Int32 → MM → Prop} (hR : Ri G K Φ)  (σ : MM) (hf : Ok Φ (u_X8_fits_19  σ)) : V l G 8 K 7 19 [(0, .ref (G.1 108))] [] σ := by
    unfold u_X8_fits_19 at hf
    refine r_aload_n X dX8_fits_19 0 rfl isr_ref ?_
    refine r_ldc (v := (-1000000001 : Int32)) X (mem_ix 1 rfl) dX8_fits_20 ?_
    refine r_callVi (rest := []) X (c_X8_error l G (-1000000001 : Int32) σ (oks hf)) md_X8_error gX8_fits_X8_error (by decide) rfl rfl (kd_in kc_108 (by decide)) (EE_8 _ kc_108) rfl rfl (Nat.le_of_ble_eq_true rfl) dX8_fits_22 (fun r35 σ36 e37 => ?_)
    replace hf := okn e37 hf
    exact r_iret X rfl hR (ok0 hf) dX8_fits_25
set_option maxRecDepth 100000 in
set_option maxHeartbeats 4000000 in
theorem t_X8_fits_50 {l : Launch} {G : GX} {K : KX} (X : FX G K cX8_fits RX8 (some .int) wsX8_fits 7) {Φ : Int32 → MM → Prop} (hR : Ri G K Φ) (k50 : Int32 → Nat → Int32 → Int32 → Int32 → MM → Option (Int32 × MM)) (hk50c : ∀ (v2 : Int32) (t3 : Nat) (v4 : Int32) (v5 : Int32) (v6 : Int32) (hk3 : kd t3 = 5) (σ : MM), Ok Φ (k50 v2 t3 v4 v5 v6 σ) → V l G 8 K 7 50 [(0, .ref (G.1 108)), (2, .int v2), (3, .ref (G.1 t3)), (4, .int v4), (5, .int v5), (6, .int v6)] [] σ) (v2 : Int32) (t3 : Nat) (v4 : Int32) (v5 : Int32) (v6 : Int32) (hk3 : kd t3 = 5) (σ : MM) (hf : Ok Φ (u_X8_fits_50 k50 v2 t3 v4 v5 v6 σ)) : V l G 8 K 7 50 [(0, .ref (G.1 108)), (2, .int v2), (3, .ref (G.1 t3)), (4, .int v4), (5, .int v5), (6, .int v6)] [] σ := by
    unfold u_X8_fits_50 at hf
    refine r_iload X dX8_fits_50 5 rfl ?_
    refine r_if_lt (tgt := 78) X dX8_fits_52 (by decide) (fun h46 => ?_) (fun h46 => ?_)
    · replace hf := okt h46 hf
      refine r_iload_n X dX8_fits_78 1 rfl ?_
      refine r_if_ne (tgt := 85) X dX8_fits_79 (by decide) (fun h47 => ?_) (fun h47 => ?_)
      · replace hf := okf h47 hf
        refine r_iload X dX8_fits_85 3 rfl ?_
        refine r_if_ne (tgt := 99) X dX8_fits_87 (by decide) (fun h48 => ?_) (fun h48 => ?_)
        · replace hf := okf h48 hf
          refine r_iload X dX8_fits_99 4 rfl ?_
          exact r_iret X rfl hR (ok0 hf) dX8_fits_101
        · replace hf := okt h48 hf
          refine r_aload_n X dX8_fits_90 0 rfl isr_ref ?_
          refine r_ldc (v := (-1000000002 : Int32)) X (mem_ix 2 rfl) dX8_fits_91 ?_
          refine r_callVi (rest := []) X (c_X8_error l G (-1000000002 : Int32) σ (oks hf)) md_X8_error gX8_fits_X8_error (by decide) rfl rfl (kd_in kc_108 (by decide)) (EE_8 _ kc_108) rfl rfl (Nat.le_of_ble_eq_true rfl) dX8_fits_93 (fun r49 σ50 e51 => ?_)
          replace hf := okn e51 hf
          refine r_goto (tgt := 101) X dX8_fits_96 (by decide) ?_
          exact r_iret X rfl hR (ok0 hf) dX8_fits_101
      · replace hf := okt h47 hf
        refine r_iload X dX8_fits_82 3 rfl ?_
        exact r_iret X rfl hR (ok0 hf) dX8_fits_84
    · replace hf := okf h46 hf
      refine r_aload_n X dX8_fits_55 0 rfl isr_ref ?_
      refine r_aload_n X dX8_fits_56 2 rfl isr_ref ?_
      refine r_iload X dX8_fits_57 5 rfl ?_
      refine r_callVi (rest := []) X (c_X8_isToldBy l G t3 v6 hk3 σ (oks hf)) md_X8_isToldBy gX8_fits_X8_isToldBy (by decide) rfl rfl (kd_in kc_108 (by decide)) (EE_8 _ kc_108) rfl rfl (Nat.le_of_ble_eq_true rfl) dX8_fits_59 (fun r52 σ53 e54 => ?_)
      replace hf := okn e54 hf
      refine r_if_eq (tgt := 72) X dX8_fits_62 (by decide) (fun h55 => ?_) (fun h55 => ?_)
      · replace hf := okt h55 hf
        refine r_iinc (v := (v6 + (-1 : Int32))) X dX8_fits_72 5 rfl (congrArg _ ci_m1) (by decide) (lv' := [(6, .int (v6 + (-1 : Int32))), (0, .ref (G.1 108)), (2, .int v2), (3, .ref (G.1 t3)), (4, .int v4), (5, .int v5)]) rfl ?_
        refine r_goto (tgt := 50) X dX8_fits_75 (by decide) ?_
        refine r_sub [1, 2, 3, 4, 5, 0] rfl ?_
        exact hk50c v2 t3 v4 v5 (v6 + (-1 : Int32)) hk3 σ53 hf
      · replace hf := okf h55 hf
        refine r_iinc (v := (v4 + (1 : Int32))) X dX8_fits_65 3 rfl (congrArg _ ci_1) (by decide) (lv' := [(4, .int (v4 + (1 : Int32))), (0, .ref (G.1 108)), (2, .int v2), (3, .ref (G.1 t3)), (5, .int v5), (6, .int v6)]) rfl ?_
        refine r_iload X dX8_fits_68 5 rfl ?_
        refine r_istore X dX8_fits_70 (by decide) (lv' := [(5, .int v6), (4, .int (v4 + (1 : Int32))), (0, .ref (G.1 108)), (2, .int v2), (3, .ref (G.1 t3)), (6, .int v6)]) rfl ?_
        refine r_iinc (v := (v6 + (-1 : Int32))) X dX8_fits_72 5 rfl (congrArg _ ci_m1) (by decide) (lv' := [(6, .int (v6 + (-1 : Int32))), (5, .int v6), (4, .int (v4 + (1 : Int32))), (0, .ref (G.1 108)), (2, .int v2), (3, .ref (G.1 t3))]) rfl ?_
        refine r_goto (tgt := 50) X dX8_fits_75 (by decide) ?_
        refine r_sub [3, 4, 5, 2, 1, 0] rfl ?_
        exact hk50c v2 t3 (v4 + (1 : Int32)) v6 (v6 + (-1 : Int32)) hk3 σ53 hf
theorem tl_X8_fits_50 {l : Launch} {G : GX} {K : KX} (X : FX G K cX8_fits RX8 (some .int) wsX8_fits 7) {Φ : Int32 → MM → Prop} (hR : Ri G K Φ) : ∀ (m : Nat) (v2 : Int32) (t3 : Nat) (v4 : Int32) (v5 : Int32) (v6 : Int32) (hk3 : kd t3 = 5) (σ : MM), Ok Φ (itr (fun _ _ _ _ _ _ => none) (u_X8_fits_50) m v2 t3 v4 v5 v6 σ) → V l G 8 K 7 50 [(0, .ref (G.1 108)), (2, .int v2), (3, .ref (G.1 t3)), (4, .int v4), (5, .int v5), (6, .int v6)] [] σ := by
  intro m
  induction m with
  | zero => intro v2 t3 v4 v5 v6 hk3 σ hf; exact (okx hf).elim
  | succ m ih => intro v2 t3 v4 v5 v6 hk3 σ hf; exact t_X8_fits_50 X hR _ ih v2 t3 v4 v5 v6 hk3 σ hf
set_option maxRecDepth 100000 in
set_option maxHeartbeats 4000000 in
theorem e_X8_fits {l : Launch} {G : GX} {K : KX} (X : FX G K cX8_fits RX8 (some .int) wsX8_fits 7) {Φ : Int32 → MM → Prop} (hR : Ri G K Φ) (a1 : Int32) (a2 : Int32) (σ : MM) (hf : Ok Φ (f_X8_fits a1 a2 σ)) : V l G 8 K 7 0 [(0, .ref (G.1 108)), (1, .int a1), (2, .int a2)] [] σ := by
    unfold f_X8_fits at hf
    refine r_aload_n X dX8_fits_0 0 rfl isr_ref ?_
    refine r_iload_n X dX8_fits_1 1 rfl ?_
    refine r_callVq (rest := []) X (c_X8_sheetOf l G a1 σ (oks hf)) md_X8_sheetOf gX8_fits_X8_sheetOf (by decide) rfl rfl (kd_in kc_108 (by decide)) (EE_8 _ kc_108) rfl rfl (Nat.le_of_ble_eq_true rfl) dX8_fits_2 (fun r30 σ31 e32 => ?_)
    replace hf := okn e32 hf
    rcases r30 with _ | i33
    · replace hf := okz hf
      refine r_astore_n X dX8_fits_5 (i := 3) rfl (by decide) isr_null (lv' := [(3, .null), (0, .ref (G.1 108)), (1, .int a1), (2, .int a2)]) rfl ?_
      refine r_aload_n X dX8_fits_6 0 rfl isr_null ?_
      refine r_ifnullN (tgt := 19) X dX8_fits_7 (by decide) ?_
      refine r_sub [1] rfl ?_
      exact t_X8_fits_19 X hR σ31 hf
    · replace hf := oky hf
      obtain ⟨hi34, hf⟩ := okp hf
      refine r_astore_n X dX8_fits_5 (i := 3) rfl (by decide) isr_ref (lv' := [(3, .ref (G.1 i33)), (0, .ref (G.1 108)), (1, .int a1), (2, .int a2)]) rfl ?_
      refine r_aload_n X dX8_fits_6 0 rfl isr_ref ?_
      refine r_ifnull X dX8_fits_7 ?_
      refine r_iload_n X dX8_fits_10 3 rfl ?_
      refine r_iconst X dX8_fits_11 ci_0 ?_
      refine r_iconst X dX8_fits_12 ci_1 ?_
      refine r_callSi (rest := []) X (c_X8_within l G a2 (0 : Int32) (1 : Int32) σ31 (oks hf)) md_X8_within gX8_fits_X8_within (by decide) rfl rfl (Nat.le_of_ble_eq_true rfl) dX8_fits_13 (fun r38 σ39 e40 => ?_)
      replace hf := okn e40 hf
      refine r_if_ne (tgt := 26) X dX8_fits_16 (by decide) (fun h41 => ?_) (fun h41 => ?_)
      · replace hf := okf h41 hf
        refine r_aload_n X dX8_fits_26 0 rfl isr_ref ?_
        refine r_callVi (rest := []) X (c_X5_isMissing l G i33 hi34 σ39 (oks hf)) md_X5_isMissing gX8_fits_X5_isMissing (by decide) rfl rfl (kd_in hi34 (by decide)) (EE_5 _ hi34) rfl rfl (Nat.le_of_ble_eq_true rfl) dX8_fits_27 (fun r42 σ43 e44 => ?_)
        replace hf := okn e44 hf
        refine r_if_eq (tgt := 40) X dX8_fits_30 (by decide) (fun h45 => ?_) (fun h45 => ?_)
        · replace hf := okt h45 hf
          refine r_iconst X dX8_fits_40 ci_0 ?_
          refine r_istore X dX8_fits_41 (by decide) (lv' := [(4, .int (0 : Int32)), (3, .ref (G.1 i33)), (0, .ref (G.1 108)), (1, .int a1), (2, .int a2)]) rfl ?_
          refine r_iconst X dX8_fits_43 ci_m1 ?_
          refine r_istore X dX8_fits_44 (by decide) (lv' := [(5, .int (-1 : Int32)), (4, .int (0 : Int32)), (3, .ref (G.1 i33)), (0, .ref (G.1 108)), (1, .int a1), (2, .int a2)]) rfl ?_
          refine r_bipush X dX8_fits_46 cb_99 ?_
          refine r_istore X dX8_fits_48 (by decide) (lv' := [(6, .int (99 : Int32)), (5, .int (-1 : Int32)), (4, .int (0 : Int32)), (3, .ref (G.1 i33)), (0, .ref (G.1 108)), (1, .int a1), (2, .int a2)]) rfl ?_
          refine r_sub [4, 6, 3, 2, 1, 0] rfl ?_
          exact tl_X8_fits_50 X hR FU a2 i33 (0 : Int32) (-1 : Int32) (99 : Int32) hi34 σ43 hf
        · replace hf := okf h45 hf
          refine r_aload_n X dX8_fits_33 1 rfl isr_ref ?_
          refine r_ldc (v := (-1000000002 : Int32)) X (mem_ix 2 rfl) dX8_fits_34 ?_
          refine r_callVi (rest := []) X (c_X8_error l G (-1000000002 : Int32) σ43 (oks hf)) md_X8_error gX8_fits_X8_error (by decide) rfl rfl (kd_in kc_108 (by decide)) (EE_8 _ kc_108) rfl rfl (Nat.le_of_ble_eq_true rfl) dX8_fits_36 (fun r56 σ57 e58 => ?_)
          replace hf := okn e58 hf
          exact r_iret X rfl hR (ok0 hf) dX8_fits_39
      · replace hf := okt h41 hf
        refine r_sub [1] rfl ?_
        exact t_X8_fits_19 X hR σ39 hf
theorem md_X8_fits : MD yX8_fits wsX8_fits cX8_fits 7 2 (some .int) := ⟨⟨_, rfl⟩, by decide +kernel, by decide +kernel, by decide⟩
theorem c_X8_fits (l : Launch) (G : GX)  (a1 : Int32) (a2 : Int32) (σ : MM) (h : (f_X8_fits a1 a2 σ).isSome = true) : CTi l G yX8_fits wsX8_fits 8 [.ref (G.1 108), .int a1, .int a2] σ (f_X8_fits a1 a2 σ) :=
  CTi_of md_X8_fits (Nat.le_of_ble_eq_true rfl) (fun K X hR => e_X8_fits X hR a1 a2 σ (ok_is h))
-- X8_voice
theorem in_X8_voice_8 : ∀ w ∈ u_ws RX8 TX8 9, w ∈ wsX8_voice := fun _ h => List.mem_cons_of_mem _ (List.mem_append_left _ (List.mem_append_left _ (List.mem_append_left _ (List.mem_append_right _ h))))
theorem in_X8_voice_7 : ∀ w ∈ u_ws RX7 TX7 6, w ∈ wsX8_voice := fun _ h => List.mem_cons_of_mem _ (List.mem_append_left _ (List.mem_append_left _ (List.mem_append_right _ h)))
theorem in_X8_voice_0 : ∀ w ∈ u_ws RX0 TX0 12, w ∈ wsX8_voice := fun _ h => List.mem_cons_of_mem _ (List.mem_append_left _ (List.mem_append_right _ h))
theorem in_X8_voice_2 : ∀ w ∈ u_ws RX2 TX2 4, w ∈ wsX8_voice := fun _ h => List.mem_cons_of_mem _ (List.mem_append_right _ h)
def u_X8_voice_24  (σ : MM) : Option (Int32 × MM) :=
  bd (f_X8_error (-1000000001 : Int32) σ) (fun r25 σ26 => some (r25, σ26))
def f_X8_voice (a1 : Int32) (a2 : Int32) (a3 : Int32) (σ : MM) : Option (Int32 × MM) :=
  bd (f_X0_judgeOn 0 a1 σ) (fun r20 σ21 => onO r20 (u_X8_voice_24 σ21) (fun i23 => if kd i23 = 2 then bd (f_X8_within a2 (0 : Int32) (3 : Int32) σ21) (fun r28 σ29 => if r28 = 0 then u_X8_voice_24 σ29 else bd (f_X7_sound i23 a2 a3 σ29) (fun r32 σ33 => if (σ33 113 1) = 0 then some (r32, σ33) else bd (f_X8_error (-1000000006 : Int32) σ33) (fun r36 σ37 => some (r36, σ37)))) else none))
set_option maxRecDepth 100000 in
set_option maxHeartbeats 4000000 in
theorem t_X8_voice_24 {l : Launch} {G : GX} {K : KX} (X : FX G K cX8_voice RX8 (some .int) wsX8_voice 6) {Φ : Int32 → MM → Prop} (hR : Ri G K Φ)  (σ : MM) (hf : Ok Φ (u_X8_voice_24  σ)) : V l G 31 K 6 24 [(0, .ref (G.1 108))] [] σ := by
    unfold u_X8_voice_24 at hf
    refine r_aload_n X dX8_voice_24 0 rfl isr_ref ?_
    refine r_ldc (v := (-1000000001 : Int32)) X (mem_ix 2 rfl) dX8_voice_25 ?_
    refine r_callVi (rest := []) X (c_X8_error l G (-1000000001 : Int32) σ (oks hf)) md_X8_error gX8_voice_X8_error (by decide) rfl rfl (kd_in kc_108 (by decide)) (EE_8 _ kc_108) rfl rfl (Nat.le_of_ble_eq_true rfl) dX8_voice_27 (fun r25 σ26 e27 => ?_)
    replace hf := okn e27 hf
    exact r_iret X rfl hR (ok0 hf) dX8_voice_30
set_option maxRecDepth 100000 in
set_option maxHeartbeats 4000000 in
theorem e_X8_voice {l : Launch} {G : GX} {K : KX} (X : FX G K cX8_voice RX8 (some .int) wsX8_voice 6) {Φ : Int32 → MM → Prop} (hR : Ri G K Φ) (a1 : Int32) (a2 : Int32) (a3 : Int32) (σ : MM) (hf : Ok Φ (f_X8_voice a1 a2 a3 σ)) : V l G 31 K 6 0 [(0, .ref (G.1 108)), (1, .int a1), (2, .int a2), (3, .int a3)] [] σ := by
    unfold f_X8_voice at hf
    refine r_aload_n X dX8_voice_0 0 rfl isr_ref ?_
    refine r_get (i := 108) (v := .ref (G.1 0)) X in_X8_voice_8 rfl 0 (by decide) (kd_in kc_108 (by decide)) (EE_8 _ kc_108) rfl (mem_ix 1 rfl) dX8_voice_1 ?_
    refine r_iload_n X dX8_voice_4 1 rfl ?_
    refine r_callVq (rest := []) X (c_X0_judgeOn l G 0 a1 kc_0 σ (oks hf)) md_X0_judgeOn gX8_voice_X0_judgeOn (by decide) rfl rfl (kd_in kc_0 (by decide)) (EE_0 _ kc_0) rfl rfl (Nat.le_of_ble_eq_true rfl) dX8_voice_5 (fun r20 σ21 e22 => ?_)
    replace hf := okn e22 hf
    rcases r20 with _ | i23
    · replace hf := okz hf
      refine r_astore X dX8_voice_8 (by decide) isr_null (lv' := [(4, .null), (0, .ref (G.1 108)), (1, .int a1), (2, .int a2), (3, .int a3)]) rfl ?_
      refine r_aload X dX8_voice_10 0 rfl isr_null ?_
      refine r_ifnullN (tgt := 24) X dX8_voice_12 (by decide) ?_
      refine r_sub [1] rfl ?_
      exact t_X8_voice_24 X hR σ21 hf
    · replace hf := oky hf
      obtain ⟨hi24, hf⟩ := okp hf
      refine r_astore X dX8_voice_8 (by decide) isr_ref (lv' := [(4, .ref (G.1 i23)), (0, .ref (G.1 108)), (1, .int a1), (2, .int a2), (3, .int a3)]) rfl ?_
      refine r_aload X dX8_voice_10 0 rfl isr_ref ?_
      refine r_ifnull X dX8_voice_12 ?_
      refine r_iload_n X dX8_voice_15 3 rfl ?_
      refine r_iconst X dX8_voice_16 ci_0 ?_
      refine r_iconst X dX8_voice_17 ci_3 ?_
      refine r_callSi (rest := []) X (c_X8_within l G a2 (0 : Int32) (3 : Int32) σ21 (oks hf)) md_X8_within gX8_voice_X8_within (by decide) rfl rfl (Nat.le_of_ble_eq_true rfl) dX8_voice_18 (fun r28 σ29 e30 => ?_)
      replace hf := okn e30 hf
      refine r_if_ne (tgt := 31) X dX8_voice_21 (by decide) (fun h31 => ?_) (fun h31 => ?_)
      · replace hf := okf h31 hf
        refine r_aload_n X dX8_voice_31 1 rfl isr_ref ?_
        refine r_get (i := 108) (v := .ref (G.1 113)) X in_X8_voice_8 rfl 4 (by decide) (kd_in kc_108 (by decide)) (EE_8 _ kc_108) rfl (mem_ix 3 rfl) dX8_voice_32 ?_
        refine r_aload X dX8_voice_35 0 rfl isr_ref ?_
        refine r_iload_n X dX8_voice_37 3 rfl ?_
        refine r_iload_n X dX8_voice_38 4 rfl ?_
        refine r_callVi (rest := []) X (c_X7_sound l G i23 a2 a3 hi24 σ29 (oks hf)) md_X7_sound gX8_voice_X7_sound (by decide) rfl rfl (kd_in kc_113 (by decide)) (EE_7 _ kc_113) rfl rfl (Nat.le_of_ble_eq_true rfl) dX8_voice_39 (fun r32 σ33 e34 => ?_)
        replace hf := okn e34 hf
        refine r_istore X dX8_voice_42 (by decide) (lv' := [(5, .int r32), (4, .ref (G.1 i23)), (0, .ref (G.1 108)), (1, .int a1), (2, .int a2), (3, .int a3)]) rfl ?_
        refine r_aload_n X dX8_voice_44 2 rfl isr_ref ?_
        refine r_get (i := 108) (v := .ref (G.1 113)) X in_X8_voice_8 rfl 4 (by decide) (kd_in kc_108 (by decide)) (EE_8 _ kc_108) rfl (mem_ix 3 rfl) dX8_voice_45 ?_
        refine r_get (i := 113) (v := .int (σ33 113 1)) X in_X8_voice_7 rfl 1 (by decide) (kd_in kc_113 (by decide)) (EE_7 _ kc_113) rfl (mem_ix 4 rfl) dX8_voice_48 ?_
        refine r_if_eq (tgt := 64) X dX8_voice_51 (by decide) (fun h35 => ?_) (fun h35 => ?_)
        · replace hf := okt h35 hf
          refine r_iload X dX8_voice_64 0 rfl ?_
          exact r_iret X rfl hR (ok0 hf) dX8_voice_66
        · replace hf := okf h35 hf
          refine r_aload_n X dX8_voice_54 2 rfl isr_ref ?_
          refine r_ldcw (v := (-1000000006 : Int32)) X (mem_ix 5 rfl) dX8_voice_55 ?_
          refine r_callVi (rest := []) X (c_X8_error l G (-1000000006 : Int32) σ33 (oks hf)) md_X8_error gX8_voice_X8_error (by decide) rfl rfl (kd_in kc_108 (by decide)) (EE_8 _ kc_108) rfl rfl (Nat.le_of_ble_eq_true rfl) dX8_voice_58 (fun r36 σ37 e38 => ?_)
          replace hf := okn e38 hf
          refine r_goto (tgt := 66) X dX8_voice_61 (by decide) ?_
          exact r_iret X rfl hR (ok0 hf) dX8_voice_66
      · replace hf := okt h31 hf
        refine r_sub [1] rfl ?_
        exact t_X8_voice_24 X hR σ29 hf
theorem md_X8_voice : MD yX8_voice wsX8_voice cX8_voice 6 3 (some .int) := ⟨⟨_, rfl⟩, by decide +kernel, by decide +kernel, by decide⟩
theorem c_X8_voice (l : Launch) (G : GX)  (a1 : Int32) (a2 : Int32) (a3 : Int32) (σ : MM) (h : (f_X8_voice a1 a2 a3 σ).isSome = true) : CTi l G yX8_voice wsX8_voice 31 [.ref (G.1 108), .int a1, .int a2, .int a3] σ (f_X8_voice a1 a2 a3 σ) :=
  CTi_of md_X8_voice (Nat.le_of_ble_eq_true rfl) (fun K X hR => e_X8_voice X hR a1 a2 a3 σ (ok_is h))
-- X8_body
theorem in_X8_body_8 : ∀ w ∈ u_ws RX8 TX8 9, w ∈ wsX8_body := fun _ h => List.mem_cons_of_mem _ (List.mem_append_left _ (List.mem_append_right _ h))
theorem in_X8_body_7 : ∀ w ∈ u_ws RX7 TX7 6, w ∈ wsX8_body := fun _ h => List.mem_cons_of_mem _ (List.mem_append_right _ h)
def f_X8_body (a1 : Int32) (σ : MM) : Option (Int32 × MM) :=
  bd (f_X8_within a1 (0 : Int32) ((σ 113 0) - (1 : Int32)) σ) (fun r11 σ12 => if r11 = 0 then bd (f_X8_error (-1000000002 : Int32) σ12) (fun r15 σ16 => some (r15, σ16)) else bd (f_X7_bodyAt a1 σ12) (fun r18 σ19 => some (r18, σ19)))
set_option maxRecDepth 100000 in
set_option maxHeartbeats 4000000 in
theorem e_X8_body {l : Launch} {G : GX} {K : KX} (X : FX G K cX8_body RX8 (some .int) wsX8_body 2) {Φ : Int32 → MM → Prop} (hR : Ri G K Φ) (a1 : Int32) (σ : MM) (hf : Ok Φ (f_X8_body a1 σ)) : V l G 5 K 2 0 [(0, .ref (G.1 108)), (1, .int a1)] [] σ := by
    unfold f_X8_body at hf
    refine r_iload_n X dX8_body_0 1 rfl ?_
    refine r_iconst X dX8_body_1 ci_0 ?_
    refine r_aload_n X dX8_body_2 0 rfl isr_ref ?_
    refine r_get (i := 108) (v := .ref (G.1 113)) X in_X8_body_8 rfl 4 (by decide) (kd_in kc_108 (by decide)) (EE_8 _ kc_108) rfl (mem_ix 1 rfl) dX8_body_3 ?_
    refine r_get (i := 113) (v := .int (σ 113 0)) X in_X8_body_7 rfl 0 (by decide) (kd_in kc_113 (by decide)) (EE_7 _ kc_113) rfl (mem_ix 2 rfl) dX8_body_6 ?_
    refine r_iconst X dX8_body_9 ci_1 ?_
    refine r_isub X dX8_body_10 ?_
    refine r_callSi (rest := []) X (c_X8_within l G a1 (0 : Int32) ((σ 113 0) - (1 : Int32)) σ (oks hf)) md_X8_within gX8_body_X8_within (by decide) rfl rfl (Nat.le_of_ble_eq_true rfl) dX8_body_11 (fun r11 σ12 e13 => ?_)
    replace hf := okn e13 hf
    refine r_if_eq (tgt := 28) X dX8_body_14 (by decide) (fun h14 => ?_) (fun h14 => ?_)
    · replace hf := okt h14 hf
      refine r_aload_n X dX8_body_28 0 rfl isr_ref ?_
      refine r_ldc (v := (-1000000002 : Int32)) X (mem_ix 3 rfl) dX8_body_29 ?_
      refine r_callVi (rest := []) X (c_X8_error l G (-1000000002 : Int32) σ12 (oks hf)) md_X8_error gX8_body_X8_error (by decide) rfl rfl (kd_in kc_108 (by decide)) (EE_8 _ kc_108) rfl rfl (Nat.le_of_ble_eq_true rfl) dX8_body_31 (fun r15 σ16 e17 => ?_)
      replace hf := okn e17 hf
      exact r_iret X rfl hR (ok0 hf) dX8_body_34
    · replace hf := okf h14 hf
      refine r_aload_n X dX8_body_17 0 rfl isr_ref ?_
      refine r_get (i := 108) (v := .ref (G.1 113)) X in_X8_body_8 rfl 4 (by decide) (kd_in kc_108 (by decide)) (EE_8 _ kc_108) rfl (mem_ix 1 rfl) dX8_body_18 ?_
      refine r_iload_n X dX8_body_21 1 rfl ?_
      refine r_callVi (rest := []) X (c_X7_bodyAt l G a1 σ12 (oks hf)) md_X7_bodyAt gX8_body_X7_bodyAt (by decide) rfl rfl (kd_in kc_113 (by decide)) (EE_7 _ kc_113) rfl rfl (Nat.le_of_ble_eq_true rfl) dX8_body_22 (fun r18 σ19 e20 => ?_)
      replace hf := okn e20 hf
      refine r_goto (tgt := 34) X dX8_body_25 (by decide) ?_
      exact r_iret X rfl hR (ok0 hf) dX8_body_34
theorem md_X8_body : MD yX8_body wsX8_body cX8_body 2 1 (some .int) := ⟨⟨_, rfl⟩, by decide +kernel, by decide +kernel, by decide⟩
theorem c_X8_body (l : Launch) (G : GX)  (a1 : Int32) (σ : MM) (h : (f_X8_body a1 σ).isSome = true) : CTi l G yX8_body wsX8_body 5 [.ref (G.1 108), .int a1] σ (f_X8_body a1 σ) :=
  CTi_of md_X8_body (Nat.le_of_ble_eq_true rfl) (fun K X hR => e_X8_body X hR a1 σ (ok_is h))
-- X8_sheet
theorem in_X8_sheet_8 : ∀ w ∈ u_ws RX8 TX8 9, w ∈ wsX8_sheet := fun _ h => List.mem_cons_of_mem _ (List.mem_append_left _ (List.mem_append_right _ h))
theorem in_X8_sheet_5 : ∀ w ∈ u_ws RX5 TX5 3, w ∈ wsX8_sheet := fun _ h => List.mem_cons_of_mem _ (List.mem_append_right _ h)
def u_X8_sheet_34  (σ : MM) : Option (Int32 × MM) :=
  bd (f_X8_error (-1000000001 : Int32) σ) (fun r33 σ34 => some (r33, σ34))
def u_X8_sheet_41 (v2 : Int32) (v3 : Int32) (t4 : Nat) (σ : MM) : Option (Int32 × MM) :=
  if v2 = 0 then bd (f_X5_renew t4 (0 : Int32) (0 : Int32) σ) (fun r49 σ50 => some ((1 : Int32), σ50)) else if 0 ≤ v3 then if v3 ≤ (24 : Int32) then bd (f_X5_renew t4 v2 v3 σ) (fun r40 σ41 => some ((1 : Int32), σ41)) else bd (f_X8_error (-1000000001 : Int32) σ) (fun r43 σ44 => some (r43, σ44)) else bd (f_X8_error (-1000000003 : Int32) σ) (fun r46 σ47 => some (r46, σ47))
def f_X8_sheet (a1 : Int32) (a2 : Int32) (a3 : Int32) (σ : MM) : Option (Int32 × MM) :=
  bd (f_X8_sheetOf a1 σ) (fun r28 σ29 => onO r28 (u_X8_sheet_34 σ29) (fun i31 => if kd i31 = 5 then if a2 = 0 then u_X8_sheet_41 a2 a3 i31 σ29 else if a2 = (8 : Int32) then u_X8_sheet_41 a2 a3 i31 σ29 else if a2 = (16 : Int32) then u_X8_sheet_41 a2 a3 i31 σ29 else if a2 = (32 : Int32) then u_X8_sheet_41 a2 a3 i31 σ29 else u_X8_sheet_34 σ29 else none))
set_option maxRecDepth 100000 in
set_option maxHeartbeats 4000000 in
theorem t_X8_sheet_34 {l : Launch} {G : GX} {K : KX} (X : FX G K cX8_sheet RX8 (some .int) wsX8_sheet 5) {Φ : Int32 → MM → Prop} (hR : Ri G K Φ)  (σ : MM) (hf : Ok Φ (u_X8_sheet_34  σ)) : V l G 5 K 5 34 [(0, .ref (G.1 108))] [] σ := by
    unfold u_X8_sheet_34 at hf
    refine r_aload_n X dX8_sheet_34 0 rfl isr_ref ?_
    refine r_ldc (v := (-1000000001 : Int32)) X (mem_ix 1 rfl) dX8_sheet_35 ?_
    refine r_callVi (rest := []) X (c_X8_error l G (-1000000001 : Int32) σ (oks hf)) md_X8_error gX8_sheet_X8_error (by decide) rfl rfl (kd_in kc_108 (by decide)) (EE_8 _ kc_108) rfl rfl (Nat.le_of_ble_eq_true rfl) dX8_sheet_37 (fun r33 σ34 e35 => ?_)
    replace hf := okn e35 hf
    exact r_iret X rfl hR (ok0 hf) dX8_sheet_40
set_option maxRecDepth 100000 in
set_option maxHeartbeats 4000000 in
theorem t_X8_sheet_41 {l : Launch} {G : GX} {K : KX} (X : FX G K cX8_sheet RX8 (some .int) wsX8_sheet 5) {Φ : Int32 → MM → Prop} (hR : Ri G K Φ) (v2 : Int32) (v3 : Int32) (t4 : Nat) (hk4 : kd t4 = 5) (σ : MM) (hf : Ok Φ (u_X8_sheet_41 v2 v3 t4 σ)) : V l G 5 K 5 41 [(0, .ref (G.1 108)), (2, .int v2), (3, .int v3), (4, .ref (G.1 t4))] [] σ := by
    unfold u_X8_sheet_41 at hf
    refine r_iload_n X dX8_sheet_41 1 rfl ?_
    refine r_if_ne (tgt := 54) X dX8_sheet_42 (by decide) (fun h37 => ?_) (fun h37 => ?_)
    · replace hf := okf h37 hf
      refine r_iload_n X dX8_sheet_54 2 rfl ?_
      refine r_if_ge (tgt := 65) X dX8_sheet_55 (by decide) (fun h38 => ?_) (fun h38 => ?_)
      · replace hf := okt h38 hf
        refine r_iload_n X dX8_sheet_65 2 rfl ?_
        refine r_bipush X dX8_sheet_66 cb_24 ?_
        refine r_icmp_le (tgt := 78) X dX8_sheet_68 (by decide) (fun h39 => ?_) (fun h39 => ?_)
        · replace hf := okt h39 hf
          refine r_aload X dX8_sheet_78 3 rfl isr_ref ?_
          refine r_iload_n X dX8_sheet_80 1 rfl ?_
          refine r_iload_n X dX8_sheet_81 2 rfl ?_
          refine r_callVv (rest := []) X (c_X5_renew l G t4 v2 v3 hk4 σ (oks hf)) md_X5_renew gX8_sheet_X5_renew (by decide) rfl rfl (kd_in hk4 (by decide)) (EE_5 _ hk4) rfl rfl (Nat.le_of_ble_eq_true rfl) dX8_sheet_82 (fun r40 σ41 e42 => ?_)
          replace hf := okn e42 hf
          refine r_iconst X dX8_sheet_85 ci_1 ?_
          exact r_iret X rfl hR (ok0 hf) dX8_sheet_86
        · replace hf := okf h39 hf
          refine r_aload_n X dX8_sheet_71 0 rfl isr_ref ?_
          refine r_ldc (v := (-1000000001 : Int32)) X (mem_ix 1 rfl) dX8_sheet_72 ?_
          refine r_callVi (rest := []) X (c_X8_error l G (-1000000001 : Int32) σ (oks hf)) md_X8_error gX8_sheet_X8_error (by decide) rfl rfl (kd_in kc_108 (by decide)) (EE_8 _ kc_108) rfl rfl (Nat.le_of_ble_eq_true rfl) dX8_sheet_74 (fun r43 σ44 e45 => ?_)
          replace hf := okn e45 hf
          exact r_iret X rfl hR (ok0 hf) dX8_sheet_77
      · replace hf := okf h38 hf
        refine r_aload_n X dX8_sheet_58 0 rfl isr_ref ?_
        refine r_ldc (v := (-1000000003 : Int32)) X (mem_ix 2 rfl) dX8_sheet_59 ?_
        refine r_callVi (rest := []) X (c_X8_error l G (-1000000003 : Int32) σ (oks hf)) md_X8_error gX8_sheet_X8_error (by decide) rfl rfl (kd_in kc_108 (by decide)) (EE_8 _ kc_108) rfl rfl (Nat.le_of_ble_eq_true rfl) dX8_sheet_61 (fun r46 σ47 e48 => ?_)
        replace hf := okn e48 hf
        exact r_iret X rfl hR (ok0 hf) dX8_sheet_64
    · replace hf := okt h37 hf
      refine r_aload X dX8_sheet_45 3 rfl isr_ref ?_
      refine r_iconst X dX8_sheet_47 ci_0 ?_
      refine r_iconst X dX8_sheet_48 ci_0 ?_
      refine r_callVv (rest := []) X (c_X5_renew l G t4 (0 : Int32) (0 : Int32) hk4 σ (oks hf)) md_X5_renew gX8_sheet_X5_renew (by decide) rfl rfl (kd_in hk4 (by decide)) (EE_5 _ hk4) rfl rfl (Nat.le_of_ble_eq_true rfl) dX8_sheet_49 (fun r49 σ50 e51 => ?_)
      replace hf := okn e51 hf
      refine r_iconst X dX8_sheet_52 ci_1 ?_
      exact r_iret X rfl hR (ok0 hf) dX8_sheet_53
set_option maxRecDepth 100000 in
set_option maxHeartbeats 4000000 in
theorem e_X8_sheet {l : Launch} {G : GX} {K : KX} (X : FX G K cX8_sheet RX8 (some .int) wsX8_sheet 5) {Φ : Int32 → MM → Prop} (hR : Ri G K Φ) (a1 : Int32) (a2 : Int32) (a3 : Int32) (σ : MM) (hf : Ok Φ (f_X8_sheet a1 a2 a3 σ)) : V l G 5 K 5 0 [(0, .ref (G.1 108)), (1, .int a1), (2, .int a2), (3, .int a3)] [] σ := by
    unfold f_X8_sheet at hf
    refine r_aload_n X dX8_sheet_0 0 rfl isr_ref ?_
    refine r_iload_n X dX8_sheet_1 1 rfl ?_
    refine r_callVq (rest := []) X (c_X8_sheetOf l G a1 σ (oks hf)) md_X8_sheetOf gX8_sheet_X8_sheetOf (by decide) rfl rfl (kd_in kc_108 (by decide)) (EE_8 _ kc_108) rfl rfl (Nat.le_of_ble_eq_true rfl) dX8_sheet_2 (fun r28 σ29 e30 => ?_)
    replace hf := okn e30 hf
    rcases r28 with _ | i31
    · replace hf := okz hf
      refine r_astore X dX8_sheet_5 (by decide) isr_null (lv' := [(4, .null), (0, .ref (G.1 108)), (1, .int a1), (2, .int a2), (3, .int a3)]) rfl ?_
      refine r_aload X dX8_sheet_7 0 rfl isr_null ?_
      refine r_ifnullN (tgt := 34) X dX8_sheet_9 (by decide) ?_
      refine r_sub [1] rfl ?_
      exact t_X8_sheet_34 X hR σ29 hf
    · replace hf := oky hf
      obtain ⟨hi32, hf⟩ := okp hf
      refine r_astore X dX8_sheet_5 (by decide) isr_ref (lv' := [(4, .ref (G.1 i31)), (0, .ref (G.1 108)), (1, .int a1), (2, .int a2), (3, .int a3)]) rfl ?_
      refine r_aload X dX8_sheet_7 0 rfl isr_ref ?_
      refine r_ifnull X dX8_sheet_9 ?_
      refine r_iload_n X dX8_sheet_12 3 rfl ?_
      refine r_if_eq (tgt := 41) X dX8_sheet_13 (by decide) (fun h36 => ?_) (fun h36 => ?_)
      · replace hf := okt h36 hf
        refine r_sub [1, 3, 4, 0] rfl ?_
        exact t_X8_sheet_41 X hR a2 a3 i31 hi32 σ29 hf
      · replace hf := okf h36 hf
        refine r_iload_n X dX8_sheet_16 3 rfl ?_
        refine r_bipush X dX8_sheet_17 cb_8 ?_
        refine r_icmp_eq (tgt := 41) X dX8_sheet_19 (by decide) (fun h52 => ?_) (fun h52 => ?_)
        · replace hf := okt h52 hf
          refine r_sub [1, 3, 4, 0] rfl ?_
          exact t_X8_sheet_41 X hR a2 a3 i31 hi32 σ29 hf
        · replace hf := okf h52 hf
          refine r_iload_n X dX8_sheet_22 3 rfl ?_
          refine r_bipush X dX8_sheet_23 cb_16 ?_
          refine r_icmp_eq (tgt := 41) X dX8_sheet_25 (by decide) (fun h53 => ?_) (fun h53 => ?_)
          · replace hf := okt h53 hf
            refine r_sub [1, 3, 4, 0] rfl ?_
            exact t_X8_sheet_41 X hR a2 a3 i31 hi32 σ29 hf
          · replace hf := okf h53 hf
            refine r_iload_n X dX8_sheet_28 3 rfl ?_
            refine r_bipush X dX8_sheet_29 cb_32 ?_
            refine r_icmp_eq (tgt := 41) X dX8_sheet_31 (by decide) (fun h54 => ?_) (fun h54 => ?_)
            · replace hf := okt h54 hf
              refine r_sub [1, 3, 4, 0] rfl ?_
              exact t_X8_sheet_41 X hR a2 a3 i31 hi32 σ29 hf
            · replace hf := okf h54 hf
              refine r_sub [1] rfl ?_
              exact t_X8_sheet_34 X hR σ29 hf
theorem md_X8_sheet : MD yX8_sheet wsX8_sheet cX8_sheet 5 3 (some .int) := ⟨⟨_, rfl⟩, by decide +kernel, by decide +kernel, by decide⟩
theorem c_X8_sheet (l : Launch) (G : GX)  (a1 : Int32) (a2 : Int32) (a3 : Int32) (σ : MM) (h : (f_X8_sheet a1 a2 a3 σ).isSome = true) : CTi l G yX8_sheet wsX8_sheet 5 [.ref (G.1 108), .int a1, .int a2, .int a3] σ (f_X8_sheet a1 a2 a3 σ) :=
  CTi_of md_X8_sheet (Nat.le_of_ble_eq_true rfl) (fun K X hR => e_X8_sheet X hR a1 a2 a3 σ (ok_is h))
-- X8_put
theorem in_X8_put_5 : ∀ w ∈ u_ws RX5 TX5 3, w ∈ wsX8_put := fun _ h => List.mem_cons_of_mem _ (List.mem_append_left _ (List.mem_append_right _ h))
theorem in_X8_put_8 : ∀ w ∈ u_ws RX8 TX8 9, w ∈ wsX8_put := fun _ h => List.mem_cons_of_mem _ (List.mem_append_right _ h)
def f_X8_put (a1 : Int32) (a2 : Int32) (a3 : Int32) (σ : MM) : Option (Int32 × MM) :=
  bd (f_X8_sheetOf a1 σ) (fun r26 σ27 => onO r26 (bd (f_X8_error (-1000000001 : Int32) σ27) (fun r31 σ32 => some (r31, σ32))) (fun i29 => if kd i29 = 5 then bd (f_X5_isMissing i29 σ27) (fun r34 σ35 => if r34 = 0 then bd (f_X8_within a2 (0 : Int32) ((σ35 i29 2) - (1 : Int32)) σ35) (fun r38 σ39 => if r38 = 0 then bd (f_X8_error (-1000000001 : Int32) σ39) (fun r45 σ46 => some (r45, σ46)) else bd (f_X5_set i29 a2 a3 σ39) (fun r42 σ43 => some ((1 : Int32), σ43))) else bd (f_X8_error (-1000000002 : Int32) σ35) (fun r48 σ49 => some (r48, σ49))) else none))
set_option maxRecDepth 100000 in
set_option maxHeartbeats 4000000 in
theorem e_X8_put {l : Launch} {G : GX} {K : KX} (X : FX G K cX8_put RX8 (some .int) wsX8_put 5) {Φ : Int32 → MM → Prop} (hR : Ri G K Φ) (a1 : Int32) (a2 : Int32) (a3 : Int32) (σ : MM) (hf : Ok Φ (f_X8_put a1 a2 a3 σ)) : V l G 5 K 5 0 [(0, .ref (G.1 108)), (1, .int a1), (2, .int a2), (3, .int a3)] [] σ := by
    unfold f_X8_put at hf
    refine r_aload_n X dX8_put_0 0 rfl isr_ref ?_
    refine r_iload_n X dX8_put_1 1 rfl ?_
    refine r_callVq (rest := []) X (c_X8_sheetOf l G a1 σ (oks hf)) md_X8_sheetOf gX8_put_X8_sheetOf (by decide) rfl rfl (kd_in kc_108 (by decide)) (EE_8 _ kc_108) rfl rfl (Nat.le_of_ble_eq_true rfl) dX8_put_2 (fun r26 σ27 e28 => ?_)
    replace hf := okn e28 hf
    rcases r26 with _ | i29
    · replace hf := okz hf
      refine r_astore X dX8_put_5 (by decide) isr_null (lv' := [(4, .null), (0, .ref (G.1 108)), (1, .int a1), (2, .int a2), (3, .int a3)]) rfl ?_
      refine r_aload X dX8_put_7 0 rfl isr_null ?_
      refine r_ifnonnullN X dX8_put_9 ?_
      refine r_aload_n X dX8_put_12 1 rfl isr_ref ?_
      refine r_ldc (v := (-1000000001 : Int32)) X (mem_ix 1 rfl) dX8_put_13 ?_
      refine r_callVi (rest := []) X (c_X8_error l G (-1000000001 : Int32) σ27 (oks hf)) md_X8_error gX8_put_X8_error (by decide) rfl rfl (kd_in kc_108 (by decide)) (EE_8 _ kc_108) rfl rfl (Nat.le_of_ble_eq_true rfl) dX8_put_15 (fun r31 σ32 e33 => ?_)
      replace hf := okn e33 hf
      exact r_iret X rfl hR (ok0 hf) dX8_put_18
    · replace hf := oky hf
      obtain ⟨hi30, hf⟩ := okp hf
      refine r_astore X dX8_put_5 (by decide) isr_ref (lv' := [(4, .ref (G.1 i29)), (0, .ref (G.1 108)), (1, .int a1), (2, .int a2), (3, .int a3)]) rfl ?_
      refine r_aload X dX8_put_7 0 rfl isr_ref ?_
      refine r_ifnonnull (tgt := 19) X dX8_put_9 (by decide) ?_
      refine r_aload X dX8_put_19 0 rfl isr_ref ?_
      refine r_callVi (rest := []) X (c_X5_isMissing l G i29 hi30 σ27 (oks hf)) md_X5_isMissing gX8_put_X5_isMissing (by decide) rfl rfl (kd_in hi30 (by decide)) (EE_5 _ hi30) rfl rfl (Nat.le_of_ble_eq_true rfl) dX8_put_21 (fun r34 σ35 e36 => ?_)
      replace hf := okn e36 hf
      refine r_if_eq (tgt := 34) X dX8_put_24 (by decide) (fun h37 => ?_) (fun h37 => ?_)
      · replace hf := okt h37 hf
        refine r_iload_n X dX8_put_34 3 rfl ?_
        refine r_iconst X dX8_put_35 ci_0 ?_
        refine r_aload X dX8_put_36 0 rfl isr_ref ?_
        refine r_get (i := i29) (v := .int (σ35 i29 2)) X in_X8_put_5 rfl 2 (by decide) (kd_in hi30 (by decide)) (EE_5 _ hi30) rfl (mem_ix 3 rfl) dX8_put_38 ?_
        refine r_iconst X dX8_put_41 ci_1 ?_
        refine r_isub X dX8_put_42 ?_
        refine r_callSi (rest := []) X (c_X8_within l G a2 (0 : Int32) ((σ35 i29 2) - (1 : Int32)) σ35 (oks hf)) md_X8_within gX8_put_X8_within (by decide) rfl rfl (Nat.le_of_ble_eq_true rfl) dX8_put_43 (fun r38 σ39 e40 => ?_)
        replace hf := okn e40 hf
        refine r_if_ne (tgt := 56) X dX8_put_46 (by decide) (fun h41 => ?_) (fun h41 => ?_)
        · replace hf := okf h41 hf
          refine r_aload X dX8_put_56 0 rfl isr_ref ?_
          refine r_iload_n X dX8_put_58 3 rfl ?_
          refine r_iload_n X dX8_put_59 4 rfl ?_
          refine r_callVv (rest := []) X (c_X5_set l G i29 a2 a3 hi30 σ39 (oks hf)) md_X5_set gX8_put_X5_set (by decide) rfl rfl (kd_in hi30 (by decide)) (EE_5 _ hi30) rfl rfl (Nat.le_of_ble_eq_true rfl) dX8_put_60 (fun r42 σ43 e44 => ?_)
          replace hf := okn e44 hf
          refine r_iconst X dX8_put_63 ci_1 ?_
          exact r_iret X rfl hR (ok0 hf) dX8_put_64
        · replace hf := okt h41 hf
          refine r_aload_n X dX8_put_49 1 rfl isr_ref ?_
          refine r_ldc (v := (-1000000001 : Int32)) X (mem_ix 1 rfl) dX8_put_50 ?_
          refine r_callVi (rest := []) X (c_X8_error l G (-1000000001 : Int32) σ39 (oks hf)) md_X8_error gX8_put_X8_error (by decide) rfl rfl (kd_in kc_108 (by decide)) (EE_8 _ kc_108) rfl rfl (Nat.le_of_ble_eq_true rfl) dX8_put_52 (fun r45 σ46 e47 => ?_)
          replace hf := okn e47 hf
          exact r_iret X rfl hR (ok0 hf) dX8_put_55
      · replace hf := okf h37 hf
        refine r_aload_n X dX8_put_27 1 rfl isr_ref ?_
        refine r_ldc (v := (-1000000002 : Int32)) X (mem_ix 2 rfl) dX8_put_28 ?_
        refine r_callVi (rest := []) X (c_X8_error l G (-1000000002 : Int32) σ35 (oks hf)) md_X8_error gX8_put_X8_error (by decide) rfl rfl (kd_in kc_108 (by decide)) (EE_8 _ kc_108) rfl rfl (Nat.le_of_ble_eq_true rfl) dX8_put_30 (fun r48 σ49 e50 => ?_)
        replace hf := okn e50 hf
        exact r_iret X rfl hR (ok0 hf) dX8_put_33
theorem md_X8_put : MD yX8_put wsX8_put cX8_put 5 3 (some .int) := ⟨⟨_, rfl⟩, by decide +kernel, by decide +kernel, by decide⟩
theorem c_X8_put (l : Launch) (G : GX)  (a1 : Int32) (a2 : Int32) (a3 : Int32) (σ : MM) (h : (f_X8_put a1 a2 a3 σ).isSome = true) : CTi l G yX8_put wsX8_put 5 [.ref (G.1 108), .int a1, .int a2, .int a3] σ (f_X8_put a1 a2 a3 σ) :=
  CTi_of md_X8_put (Nat.le_of_ble_eq_true rfl) (fun K X hR => e_X8_put X hR a1 a2 a3 σ (ok_is h))
-- X8_move
theorem in_X8_move_5 : ∀ w ∈ u_ws RX5 TX5 3, w ∈ wsX8_move := fun _ h => List.mem_cons_of_mem _ (List.mem_append_left _ (List.mem_append_right _ h))
theorem in_X8_move_8 : ∀ w ∈ u_ws RX8 TX8 9, w ∈ wsX8_move := fun _ h => List.mem_cons_of_mem _ (List.mem_append_right _ h)
def u_X8_move_24  (σ : MM) : Option (Int32 × MM) :=
  bd (f_X8_error (-1000000001 : Int32) σ) (fun r62 σ63 => some (r62, σ63))
def u_X8_move_47  (σ : MM) : Option (Int32 × MM) :=
  bd (f_X8_error (-1000000002 : Int32) σ) (fun r74 σ75 => some (r74, σ75))
def u_X8_move_97  (σ : MM) : Option (Int32 × MM) :=
  bd (f_X8_error (-1000000001 : Int32) σ) (fun r86 σ87 => some (r86, σ87))
def f_X8_move (a1 : Int32) (a2 : Int32) (a3 : Int32) (a4 : Int32) (a5 : Int32) (σ : MM) : Option (Int32 × MM) :=
  bd (f_X8_sheetOf a1 σ) (fun r52 σ53 => onO r52 (bd (f_X8_sheetOf a3 σ53) (fun r57 σ58 => onO r57 (u_X8_move_24 σ58) (fun i60 => if kd i60 = 5 then u_X8_move_24 σ58 else none))) (fun i55 => if kd i55 = 5 then bd (f_X8_sheetOf a3 σ53) (fun r65 σ66 => onO r65 (u_X8_move_24 σ66) (fun i68 => if kd i68 = 5 then bd (f_X5_isMissing i55 σ66) (fun r70 σ71 => if r70 = 0 then bd (f_X5_isMissing i68 σ71) (fun r77 σ78 => if r77 = 0 then if (σ78 i55 1) = (σ78 i68 1) then bd (f_X5_holds i55 a2 a5 σ78) (fun r82 σ83 => if r82 = 0 then u_X8_move_97 σ83 else bd (f_X5_holds i68 a4 a5 σ83) (fun r89 σ90 => if r89 = 0 then u_X8_move_97 σ90 else if a2 < 0 then none else if a4 < 0 then none else if a5 < 0 then none else if 24 < a2.toNatClampNeg + a5.toNatClampNeg then none else if 24 < a4.toNatClampNeg + a5.toNatClampNeg then none else lt (ma σ90 (i68 + 4) (va_cpy (σ90 (i55 + 4)) (σ90 (i68 + 4)) (a2.toNatClampNeg) (a4.toNatClampNeg) (a5.toNatClampNeg))) (fun σ98 => some (a5, σ98)))) else bd (f_X8_error (-1000000005 : Int32) σ78) (fun r100 σ101 => some (r100, σ101)) else u_X8_move_47 σ78) else u_X8_move_47 σ71) else none)) else none))
set_option maxRecDepth 100000 in
set_option maxHeartbeats 4000000 in
theorem t_X8_move_24 {l : Launch} {G : GX} {K : KX} (X : FX G K cX8_move RX8 (some .int) wsX8_move 8) {Φ : Int32 → MM → Prop} (hR : Ri G K Φ)  (σ : MM) (hf : Ok Φ (u_X8_move_24  σ)) : V l G 5 K 8 24 [(0, .ref (G.1 108))] [] σ := by
    unfold u_X8_move_24 at hf
    refine r_aload_n X dX8_move_24 0 rfl isr_ref ?_
    refine r_ldc (v := (-1000000001 : Int32)) X (mem_ix 1 rfl) dX8_move_25 ?_
    refine r_callVi (rest := []) X (c_X8_error l G (-1000000001 : Int32) σ (oks hf)) md_X8_error gX8_move_X8_error (by decide) rfl rfl (kd_in kc_108 (by decide)) (EE_8 _ kc_108) rfl rfl (Nat.le_of_ble_eq_true rfl) dX8_move_27 (fun r62 σ63 e64 => ?_)
    replace hf := okn e64 hf
    exact r_iret X rfl hR (ok0 hf) dX8_move_30
set_option maxRecDepth 100000 in
set_option maxHeartbeats 4000000 in
theorem t_X8_move_47 {l : Launch} {G : GX} {K : KX} (X : FX G K cX8_move RX8 (some .int) wsX8_move 8) {Φ : Int32 → MM → Prop} (hR : Ri G K Φ)  (σ : MM) (hf : Ok Φ (u_X8_move_47  σ)) : V l G 5 K 8 47 [(0, .ref (G.1 108))] [] σ := by
    unfold u_X8_move_47 at hf
    refine r_aload_n X dX8_move_47 0 rfl isr_ref ?_
    refine r_ldc (v := (-1000000002 : Int32)) X (mem_ix 2 rfl) dX8_move_48 ?_
    refine r_callVi (rest := []) X (c_X8_error l G (-1000000002 : Int32) σ (oks hf)) md_X8_error gX8_move_X8_error (by decide) rfl rfl (kd_in kc_108 (by decide)) (EE_8 _ kc_108) rfl rfl (Nat.le_of_ble_eq_true rfl) dX8_move_50 (fun r74 σ75 e76 => ?_)
    replace hf := okn e76 hf
    exact r_iret X rfl hR (ok0 hf) dX8_move_53
set_option maxRecDepth 100000 in
set_option maxHeartbeats 4000000 in
theorem t_X8_move_97 {l : Launch} {G : GX} {K : KX} (X : FX G K cX8_move RX8 (some .int) wsX8_move 8) {Φ : Int32 → MM → Prop} (hR : Ri G K Φ)  (σ : MM) (hf : Ok Φ (u_X8_move_97  σ)) : V l G 5 K 8 97 [(0, .ref (G.1 108))] [] σ := by
    unfold u_X8_move_97 at hf
    refine r_aload_n X dX8_move_97 0 rfl isr_ref ?_
    refine r_ldc (v := (-1000000001 : Int32)) X (mem_ix 1 rfl) dX8_move_98 ?_
    refine r_callVi (rest := []) X (c_X8_error l G (-1000000001 : Int32) σ (oks hf)) md_X8_error gX8_move_X8_error (by decide) rfl rfl (kd_in kc_108 (by decide)) (EE_8 _ kc_108) rfl rfl (Nat.le_of_ble_eq_true rfl) dX8_move_100 (fun r86 σ87 e88 => ?_)
    replace hf := okn e88 hf
    exact r_iret X rfl hR (ok0 hf) dX8_move_103
set_option maxRecDepth 100000 in
set_option maxHeartbeats 4000000 in
theorem e_X8_move {l : Launch} {G : GX} {K : KX} (X : FX G K cX8_move RX8 (some .int) wsX8_move 8) {Φ : Int32 → MM → Prop} (hR : Ri G K Φ) (a1 : Int32) (a2 : Int32) (a3 : Int32) (a4 : Int32) (a5 : Int32) (σ : MM) (hf : Ok Φ (f_X8_move a1 a2 a3 a4 a5 σ)) : V l G 5 K 8 0 [(0, .ref (G.1 108)), (1, .int a1), (2, .int a2), (3, .int a3), (4, .int a4), (5, .int a5)] [] σ := by
    unfold f_X8_move at hf
    refine r_aload_n X dX8_move_0 0 rfl isr_ref ?_
    refine r_iload_n X dX8_move_1 1 rfl ?_
    refine r_callVq (rest := []) X (c_X8_sheetOf l G a1 σ (oks hf)) md_X8_sheetOf gX8_move_X8_sheetOf (by decide) rfl rfl (kd_in kc_108 (by decide)) (EE_8 _ kc_108) rfl rfl (Nat.le_of_ble_eq_true rfl) dX8_move_2 (fun r52 σ53 e54 => ?_)
    replace hf := okn e54 hf
    rcases r52 with _ | i55
    · replace hf := okz hf
      refine r_astore X dX8_move_5 (by decide) isr_null (lv' := [(6, .null), (0, .ref (G.1 108)), (1, .int a1), (2, .int a2), (3, .int a3), (4, .int a4), (5, .int a5)]) rfl ?_
      refine r_aload_n X dX8_move_7 1 rfl isr_ref ?_
      refine r_iload_n X dX8_move_8 4 rfl ?_
      refine r_callVq (rest := []) X (c_X8_sheetOf l G a3 σ53 (oks hf)) md_X8_sheetOf gX8_move_X8_sheetOf (by decide) rfl rfl (kd_in kc_108 (by decide)) (EE_8 _ kc_108) rfl rfl (Nat.le_of_ble_eq_true rfl) dX8_move_9 (fun r57 σ58 e59 => ?_)
      replace hf := okn e59 hf
      rcases r57 with _ | i60
      · replace hf := okz hf
        refine r_astore X dX8_move_12 (by decide) isr_null (lv' := [(7, .null), (6, .null), (0, .ref (G.1 108)), (1, .int a1), (2, .int a2), (3, .int a3), (4, .int a4), (5, .int a5)]) rfl ?_
        refine r_aload X dX8_move_14 1 rfl isr_null ?_
        refine r_ifnullN (tgt := 24) X dX8_move_16 (by decide) ?_
        refine r_sub [2] rfl ?_
        exact t_X8_move_24 X hR σ58 hf
      · replace hf := oky hf
        obtain ⟨hi61, hf⟩ := okp hf
        refine r_astore X dX8_move_12 (by decide) isr_ref (lv' := [(7, .ref (G.1 i60)), (6, .null), (0, .ref (G.1 108)), (1, .int a1), (2, .int a2), (3, .int a3), (4, .int a4), (5, .int a5)]) rfl ?_
        refine r_aload X dX8_move_14 1 rfl isr_null ?_
        refine r_ifnullN (tgt := 24) X dX8_move_16 (by decide) ?_
        refine r_sub [2] rfl ?_
        exact t_X8_move_24 X hR σ58 hf
    · replace hf := oky hf
      obtain ⟨hi56, hf⟩ := okp hf
      refine r_astore X dX8_move_5 (by decide) isr_ref (lv' := [(6, .ref (G.1 i55)), (0, .ref (G.1 108)), (1, .int a1), (2, .int a2), (3, .int a3), (4, .int a4), (5, .int a5)]) rfl ?_
      refine r_aload_n X dX8_move_7 1 rfl isr_ref ?_
      refine r_iload_n X dX8_move_8 4 rfl ?_
      refine r_callVq (rest := []) X (c_X8_sheetOf l G a3 σ53 (oks hf)) md_X8_sheetOf gX8_move_X8_sheetOf (by decide) rfl rfl (kd_in kc_108 (by decide)) (EE_8 _ kc_108) rfl rfl (Nat.le_of_ble_eq_true rfl) dX8_move_9 (fun r65 σ66 e67 => ?_)
      replace hf := okn e67 hf
      rcases r65 with _ | i68
      · replace hf := okz hf
        refine r_astore X dX8_move_12 (by decide) isr_null (lv' := [(7, .null), (6, .ref (G.1 i55)), (0, .ref (G.1 108)), (1, .int a1), (2, .int a2), (3, .int a3), (4, .int a4), (5, .int a5)]) rfl ?_
        refine r_aload X dX8_move_14 1 rfl isr_ref ?_
        refine r_ifnull X dX8_move_16 ?_
        refine r_aload X dX8_move_19 0 rfl isr_null ?_
        refine r_ifnonnullN X dX8_move_21 ?_
        refine r_sub [2] rfl ?_
        exact t_X8_move_24 X hR σ66 hf
      · replace hf := oky hf
        obtain ⟨hi69, hf⟩ := okp hf
        refine r_astore X dX8_move_12 (by decide) isr_ref (lv' := [(7, .ref (G.1 i68)), (6, .ref (G.1 i55)), (0, .ref (G.1 108)), (1, .int a1), (2, .int a2), (3, .int a3), (4, .int a4), (5, .int a5)]) rfl ?_
        refine r_aload X dX8_move_14 1 rfl isr_ref ?_
        refine r_ifnull X dX8_move_16 ?_
        refine r_aload X dX8_move_19 0 rfl isr_ref ?_
        refine r_ifnonnull (tgt := 31) X dX8_move_21 (by decide) ?_
        refine r_aload X dX8_move_31 1 rfl isr_ref ?_
        refine r_callVi (rest := []) X (c_X5_isMissing l G i55 hi56 σ66 (oks hf)) md_X5_isMissing gX8_move_X5_isMissing (by decide) rfl rfl (kd_in hi56 (by decide)) (EE_5 _ hi56) rfl rfl (Nat.le_of_ble_eq_true rfl) dX8_move_33 (fun r70 σ71 e72 => ?_)
        replace hf := okn e72 hf
        refine r_if_ne (tgt := 47) X dX8_move_36 (by decide) (fun h73 => ?_) (fun h73 => ?_)
        · replace hf := okf h73 hf
          refine r_sub [2] rfl ?_
          exact t_X8_move_47 X hR σ71 hf
        · replace hf := okt h73 hf
          refine r_aload X dX8_move_39 0 rfl isr_ref ?_
          refine r_callVi (rest := []) X (c_X5_isMissing l G i68 hi69 σ71 (oks hf)) md_X5_isMissing gX8_move_X5_isMissing (by decide) rfl rfl (kd_in hi69 (by decide)) (EE_5 _ hi69) rfl rfl (Nat.le_of_ble_eq_true rfl) dX8_move_41 (fun r77 σ78 e79 => ?_)
          replace hf := okn e79 hf
          refine r_if_eq (tgt := 54) X dX8_move_44 (by decide) (fun h80 => ?_) (fun h80 => ?_)
          · replace hf := okt h80 hf
            refine r_aload X dX8_move_54 1 rfl isr_ref ?_
            refine r_get (i := i55) (v := .int (σ78 i55 1)) X in_X8_move_5 rfl 1 (by decide) (kd_in hi56 (by decide)) (EE_5 _ hi56) rfl (mem_ix 3 rfl) dX8_move_56 ?_
            refine r_aload X dX8_move_59 0 rfl isr_ref ?_
            refine r_get (i := i68) (v := .int (σ78 i68 1)) X in_X8_move_5 rfl 1 (by decide) (kd_in hi69 (by decide)) (EE_5 _ hi69) rfl (mem_ix 3 rfl) dX8_move_61 ?_
            refine r_icmp_eq (tgt := 74) X dX8_move_64 (by decide) (fun h81 => ?_) (fun h81 => ?_)
            · replace hf := okt h81 hf
              refine r_aload X dX8_move_74 1 rfl isr_ref ?_
              refine r_iload_n X dX8_move_76 4 rfl ?_
              refine r_iload X dX8_move_77 7 rfl ?_
              refine r_callVi (rest := []) X (c_X5_holds l G i55 a2 a5 hi56 σ78 (oks hf)) md_X5_holds gX8_move_X5_holds (by decide) rfl rfl (kd_in hi56 (by decide)) (EE_5 _ hi56) rfl rfl (Nat.le_of_ble_eq_true rfl) dX8_move_79 (fun r82 σ83 e84 => ?_)
              replace hf := okn e84 hf
              refine r_if_eq (tgt := 97) X dX8_move_82 (by decide) (fun h85 => ?_) (fun h85 => ?_)
              · replace hf := okt h85 hf
                refine r_sub [2] rfl ?_
                exact t_X8_move_97 X hR σ83 hf
              · replace hf := okf h85 hf
                refine r_aload X dX8_move_85 0 rfl isr_ref ?_
                refine r_iload X dX8_move_87 6 rfl ?_
                refine r_iload X dX8_move_89 7 rfl ?_
                refine r_callVi (rest := []) X (c_X5_holds l G i68 a4 a5 hi69 σ83 (oks hf)) md_X5_holds gX8_move_X5_holds (by decide) rfl rfl (kd_in hi69 (by decide)) (EE_5 _ hi69) rfl rfl (Nat.le_of_ble_eq_true rfl) dX8_move_91 (fun r89 σ90 e91 => ?_)
                replace hf := okn e91 hf
                refine r_if_ne (tgt := 104) X dX8_move_94 (by decide) (fun h92 => ?_) (fun h92 => ?_)
                · replace hf := okf h92 hf
                  refine r_aload X dX8_move_104 1 rfl isr_ref ?_
                  refine r_get (i := i55) (v := .ref (G.1 (i55 + 4))) X in_X8_move_5 rfl 0 (by decide) (kd_in hi56 (by decide)) (EE_5 _ hi56) rfl (mem_ix 5 rfl) dX8_move_106 ?_
                  refine r_iload_n X dX8_move_109 4 rfl ?_
                  refine r_aload X dX8_move_110 0 rfl isr_ref ?_
                  refine r_get (i := i68) (v := .ref (G.1 (i68 + 4))) X in_X8_move_5 rfl 0 (by decide) (kd_in hi69 (by decide)) (EE_5 _ hi69) rfl (mem_ix 5 rfl) dX8_move_112 ?_
                  refine r_iload X dX8_move_115 6 rfl ?_
                  refine r_iload X dX8_move_117 7 rfl ?_
                  obtain ⟨g93, hf⟩ := okg hf
                  obtain ⟨g94, hf⟩ := okg hf
                  obtain ⟨g95, hf⟩ := okg hf
                  obtain ⟨g96, hf⟩ := okg hf
                  obtain ⟨g97, hf⟩ := okg hf
                  obtain ⟨σ98, e99, hf⟩ := okl hf
                  refine r_copy (i := (i55 + 4)) (i2 := (i68 + 4)) (spn := a2.toNatClampNeg) (dpn := a4.toNatClampNeg) (nnn := a5.toNatClampNeg) X (mem_ix 6 rfl) (mem_ix 7 rfl) (mem_ix 8 rfl) (mem_ix 9 rfl) (kd_in (kf_5_4 hi56) (by decide)) (kd_in (kf_5_4 hi69) (by decide)) (EE_21 _ (kf_5_4 hi56)) (fun _ => EE_21 _ (kf_5_4 hi69)) rfl rfl rfl g93 g94 g95 g96 g97 (Nat.le_of_ble_eq_true rfl) (by decide) dX8_move_119 ?_
                  refine r_sg e99 ?_
                  refine r_iload X dX8_move_122 7 rfl ?_
                  exact r_iret X rfl hR (ok0 hf) dX8_move_124
                · replace hf := okt h92 hf
                  refine r_sub [2] rfl ?_
                  exact t_X8_move_97 X hR σ90 hf
            · replace hf := okf h81 hf
              refine r_aload_n X dX8_move_67 2 rfl isr_ref ?_
              refine r_ldc (v := (-1000000005 : Int32)) X (mem_ix 4 rfl) dX8_move_68 ?_
              refine r_callVi (rest := []) X (c_X8_error l G (-1000000005 : Int32) σ78 (oks hf)) md_X8_error gX8_move_X8_error (by decide) rfl rfl (kd_in kc_108 (by decide)) (EE_8 _ kc_108) rfl rfl (Nat.le_of_ble_eq_true rfl) dX8_move_70 (fun r100 σ101 e102 => ?_)
              replace hf := okn e102 hf
              exact r_iret X rfl hR (ok0 hf) dX8_move_73
          · replace hf := okf h80 hf
            refine r_sub [2] rfl ?_
            exact t_X8_move_47 X hR σ78 hf
theorem md_X8_move : MD yX8_move wsX8_move cX8_move 8 5 (some .int) := ⟨⟨_, rfl⟩, by decide +kernel, by decide +kernel, by decide⟩
theorem c_X8_move (l : Launch) (G : GX)  (a1 : Int32) (a2 : Int32) (a3 : Int32) (a4 : Int32) (a5 : Int32) (σ : MM) (h : (f_X8_move a1 a2 a3 a4 a5 σ).isSome = true) : CTi l G yX8_move wsX8_move 5 [.ref (G.1 108), .int a1, .int a2, .int a3, .int a4, .int a5] σ (f_X8_move a1 a2 a3 a4 a5 σ) :=
  CTi_of md_X8_move (Nat.le_of_ble_eq_true rfl) (fun K X hR => e_X8_move X hR a1 a2 a3 a4 a5 σ (ok_is h))
-- X8_carries
theorem in_X8_carries_5 : ∀ w ∈ u_ws RX5 TX5 3, w ∈ wsX8_carries := fun _ h => List.mem_cons_of_mem _ (List.mem_append_left _ (List.mem_append_left _ (List.mem_append_left _ (List.mem_append_right _ h))))
theorem in_X8_carries_8 : ∀ w ∈ u_ws RX8 TX8 9, w ∈ wsX8_carries := fun _ h => List.mem_cons_of_mem _ (List.mem_append_left _ (List.mem_append_left _ (List.mem_append_right _ h)))
theorem in_X8_carries_0 : ∀ w ∈ u_ws RX0 TX0 12, w ∈ wsX8_carries := fun _ h => List.mem_cons_of_mem _ (List.mem_append_left _ (List.mem_append_right _ h))
theorem in_X8_carries_3 : ∀ w ∈ u_ws RX3 TX3 4, w ∈ wsX8_carries := fun _ h => List.mem_cons_of_mem _ (List.mem_append_right _ h)
def u_X8_carries_33 (k33 : Nat → Int32 → MM → Option (Int32 × MM)) (t2 : Nat) (v3 : Int32) (σ : MM) : Option (Int32 × MM) :=
  if (σ t2 2) ≤ v3 then some ((σ t2 2), σ) else bd (f_X0_personOf 0 v3 σ) (fun r47 σ48 => onO r47 (some (v3, σ48)) (fun i50 => if kd i50 = 3 then bd (f_X5_get t2 v3 σ48) (fun r52 σ53 => bd (f_X8_within r52 (0 : Int32) (σ53 0 1) σ53) (fun r55 σ56 => if r55 = 0 then some (v3, σ56) else bd (f_X5_get t2 v3 σ56) (fun r59 σ60 => lt (mu σ60 i50 0 r59) (fun σ62 => k33 t2 (v3 + (1 : Int32)) σ62)))) else none))
def l_X8_carries_33 (t2 : Nat) (v3 : Int32) (σ : MM) : Option (Int32 × MM) :=
  itr (fun _ _ _ => none) (u_X8_carries_33) FU t2 v3 σ
def f_X8_carries (a1 : Int32) (σ : MM) : Option (Int32 × MM) :=
  bd (f_X8_sheetOf a1 σ) (fun r34 σ35 => onO r34 (bd (f_X8_error (-1000000001 : Int32) σ35) (fun r39 σ40 => some (r39, σ40))) (fun i37 => if kd i37 = 5 then bd (f_X5_isMissing i37 σ35) (fun r42 σ43 => if r42 = 0 then l_X8_carries_33 i37 (0 : Int32) σ43 else bd (f_X8_error (-1000000002 : Int32) σ43) (fun r64 σ65 => some (r64, σ65))) else none))
set_option maxRecDepth 100000 in
set_option maxHeartbeats 4000000 in
theorem t_X8_carries_33 {l : Launch} {G : GX} {K : KX} (X : FX G K cX8_carries RX8 (some .int) wsX8_carries 5) {Φ : Int32 → MM → Prop} (hR : Ri G K Φ) (k33 : Nat → Int32 → MM → Option (Int32 × MM)) (hk33c : ∀ (t2 : Nat) (v3 : Int32) (hk2 : kd t2 = 5) (σ : MM), Ok Φ (k33 t2 v3 σ) → V l G 5 K 5 33 [(0, .ref (G.1 108)), (2, .ref (G.1 t2)), (3, .int v3)] [] σ) (t2 : Nat) (v3 : Int32) (hk2 : kd t2 = 5) (σ : MM) (hf : Ok Φ (u_X8_carries_33 k33 t2 v3 σ)) : V l G 5 K 5 33 [(0, .ref (G.1 108)), (2, .ref (G.1 t2)), (3, .int v3)] [] σ := by
    unfold u_X8_carries_33 at hf
    refine r_iload_n X dX8_carries_33 2 rfl ?_
    refine r_aload_n X dX8_carries_34 1 rfl isr_ref ?_
    refine r_get (i := t2) (v := .int (σ t2 2)) X in_X8_carries_5 rfl 2 (by decide) (kd_in hk2 (by decide)) (EE_5 _ hk2) rfl (mem_ix 3 rfl) dX8_carries_35 ?_
    refine r_icmp_ge (tgt := 93) X dX8_carries_38 (by decide) (fun h46 => ?_) (fun h46 => ?_)
    · replace hf := okt h46 hf
      refine r_aload_n X dX8_carries_93 1 rfl isr_ref ?_
      refine r_get (i := t2) (v := .int (σ t2 2)) X in_X8_carries_5 rfl 2 (by decide) (kd_in hk2 (by decide)) (EE_5 _ hk2) rfl (mem_ix 3 rfl) dX8_carries_94 ?_
      exact r_iret X rfl hR (ok0 hf) dX8_carries_97
    · replace hf := okf h46 hf
      refine r_aload_n X dX8_carries_41 0 rfl isr_ref ?_
      refine r_get (i := 108) (v := .ref (G.1 0)) X in_X8_carries_8 rfl 0 (by decide) (kd_in kc_108 (by decide)) (EE_8 _ kc_108) rfl (mem_ix 4 rfl) dX8_carries_42 ?_
      refine r_iload_n X dX8_carries_45 2 rfl ?_
      refine r_callVq (rest := []) X (c_X0_personOf l G 0 v3 kc_0 σ (oks hf)) md_X0_personOf gX8_carries_X0_personOf (by decide) rfl rfl (kd_in kc_0 (by decide)) (EE_0 _ kc_0) rfl rfl (Nat.le_of_ble_eq_true rfl) dX8_carries_46 (fun r47 σ48 e49 => ?_)
      replace hf := okn e49 hf
      rcases r47 with _ | i50
      · replace hf := okz hf
        refine r_astore X dX8_carries_49 (by decide) isr_null (lv' := [(4, .null), (0, .ref (G.1 108)), (2, .ref (G.1 t2)), (3, .int v3)]) rfl ?_
        refine r_aload X dX8_carries_51 0 rfl isr_null ?_
        refine r_ifnullN (tgt := 75) X dX8_carries_53 (by decide) ?_
        refine r_iload_n X dX8_carries_75 3 rfl ?_
        exact r_iret X rfl hR (ok0 hf) dX8_carries_76
      · replace hf := oky hf
        obtain ⟨hi51, hf⟩ := okp hf
        refine r_astore X dX8_carries_49 (by decide) isr_ref (lv' := [(4, .ref (G.1 i50)), (0, .ref (G.1 108)), (2, .ref (G.1 t2)), (3, .int v3)]) rfl ?_
        refine r_aload X dX8_carries_51 0 rfl isr_ref ?_
        refine r_ifnull X dX8_carries_53 ?_
        refine r_aload_n X dX8_carries_56 2 rfl isr_ref ?_
        refine r_iload_n X dX8_carries_57 3 rfl ?_
        refine r_callVi (rest := []) X (c_X5_get l G t2 v3 hk2 σ48 (oks hf)) md_X5_get gX8_carries_X5_get (by decide) rfl rfl (kd_in hk2 (by decide)) (EE_5 _ hk2) rfl rfl (Nat.le_of_ble_eq_true rfl) dX8_carries_58 (fun r52 σ53 e54 => ?_)
        replace hf := okn e54 hf
        refine r_iconst X dX8_carries_61 ci_0 ?_
        refine r_aload_n X dX8_carries_62 1 rfl isr_ref ?_
        refine r_get (i := 108) (v := .ref (G.1 0)) X in_X8_carries_8 rfl 0 (by decide) (kd_in kc_108 (by decide)) (EE_8 _ kc_108) rfl (mem_ix 4 rfl) dX8_carries_63 ?_
        refine r_get (i := 0) (v := .int (σ53 0 1)) X in_X8_carries_0 rfl 1 (by decide) (kd_in kc_0 (by decide)) (EE_0 _ kc_0) rfl (mem_ix 5 rfl) dX8_carries_66 ?_
        refine r_callSi (rest := []) X (c_X8_within l G r52 (0 : Int32) (σ53 0 1) σ53 (oks hf)) md_X8_within gX8_carries_X8_within (by decide) rfl rfl (Nat.le_of_ble_eq_true rfl) dX8_carries_69 (fun r55 σ56 e57 => ?_)
        replace hf := okn e57 hf
        refine r_if_ne (tgt := 77) X dX8_carries_72 (by decide) (fun h58 => ?_) (fun h58 => ?_)
        · replace hf := okf h58 hf
          refine r_aload X dX8_carries_77 0 rfl isr_ref ?_
          refine r_aload_n X dX8_carries_79 2 rfl isr_ref ?_
          refine r_iload_n X dX8_carries_80 3 rfl ?_
          refine r_callVi (rest := [.ref (G.1 i50)]) X (c_X5_get l G t2 v3 hk2 σ56 (oks hf)) md_X5_get gX8_carries_X5_get (by decide) rfl rfl (kd_in hk2 (by decide)) (EE_5 _ hk2) rfl rfl (Nat.le_of_ble_eq_true rfl) dX8_carries_81 (fun r59 σ60 e61 => ?_)
          replace hf := okn e61 hf
          obtain ⟨σ62, e63, hf⟩ := okl hf
          refine r_put (i := i50) (f := upd (σ60 i50) 0 r59) X in_X8_carries_3 tyX3 tyX3_ok nmX3 rfl 0 (by decide) (kd_in hi51 (by decide)) (EE_3 _ hi51) (EU_3_0 _ _ hi51) rfl (mem_ix 6 rfl) rfl rfl rfl rfl dX8_carries_84 ?_
          refine r_sg e63 ?_
          refine r_iinc (v := (v3 + (1 : Int32))) X dX8_carries_87 3 rfl (congrArg _ ci_1) (by decide) (lv' := [(3, .int (v3 + (1 : Int32))), (4, .ref (G.1 i50)), (0, .ref (G.1 108)), (2, .ref (G.1 t2))]) rfl ?_
          refine r_goto (tgt := 33) X dX8_carries_90 (by decide) ?_
          refine r_sub [2, 3, 0] rfl ?_
          exact hk33c t2 (v3 + (1 : Int32)) hk2 σ62 hf
        · replace hf := okt h58 hf
          refine r_iload_n X dX8_carries_75 3 rfl ?_
          exact r_iret X rfl hR (ok0 hf) dX8_carries_76
theorem tl_X8_carries_33 {l : Launch} {G : GX} {K : KX} (X : FX G K cX8_carries RX8 (some .int) wsX8_carries 5) {Φ : Int32 → MM → Prop} (hR : Ri G K Φ) : ∀ (m : Nat) (t2 : Nat) (v3 : Int32) (hk2 : kd t2 = 5) (σ : MM), Ok Φ (itr (fun _ _ _ => none) (u_X8_carries_33) m t2 v3 σ) → V l G 5 K 5 33 [(0, .ref (G.1 108)), (2, .ref (G.1 t2)), (3, .int v3)] [] σ := by
  intro m
  induction m with
  | zero => intro t2 v3 hk2 σ hf; exact (okx hf).elim
  | succ m ih => intro t2 v3 hk2 σ hf; exact t_X8_carries_33 X hR _ ih t2 v3 hk2 σ hf
set_option maxRecDepth 100000 in
set_option maxHeartbeats 4000000 in
theorem e_X8_carries {l : Launch} {G : GX} {K : KX} (X : FX G K cX8_carries RX8 (some .int) wsX8_carries 5) {Φ : Int32 → MM → Prop} (hR : Ri G K Φ) (a1 : Int32) (σ : MM) (hf : Ok Φ (f_X8_carries a1 σ)) : V l G 5 K 5 0 [(0, .ref (G.1 108)), (1, .int a1)] [] σ := by
    unfold f_X8_carries at hf
    refine r_aload_n X dX8_carries_0 0 rfl isr_ref ?_
    refine r_iload_n X dX8_carries_1 1 rfl ?_
    refine r_callVq (rest := []) X (c_X8_sheetOf l G a1 σ (oks hf)) md_X8_sheetOf gX8_carries_X8_sheetOf (by decide) rfl rfl (kd_in kc_108 (by decide)) (EE_8 _ kc_108) rfl rfl (Nat.le_of_ble_eq_true rfl) dX8_carries_2 (fun r34 σ35 e36 => ?_)
    replace hf := okn e36 hf
    rcases r34 with _ | i37
    · replace hf := okz hf
      refine r_astore_n X dX8_carries_5 (i := 2) rfl (by decide) isr_null (lv' := [(2, .null), (0, .ref (G.1 108)), (1, .int a1)]) rfl ?_
      refine r_aload_n X dX8_carries_6 0 rfl isr_null ?_
      refine r_ifnonnullN X dX8_carries_7 ?_
      refine r_aload_n X dX8_carries_10 1 rfl isr_ref ?_
      refine r_ldc (v := (-1000000001 : Int32)) X (mem_ix 1 rfl) dX8_carries_11 ?_
      refine r_callVi (rest := []) X (c_X8_error l G (-1000000001 : Int32) σ35 (oks hf)) md_X8_error gX8_carries_X8_error (by decide) rfl rfl (kd_in kc_108 (by decide)) (EE_8 _ kc_108) rfl rfl (Nat.le_of_ble_eq_true rfl) dX8_carries_13 (fun r39 σ40 e41 => ?_)
      replace hf := okn e41 hf
      exact r_iret X rfl hR (ok0 hf) dX8_carries_16
    · replace hf := oky hf
      obtain ⟨hi38, hf⟩ := okp hf
      refine r_astore_n X dX8_carries_5 (i := 2) rfl (by decide) isr_ref (lv' := [(2, .ref (G.1 i37)), (0, .ref (G.1 108)), (1, .int a1)]) rfl ?_
      refine r_aload_n X dX8_carries_6 0 rfl isr_ref ?_
      refine r_ifnonnull (tgt := 17) X dX8_carries_7 (by decide) ?_
      refine r_aload_n X dX8_carries_17 0 rfl isr_ref ?_
      refine r_callVi (rest := []) X (c_X5_isMissing l G i37 hi38 σ35 (oks hf)) md_X5_isMissing gX8_carries_X5_isMissing (by decide) rfl rfl (kd_in hi38 (by decide)) (EE_5 _ hi38) rfl rfl (Nat.le_of_ble_eq_true rfl) dX8_carries_18 (fun r42 σ43 e44 => ?_)
      replace hf := okn e44 hf
      refine r_if_eq (tgt := 31) X dX8_carries_21 (by decide) (fun h45 => ?_) (fun h45 => ?_)
      · replace hf := okt h45 hf
        refine r_iconst X dX8_carries_31 ci_0 ?_
        refine r_istore_n X dX8_carries_32 (i := 3) rfl (by decide) (lv' := [(3, .int (0 : Int32)), (2, .ref (G.1 i37)), (0, .ref (G.1 108)), (1, .int a1)]) rfl ?_
        refine r_sub [2, 1, 0] rfl ?_
        exact tl_X8_carries_33 X hR FU i37 (0 : Int32) hi38 σ43 hf
      · replace hf := okf h45 hf
        refine r_aload_n X dX8_carries_24 1 rfl isr_ref ?_
        refine r_ldc (v := (-1000000002 : Int32)) X (mem_ix 2 rfl) dX8_carries_25 ?_
        refine r_callVi (rest := []) X (c_X8_error l G (-1000000002 : Int32) σ43 (oks hf)) md_X8_error gX8_carries_X8_error (by decide) rfl rfl (kd_in kc_108 (by decide)) (EE_8 _ kc_108) rfl rfl (Nat.le_of_ble_eq_true rfl) dX8_carries_27 (fun r64 σ65 e66 => ?_)
        replace hf := okn e66 hf
        exact r_iret X rfl hR (ok0 hf) dX8_carries_30
theorem md_X8_carries : MD yX8_carries wsX8_carries cX8_carries 5 1 (some .int) := ⟨⟨_, rfl⟩, by decide +kernel, by decide +kernel, by decide⟩
theorem c_X8_carries (l : Launch) (G : GX)  (a1 : Int32) (σ : MM) (h : (f_X8_carries a1 σ).isSome = true) : CTi l G yX8_carries wsX8_carries 5 [.ref (G.1 108), .int a1] σ (f_X8_carries a1 σ) :=
  CTi_of md_X8_carries (Nat.le_of_ble_eq_true rfl) (fun K X hR => e_X8_carries X hR a1 σ (ok_is h))
-- X8_judge
theorem in_X8_judge_5 : ∀ w ∈ u_ws RX5 TX5 3, w ∈ wsX8_judge := fun _ h => List.mem_cons_of_mem _ (List.mem_append_left _ (List.mem_append_left _ (List.mem_append_left _ (List.mem_append_right _ h))))
theorem in_X8_judge_8 : ∀ w ∈ u_ws RX8 TX8 9, w ∈ wsX8_judge := fun _ h => List.mem_cons_of_mem _ (List.mem_append_left _ (List.mem_append_left _ (List.mem_append_right _ h)))
theorem in_X8_judge_3 : ∀ w ∈ u_ws RX3 TX3 4, w ∈ wsX8_judge := fun _ h => List.mem_cons_of_mem _ (List.mem_append_left _ (List.mem_append_right _ h))
theorem in_X8_judge_0 : ∀ w ∈ u_ws RX0 TX0 12, w ∈ wsX8_judge := fun _ h => List.mem_cons_of_mem _ (List.mem_append_right _ h)
def u_X8_judge_33 (k33 : Nat → Int32 → MM → Option (Int32 × MM)) (t2 : Nat) (v3 : Int32) (σ : MM) : Option (Int32 × MM) :=
  if (σ t2 2) ≤ v3 then some ((σ t2 2), σ) else bd (f_X0_personOf 0 v3 σ) (fun r39 σ40 => onO r39 (some (v3, σ40)) (fun i42 => if kd i42 = 3 then bd (f_X5_get t2 v3 σ40) (fun r44 σ45 => if (σ40 i42 0) = r44 then k33 t2 (v3 + (1 : Int32)) σ45 else some (v3, σ45)) else none))
def l_X8_judge_33 (t2 : Nat) (v3 : Int32) (σ : MM) : Option (Int32 × MM) :=
  itr (fun _ _ _ => none) (u_X8_judge_33) FU t2 v3 σ
def f_X8_judge (a1 : Int32) (σ : MM) : Option (Int32 × MM) :=
  bd (f_X8_sheetOf a1 σ) (fun r26 σ27 => onO r26 (bd (f_X8_error (-1000000001 : Int32) σ27) (fun r31 σ32 => some (r31, σ32))) (fun i29 => if kd i29 = 5 then bd (f_X5_isMissing i29 σ27) (fun r34 σ35 => if r34 = 0 then l_X8_judge_33 i29 (0 : Int32) σ35 else bd (f_X8_error (-1000000002 : Int32) σ35) (fun r48 σ49 => some (r48, σ49))) else none))
set_option maxRecDepth 100000 in
set_option maxHeartbeats 4000000 in
theorem t_X8_judge_33 {l : Launch} {G : GX} {K : KX} (X : FX G K cX8_judge RX8 (some .int) wsX8_judge 5) {Φ : Int32 → MM → Prop} (hR : Ri G K Φ) (k33 : Nat → Int32 → MM → Option (Int32 × MM)) (hk33c : ∀ (t2 : Nat) (v3 : Int32) (hk2 : kd t2 = 5) (σ : MM), Ok Φ (k33 t2 v3 σ) → V l G 5 K 5 33 [(0, .ref (G.1 108)), (2, .ref (G.1 t2)), (3, .int v3)] [] σ) (t2 : Nat) (v3 : Int32) (hk2 : kd t2 = 5) (σ : MM) (hf : Ok Φ (u_X8_judge_33 k33 t2 v3 σ)) : V l G 5 K 5 33 [(0, .ref (G.1 108)), (2, .ref (G.1 t2)), (3, .int v3)] [] σ := by
    unfold u_X8_judge_33 at hf
    refine r_iload_n X dX8_judge_33 2 rfl ?_
    refine r_aload_n X dX8_judge_34 1 rfl isr_ref ?_
    refine r_get (i := t2) (v := .int (σ t2 2)) X in_X8_judge_5 rfl 2 (by decide) (kd_in hk2 (by decide)) (EE_5 _ hk2) rfl (mem_ix 3 rfl) dX8_judge_35 ?_
    refine r_icmp_ge (tgt := 77) X dX8_judge_38 (by decide) (fun h38 => ?_) (fun h38 => ?_)
    · replace hf := okt h38 hf
      refine r_aload_n X dX8_judge_77 1 rfl isr_ref ?_
      refine r_get (i := t2) (v := .int (σ t2 2)) X in_X8_judge_5 rfl 2 (by decide) (kd_in hk2 (by decide)) (EE_5 _ hk2) rfl (mem_ix 3 rfl) dX8_judge_78 ?_
      exact r_iret X rfl hR (ok0 hf) dX8_judge_81
    · replace hf := okf h38 hf
      refine r_aload_n X dX8_judge_41 0 rfl isr_ref ?_
      refine r_get (i := 108) (v := .ref (G.1 0)) X in_X8_judge_8 rfl 0 (by decide) (kd_in kc_108 (by decide)) (EE_8 _ kc_108) rfl (mem_ix 4 rfl) dX8_judge_42 ?_
      refine r_iload_n X dX8_judge_45 2 rfl ?_
      refine r_callVq (rest := []) X (c_X0_personOf l G 0 v3 kc_0 σ (oks hf)) md_X0_personOf gX8_judge_X0_personOf (by decide) rfl rfl (kd_in kc_0 (by decide)) (EE_0 _ kc_0) rfl rfl (Nat.le_of_ble_eq_true rfl) dX8_judge_46 (fun r39 σ40 e41 => ?_)
      replace hf := okn e41 hf
      rcases r39 with _ | i42
      · replace hf := okz hf
        refine r_astore X dX8_judge_49 (by decide) isr_null (lv' := [(4, .null), (0, .ref (G.1 108)), (2, .ref (G.1 t2)), (3, .int v3)]) rfl ?_
        refine r_aload X dX8_judge_51 0 rfl isr_null ?_
        refine r_ifnullN (tgt := 69) X dX8_judge_53 (by decide) ?_
        refine r_iload_n X dX8_judge_69 3 rfl ?_
        exact r_iret X rfl hR (ok0 hf) dX8_judge_70
      · replace hf := oky hf
        obtain ⟨hi43, hf⟩ := okp hf
        refine r_astore X dX8_judge_49 (by decide) isr_ref (lv' := [(4, .ref (G.1 i42)), (0, .ref (G.1 108)), (2, .ref (G.1 t2)), (3, .int v3)]) rfl ?_
        refine r_aload X dX8_judge_51 0 rfl isr_ref ?_
        refine r_ifnull X dX8_judge_53 ?_
        refine r_aload X dX8_judge_56 0 rfl isr_ref ?_
        refine r_get (i := i42) (v := .int (σ40 i42 0)) X in_X8_judge_3 rfl 0 (by decide) (kd_in hi43 (by decide)) (EE_3 _ hi43) rfl (mem_ix 5 rfl) dX8_judge_58 ?_
        refine r_aload_n X dX8_judge_61 2 rfl isr_ref ?_
        refine r_iload_n X dX8_judge_62 3 rfl ?_
        refine r_callVi (rest := [.int (σ40 i42 0)]) X (c_X5_get l G t2 v3 hk2 σ40 (oks hf)) md_X5_get gX8_judge_X5_get (by decide) rfl rfl (kd_in hk2 (by decide)) (EE_5 _ hk2) rfl rfl (Nat.le_of_ble_eq_true rfl) dX8_judge_63 (fun r44 σ45 e46 => ?_)
        replace hf := okn e46 hf
        refine r_icmp_eq (tgt := 71) X dX8_judge_66 (by decide) (fun h47 => ?_) (fun h47 => ?_)
        · replace hf := okt h47 hf
          refine r_iinc (v := (v3 + (1 : Int32))) X dX8_judge_71 3 rfl (congrArg _ ci_1) (by decide) (lv' := [(3, .int (v3 + (1 : Int32))), (4, .ref (G.1 i42)), (0, .ref (G.1 108)), (2, .ref (G.1 t2))]) rfl ?_
          refine r_goto (tgt := 33) X dX8_judge_74 (by decide) ?_
          refine r_sub [2, 3, 0] rfl ?_
          exact hk33c t2 (v3 + (1 : Int32)) hk2 σ45 hf
        · replace hf := okf h47 hf
          refine r_iload_n X dX8_judge_69 3 rfl ?_
          exact r_iret X rfl hR (ok0 hf) dX8_judge_70
theorem tl_X8_judge_33 {l : Launch} {G : GX} {K : KX} (X : FX G K cX8_judge RX8 (some .int) wsX8_judge 5) {Φ : Int32 → MM → Prop} (hR : Ri G K Φ) : ∀ (m : Nat) (t2 : Nat) (v3 : Int32) (hk2 : kd t2 = 5) (σ : MM), Ok Φ (itr (fun _ _ _ => none) (u_X8_judge_33) m t2 v3 σ) → V l G 5 K 5 33 [(0, .ref (G.1 108)), (2, .ref (G.1 t2)), (3, .int v3)] [] σ := by
  intro m
  induction m with
  | zero => intro t2 v3 hk2 σ hf; exact (okx hf).elim
  | succ m ih => intro t2 v3 hk2 σ hf; exact t_X8_judge_33 X hR _ ih t2 v3 hk2 σ hf
set_option maxRecDepth 100000 in
set_option maxHeartbeats 4000000 in
theorem e_X8_judge {l : Launch} {G : GX} {K : KX} (X : FX G K cX8_judge RX8 (some .int) wsX8_judge 5) {Φ : Int32 → MM → Prop} (hR : Ri G K Φ) (a1 : Int32) (σ : MM) (hf : Ok Φ (f_X8_judge a1 σ)) : V l G 5 K 5 0 [(0, .ref (G.1 108)), (1, .int a1)] [] σ := by
    unfold f_X8_judge at hf
    refine r_aload_n X dX8_judge_0 0 rfl isr_ref ?_
    refine r_iload_n X dX8_judge_1 1 rfl ?_
    refine r_callVq (rest := []) X (c_X8_sheetOf l G a1 σ (oks hf)) md_X8_sheetOf gX8_judge_X8_sheetOf (by decide) rfl rfl (kd_in kc_108 (by decide)) (EE_8 _ kc_108) rfl rfl (Nat.le_of_ble_eq_true rfl) dX8_judge_2 (fun r26 σ27 e28 => ?_)
    replace hf := okn e28 hf
    rcases r26 with _ | i29
    · replace hf := okz hf
      refine r_astore_n X dX8_judge_5 (i := 2) rfl (by decide) isr_null (lv' := [(2, .null), (0, .ref (G.1 108)), (1, .int a1)]) rfl ?_
      refine r_aload_n X dX8_judge_6 0 rfl isr_null ?_
      refine r_ifnonnullN X dX8_judge_7 ?_
      refine r_aload_n X dX8_judge_10 1 rfl isr_ref ?_
      refine r_ldc (v := (-1000000001 : Int32)) X (mem_ix 1 rfl) dX8_judge_11 ?_
      refine r_callVi (rest := []) X (c_X8_error l G (-1000000001 : Int32) σ27 (oks hf)) md_X8_error gX8_judge_X8_error (by decide) rfl rfl (kd_in kc_108 (by decide)) (EE_8 _ kc_108) rfl rfl (Nat.le_of_ble_eq_true rfl) dX8_judge_13 (fun r31 σ32 e33 => ?_)
      replace hf := okn e33 hf
      exact r_iret X rfl hR (ok0 hf) dX8_judge_16
    · replace hf := oky hf
      obtain ⟨hi30, hf⟩ := okp hf
      refine r_astore_n X dX8_judge_5 (i := 2) rfl (by decide) isr_ref (lv' := [(2, .ref (G.1 i29)), (0, .ref (G.1 108)), (1, .int a1)]) rfl ?_
      refine r_aload_n X dX8_judge_6 0 rfl isr_ref ?_
      refine r_ifnonnull (tgt := 17) X dX8_judge_7 (by decide) ?_
      refine r_aload_n X dX8_judge_17 0 rfl isr_ref ?_
      refine r_callVi (rest := []) X (c_X5_isMissing l G i29 hi30 σ27 (oks hf)) md_X5_isMissing gX8_judge_X5_isMissing (by decide) rfl rfl (kd_in hi30 (by decide)) (EE_5 _ hi30) rfl rfl (Nat.le_of_ble_eq_true rfl) dX8_judge_18 (fun r34 σ35 e36 => ?_)
      replace hf := okn e36 hf
      refine r_if_eq (tgt := 31) X dX8_judge_21 (by decide) (fun h37 => ?_) (fun h37 => ?_)
      · replace hf := okt h37 hf
        refine r_iconst X dX8_judge_31 ci_0 ?_
        refine r_istore_n X dX8_judge_32 (i := 3) rfl (by decide) (lv' := [(3, .int (0 : Int32)), (2, .ref (G.1 i29)), (0, .ref (G.1 108)), (1, .int a1)]) rfl ?_
        refine r_sub [2, 1, 0] rfl ?_
        exact tl_X8_judge_33 X hR FU i29 (0 : Int32) hi30 σ35 hf
      · replace hf := okf h37 hf
        refine r_aload_n X dX8_judge_24 1 rfl isr_ref ?_
        refine r_ldc (v := (-1000000002 : Int32)) X (mem_ix 2 rfl) dX8_judge_25 ?_
        refine r_callVi (rest := []) X (c_X8_error l G (-1000000002 : Int32) σ35 (oks hf)) md_X8_error gX8_judge_X8_error (by decide) rfl rfl (kd_in kc_108 (by decide)) (EE_8 _ kc_108) rfl rfl (Nat.le_of_ble_eq_true rfl) dX8_judge_27 (fun r48 σ49 e50 => ?_)
        replace hf := okn e50 hf
        exact r_iret X rfl hR (ok0 hf) dX8_judge_30
theorem md_X8_judge : MD yX8_judge wsX8_judge cX8_judge 5 1 (some .int) := ⟨⟨_, rfl⟩, by decide +kernel, by decide +kernel, by decide⟩
theorem c_X8_judge (l : Launch) (G : GX)  (a1 : Int32) (σ : MM) (h : (f_X8_judge a1 σ).isSome = true) : CTi l G yX8_judge wsX8_judge 5 [.ref (G.1 108), .int a1] σ (f_X8_judge a1 σ) :=
  CTi_of md_X8_judge (Nat.le_of_ble_eq_true rfl) (fun K X hR => e_X8_judge X hR a1 σ (ok_is h))
-- X8_image
theorem in_X8_image_8 : ∀ w ∈ u_ws RX8 TX8 9, w ∈ wsX8_image := fun _ h => List.mem_cons_of_mem _ (List.mem_append_left _ (List.mem_append_left _ (List.mem_append_left _ (List.mem_append_left _ (List.mem_append_right _ h)))))
theorem in_X8_image_0 : ∀ w ∈ u_ws RX0 TX0 12, w ∈ wsX8_image := fun _ h => List.mem_cons_of_mem _ (List.mem_append_left _ (List.mem_append_left _ (List.mem_append_left _ (List.mem_append_right _ h))))
theorem in_X8_image_2 : ∀ w ∈ u_ws RX2 TX2 4, w ∈ wsX8_image := fun _ h => List.mem_cons_of_mem _ (List.mem_append_left _ (List.mem_append_left _ (List.mem_append_right _ h)))
theorem in_X8_image_3 : ∀ w ∈ u_ws RX3 TX3 4, w ∈ wsX8_image := fun _ h => List.mem_cons_of_mem _ (List.mem_append_left _ (List.mem_append_right _ h))
theorem in_X8_image_6 : ∀ w ∈ u_ws RX6 TX6 3, w ∈ wsX8_image := fun _ h => List.mem_cons_of_mem _ (List.mem_append_right _ h)
def f_X8_image  (σ : MM) : Option (Int32 × MM) :=
  bd (f_X0_copyFrom 36 0 σ) (fun r6 σ7 => lt (mu σ7 108 8 ((σ7 108 8) + (1 : Int32))) (fun σ9 => some ((σ9 108 8), σ9)))
set_option maxRecDepth 100000 in
set_option maxHeartbeats 4000000 in
theorem e_X8_image {l : Launch} {G : GX} {K : KX} (X : FX G K cX8_image RX8 (some .int) wsX8_image 1) {Φ : Int32 → MM → Prop} (hR : Ri G K Φ)  (σ : MM) (hf : Ok Φ (f_X8_image  σ)) : V l G 5 K 1 0 [(0, .ref (G.1 108))] [] σ := by
    unfold f_X8_image at hf
    refine r_aload_n X dX8_image_0 0 rfl isr_ref ?_
    refine r_get (i := 108) (v := .ref (G.1 36)) X in_X8_image_8 rfl 1 (by decide) (kd_in kc_108 (by decide)) (EE_8 _ kc_108) rfl (mem_ix 1 rfl) dX8_image_1 ?_
    refine r_aload_n X dX8_image_4 0 rfl isr_ref ?_
    refine r_get (i := 108) (v := .ref (G.1 0)) X in_X8_image_8 rfl 0 (by decide) (kd_in kc_108 (by decide)) (EE_8 _ kc_108) rfl (mem_ix 2 rfl) dX8_image_5 ?_
    refine r_callVv (rest := []) X (c_X0_copyFrom l G 36 0 kc_36 kc_0 σ (oks hf)) md_X0_copyFrom gX8_image_X0_copyFrom (by decide) rfl rfl (kd_in kc_36 (by decide)) (EE_0 _ kc_36) rfl rfl (Nat.le_of_ble_eq_true rfl) dX8_image_8 (fun r6 σ7 e8 => ?_)
    replace hf := okn e8 hf
    refine r_aload_n X dX8_image_11 0 rfl isr_ref ?_
    refine r_dup X dX8_image_12 rfl ?_
    refine r_get (i := 108) (v := .int (σ7 108 8)) X in_X8_image_8 rfl 8 (by decide) (kd_in kc_108 (by decide)) (EE_8 _ kc_108) rfl (mem_ix 3 rfl) dX8_image_13 ?_
    refine r_iconst X dX8_image_16 ci_1 ?_
    refine r_iadd X dX8_image_17 ?_
    obtain ⟨σ9, e10, hf⟩ := okl hf
    refine r_put (i := 108) (f := upd (σ7 108) 8 ((σ7 108 8) + (1 : Int32))) X in_X8_image_8 tyX8 tyX8_ok nmX8 rfl 8 (by decide) (kd_in kc_108 (by decide)) (EE_8 _ kc_108) (EU_8_8 _ _ kc_108) rfl (mem_ix 3 rfl) rfl rfl rfl rfl dX8_image_18 ?_
    refine r_sg e10 ?_
    refine r_aload_n X dX8_image_21 0 rfl isr_ref ?_
    refine r_get (i := 108) (v := .int (σ9 108 8)) X in_X8_image_8 rfl 8 (by decide) (kd_in kc_108 (by decide)) (EE_8 _ kc_108) rfl (mem_ix 3 rfl) dX8_image_22 ?_
    exact r_iret X rfl hR (ok0 hf) dX8_image_25
theorem md_X8_image : MD yX8_image wsX8_image cX8_image 1 0 (some .int) := ⟨⟨_, rfl⟩, by decide +kernel, by decide +kernel, by decide⟩
theorem c_X8_image (l : Launch) (G : GX)   (σ : MM) (h : (f_X8_image  σ).isSome = true) : CTi l G yX8_image wsX8_image 5 [.ref (G.1 108)] σ (f_X8_image  σ) :=
  CTi_of md_X8_image (Nat.le_of_ble_eq_true rfl) (fun K X hR => e_X8_image X hR  σ (ok_is h))
-- X8_restore
theorem in_X8_restore_8 : ∀ w ∈ u_ws RX8 TX8 9, w ∈ wsX8_restore := fun _ h => List.mem_cons_of_mem _ (List.mem_append_left _ (List.mem_append_left _ (List.mem_append_left _ (List.mem_append_left _ (List.mem_append_right _ h)))))
theorem in_X8_restore_0 : ∀ w ∈ u_ws RX0 TX0 12, w ∈ wsX8_restore := fun _ h => List.mem_cons_of_mem _ (List.mem_append_left _ (List.mem_append_left _ (List.mem_append_left _ (List.mem_append_right _ h))))
theorem in_X8_restore_2 : ∀ w ∈ u_ws RX2 TX2 4, w ∈ wsX8_restore := fun _ h => List.mem_cons_of_mem _ (List.mem_append_left _ (List.mem_append_left _ (List.mem_append_right _ h)))
theorem in_X8_restore_3 : ∀ w ∈ u_ws RX3 TX3 4, w ∈ wsX8_restore := fun _ h => List.mem_cons_of_mem _ (List.mem_append_left _ (List.mem_append_right _ h))
theorem in_X8_restore_6 : ∀ w ∈ u_ws RX6 TX6 3, w ∈ wsX8_restore := fun _ h => List.mem_cons_of_mem _ (List.mem_append_right _ h)
def f_X8_restore  (σ : MM) : Option (Int32 × MM) :=
  if (σ 108 8) = 0 then bd (f_X8_error (-1000000002 : Int32) σ) (fun r12 σ13 => some (r12, σ13)) else bd (f_X0_copyFrom 0 36 σ) (fun r9 σ10 => some ((σ10 0 10), σ10))
set_option maxRecDepth 100000 in
set_option maxHeartbeats 4000000 in
theorem e_X8_restore {l : Launch} {G : GX} {K : KX} (X : FX G K cX8_restore RX8 (some .int) wsX8_restore 1) {Φ : Int32 → MM → Prop} (hR : Ri G K Φ)  (σ : MM) (hf : Ok Φ (f_X8_restore  σ)) : V l G 5 K 1 0 [(0, .ref (G.1 108))] [] σ := by
    unfold f_X8_restore at hf
    refine r_aload_n X dX8_restore_0 0 rfl isr_ref ?_
    refine r_get (i := 108) (v := .int (σ 108 8)) X in_X8_restore_8 rfl 8 (by decide) (kd_in kc_108 (by decide)) (EE_8 _ kc_108) rfl (mem_ix 1 rfl) dX8_restore_1 ?_
    refine r_if_ne (tgt := 14) X dX8_restore_4 (by decide) (fun h8 => ?_) (fun h8 => ?_)
    · replace hf := okf h8 hf
      refine r_aload_n X dX8_restore_14 0 rfl isr_ref ?_
      refine r_get (i := 108) (v := .ref (G.1 0)) X in_X8_restore_8 rfl 0 (by decide) (kd_in kc_108 (by decide)) (EE_8 _ kc_108) rfl (mem_ix 3 rfl) dX8_restore_15 ?_
      refine r_aload_n X dX8_restore_18 0 rfl isr_ref ?_
      refine r_get (i := 108) (v := .ref (G.1 36)) X in_X8_restore_8 rfl 1 (by decide) (kd_in kc_108 (by decide)) (EE_8 _ kc_108) rfl (mem_ix 4 rfl) dX8_restore_19 ?_
      refine r_callVv (rest := []) X (c_X0_copyFrom l G 0 36 kc_0 kc_36 σ (oks hf)) md_X0_copyFrom gX8_restore_X0_copyFrom (by decide) rfl rfl (kd_in kc_0 (by decide)) (EE_0 _ kc_0) rfl rfl (Nat.le_of_ble_eq_true rfl) dX8_restore_22 (fun r9 σ10 e11 => ?_)
      replace hf := okn e11 hf
      refine r_aload_n X dX8_restore_25 0 rfl isr_ref ?_
      refine r_get (i := 108) (v := .ref (G.1 0)) X in_X8_restore_8 rfl 0 (by decide) (kd_in kc_108 (by decide)) (EE_8 _ kc_108) rfl (mem_ix 3 rfl) dX8_restore_26 ?_
      refine r_get (i := 0) (v := .int (σ10 0 10)) X in_X8_restore_0 rfl 10 (by decide) (kd_in kc_0 (by decide)) (EE_0 _ kc_0) rfl (mem_ix 5 rfl) dX8_restore_29 ?_
      exact r_iret X rfl hR (ok0 hf) dX8_restore_32
    · replace hf := okt h8 hf
      refine r_aload_n X dX8_restore_7 0 rfl isr_ref ?_
      refine r_ldc (v := (-1000000002 : Int32)) X (mem_ix 2 rfl) dX8_restore_8 ?_
      refine r_callVi (rest := []) X (c_X8_error l G (-1000000002 : Int32) σ (oks hf)) md_X8_error gX8_restore_X8_error (by decide) rfl rfl (kd_in kc_108 (by decide)) (EE_8 _ kc_108) rfl rfl (Nat.le_of_ble_eq_true rfl) dX8_restore_10 (fun r12 σ13 e14 => ?_)
      replace hf := okn e14 hf
      exact r_iret X rfl hR (ok0 hf) dX8_restore_13
theorem md_X8_restore : MD yX8_restore wsX8_restore cX8_restore 1 0 (some .int) := ⟨⟨_, rfl⟩, by decide +kernel, by decide +kernel, by decide⟩
theorem c_X8_restore (l : Launch) (G : GX)   (σ : MM) (h : (f_X8_restore  σ).isSome = true) : CTi l G yX8_restore wsX8_restore 5 [.ref (G.1 108)] σ (f_X8_restore  σ) :=
  CTi_of md_X8_restore (Nat.le_of_ble_eq_true rfl) (fun K X hR => e_X8_restore X hR  σ (ok_is h))
-- X8_tell
theorem in_X8_tell_8 : ∀ w ∈ u_ws RX8 TX8 9, w ∈ wsX8_tell := fun _ h => List.mem_cons_of_mem _ (List.mem_append_left _ (List.mem_append_right _ h))
theorem in_X8_tell_0 : ∀ w ∈ u_ws RX0 TX0 12, w ∈ wsX8_tell := fun _ h => List.mem_cons_of_mem _ (List.mem_append_right _ h)
def u_X8_tell_30  (σ : MM) : Option (Int32 × MM) :=
  bd (f_X8_error (-1000000004 : Int32) σ) (fun r12 σ13 => some (r12, σ13))
def f_X8_tell (a1 : Int32) (σ : MM) : Option (Int32 × MM) :=
  if (24 : Int32) ≤ (σ 0 9) then u_X8_tell_30 σ else if (σ 0 9) < (24 : Int32) then if (σ 0 9) < 0 ∨ 24 ≤ (σ 0 9).toNatClampNeg then none else lt (mu σ 10 ((σ 0 9).toNatClampNeg) a1) (fun σ17 => lt (mu σ17 0 9 ((σ17 0 9) + (1 : Int32))) (fun σ19 => some ((σ19 0 9), σ19))) else u_X8_tell_30 σ
set_option maxRecDepth 100000 in
set_option maxHeartbeats 4000000 in
theorem t_X8_tell_30 {l : Launch} {G : GX} {K : KX} (X : FX G K cX8_tell RX8 (some .int) wsX8_tell 2) {Φ : Int32 → MM → Prop} (hR : Ri G K Φ)  (σ : MM) (hf : Ok Φ (u_X8_tell_30  σ)) : V l G 5 K 2 30 [(0, .ref (G.1 108))] [] σ := by
    unfold u_X8_tell_30 at hf
    refine r_aload_n X dX8_tell_30 0 rfl isr_ref ?_
    refine r_ldc (v := (-1000000004 : Int32)) X (mem_ix 4 rfl) dX8_tell_31 ?_
    refine r_callVi (rest := []) X (c_X8_error l G (-1000000004 : Int32) σ (oks hf)) md_X8_error gX8_tell_X8_error (by decide) rfl rfl (kd_in kc_108 (by decide)) (EE_8 _ kc_108) rfl rfl (Nat.le_of_ble_eq_true rfl) dX8_tell_33 (fun r12 σ13 e14 => ?_)
    replace hf := okn e14 hf
    exact r_iret X rfl hR (ok0 hf) dX8_tell_36
set_option maxRecDepth 100000 in
set_option maxHeartbeats 4000000 in
theorem e_X8_tell {l : Launch} {G : GX} {K : KX} (X : FX G K cX8_tell RX8 (some .int) wsX8_tell 2) {Φ : Int32 → MM → Prop} (hR : Ri G K Φ) (a1 : Int32) (σ : MM) (hf : Ok Φ (f_X8_tell a1 σ)) : V l G 5 K 2 0 [(0, .ref (G.1 108)), (1, .int a1)] [] σ := by
    unfold f_X8_tell at hf
    refine r_aload_n X dX8_tell_0 0 rfl isr_ref ?_
    refine r_get (i := 108) (v := .ref (G.1 0)) X in_X8_tell_8 rfl 0 (by decide) (kd_in kc_108 (by decide)) (EE_8 _ kc_108) rfl (mem_ix 1 rfl) dX8_tell_1 ?_
    refine r_get (i := 0) (v := .int (σ 0 9)) X in_X8_tell_0 rfl 9 (by decide) (kd_in kc_0 (by decide)) (EE_0 _ kc_0) rfl (mem_ix 2 rfl) dX8_tell_4 ?_
    refine r_bipush X dX8_tell_7 cb_24 ?_
    refine r_icmp_ge (tgt := 30) X dX8_tell_9 (by decide) (fun h11 => ?_) (fun h11 => ?_)
    · replace hf := okt h11 hf
      refine r_sub [0] rfl ?_
      exact t_X8_tell_30 X hR σ hf
    · replace hf := okf h11 hf
      refine r_aload_n X dX8_tell_12 0 rfl isr_ref ?_
      refine r_get (i := 108) (v := .ref (G.1 0)) X in_X8_tell_8 rfl 0 (by decide) (kd_in kc_108 (by decide)) (EE_8 _ kc_108) rfl (mem_ix 1 rfl) dX8_tell_13 ?_
      refine r_get (i := 0) (v := .int (σ 0 9)) X in_X8_tell_0 rfl 9 (by decide) (kd_in kc_0 (by decide)) (EE_0 _ kc_0) rfl (mem_ix 2 rfl) dX8_tell_16 ?_
      refine r_aload_n X dX8_tell_19 0 rfl isr_ref ?_
      refine r_get (i := 108) (v := .ref (G.1 0)) X in_X8_tell_8 rfl 0 (by decide) (kd_in kc_108 (by decide)) (EE_8 _ kc_108) rfl (mem_ix 1 rfl) dX8_tell_20 ?_
      refine r_get (i := 0) (v := .ref (G.1 10)) X in_X8_tell_0 rfl 8 (by decide) (kd_in kc_0 (by decide)) (EE_0 _ kc_0) rfl (mem_ix 3 rfl) dX8_tell_23 ?_
      refine r_alen (i := 10) (t := 0) (v := (24 : Int32)) X (kd_in kc_10 (by decide)) (EE_21 _ kc_10) rfl (by decide) dX8_tell_26 ?_
      refine r_icmp_lt (tgt := 37) X dX8_tell_27 (by decide) (fun h15 => ?_) (fun h15 => ?_)
      · replace hf := okt h15 hf
        refine r_aload_n X dX8_tell_37 0 rfl isr_ref ?_
        refine r_get (i := 108) (v := .ref (G.1 0)) X in_X8_tell_8 rfl 0 (by decide) (kd_in kc_108 (by decide)) (EE_8 _ kc_108) rfl (mem_ix 1 rfl) dX8_tell_38 ?_
        refine r_get (i := 0) (v := .ref (G.1 10)) X in_X8_tell_0 rfl 8 (by decide) (kd_in kc_0 (by decide)) (EE_0 _ kc_0) rfl (mem_ix 3 rfl) dX8_tell_41 ?_
        refine r_aload_n X dX8_tell_44 0 rfl isr_ref ?_
        refine r_get (i := 108) (v := .ref (G.1 0)) X in_X8_tell_8 rfl 0 (by decide) (kd_in kc_108 (by decide)) (EE_8 _ kc_108) rfl (mem_ix 1 rfl) dX8_tell_45 ?_
        refine r_get (i := 0) (v := .int (σ 0 9)) X in_X8_tell_0 rfl 9 (by decide) (kd_in kc_0 (by decide)) (EE_0 _ kc_0) rfl (mem_ix 2 rfl) dX8_tell_48 ?_
        refine r_iload_n X dX8_tell_51 1 rfl ?_
        obtain ⟨g16, hf⟩ := okg hf
        obtain ⟨σ17, e18, hf⟩ := okl hf
        refine r_iast (i := 10) (jn := (σ 0 9).toNatClampNeg) X (kd_in kc_10 (by decide)) (fun _ => EE_21 _ kc_10) rfl g16 dX8_tell_52 ?_
        refine r_sg e18 ?_
        refine r_aload_n X dX8_tell_53 0 rfl isr_ref ?_
        refine r_get (i := 108) (v := .ref (G.1 0)) X in_X8_tell_8 rfl 0 (by decide) (kd_in kc_108 (by decide)) (EE_8 _ kc_108) rfl (mem_ix 1 rfl) dX8_tell_54 ?_
        refine r_dup X dX8_tell_57 rfl ?_
        refine r_get (i := 0) (v := .int (σ17 0 9)) X in_X8_tell_0 rfl 9 (by decide) (kd_in kc_0 (by decide)) (EE_0 _ kc_0) rfl (mem_ix 2 rfl) dX8_tell_58 ?_
        refine r_iconst X dX8_tell_61 ci_1 ?_
        refine r_iadd X dX8_tell_62 ?_
        obtain ⟨σ19, e20, hf⟩ := okl hf
        refine r_put (i := 0) (f := upd (σ17 0) 9 ((σ17 0 9) + (1 : Int32))) X in_X8_tell_0 tyX0 tyX0_ok nmX0 rfl 9 (by decide) (kd_in kc_0 (by decide)) (EE_0 _ kc_0) (EU_0_9 _ _ kc_0) rfl (mem_ix 2 rfl) rfl rfl rfl rfl dX8_tell_63 ?_
        refine r_sg e20 ?_
        refine r_aload_n X dX8_tell_66 0 rfl isr_ref ?_
        refine r_get (i := 108) (v := .ref (G.1 0)) X in_X8_tell_8 rfl 0 (by decide) (kd_in kc_108 (by decide)) (EE_8 _ kc_108) rfl (mem_ix 1 rfl) dX8_tell_67 ?_
        refine r_get (i := 0) (v := .int (σ19 0 9)) X in_X8_tell_0 rfl 9 (by decide) (kd_in kc_0 (by decide)) (EE_0 _ kc_0) rfl (mem_ix 2 rfl) dX8_tell_70 ?_
        exact r_iret X rfl hR (ok0 hf) dX8_tell_73
      · replace hf := okf h15 hf
        refine r_sub [0] rfl ?_
        exact t_X8_tell_30 X hR σ hf
theorem md_X8_tell : MD yX8_tell wsX8_tell cX8_tell 2 1 (some .int) := ⟨⟨_, rfl⟩, by decide +kernel, by decide +kernel, by decide⟩
theorem c_X8_tell (l : Launch) (G : GX)  (a1 : Int32) (σ : MM) (h : (f_X8_tell a1 σ).isSome = true) : CTi l G yX8_tell wsX8_tell 5 [.ref (G.1 108), .int a1] σ (f_X8_tell a1 σ) :=
  CTi_of md_X8_tell (Nat.le_of_ble_eq_true rfl) (fun K X hR => e_X8_tell X hR a1 σ (ok_is h))

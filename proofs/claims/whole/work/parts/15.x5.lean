-- X8_hours
theorem in_X8_hours_8 : ∀ w ∈ u_ws RX8 TX8 9, w ∈ wsX8_hours := fun _ h => List.mem_cons_of_mem _ (List.mem_append_left _ (List.mem_append_left _ (List.mem_append_right _ h)))
theorem in_X8_hours_0 : ∀ w ∈ u_ws RX0 TX0 12, w ∈ wsX8_hours := fun _ h => List.mem_cons_of_mem _ (List.mem_append_left _ (List.mem_append_right _ h))
theorem in_X8_hours_3 : ∀ w ∈ u_ws RX3 TX3 4, w ∈ wsX8_hours := fun _ h => List.mem_cons_of_mem _ (List.mem_append_right _ h)
def u_X8_hours_41 (k41 : Int32 → Int32 → MM → Option (Int32 × MM)) (v1 : Int32) (v2 : Int32) (σ : MM) : Option (Int32 × MM) :=
  if v1 ≤ v2 then some ((σ 0 10), σ) else bd (f_X0_passHour 0 σ) (fun r22 σ23 => k41 v1 (v2 + (1 : Int32)) σ23)
def l_X8_hours_41 (v1 : Int32) (v2 : Int32) (σ : MM) : Option (Int32 × MM) :=
  itr (fun _ _ _ => none) (u_X8_hours_41) FU v1 v2 σ
def f_X8_hours (a1 : Int32) (σ : MM) : Option (Int32 × MM) :=
  bd (f_X8_within a1 (1 : Int32) (48 : Int32) σ) (fun r16 σ17 => if r16 = 0 then bd (f_X8_error (-1000000001 : Int32) σ17) (fun r28 σ29 => some (r28, σ29)) else if (σ17 0 10) ≤ ((9999 : Int32) - a1) then l_X8_hours_41 a1 (0 : Int32) σ17 else bd (f_X8_error (-1000000003 : Int32) σ17) (fun r25 σ26 => some (r25, σ26)))
set_option maxRecDepth 100000 in
set_option maxHeartbeats 4000000 in
theorem t_X8_hours_41 {l : Launch} {G : GX} {K : KX} (X : FX G K cX8_hours RX8 (some .int) wsX8_hours 3) {Φ : Int32 → MM → Prop} (hR : Ri G K Φ) (k41 : Int32 → Int32 → MM → Option (Int32 × MM)) (hk41c : ∀ (v1 : Int32) (v2 : Int32) (σ : MM), Ok Φ (k41 v1 v2 σ) → V l G 5 K 3 41 [(0, .ref (G.1 108)), (1, .int v1), (2, .int v2)] [] σ) (v1 : Int32) (v2 : Int32) (σ : MM) (hf : Ok Φ (u_X8_hours_41 k41 v1 v2 σ)) : V l G 5 K 3 41 [(0, .ref (G.1 108)), (1, .int v1), (2, .int v2)] [] σ := by
    unfold u_X8_hours_41 at hf
    refine r_iload_n X dX8_hours_41 2 rfl ?_
    refine r_iload_n X dX8_hours_42 1 rfl ?_
    refine r_icmp_ge (tgt := 59) X dX8_hours_43 (by decide) (fun h21 => ?_) (fun h21 => ?_)
    · replace hf := okt h21 hf
      refine r_aload_n X dX8_hours_59 0 rfl isr_ref ?_
      refine r_get (i := 108) (v := .ref (G.1 0)) X in_X8_hours_8 rfl 0 (by decide) (kd_in kc_108 (by decide)) (EE_8 _ kc_108) rfl (mem_ix 2 rfl) dX8_hours_60 ?_
      refine r_get (i := 0) (v := .int (σ 0 10)) X in_X8_hours_0 rfl 10 (by decide) (kd_in kc_0 (by decide)) (EE_0 _ kc_0) rfl (mem_ix 3 rfl) dX8_hours_63 ?_
      exact r_iret X rfl hR (ok0 hf) dX8_hours_66
    · replace hf := okf h21 hf
      refine r_aload_n X dX8_hours_46 0 rfl isr_ref ?_
      refine r_get (i := 108) (v := .ref (G.1 0)) X in_X8_hours_8 rfl 0 (by decide) (kd_in kc_108 (by decide)) (EE_8 _ kc_108) rfl (mem_ix 2 rfl) dX8_hours_47 ?_
      refine r_callVv (rest := []) X (c_X0_passHour l G 0 kc_0 σ (oks hf)) md_X0_passHour gX8_hours_X0_passHour (by decide) rfl rfl (kd_in kc_0 (by decide)) (EE_0 _ kc_0) rfl rfl (Nat.le_of_ble_eq_true rfl) dX8_hours_50 (fun r22 σ23 e24 => ?_)
      replace hf := okn e24 hf
      refine r_iinc (v := (v2 + (1 : Int32))) X dX8_hours_53 2 rfl (congrArg _ ci_1) (by decide) (lv' := [(2, .int (v2 + (1 : Int32))), (0, .ref (G.1 108)), (1, .int v1)]) rfl ?_
      refine r_goto (tgt := 41) X dX8_hours_56 (by decide) ?_
      refine r_sub [1, 2, 0] rfl ?_
      exact hk41c v1 (v2 + (1 : Int32)) σ23 hf
theorem tl_X8_hours_41 {l : Launch} {G : GX} {K : KX} (X : FX G K cX8_hours RX8 (some .int) wsX8_hours 3) {Φ : Int32 → MM → Prop} (hR : Ri G K Φ) : ∀ (m : Nat) (v1 : Int32) (v2 : Int32) (σ : MM), Ok Φ (itr (fun _ _ _ => none) (u_X8_hours_41) m v1 v2 σ) → V l G 5 K 3 41 [(0, .ref (G.1 108)), (1, .int v1), (2, .int v2)] [] σ := by
  intro m
  induction m with
  | zero => intro v1 v2 σ hf; exact (okx hf).elim
  | succ m ih => intro v1 v2 σ hf; exact t_X8_hours_41 X hR _ ih v1 v2 σ hf
set_option maxRecDepth 100000 in
set_option maxHeartbeats 4000000 in
theorem e_X8_hours {l : Launch} {G : GX} {K : KX} (X : FX G K cX8_hours RX8 (some .int) wsX8_hours 3) {Φ : Int32 → MM → Prop} (hR : Ri G K Φ) (a1 : Int32) (σ : MM) (hf : Ok Φ (f_X8_hours a1 σ)) : V l G 5 K 3 0 [(0, .ref (G.1 108)), (1, .int a1)] [] σ := by
    unfold f_X8_hours at hf
    refine r_iload_n X dX8_hours_0 1 rfl ?_
    refine r_iconst X dX8_hours_1 ci_1 ?_
    refine r_bipush X dX8_hours_2 cb_48 ?_
    refine r_callSi (rest := []) X (c_X8_within l G a1 (1 : Int32) (48 : Int32) σ (oks hf)) md_X8_within gX8_hours_X8_within (by decide) rfl rfl (Nat.le_of_ble_eq_true rfl) dX8_hours_4 (fun r16 σ17 e18 => ?_)
    replace hf := okn e18 hf
    refine r_if_ne (tgt := 17) X dX8_hours_7 (by decide) (fun h19 => ?_) (fun h19 => ?_)
    · replace hf := okf h19 hf
      refine r_aload_n X dX8_hours_17 0 rfl isr_ref ?_
      refine r_get (i := 108) (v := .ref (G.1 0)) X in_X8_hours_8 rfl 0 (by decide) (kd_in kc_108 (by decide)) (EE_8 _ kc_108) rfl (mem_ix 2 rfl) dX8_hours_18 ?_
      refine r_get (i := 0) (v := .int (σ17 0 10)) X in_X8_hours_0 rfl 10 (by decide) (kd_in kc_0 (by decide)) (EE_0 _ kc_0) rfl (mem_ix 3 rfl) dX8_hours_21 ?_
      refine r_sipush X dX8_hours_24 cs_9999 ?_
      refine r_iload_n X dX8_hours_27 1 rfl ?_
      refine r_isub X dX8_hours_28 ?_
      refine r_icmp_le (tgt := 39) X dX8_hours_29 (by decide) (fun h20 => ?_) (fun h20 => ?_)
      · replace hf := okt h20 hf
        refine r_iconst X dX8_hours_39 ci_0 ?_
        refine r_istore_n X dX8_hours_40 (i := 2) rfl (by decide) (lv' := [(2, .int (0 : Int32)), (0, .ref (G.1 108)), (1, .int a1)]) rfl ?_
        refine r_sub [1, 2, 0] rfl ?_
        exact tl_X8_hours_41 X hR FU a1 (0 : Int32) σ17 hf
      · replace hf := okf h20 hf
        refine r_aload_n X dX8_hours_32 0 rfl isr_ref ?_
        refine r_ldc (v := (-1000000003 : Int32)) X (mem_ix 4 rfl) dX8_hours_33 ?_
        refine r_callVi (rest := []) X (c_X8_error l G (-1000000003 : Int32) σ17 (oks hf)) md_X8_error gX8_hours_X8_error (by decide) rfl rfl (kd_in kc_108 (by decide)) (EE_8 _ kc_108) rfl rfl (Nat.le_of_ble_eq_true rfl) dX8_hours_35 (fun r25 σ26 e27 => ?_)
        replace hf := okn e27 hf
        exact r_iret X rfl hR (ok0 hf) dX8_hours_38
    · replace hf := okt h19 hf
      refine r_aload_n X dX8_hours_10 0 rfl isr_ref ?_
      refine r_ldc (v := (-1000000001 : Int32)) X (mem_ix 1 rfl) dX8_hours_11 ?_
      refine r_callVi (rest := []) X (c_X8_error l G (-1000000001 : Int32) σ17 (oks hf)) md_X8_error gX8_hours_X8_error (by decide) rfl rfl (kd_in kc_108 (by decide)) (EE_8 _ kc_108) rfl rfl (Nat.le_of_ble_eq_true rfl) dX8_hours_13 (fun r28 σ29 e30 => ?_)
      replace hf := okn e30 hf
      exact r_iret X rfl hR (ok0 hf) dX8_hours_16
theorem md_X8_hours : MD yX8_hours wsX8_hours cX8_hours 3 1 (some .int) := ⟨⟨_, rfl⟩, by decide +kernel, by decide +kernel, by decide⟩
theorem c_X8_hours (l : Launch) (G : GX)  (a1 : Int32) (σ : MM) (h : (f_X8_hours a1 σ).isSome = true) : CTi l G yX8_hours wsX8_hours 5 [.ref (G.1 108), .int a1] σ (f_X8_hours a1 σ) :=
  CTi_of md_X8_hours (Nat.le_of_ble_eq_true rfl) (fun K X hR => e_X8_hours X hR a1 σ (ok_is h))
-- X8_loose
theorem in_X8_loose_8 : ∀ w ∈ u_ws RX8 TX8 9, w ∈ wsX8_loose := fun _ h => List.mem_cons_of_mem _ (List.mem_append_left _ (List.mem_append_left _ (List.mem_append_left _ (List.mem_append_left _ (List.mem_append_right _ h)))))
theorem in_X8_loose_0 : ∀ w ∈ u_ws RX0 TX0 12, w ∈ wsX8_loose := fun _ h => List.mem_cons_of_mem _ (List.mem_append_left _ (List.mem_append_left _ (List.mem_append_left _ (List.mem_append_right _ h))))
theorem in_X8_loose_3 : ∀ w ∈ u_ws RX3 TX3 4, w ∈ wsX8_loose := fun _ h => List.mem_cons_of_mem _ (List.mem_append_left _ (List.mem_append_left _ (List.mem_append_right _ h)))
theorem in_X8_loose_2 : ∀ w ∈ u_ws RX2 TX2 4, w ∈ wsX8_loose := fun _ h => List.mem_cons_of_mem _ (List.mem_append_left _ (List.mem_append_right _ h))
theorem in_X8_loose_6 : ∀ w ∈ u_ws RX6 TX6 3, w ∈ wsX8_loose := fun _ h => List.mem_cons_of_mem _ (List.mem_append_right _ h)
def u_X8_loose_43 (k43 : Int32 → Int32 → Int32 → MM → Option (Int32 × MM)) (v1 : Int32) (v2 : Int32) (v3 : Int32) (σ : MM) : Option (Int32 × MM) :=
  if v1 ≤ v3 then some (v2, σ) else bd (f_X0_passHourByDraws 0 σ) (fun r22 σ23 => k43 v1 (v2 + r22) (v3 + (1 : Int32)) σ23)
def l_X8_loose_43 (v1 : Int32) (v2 : Int32) (v3 : Int32) (σ : MM) : Option (Int32 × MM) :=
  itr (fun _ _ _ _ => none) (u_X8_loose_43) FU v1 v2 v3 σ
def f_X8_loose (a1 : Int32) (σ : MM) : Option (Int32 × MM) :=
  bd (f_X8_within a1 (1 : Int32) (30 : Int32) σ) (fun r16 σ17 => if r16 = 0 then bd (f_X8_error (-1000000001 : Int32) σ17) (fun r28 σ29 => some (r28, σ29)) else if (σ17 0 10) ≤ ((9999 : Int32) - a1) then l_X8_loose_43 a1 (0 : Int32) (0 : Int32) σ17 else bd (f_X8_error (-1000000003 : Int32) σ17) (fun r25 σ26 => some (r25, σ26)))
set_option maxRecDepth 100000 in
set_option maxHeartbeats 4000000 in
theorem t_X8_loose_43 {l : Launch} {G : GX} {K : KX} (X : FX G K cX8_loose RX8 (some .int) wsX8_loose 4) {Φ : Int32 → MM → Prop} (hR : Ri G K Φ) (k43 : Int32 → Int32 → Int32 → MM → Option (Int32 × MM)) (hk43c : ∀ (v1 : Int32) (v2 : Int32) (v3 : Int32) (σ : MM), Ok Φ (k43 v1 v2 v3 σ) → V l G 9 K 4 43 [(0, .ref (G.1 108)), (1, .int v1), (2, .int v2), (3, .int v3)] [] σ) (v1 : Int32) (v2 : Int32) (v3 : Int32) (σ : MM) (hf : Ok Φ (u_X8_loose_43 k43 v1 v2 v3 σ)) : V l G 9 K 4 43 [(0, .ref (G.1 108)), (1, .int v1), (2, .int v2), (3, .int v3)] [] σ := by
    unfold u_X8_loose_43 at hf
    refine r_iload_n X dX8_loose_43 3 rfl ?_
    refine r_iload_n X dX8_loose_44 1 rfl ?_
    refine r_icmp_ge (tgt := 64) X dX8_loose_45 (by decide) (fun h21 => ?_) (fun h21 => ?_)
    · replace hf := okt h21 hf
      refine r_iload_n X dX8_loose_64 2 rfl ?_
      exact r_iret X rfl hR (ok0 hf) dX8_loose_65
    · replace hf := okf h21 hf
      refine r_iload_n X dX8_loose_48 2 rfl ?_
      refine r_aload_n X dX8_loose_49 0 rfl isr_ref ?_
      refine r_get (i := 108) (v := .ref (G.1 0)) X in_X8_loose_8 rfl 0 (by decide) (kd_in kc_108 (by decide)) (EE_8 _ kc_108) rfl (mem_ix 2 rfl) dX8_loose_50 ?_
      refine r_callVi (rest := [.int v2]) X (c_X0_passHourByDraws l G 0 kc_0 σ (oks hf)) md_X0_passHourByDraws gX8_loose_X0_passHourByDraws (by decide) rfl rfl (kd_in kc_0 (by decide)) (EE_0 _ kc_0) rfl rfl (Nat.le_of_ble_eq_true rfl) dX8_loose_53 (fun r22 σ23 e24 => ?_)
      replace hf := okn e24 hf
      refine r_iadd X dX8_loose_56 ?_
      refine r_istore_n X dX8_loose_57 (i := 2) rfl (by decide) (lv' := [(2, .int (v2 + r22)), (0, .ref (G.1 108)), (1, .int v1), (3, .int v3)]) rfl ?_
      refine r_iinc (v := (v3 + (1 : Int32))) X dX8_loose_58 3 rfl (congrArg _ ci_1) (by decide) (lv' := [(3, .int (v3 + (1 : Int32))), (2, .int (v2 + r22)), (0, .ref (G.1 108)), (1, .int v1)]) rfl ?_
      refine r_goto (tgt := 43) X dX8_loose_61 (by decide) ?_
      refine r_sub [2, 3, 1, 0] rfl ?_
      exact hk43c v1 (v2 + r22) (v3 + (1 : Int32)) σ23 hf
theorem tl_X8_loose_43 {l : Launch} {G : GX} {K : KX} (X : FX G K cX8_loose RX8 (some .int) wsX8_loose 4) {Φ : Int32 → MM → Prop} (hR : Ri G K Φ) : ∀ (m : Nat) (v1 : Int32) (v2 : Int32) (v3 : Int32) (σ : MM), Ok Φ (itr (fun _ _ _ _ => none) (u_X8_loose_43) m v1 v2 v3 σ) → V l G 9 K 4 43 [(0, .ref (G.1 108)), (1, .int v1), (2, .int v2), (3, .int v3)] [] σ := by
  intro m
  induction m with
  | zero => intro v1 v2 v3 σ hf; exact (okx hf).elim
  | succ m ih => intro v1 v2 v3 σ hf; exact t_X8_loose_43 X hR _ ih v1 v2 v3 σ hf
set_option maxRecDepth 100000 in
set_option maxHeartbeats 4000000 in
theorem e_X8_loose {l : Launch} {G : GX} {K : KX} (X : FX G K cX8_loose RX8 (some .int) wsX8_loose 4) {Φ : Int32 → MM → Prop} (hR : Ri G K Φ) (a1 : Int32) (σ : MM) (hf : Ok Φ (f_X8_loose a1 σ)) : V l G 9 K 4 0 [(0, .ref (G.1 108)), (1, .int a1)] [] σ := by
    unfold f_X8_loose at hf
    refine r_iload_n X dX8_loose_0 1 rfl ?_
    refine r_iconst X dX8_loose_1 ci_1 ?_
    refine r_bipush X dX8_loose_2 cb_30 ?_
    refine r_callSi (rest := []) X (c_X8_within l G a1 (1 : Int32) (30 : Int32) σ (oks hf)) md_X8_within gX8_loose_X8_within (by decide) rfl rfl (Nat.le_of_ble_eq_true rfl) dX8_loose_4 (fun r16 σ17 e18 => ?_)
    replace hf := okn e18 hf
    refine r_if_ne (tgt := 17) X dX8_loose_7 (by decide) (fun h19 => ?_) (fun h19 => ?_)
    · replace hf := okf h19 hf
      refine r_aload_n X dX8_loose_17 0 rfl isr_ref ?_
      refine r_get (i := 108) (v := .ref (G.1 0)) X in_X8_loose_8 rfl 0 (by decide) (kd_in kc_108 (by decide)) (EE_8 _ kc_108) rfl (mem_ix 2 rfl) dX8_loose_18 ?_
      refine r_get (i := 0) (v := .int (σ17 0 10)) X in_X8_loose_0 rfl 10 (by decide) (kd_in kc_0 (by decide)) (EE_0 _ kc_0) rfl (mem_ix 3 rfl) dX8_loose_21 ?_
      refine r_sipush X dX8_loose_24 cs_9999 ?_
      refine r_iload_n X dX8_loose_27 1 rfl ?_
      refine r_isub X dX8_loose_28 ?_
      refine r_icmp_le (tgt := 39) X dX8_loose_29 (by decide) (fun h20 => ?_) (fun h20 => ?_)
      · replace hf := okt h20 hf
        refine r_iconst X dX8_loose_39 ci_0 ?_
        refine r_istore_n X dX8_loose_40 (i := 2) rfl (by decide) (lv' := [(2, .int (0 : Int32)), (0, .ref (G.1 108)), (1, .int a1)]) rfl ?_
        refine r_iconst X dX8_loose_41 ci_0 ?_
        refine r_istore_n X dX8_loose_42 (i := 3) rfl (by decide) (lv' := [(3, .int (0 : Int32)), (2, .int (0 : Int32)), (0, .ref (G.1 108)), (1, .int a1)]) rfl ?_
        refine r_sub [2, 3, 1, 0] rfl ?_
        exact tl_X8_loose_43 X hR FU a1 (0 : Int32) (0 : Int32) σ17 hf
      · replace hf := okf h20 hf
        refine r_aload_n X dX8_loose_32 0 rfl isr_ref ?_
        refine r_ldc (v := (-1000000003 : Int32)) X (mem_ix 4 rfl) dX8_loose_33 ?_
        refine r_callVi (rest := []) X (c_X8_error l G (-1000000003 : Int32) σ17 (oks hf)) md_X8_error gX8_loose_X8_error (by decide) rfl rfl (kd_in kc_108 (by decide)) (EE_8 _ kc_108) rfl rfl (Nat.le_of_ble_eq_true rfl) dX8_loose_35 (fun r25 σ26 e27 => ?_)
        replace hf := okn e27 hf
        exact r_iret X rfl hR (ok0 hf) dX8_loose_38
    · replace hf := okt h19 hf
      refine r_aload_n X dX8_loose_10 0 rfl isr_ref ?_
      refine r_ldc (v := (-1000000001 : Int32)) X (mem_ix 1 rfl) dX8_loose_11 ?_
      refine r_callVi (rest := []) X (c_X8_error l G (-1000000001 : Int32) σ17 (oks hf)) md_X8_error gX8_loose_X8_error (by decide) rfl rfl (kd_in kc_108 (by decide)) (EE_8 _ kc_108) rfl rfl (Nat.le_of_ble_eq_true rfl) dX8_loose_13 (fun r28 σ29 e30 => ?_)
      replace hf := okn e30 hf
      exact r_iret X rfl hR (ok0 hf) dX8_loose_16
theorem md_X8_loose : MD yX8_loose wsX8_loose cX8_loose 4 1 (some .int) := ⟨⟨_, rfl⟩, by decide +kernel, by decide +kernel, by decide⟩
theorem c_X8_loose (l : Launch) (G : GX)  (a1 : Int32) (σ : MM) (h : (f_X8_loose a1 σ).isSome = true) : CTi l G yX8_loose wsX8_loose 9 [.ref (G.1 108), .int a1] σ (f_X8_loose a1 σ) :=
  CTi_of md_X8_loose (Nat.le_of_ble_eq_true rfl) (fun K X hR => e_X8_loose X hR a1 σ (ok_is h))
-- X8_seed
theorem in_X8_seed_8 : ∀ w ∈ u_ws RX8 TX8 9, w ∈ wsX8_seed := fun _ h => List.mem_cons_of_mem _ (List.mem_append_left _ (List.mem_append_right _ h))
theorem in_X8_seed_0 : ∀ w ∈ u_ws RX0 TX0 12, w ∈ wsX8_seed := fun _ h => List.mem_cons_of_mem _ (List.mem_append_right _ h)
def f_X8_seed (a1 : Int32) (σ : MM) : Option (Int32 × MM) :=
  lt (mu σ 0 11 a1) (fun σ3 => some ((σ 0 11), σ3))
set_option maxRecDepth 100000 in
set_option maxHeartbeats 4000000 in
theorem e_X8_seed {l : Launch} {G : GX} {K : KX} (X : FX G K cX8_seed RX8 (some .int) wsX8_seed 3) {Φ : Int32 → MM → Prop} (hR : Ri G K Φ) (a1 : Int32) (σ : MM) (hf : Ok Φ (f_X8_seed a1 σ)) : V l G 3 K 3 0 [(0, .ref (G.1 108)), (1, .int a1)] [] σ := by
    unfold f_X8_seed at hf
    refine r_aload_n X dX8_seed_0 0 rfl isr_ref ?_
    refine r_get (i := 108) (v := .ref (G.1 0)) X in_X8_seed_8 rfl 0 (by decide) (kd_in kc_108 (by decide)) (EE_8 _ kc_108) rfl (mem_ix 1 rfl) dX8_seed_1 ?_
    refine r_get (i := 0) (v := .int (σ 0 11)) X in_X8_seed_0 rfl 11 (by decide) (kd_in kc_0 (by decide)) (EE_0 _ kc_0) rfl (mem_ix 2 rfl) dX8_seed_4 ?_
    refine r_istore_n X dX8_seed_7 (i := 2) rfl (by decide) (lv' := [(2, .int (σ 0 11)), (0, .ref (G.1 108)), (1, .int a1)]) rfl ?_
    refine r_aload_n X dX8_seed_8 1 rfl isr_ref ?_
    refine r_get (i := 108) (v := .ref (G.1 0)) X in_X8_seed_8 rfl 0 (by decide) (kd_in kc_108 (by decide)) (EE_8 _ kc_108) rfl (mem_ix 1 rfl) dX8_seed_9 ?_
    refine r_iload_n X dX8_seed_12 2 rfl ?_
    obtain ⟨σ3, e4, hf⟩ := okl hf
    refine r_put (i := 0) (f := upd (σ 0) 11 a1) X in_X8_seed_0 tyX0 tyX0_ok nmX0 rfl 11 (by decide) (kd_in kc_0 (by decide)) (EE_0 _ kc_0) (EU_0_11 _ _ kc_0) rfl (mem_ix 2 rfl) rfl rfl rfl rfl dX8_seed_13 ?_
    refine r_sg e4 ?_
    refine r_iload_n X dX8_seed_16 0 rfl ?_
    exact r_iret X rfl hR (ok0 hf) dX8_seed_17
theorem md_X8_seed : MD yX8_seed wsX8_seed cX8_seed 3 1 (some .int) := ⟨⟨_, rfl⟩, by decide +kernel, by decide +kernel, by decide⟩
theorem c_X8_seed (l : Launch) (G : GX)  (a1 : Int32) (σ : MM) (h : (f_X8_seed a1 σ).isSome = true) : CTi l G yX8_seed wsX8_seed 3 [.ref (G.1 108), .int a1] σ (f_X8_seed a1 σ) :=
  CTi_of md_X8_seed (Nat.le_of_ble_eq_true rfl) (fun K X hR => e_X8_seed X hR a1 σ (ok_is h))
-- X8_words
theorem in_X8_words_8 : ∀ w ∈ u_ws RX8 TX8 9, w ∈ wsX8_words := fun _ h => List.mem_cons_of_mem _ (List.mem_append_left _ (List.mem_append_left _ (List.mem_append_left _ (List.mem_append_right _ h))))
theorem in_X8_words_0 : ∀ w ∈ u_ws RX0 TX0 12, w ∈ wsX8_words := fun _ h => List.mem_cons_of_mem _ (List.mem_append_left _ (List.mem_append_left _ (List.mem_append_right _ h)))
theorem in_X8_words_2 : ∀ w ∈ u_ws RX2 TX2 4, w ∈ wsX8_words := fun _ h => List.mem_cons_of_mem _ (List.mem_append_left _ (List.mem_append_right _ h))
theorem in_X8_words_6 : ∀ w ∈ u_ws RX6 TX6 3, w ∈ wsX8_words := fun _ h => List.mem_cons_of_mem _ (List.mem_append_right _ h)
def u_X8_words_22  (σ : MM) : Option (Int32 × MM) :=
  bd (f_X8_error (-1000000001 : Int32) σ) (fun r29 σ30 => some (r29, σ30))
def f_X8_words (a1 : Int32) (a2 : Int32) (σ : MM) : Option (Int32 × MM) :=
  bd (f_X0_judgeOn 0 a1 σ) (fun r24 σ25 => onO r24 (u_X8_words_22 σ25) (fun i27 => if kd i27 = 2 then bd (f_X8_within a2 (0 : Int32) (1 : Int32) σ25) (fun r32 σ33 => if r32 = 0 then u_X8_words_22 σ33 else if a2 = 0 then bd (f_X0_contentWords 0 i27 σ33) (fun r44 σ45 => some (r44, σ45)) else bd (f_X0_leastContent 0 i27 σ33) (fun r37 σ38 => if 0 ≤ r37 then some (r37, σ38) else bd (f_X8_error (-1000000002 : Int32) σ38) (fun r41 σ42 => some (r41, σ42)))) else none))
set_option maxRecDepth 100000 in
set_option maxHeartbeats 4000000 in
theorem t_X8_words_22 {l : Launch} {G : GX} {K : KX} (X : FX G K cX8_words RX8 (some .int) wsX8_words 5) {Φ : Int32 → MM → Prop} (hR : Ri G K Φ)  (σ : MM) (hf : Ok Φ (u_X8_words_22  σ)) : V l G 8 K 5 22 [(0, .ref (G.1 108))] [] σ := by
    unfold u_X8_words_22 at hf
    refine r_aload_n X dX8_words_22 0 rfl isr_ref ?_
    refine r_ldc (v := (-1000000001 : Int32)) X (mem_ix 2 rfl) dX8_words_23 ?_
    refine r_callVi (rest := []) X (c_X8_error l G (-1000000001 : Int32) σ (oks hf)) md_X8_error gX8_words_X8_error (by decide) rfl rfl (kd_in kc_108 (by decide)) (EE_8 _ kc_108) rfl rfl (Nat.le_of_ble_eq_true rfl) dX8_words_25 (fun r29 σ30 e31 => ?_)
    replace hf := okn e31 hf
    exact r_iret X rfl hR (ok0 hf) dX8_words_28
set_option maxRecDepth 100000 in
set_option maxHeartbeats 4000000 in
theorem e_X8_words {l : Launch} {G : GX} {K : KX} (X : FX G K cX8_words RX8 (some .int) wsX8_words 5) {Φ : Int32 → MM → Prop} (hR : Ri G K Φ) (a1 : Int32) (a2 : Int32) (σ : MM) (hf : Ok Φ (f_X8_words a1 a2 σ)) : V l G 8 K 5 0 [(0, .ref (G.1 108)), (1, .int a1), (2, .int a2)] [] σ := by
    unfold f_X8_words at hf
    refine r_aload_n X dX8_words_0 0 rfl isr_ref ?_
    refine r_get (i := 108) (v := .ref (G.1 0)) X in_X8_words_8 rfl 0 (by decide) (kd_in kc_108 (by decide)) (EE_8 _ kc_108) rfl (mem_ix 1 rfl) dX8_words_1 ?_
    refine r_iload_n X dX8_words_4 1 rfl ?_
    refine r_callVq (rest := []) X (c_X0_judgeOn l G 0 a1 kc_0 σ (oks hf)) md_X0_judgeOn gX8_words_X0_judgeOn (by decide) rfl rfl (kd_in kc_0 (by decide)) (EE_0 _ kc_0) rfl rfl (Nat.le_of_ble_eq_true rfl) dX8_words_5 (fun r24 σ25 e26 => ?_)
    replace hf := okn e26 hf
    rcases r24 with _ | i27
    · replace hf := okz hf
      refine r_astore_n X dX8_words_8 (i := 3) rfl (by decide) isr_null (lv' := [(3, .null), (0, .ref (G.1 108)), (1, .int a1), (2, .int a2)]) rfl ?_
      refine r_aload_n X dX8_words_9 0 rfl isr_null ?_
      refine r_ifnullN (tgt := 22) X dX8_words_10 (by decide) ?_
      refine r_sub [1] rfl ?_
      exact t_X8_words_22 X hR σ25 hf
    · replace hf := oky hf
      obtain ⟨hi28, hf⟩ := okp hf
      refine r_astore_n X dX8_words_8 (i := 3) rfl (by decide) isr_ref (lv' := [(3, .ref (G.1 i27)), (0, .ref (G.1 108)), (1, .int a1), (2, .int a2)]) rfl ?_
      refine r_aload_n X dX8_words_9 0 rfl isr_ref ?_
      refine r_ifnull X dX8_words_10 ?_
      refine r_iload_n X dX8_words_13 3 rfl ?_
      refine r_iconst X dX8_words_14 ci_0 ?_
      refine r_iconst X dX8_words_15 ci_1 ?_
      refine r_callSi (rest := []) X (c_X8_within l G a2 (0 : Int32) (1 : Int32) σ25 (oks hf)) md_X8_within gX8_words_X8_within (by decide) rfl rfl (Nat.le_of_ble_eq_true rfl) dX8_words_16 (fun r32 σ33 e34 => ?_)
      replace hf := okn e34 hf
      refine r_if_ne (tgt := 29) X dX8_words_19 (by decide) (fun h35 => ?_) (fun h35 => ?_)
      · replace hf := okf h35 hf
        refine r_iload_n X dX8_words_29 3 rfl ?_
        refine r_if_ne (tgt := 42) X dX8_words_30 (by decide) (fun h36 => ?_) (fun h36 => ?_)
        · replace hf := okf h36 hf
          refine r_aload_n X dX8_words_42 1 rfl isr_ref ?_
          refine r_get (i := 108) (v := .ref (G.1 0)) X in_X8_words_8 rfl 0 (by decide) (kd_in kc_108 (by decide)) (EE_8 _ kc_108) rfl (mem_ix 1 rfl) dX8_words_43 ?_
          refine r_aload_n X dX8_words_46 0 rfl isr_ref ?_
          refine r_callVi (rest := []) X (c_X0_leastContent l G 0 i27 kc_0 hi28 σ33 (oks hf)) md_X0_leastContent gX8_words_X0_leastContent (by decide) rfl rfl (kd_in kc_0 (by decide)) (EE_0 _ kc_0) rfl rfl (Nat.le_of_ble_eq_true rfl) dX8_words_47 (fun r37 σ38 e39 => ?_)
          replace hf := okn e39 hf
          refine r_istore X dX8_words_50 (by decide) (lv' := [(4, .int r37), (3, .ref (G.1 i27)), (0, .ref (G.1 108)), (1, .int a1), (2, .int a2)]) rfl ?_
          refine r_iload X dX8_words_52 0 rfl ?_
          refine r_if_ge (tgt := 66) X dX8_words_54 (by decide) (fun h40 => ?_) (fun h40 => ?_)
          · replace hf := okt h40 hf
            refine r_iload X dX8_words_66 0 rfl ?_
            exact r_iret X rfl hR (ok0 hf) dX8_words_68
          · replace hf := okf h40 hf
            refine r_aload_n X dX8_words_57 2 rfl isr_ref ?_
            refine r_ldc (v := (-1000000002 : Int32)) X (mem_ix 3 rfl) dX8_words_58 ?_
            refine r_callVi (rest := []) X (c_X8_error l G (-1000000002 : Int32) σ38 (oks hf)) md_X8_error gX8_words_X8_error (by decide) rfl rfl (kd_in kc_108 (by decide)) (EE_8 _ kc_108) rfl rfl (Nat.le_of_ble_eq_true rfl) dX8_words_60 (fun r41 σ42 e43 => ?_)
            replace hf := okn e43 hf
            refine r_goto (tgt := 68) X dX8_words_63 (by decide) ?_
            exact r_iret X rfl hR (ok0 hf) dX8_words_68
        · replace hf := okt h36 hf
          refine r_aload_n X dX8_words_33 1 rfl isr_ref ?_
          refine r_get (i := 108) (v := .ref (G.1 0)) X in_X8_words_8 rfl 0 (by decide) (kd_in kc_108 (by decide)) (EE_8 _ kc_108) rfl (mem_ix 1 rfl) dX8_words_34 ?_
          refine r_aload_n X dX8_words_37 0 rfl isr_ref ?_
          refine r_callVi (rest := []) X (c_X0_contentWords l G 0 i27 kc_0 hi28 σ33 (oks hf)) md_X0_contentWords gX8_words_X0_contentWords (by decide) rfl rfl (kd_in kc_0 (by decide)) (EE_0 _ kc_0) rfl rfl (Nat.le_of_ble_eq_true rfl) dX8_words_38 (fun r44 σ45 e46 => ?_)
          replace hf := okn e46 hf
          exact r_iret X rfl hR (ok0 hf) dX8_words_41
      · replace hf := okt h35 hf
        refine r_sub [1] rfl ?_
        exact t_X8_words_22 X hR σ33 hf
theorem md_X8_words : MD yX8_words wsX8_words cX8_words 5 2 (some .int) := ⟨⟨_, rfl⟩, by decide +kernel, by decide +kernel, by decide⟩
theorem c_X8_words (l : Launch) (G : GX)  (a1 : Int32) (a2 : Int32) (σ : MM) (h : (f_X8_words a1 a2 σ).isSome = true) : CTi l G yX8_words wsX8_words 8 [.ref (G.1 108), .int a1, .int a2] σ (f_X8_words a1 a2 σ) :=
  CTi_of md_X8_words (Nat.le_of_ble_eq_true rfl) (fun K X hR => e_X8_words X hR a1 a2 σ (ok_is h))
-- X8_sheetOf
theorem in_X8_sheetOf_8 : ∀ w ∈ u_ws RX8 TX8 9, w ∈ wsX8_sheetOf := fun _ h => List.mem_cons_of_mem _ (List.mem_append_right _ h)
def f_X8_sheetOf (a1 : Int32) (σ : MM) : Option (Option Nat × MM) :=
  if a1 < 0 then some ((none : Option Nat), σ) else if (4 : Int32) ≤ a1 then some ((none : Option Nat), σ) else if a1 < 0 ∨ 4 ≤ a1.toNatClampNeg then none else some ((some (119 + 1 + a1.toNatClampNeg) : Option Nat), σ)
set_option maxRecDepth 100000 in
set_option maxHeartbeats 4000000 in
theorem e_X8_sheetOf {l : Launch} {G : GX} {K : KX} (X : FX G K cX8_sheetOf RX8 (some (.object "StairCourt$Sheet")) wsX8_sheetOf 2) {Φ : Option Nat → MM → Prop} (hR : Rq G K Φ) (a1 : Int32) (σ : MM) (hf : Ok Φ (f_X8_sheetOf a1 σ)) : V l G 3 K 2 0 [(0, .ref (G.1 108)), (1, .int a1)] [] σ := by
    unfold f_X8_sheetOf at hf
    refine r_iload_n X dX8_sheetOf_0 1 rfl ?_
    refine r_if_lt (tgt := 22) X dX8_sheetOf_1 (by decide) (fun h4 => ?_) (fun h4 => ?_)
    · replace hf := okt h4 hf
      refine r_null X dX8_sheetOf_22 ?_
      exact r_qret (r := none) X rfl hR rfl (ok0 hf) dX8_sheetOf_23
    · replace hf := okf h4 hf
      refine r_iload_n X dX8_sheetOf_4 1 rfl ?_
      refine r_aload_n X dX8_sheetOf_5 0 rfl isr_ref ?_
      refine r_get (i := 108) (v := .ref (G.1 119)) X in_X8_sheetOf_8 rfl 6 (by decide) (kd_in kc_108 (by decide)) (EE_8 _ kc_108) rfl (mem_ix 1 rfl) dX8_sheetOf_6 ?_
      refine r_alen (i := 119) (t := 3) (v := (4 : Int32)) X (kd_in kc_119 (by decide)) (EE_32 _ kc_119) rfl (by decide) dX8_sheetOf_9 ?_
      refine r_icmp_ge (tgt := 22) X dX8_sheetOf_10 (by decide) (fun h5 => ?_) (fun h5 => ?_)
      · replace hf := okt h5 hf
        refine r_null X dX8_sheetOf_22 ?_
        exact r_qret (r := none) X rfl hR rfl (ok0 hf) dX8_sheetOf_23
      · replace hf := okf h5 hf
        refine r_aload_n X dX8_sheetOf_13 0 rfl isr_ref ?_
        refine r_get (i := 108) (v := .ref (G.1 119)) X in_X8_sheetOf_8 rfl 6 (by decide) (kd_in kc_108 (by decide)) (EE_8 _ kc_108) rfl (mem_ix 1 rfl) dX8_sheetOf_14 ?_
        refine r_iload_n X dX8_sheetOf_17 1 rfl ?_
        obtain ⟨g6, hf⟩ := okg hf
        refine r_aald (i := 119) (t := 3) (d := 1) (jn := a1.toNatClampNeg) X (kd_in kc_119 (by decide)) (EE_32 _ kc_119) rfl rfl g6 dX8_sheetOf_18 ?_
        refine r_goto (tgt := 23) X dX8_sheetOf_19 (by decide) ?_
        exact r_qret (r := some (119 + 1 + a1.toNatClampNeg)) X rfl hR rfl (ok0 hf) dX8_sheetOf_23
theorem md_X8_sheetOf : MD yX8_sheetOf wsX8_sheetOf cX8_sheetOf 2 1 (some (.object "StairCourt$Sheet")) := ⟨⟨_, rfl⟩, by decide +kernel, by decide +kernel, by decide⟩
theorem c_X8_sheetOf (l : Launch) (G : GX)  (a1 : Int32) (σ : MM) (h : (f_X8_sheetOf a1 σ).isSome = true) : CTq l G yX8_sheetOf wsX8_sheetOf 3 [.ref (G.1 108), .int a1] σ (f_X8_sheetOf a1 σ) :=
  CTq_of md_X8_sheetOf (Nat.le_of_ble_eq_true rfl) (fun K X hR => e_X8_sheetOf X hR a1 σ (ok_is h))
-- X8_climb
theorem in_X8_climb_8 : ∀ w ∈ u_ws RX8 TX8 9, w ∈ wsX8_climb := fun _ h => List.mem_cons_of_mem _ (List.mem_append_left _ (List.mem_append_left _ (List.mem_append_left _ (List.mem_append_left _ (List.mem_append_left _ (List.mem_append_right _ h))))))
theorem in_X8_climb_5 : ∀ w ∈ u_ws RX5 TX5 3, w ∈ wsX8_climb := fun _ h => List.mem_cons_of_mem _ (List.mem_append_left _ (List.mem_append_left _ (List.mem_append_left _ (List.mem_append_left _ (List.mem_append_right _ h)))))
theorem in_X8_climb_3 : ∀ w ∈ u_ws RX3 TX3 4, w ∈ wsX8_climb := fun _ h => List.mem_cons_of_mem _ (List.mem_append_left _ (List.mem_append_left _ (List.mem_append_left _ (List.mem_append_right _ h))))
theorem in_X8_climb_0 : ∀ w ∈ u_ws RX0 TX0 12, w ∈ wsX8_climb := fun _ h => List.mem_cons_of_mem _ (List.mem_append_left _ (List.mem_append_left _ (List.mem_append_right _ h)))
theorem in_X8_climb_2 : ∀ w ∈ u_ws RX2 TX2 4, w ∈ wsX8_climb := fun _ h => List.mem_cons_of_mem _ (List.mem_append_left _ (List.mem_append_right _ h))
theorem in_X8_climb_6 : ∀ w ∈ u_ws RX6 TX6 3, w ∈ wsX8_climb := fun _ h => List.mem_cons_of_mem _ (List.mem_append_right _ h)
def u_X8_climb_47  (σ : MM) : Option (Int32 × MM) :=
  bd (f_X8_error (-1000000001 : Int32) σ) (fun r67 σ68 => some (r67, σ68))
def u_X8_climb_140 (v3 : Int32) (t4 : Nat) (v6 : Int32) (v7 : Int32) (σ : MM) : Option (Int32 × MM) :=
  if v3 = (0 : Int32) then some ((σ t4 0), σ) else if v3 = (1 : Int32) then some (v6, σ) else some (v7, σ)
def u_X8_climb_90 (k90 : Int32 → Nat → Nat → Int32 → Int32 → MM → Option (Int32 × MM)) (v3 : Int32) (t4 : Nat) (t5 : Nat) (v6 : Int32) (v7 : Int32) (σ : MM) : Option (Int32 × MM) :=
  if (σ t5 2) ≤ v6 then u_X8_climb_140 v3 t4 v6 v7 σ else bd (f_X0_canGo 72 t4 σ) (fun r90 σ91 => if r90 = 0 then u_X8_climb_140 v3 t4 v6 v7 σ91 else bd (f_X5_get t5 v6 σ91) (fun r94 σ95 => bd (f_X0_hear 72 t4 r94 σ95) (fun r97 σ98 => if r97 = 0 then k90 v3 t4 t5 (v6 + (1 : Int32)) (v7 + (1 : Int32)) σ98 else k90 v3 t4 t5 (v6 + (1 : Int32)) v7 σ98)))
def l_X8_climb_90 (v3 : Int32) (t4 : Nat) (t5 : Nat) (v6 : Int32) (v7 : Int32) (σ : MM) : Option (Int32 × MM) :=
  itr (fun _ _ _ _ _ _ => none) (u_X8_climb_90) FU v3 t4 t5 v6 v7 σ
def f_X8_climb (a1 : Int32) (a2 : Int32) (a3 : Int32) (σ : MM) : Option (Int32 × MM) :=
  bd (f_X0_copyFrom 72 0 σ) (fun r54 σ55 => bd (f_X0_personOf 72 a1 σ55) (fun r57 σ58 => onO r57 (bd (f_X8_sheetOf a2 σ58) (fun r62 σ63 => onO r62 (u_X8_climb_47 σ63) (fun i65 => if kd i65 = 5 then u_X8_climb_47 σ63 else none))) (fun i60 => if kd i60 = 3 then bd (f_X8_sheetOf a2 σ58) (fun r70 σ71 => onO r70 (u_X8_climb_47 σ71) (fun i73 => if kd i73 = 5 then bd (f_X8_within a3 (0 : Int32) (2 : Int32) σ71) (fun r75 σ76 => if r75 = 0 then u_X8_climb_47 σ76 else bd (f_X5_isMissing i73 σ76) (fun r79 σ80 => if r79 = 0 then bd (f_X5_holdsWordsAlone i73 σ80) (fun r83 σ84 => if r83 = 0 then bd (f_X8_error (-1000000003 : Int32) σ84) (fun r101 σ102 => some (r101, σ102)) else l_X8_climb_90 a3 i60 i73 (0 : Int32) (0 : Int32) σ84) else bd (f_X8_error (-1000000002 : Int32) σ80) (fun r104 σ105 => some (r104, σ105)))) else none)) else none)))
set_option maxRecDepth 100000 in
set_option maxHeartbeats 4000000 in
theorem t_X8_climb_47 {l : Launch} {G : GX} {K : KX} (X : FX G K cX8_climb RX8 (some .int) wsX8_climb 8) {Φ : Int32 → MM → Prop} (hR : Ri G K Φ)  (σ : MM) (hf : Ok Φ (u_X8_climb_47  σ)) : V l G 8 K 8 47 [(0, .ref (G.1 108))] [] σ := by
    unfold u_X8_climb_47 at hf
    refine r_aload_n X dX8_climb_47 0 rfl isr_ref ?_
    refine r_ldc (v := (-1000000001 : Int32)) X (mem_ix 3 rfl) dX8_climb_48 ?_
    refine r_callVi (rest := []) X (c_X8_error l G (-1000000001 : Int32) σ (oks hf)) md_X8_error gX8_climb_X8_error (by decide) rfl rfl (kd_in kc_108 (by decide)) (EE_8 _ kc_108) rfl rfl (Nat.le_of_ble_eq_true rfl) dX8_climb_50 (fun r67 σ68 e69 => ?_)
    replace hf := okn e69 hf
    exact r_iret X rfl hR (ok0 hf) dX8_climb_53
set_option maxRecDepth 100000 in
set_option maxHeartbeats 4000000 in
theorem t_X8_climb_140 {l : Launch} {G : GX} {K : KX} (X : FX G K cX8_climb RX8 (some .int) wsX8_climb 8) {Φ : Int32 → MM → Prop} (hR : Ri G K Φ) (v3 : Int32) (t4 : Nat) (v6 : Int32) (v7 : Int32) (hk4 : kd t4 = 3) (σ : MM) (hf : Ok Φ (u_X8_climb_140 v3 t4 v6 v7 σ)) : V l G 8 K 8 140 [(3, .int v3), (4, .ref (G.1 t4)), (6, .int v6), (7, .int v7)] [] σ := by
    unfold u_X8_climb_140 at hf
    refine r_iload_n X dX8_climb_140 0 rfl ?_
    by_cases h88 : v3 = (0 : Int32)
    · replace hf := okt h88 hf
      refine r_lookup (off := 27) (tgt := 168) X dX8_climb_141 (by decide +kernel) (by rw [h88]; rfl) (by decide) ?_
      refine r_aload X dX8_climb_168 1 rfl isr_ref ?_
      refine r_get (i := t4) (v := .int (σ t4 0)) X in_X8_climb_3 rfl 0 (by decide) (kd_in hk4 (by decide)) (EE_3 _ hk4) rfl (mem_ix 7 rfl) dX8_climb_170 ?_
      exact r_iret X rfl hR (ok0 hf) dX8_climb_173
    replace hf := okf h88 hf
    by_cases h89 : v3 = (1 : Int32)
    · replace hf := okt h89 hf
      refine r_lookup (off := 33) (tgt := 174) X dX8_climb_141 (by decide +kernel) (by rw [h89]; rfl) (by decide) ?_
      refine r_iload X dX8_climb_174 2 rfl ?_
      exact r_iret X rfl hR (ok0 hf) dX8_climb_176
    replace hf := okf h89 hf
    refine r_lookup (off := 36) (tgt := 177) X dX8_climb_141 (by decide +kernel) (lk_n h88 (by decide) (lk_n h89 (by decide) rfl)) (by decide) ?_
    refine r_iload X dX8_climb_177 3 rfl ?_
    exact r_iret X rfl hR (ok0 hf) dX8_climb_179
set_option maxRecDepth 100000 in
set_option maxHeartbeats 4000000 in
theorem t_X8_climb_90 {l : Launch} {G : GX} {K : KX} (X : FX G K cX8_climb RX8 (some .int) wsX8_climb 8) {Φ : Int32 → MM → Prop} (hR : Ri G K Φ) (k90 : Int32 → Nat → Nat → Int32 → Int32 → MM → Option (Int32 × MM)) (hk90c : ∀ (v3 : Int32) (t4 : Nat) (t5 : Nat) (v6 : Int32) (v7 : Int32) (hk4 : kd t4 = 3) (hk5 : kd t5 = 5) (σ : MM), Ok Φ (k90 v3 t4 t5 v6 v7 σ) → V l G 8 K 8 90 [(0, .ref (G.1 108)), (3, .int v3), (4, .ref (G.1 t4)), (5, .ref (G.1 t5)), (6, .int v6), (7, .int v7)] [] σ) (v3 : Int32) (t4 : Nat) (t5 : Nat) (v6 : Int32) (v7 : Int32) (hk4 : kd t4 = 3) (hk5 : kd t5 = 5) (σ : MM) (hf : Ok Φ (u_X8_climb_90 k90 v3 t4 t5 v6 v7 σ)) : V l G 8 K 8 90 [(0, .ref (G.1 108)), (3, .int v3), (4, .ref (G.1 t4)), (5, .ref (G.1 t5)), (6, .int v6), (7, .int v7)] [] σ := by
    unfold u_X8_climb_90 at hf
    refine r_iload X dX8_climb_90 4 rfl ?_
    refine r_aload X dX8_climb_92 3 rfl isr_ref ?_
    refine r_get (i := t5) (v := .int (σ t5 2)) X in_X8_climb_5 rfl 2 (by decide) (kd_in hk5 (by decide)) (EE_5 _ hk5) rfl (mem_ix 6 rfl) dX8_climb_94 ?_
    refine r_icmp_ge (tgt := 140) X dX8_climb_97 (by decide) (fun h87 => ?_) (fun h87 => ?_)
    · replace hf := okt h87 hf
      refine r_sub [1, 2, 4, 5] rfl ?_
      exact t_X8_climb_140 X hR v3 t4 v6 v7 hk4 σ hf
    · replace hf := okf h87 hf
      refine r_aload_n X dX8_climb_100 0 rfl isr_ref ?_
      refine r_get (i := 108) (v := .ref (G.1 72)) X in_X8_climb_8 rfl 2 (by decide) (kd_in kc_108 (by decide)) (EE_8 _ kc_108) rfl (mem_ix 1 rfl) dX8_climb_101 ?_
      refine r_aload X dX8_climb_104 2 rfl isr_ref ?_
      refine r_callVi (rest := []) X (c_X0_canGo l G 72 t4 kc_72 hk4 σ (oks hf)) md_X0_canGo gX8_climb_X0_canGo (by decide) rfl rfl (kd_in kc_72 (by decide)) (EE_0 _ kc_72) rfl rfl (Nat.le_of_ble_eq_true rfl) dX8_climb_106 (fun r90 σ91 e92 => ?_)
      replace hf := okn e92 hf
      refine r_if_eq (tgt := 140) X dX8_climb_109 (by decide) (fun h93 => ?_) (fun h93 => ?_)
      · replace hf := okt h93 hf
        refine r_sub [1, 2, 4, 5] rfl ?_
        exact t_X8_climb_140 X hR v3 t4 v6 v7 hk4 σ91 hf
      · replace hf := okf h93 hf
        refine r_aload_n X dX8_climb_112 0 rfl isr_ref ?_
        refine r_get (i := 108) (v := .ref (G.1 72)) X in_X8_climb_8 rfl 2 (by decide) (kd_in kc_108 (by decide)) (EE_8 _ kc_108) rfl (mem_ix 1 rfl) dX8_climb_113 ?_
        refine r_aload X dX8_climb_116 2 rfl isr_ref ?_
        refine r_aload X dX8_climb_118 3 rfl isr_ref ?_
        refine r_iload X dX8_climb_120 4 rfl ?_
        refine r_callVi (rest := [.ref (G.1 t4), .ref (G.1 72)]) X (c_X5_get l G t5 v6 hk5 σ91 (oks hf)) md_X5_get gX8_climb_X5_get (by decide) rfl rfl (kd_in hk5 (by decide)) (EE_5 _ hk5) rfl rfl (Nat.le_of_ble_eq_true rfl) dX8_climb_122 (fun r94 σ95 e96 => ?_)
        replace hf := okn e96 hf
        refine r_callVi (rest := []) X (c_X0_hear l G 72 t4 r94 kc_72 hk4 σ95 (oks hf)) md_X0_hear gX8_climb_X0_hear (by decide) rfl rfl (kd_in kc_72 (by decide)) (EE_0 _ kc_72) rfl rfl (Nat.le_of_ble_eq_true rfl) dX8_climb_125 (fun r97 σ98 e99 => ?_)
        replace hf := okn e99 hf
        refine r_if_ne (tgt := 134) X dX8_climb_128 (by decide) (fun h100 => ?_) (fun h100 => ?_)
        · replace hf := okf h100 hf
          refine r_iinc (v := (v6 + (1 : Int32))) X dX8_climb_134 4 rfl (congrArg _ ci_1) (by decide) (lv' := [(6, .int (v6 + (1 : Int32))), (0, .ref (G.1 108)), (3, .int v3), (4, .ref (G.1 t4)), (5, .ref (G.1 t5)), (7, .int v7)]) rfl ?_
          refine r_goto (tgt := 90) X dX8_climb_137 (by decide) ?_
          refine r_sub [1, 2, 3, 4, 0, 5] rfl ?_
          exact hk90c v3 t4 t5 (v6 + (1 : Int32)) v7 hk4 hk5 σ98 hf
        · replace hf := okt h100 hf
          refine r_iinc (v := (v7 + (1 : Int32))) X dX8_climb_131 5 rfl (congrArg _ ci_1) (by decide) (lv' := [(7, .int (v7 + (1 : Int32))), (0, .ref (G.1 108)), (3, .int v3), (4, .ref (G.1 t4)), (5, .ref (G.1 t5)), (6, .int v6)]) rfl ?_
          refine r_iinc (v := (v6 + (1 : Int32))) X dX8_climb_134 5 rfl (congrArg _ ci_1) (by decide) (lv' := [(6, .int (v6 + (1 : Int32))), (7, .int (v7 + (1 : Int32))), (0, .ref (G.1 108)), (3, .int v3), (4, .ref (G.1 t4)), (5, .ref (G.1 t5))]) rfl ?_
          refine r_goto (tgt := 90) X dX8_climb_137 (by decide) ?_
          refine r_sub [2, 3, 4, 5, 0, 1] rfl ?_
          exact hk90c v3 t4 t5 (v6 + (1 : Int32)) (v7 + (1 : Int32)) hk4 hk5 σ98 hf
theorem tl_X8_climb_90 {l : Launch} {G : GX} {K : KX} (X : FX G K cX8_climb RX8 (some .int) wsX8_climb 8) {Φ : Int32 → MM → Prop} (hR : Ri G K Φ) : ∀ (m : Nat) (v3 : Int32) (t4 : Nat) (t5 : Nat) (v6 : Int32) (v7 : Int32) (hk4 : kd t4 = 3) (hk5 : kd t5 = 5) (σ : MM), Ok Φ (itr (fun _ _ _ _ _ _ => none) (u_X8_climb_90) m v3 t4 t5 v6 v7 σ) → V l G 8 K 8 90 [(0, .ref (G.1 108)), (3, .int v3), (4, .ref (G.1 t4)), (5, .ref (G.1 t5)), (6, .int v6), (7, .int v7)] [] σ := by
  intro m
  induction m with
  | zero => intro v3 t4 t5 v6 v7 hk4 hk5 σ hf; exact (okx hf).elim
  | succ m ih => intro v3 t4 t5 v6 v7 hk4 hk5 σ hf; exact t_X8_climb_90 X hR _ ih v3 t4 t5 v6 v7 hk4 hk5 σ hf
set_option maxRecDepth 100000 in
set_option maxHeartbeats 4000000 in
theorem e_X8_climb {l : Launch} {G : GX} {K : KX} (X : FX G K cX8_climb RX8 (some .int) wsX8_climb 8) {Φ : Int32 → MM → Prop} (hR : Ri G K Φ) (a1 : Int32) (a2 : Int32) (a3 : Int32) (σ : MM) (hf : Ok Φ (f_X8_climb a1 a2 a3 σ)) : V l G 8 K 8 0 [(0, .ref (G.1 108)), (1, .int a1), (2, .int a2), (3, .int a3)] [] σ := by
    unfold f_X8_climb at hf
    refine r_aload_n X dX8_climb_0 0 rfl isr_ref ?_
    refine r_get (i := 108) (v := .ref (G.1 72)) X in_X8_climb_8 rfl 2 (by decide) (kd_in kc_108 (by decide)) (EE_8 _ kc_108) rfl (mem_ix 1 rfl) dX8_climb_1 ?_
    refine r_aload_n X dX8_climb_4 0 rfl isr_ref ?_
    refine r_get (i := 108) (v := .ref (G.1 0)) X in_X8_climb_8 rfl 0 (by decide) (kd_in kc_108 (by decide)) (EE_8 _ kc_108) rfl (mem_ix 2 rfl) dX8_climb_5 ?_
    refine r_callVv (rest := []) X (c_X0_copyFrom l G 72 0 kc_72 kc_0 σ (oks hf)) md_X0_copyFrom gX8_climb_X0_copyFrom (by decide) rfl rfl (kd_in kc_72 (by decide)) (EE_0 _ kc_72) rfl rfl (Nat.le_of_ble_eq_true rfl) dX8_climb_8 (fun r54 σ55 e56 => ?_)
    replace hf := okn e56 hf
    refine r_aload_n X dX8_climb_11 0 rfl isr_ref ?_
    refine r_get (i := 108) (v := .ref (G.1 72)) X in_X8_climb_8 rfl 2 (by decide) (kd_in kc_108 (by decide)) (EE_8 _ kc_108) rfl (mem_ix 1 rfl) dX8_climb_12 ?_
    refine r_iload_n X dX8_climb_15 1 rfl ?_
    refine r_callVq (rest := []) X (c_X0_personOf l G 72 a1 kc_72 σ55 (oks hf)) md_X0_personOf gX8_climb_X0_personOf (by decide) rfl rfl (kd_in kc_72 (by decide)) (EE_0 _ kc_72) rfl rfl (Nat.le_of_ble_eq_true rfl) dX8_climb_16 (fun r57 σ58 e59 => ?_)
    replace hf := okn e59 hf
    rcases r57 with _ | i60
    · replace hf := okz hf
      refine r_astore X dX8_climb_19 (by decide) isr_null (lv' := [(4, .null), (0, .ref (G.1 108)), (1, .int a1), (2, .int a2), (3, .int a3)]) rfl ?_
      refine r_aload_n X dX8_climb_21 1 rfl isr_ref ?_
      refine r_iload_n X dX8_climb_22 3 rfl ?_
      refine r_callVq (rest := []) X (c_X8_sheetOf l G a2 σ58 (oks hf)) md_X8_sheetOf gX8_climb_X8_sheetOf (by decide) rfl rfl (kd_in kc_108 (by decide)) (EE_8 _ kc_108) rfl rfl (Nat.le_of_ble_eq_true rfl) dX8_climb_23 (fun r62 σ63 e64 => ?_)
      replace hf := okn e64 hf
      rcases r62 with _ | i65
      · replace hf := okz hf
        refine r_astore X dX8_climb_26 (by decide) isr_null (lv' := [(5, .null), (4, .null), (0, .ref (G.1 108)), (1, .int a1), (2, .int a2), (3, .int a3)]) rfl ?_
        refine r_aload X dX8_climb_28 1 rfl isr_null ?_
        refine r_ifnullN (tgt := 47) X dX8_climb_30 (by decide) ?_
        refine r_sub [2] rfl ?_
        exact t_X8_climb_47 X hR σ63 hf
      · replace hf := oky hf
        obtain ⟨hi66, hf⟩ := okp hf
        refine r_astore X dX8_climb_26 (by decide) isr_ref (lv' := [(5, .ref (G.1 i65)), (4, .null), (0, .ref (G.1 108)), (1, .int a1), (2, .int a2), (3, .int a3)]) rfl ?_
        refine r_aload X dX8_climb_28 1 rfl isr_null ?_
        refine r_ifnullN (tgt := 47) X dX8_climb_30 (by decide) ?_
        refine r_sub [2] rfl ?_
        exact t_X8_climb_47 X hR σ63 hf
    · replace hf := oky hf
      obtain ⟨hi61, hf⟩ := okp hf
      refine r_astore X dX8_climb_19 (by decide) isr_ref (lv' := [(4, .ref (G.1 i60)), (0, .ref (G.1 108)), (1, .int a1), (2, .int a2), (3, .int a3)]) rfl ?_
      refine r_aload_n X dX8_climb_21 1 rfl isr_ref ?_
      refine r_iload_n X dX8_climb_22 3 rfl ?_
      refine r_callVq (rest := []) X (c_X8_sheetOf l G a2 σ58 (oks hf)) md_X8_sheetOf gX8_climb_X8_sheetOf (by decide) rfl rfl (kd_in kc_108 (by decide)) (EE_8 _ kc_108) rfl rfl (Nat.le_of_ble_eq_true rfl) dX8_climb_23 (fun r70 σ71 e72 => ?_)
      replace hf := okn e72 hf
      rcases r70 with _ | i73
      · replace hf := okz hf
        refine r_astore X dX8_climb_26 (by decide) isr_null (lv' := [(5, .null), (4, .ref (G.1 i60)), (0, .ref (G.1 108)), (1, .int a1), (2, .int a2), (3, .int a3)]) rfl ?_
        refine r_aload X dX8_climb_28 1 rfl isr_ref ?_
        refine r_ifnull X dX8_climb_30 ?_
        refine r_aload X dX8_climb_33 0 rfl isr_null ?_
        refine r_ifnullN (tgt := 47) X dX8_climb_35 (by decide) ?_
        refine r_sub [2] rfl ?_
        exact t_X8_climb_47 X hR σ71 hf
      · replace hf := oky hf
        obtain ⟨hi74, hf⟩ := okp hf
        refine r_astore X dX8_climb_26 (by decide) isr_ref (lv' := [(5, .ref (G.1 i73)), (4, .ref (G.1 i60)), (0, .ref (G.1 108)), (1, .int a1), (2, .int a2), (3, .int a3)]) rfl ?_
        refine r_aload X dX8_climb_28 1 rfl isr_ref ?_
        refine r_ifnull X dX8_climb_30 ?_
        refine r_aload X dX8_climb_33 0 rfl isr_ref ?_
        refine r_ifnull X dX8_climb_35 ?_
        refine r_iload_n X dX8_climb_38 5 rfl ?_
        refine r_iconst X dX8_climb_39 ci_0 ?_
        refine r_iconst X dX8_climb_40 ci_2 ?_
        refine r_callSi (rest := []) X (c_X8_within l G a3 (0 : Int32) (2 : Int32) σ71 (oks hf)) md_X8_within gX8_climb_X8_within (by decide) rfl rfl (Nat.le_of_ble_eq_true rfl) dX8_climb_41 (fun r75 σ76 e77 => ?_)
        replace hf := okn e77 hf
        refine r_if_ne (tgt := 54) X dX8_climb_44 (by decide) (fun h78 => ?_) (fun h78 => ?_)
        · replace hf := okf h78 hf
          refine r_aload X dX8_climb_54 0 rfl isr_ref ?_
          refine r_callVi (rest := []) X (c_X5_isMissing l G i73 hi74 σ76 (oks hf)) md_X5_isMissing gX8_climb_X5_isMissing (by decide) rfl rfl (kd_in hi74 (by decide)) (EE_5 _ hi74) rfl rfl (Nat.le_of_ble_eq_true rfl) dX8_climb_56 (fun r79 σ80 e81 => ?_)
          replace hf := okn e81 hf
          refine r_if_eq (tgt := 69) X dX8_climb_59 (by decide) (fun h82 => ?_) (fun h82 => ?_)
          · replace hf := okt h82 hf
            refine r_aload X dX8_climb_69 0 rfl isr_ref ?_
            refine r_callVi (rest := []) X (c_X5_holdsWordsAlone l G i73 hi74 σ80 (oks hf)) md_X5_holdsWordsAlone gX8_climb_X5_holdsWordsAlone (by decide) rfl rfl (kd_in hi74 (by decide)) (EE_5 _ hi74) rfl rfl (Nat.le_of_ble_eq_true rfl) dX8_climb_71 (fun r83 σ84 e85 => ?_)
            replace hf := okn e85 hf
            refine r_if_ne (tgt := 84) X dX8_climb_74 (by decide) (fun h86 => ?_) (fun h86 => ?_)
            · replace hf := okf h86 hf
              refine r_iconst X dX8_climb_84 ci_0 ?_
              refine r_istore X dX8_climb_85 (by decide) (lv' := [(6, .int (0 : Int32)), (5, .ref (G.1 i73)), (4, .ref (G.1 i60)), (0, .ref (G.1 108)), (1, .int a1), (2, .int a2), (3, .int a3)]) rfl ?_
              refine r_iconst X dX8_climb_87 ci_0 ?_
              refine r_istore X dX8_climb_88 (by decide) (lv' := [(7, .int (0 : Int32)), (6, .int (0 : Int32)), (5, .ref (G.1 i73)), (4, .ref (G.1 i60)), (0, .ref (G.1 108)), (1, .int a1), (2, .int a2), (3, .int a3)]) rfl ?_
              refine r_sub [4, 7, 3, 2, 1, 0] rfl ?_
              exact tl_X8_climb_90 X hR FU a3 i60 i73 (0 : Int32) (0 : Int32) hi61 hi74 σ84 hf
            · replace hf := okt h86 hf
              refine r_aload_n X dX8_climb_77 2 rfl isr_ref ?_
              refine r_ldc (v := (-1000000003 : Int32)) X (mem_ix 5 rfl) dX8_climb_78 ?_
              refine r_callVi (rest := []) X (c_X8_error l G (-1000000003 : Int32) σ84 (oks hf)) md_X8_error gX8_climb_X8_error (by decide) rfl rfl (kd_in kc_108 (by decide)) (EE_8 _ kc_108) rfl rfl (Nat.le_of_ble_eq_true rfl) dX8_climb_80 (fun r101 σ102 e103 => ?_)
              replace hf := okn e103 hf
              exact r_iret X rfl hR (ok0 hf) dX8_climb_83
          · replace hf := okf h82 hf
            refine r_aload_n X dX8_climb_62 2 rfl isr_ref ?_
            refine r_ldc (v := (-1000000002 : Int32)) X (mem_ix 4 rfl) dX8_climb_63 ?_
            refine r_callVi (rest := []) X (c_X8_error l G (-1000000002 : Int32) σ80 (oks hf)) md_X8_error gX8_climb_X8_error (by decide) rfl rfl (kd_in kc_108 (by decide)) (EE_8 _ kc_108) rfl rfl (Nat.le_of_ble_eq_true rfl) dX8_climb_65 (fun r104 σ105 e106 => ?_)
            replace hf := okn e106 hf
            exact r_iret X rfl hR (ok0 hf) dX8_climb_68
        · replace hf := okt h78 hf
          refine r_sub [2] rfl ?_
          exact t_X8_climb_47 X hR σ76 hf
theorem md_X8_climb : MD yX8_climb wsX8_climb cX8_climb 8 3 (some .int) := ⟨⟨_, rfl⟩, by decide +kernel, by decide +kernel, by decide⟩
theorem c_X8_climb (l : Launch) (G : GX)  (a1 : Int32) (a2 : Int32) (a3 : Int32) (σ : MM) (h : (f_X8_climb a1 a2 a3 σ).isSome = true) : CTi l G yX8_climb wsX8_climb 8 [.ref (G.1 108), .int a1, .int a2, .int a3] σ (f_X8_climb a1 a2 a3 σ) :=
  CTi_of md_X8_climb (Nat.le_of_ble_eq_true rfl) (fun K X hR => e_X8_climb X hR a1 a2 a3 σ (ok_is h))
-- X8_fewest
theorem in_X8_fewest_8 : ∀ w ∈ u_ws RX8 TX8 9, w ∈ wsX8_fewest := fun _ h => List.mem_cons_of_mem _ (List.mem_append_left _ (List.mem_append_left _ (List.mem_append_left _ (List.mem_append_left _ (List.mem_append_left _ (List.mem_append_right _ h))))))
theorem in_X8_fewest_3 : ∀ w ∈ u_ws RX3 TX3 4, w ∈ wsX8_fewest := fun _ h => List.mem_cons_of_mem _ (List.mem_append_left _ (List.mem_append_left _ (List.mem_append_left _ (List.mem_append_left _ (List.mem_append_right _ h)))))
theorem in_X8_fewest_0 : ∀ w ∈ u_ws RX0 TX0 12, w ∈ wsX8_fewest := fun _ h => List.mem_cons_of_mem _ (List.mem_append_left _ (List.mem_append_left _ (List.mem_append_left _ (List.mem_append_right _ h))))
theorem in_X8_fewest_1 : ∀ w ∈ u_ws RX1 TX1 4, w ∈ wsX8_fewest := fun _ h => List.mem_cons_of_mem _ (List.mem_append_left _ (List.mem_append_left _ (List.mem_append_right _ h)))
theorem in_X8_fewest_2 : ∀ w ∈ u_ws RX2 TX2 4, w ∈ wsX8_fewest := fun _ h => List.mem_cons_of_mem _ (List.mem_append_left _ (List.mem_append_right _ h))
theorem in_X8_fewest_6 : ∀ w ∈ u_ws RX6 TX6 3, w ∈ wsX8_fewest := fun _ h => List.mem_cons_of_mem _ (List.mem_append_right _ h)
def u_X8_fewest_22  (σ : MM) : Option (Int32 × MM) :=
  bd (f_X8_error (-1000000001 : Int32) σ) (fun r29 σ30 => some (r29, σ30))
def f_X8_fewest (a1 : Int32) (a2 : Int32) (σ : MM) : Option (Int32 × MM) :=
  bd (f_X0_personOf 0 a1 σ) (fun r24 σ25 => onO r24 (u_X8_fewest_22 σ25) (fun i27 => if kd i27 = 3 then bd (f_X8_within a2 (-1 : Int32) (2 : Int32) σ25) (fun r32 σ33 => if r32 = 0 then u_X8_fewest_22 σ33 else bd (f_X1_find 0 (σ33 i27 0) σ33) (fun r36 σ37 => if 0 ≤ r36 then if a2 = (-1 : Int32) then some (r36, σ37) else bd (f_X1_wordAt a2 σ37) (fun r41 σ42 => some (r41, σ42)) else bd (f_X8_error (-1000000002 : Int32) σ37) (fun r44 σ45 => some (r44, σ45)))) else none))
set_option maxRecDepth 100000 in
set_option maxHeartbeats 4000000 in
theorem t_X8_fewest_22 {l : Launch} {G : GX} {K : KX} (X : FX G K cX8_fewest RX8 (some .int) wsX8_fewest 5) {Φ : Int32 → MM → Prop} (hR : Ri G K Φ)  (σ : MM) (hf : Ok Φ (u_X8_fewest_22  σ)) : V l G 10 K 5 22 [(0, .ref (G.1 108))] [] σ := by
    unfold u_X8_fewest_22 at hf
    refine r_aload_n X dX8_fewest_22 0 rfl isr_ref ?_
    refine r_ldc (v := (-1000000001 : Int32)) X (mem_ix 2 rfl) dX8_fewest_23 ?_
    refine r_callVi (rest := []) X (c_X8_error l G (-1000000001 : Int32) σ (oks hf)) md_X8_error gX8_fewest_X8_error (by decide) rfl rfl (kd_in kc_108 (by decide)) (EE_8 _ kc_108) rfl rfl (Nat.le_of_ble_eq_true rfl) dX8_fewest_25 (fun r29 σ30 e31 => ?_)
    replace hf := okn e31 hf
    exact r_iret X rfl hR (ok0 hf) dX8_fewest_28
set_option maxRecDepth 100000 in
set_option maxHeartbeats 4000000 in
theorem e_X8_fewest {l : Launch} {G : GX} {K : KX} (X : FX G K cX8_fewest RX8 (some .int) wsX8_fewest 5) {Φ : Int32 → MM → Prop} (hR : Ri G K Φ) (a1 : Int32) (a2 : Int32) (σ : MM) (hf : Ok Φ (f_X8_fewest a1 a2 σ)) : V l G 10 K 5 0 [(0, .ref (G.1 108)), (1, .int a1), (2, .int a2)] [] σ := by
    unfold f_X8_fewest at hf
    refine r_aload_n X dX8_fewest_0 0 rfl isr_ref ?_
    refine r_get (i := 108) (v := .ref (G.1 0)) X in_X8_fewest_8 rfl 0 (by decide) (kd_in kc_108 (by decide)) (EE_8 _ kc_108) rfl (mem_ix 1 rfl) dX8_fewest_1 ?_
    refine r_iload_n X dX8_fewest_4 1 rfl ?_
    refine r_callVq (rest := []) X (c_X0_personOf l G 0 a1 kc_0 σ (oks hf)) md_X0_personOf gX8_fewest_X0_personOf (by decide) rfl rfl (kd_in kc_0 (by decide)) (EE_0 _ kc_0) rfl rfl (Nat.le_of_ble_eq_true rfl) dX8_fewest_5 (fun r24 σ25 e26 => ?_)
    replace hf := okn e26 hf
    rcases r24 with _ | i27
    · replace hf := okz hf
      refine r_astore_n X dX8_fewest_8 (i := 3) rfl (by decide) isr_null (lv' := [(3, .null), (0, .ref (G.1 108)), (1, .int a1), (2, .int a2)]) rfl ?_
      refine r_aload_n X dX8_fewest_9 0 rfl isr_null ?_
      refine r_ifnullN (tgt := 22) X dX8_fewest_10 (by decide) ?_
      refine r_sub [1] rfl ?_
      exact t_X8_fewest_22 X hR σ25 hf
    · replace hf := oky hf
      obtain ⟨hi28, hf⟩ := okp hf
      refine r_astore_n X dX8_fewest_8 (i := 3) rfl (by decide) isr_ref (lv' := [(3, .ref (G.1 i27)), (0, .ref (G.1 108)), (1, .int a1), (2, .int a2)]) rfl ?_
      refine r_aload_n X dX8_fewest_9 0 rfl isr_ref ?_
      refine r_ifnull X dX8_fewest_10 ?_
      refine r_iload_n X dX8_fewest_13 3 rfl ?_
      refine r_iconst X dX8_fewest_14 ci_m1 ?_
      refine r_iconst X dX8_fewest_15 ci_2 ?_
      refine r_callSi (rest := []) X (c_X8_within l G a2 (-1 : Int32) (2 : Int32) σ25 (oks hf)) md_X8_within gX8_fewest_X8_within (by decide) rfl rfl (Nat.le_of_ble_eq_true rfl) dX8_fewest_16 (fun r32 σ33 e34 => ?_)
      replace hf := okn e34 hf
      refine r_if_ne (tgt := 29) X dX8_fewest_19 (by decide) (fun h35 => ?_) (fun h35 => ?_)
      · replace hf := okf h35 hf
        refine r_aload_n X dX8_fewest_29 1 rfl isr_ref ?_
        refine r_get (i := 108) (v := .ref (G.1 115)) X in_X8_fewest_8 rfl 5 (by decide) (kd_in kc_108 (by decide)) (EE_8 _ kc_108) rfl (mem_ix 3 rfl) dX8_fewest_30 ?_
        refine r_aload_n X dX8_fewest_33 1 rfl isr_ref ?_
        refine r_get (i := 108) (v := .ref (G.1 0)) X in_X8_fewest_8 rfl 0 (by decide) (kd_in kc_108 (by decide)) (EE_8 _ kc_108) rfl (mem_ix 1 rfl) dX8_fewest_34 ?_
        refine r_aload_n X dX8_fewest_37 0 rfl isr_ref ?_
        refine r_get (i := i27) (v := .int (σ33 i27 0)) X in_X8_fewest_3 rfl 0 (by decide) (kd_in hi28 (by decide)) (EE_3 _ hi28) rfl (mem_ix 4 rfl) dX8_fewest_38 ?_
        refine r_callVi (rest := []) X (c_X1_find l G 0 (σ33 i27 0) kc_0 σ33 (oks hf)) md_X1_find gX8_fewest_X1_find (by decide) rfl rfl (kd_in kc_115 (by decide)) (EE_1 _ kc_115) rfl rfl (Nat.le_of_ble_eq_true rfl) dX8_fewest_41 (fun r36 σ37 e38 => ?_)
        replace hf := okn e38 hf
        refine r_istore X dX8_fewest_44 (by decide) (lv' := [(4, .int r36), (3, .ref (G.1 i27)), (0, .ref (G.1 108)), (1, .int a1), (2, .int a2)]) rfl ?_
        refine r_iload X dX8_fewest_46 0 rfl ?_
        refine r_if_ge (tgt := 58) X dX8_fewest_48 (by decide) (fun h39 => ?_) (fun h39 => ?_)
        · replace hf := okt h39 hf
          refine r_iload_n X dX8_fewest_58 4 rfl ?_
          refine r_iconst X dX8_fewest_59 ci_m1 ?_
          refine r_icmp_ne (tgt := 68) X dX8_fewest_60 (by decide) (fun h40 => ?_) (fun h40 => ?_)
          · replace hf := okf h40 hf
            refine r_aload_n X dX8_fewest_68 2 rfl isr_ref ?_
            refine r_get (i := 108) (v := .ref (G.1 115)) X in_X8_fewest_8 rfl 5 (by decide) (kd_in kc_108 (by decide)) (EE_8 _ kc_108) rfl (mem_ix 3 rfl) dX8_fewest_69 ?_
            refine r_iload_n X dX8_fewest_72 4 rfl ?_
            refine r_callVi (rest := []) X (c_X1_wordAt l G a2 σ37 (oks hf)) md_X1_wordAt gX8_fewest_X1_wordAt (by decide) rfl rfl (kd_in kc_115 (by decide)) (EE_1 _ kc_115) rfl rfl (Nat.le_of_ble_eq_true rfl) dX8_fewest_73 (fun r41 σ42 e43 => ?_)
            replace hf := okn e43 hf
            exact r_iret X rfl hR (ok0 hf) dX8_fewest_76
          · replace hf := okt h40 hf
            refine r_iload X dX8_fewest_63 0 rfl ?_
            refine r_goto (tgt := 76) X dX8_fewest_65 (by decide) ?_
            exact r_iret X rfl hR (ok0 hf) dX8_fewest_76
        · replace hf := okf h39 hf
          refine r_aload_n X dX8_fewest_51 2 rfl isr_ref ?_
          refine r_ldc (v := (-1000000002 : Int32)) X (mem_ix 5 rfl) dX8_fewest_52 ?_
          refine r_callVi (rest := []) X (c_X8_error l G (-1000000002 : Int32) σ37 (oks hf)) md_X8_error gX8_fewest_X8_error (by decide) rfl rfl (kd_in kc_108 (by decide)) (EE_8 _ kc_108) rfl rfl (Nat.le_of_ble_eq_true rfl) dX8_fewest_54 (fun r44 σ45 e46 => ?_)
          replace hf := okn e46 hf
          exact r_iret X rfl hR (ok0 hf) dX8_fewest_57
      · replace hf := okt h35 hf
        refine r_sub [1] rfl ?_
        exact t_X8_fewest_22 X hR σ33 hf
theorem md_X8_fewest : MD yX8_fewest wsX8_fewest cX8_fewest 5 2 (some .int) := ⟨⟨_, rfl⟩, by decide +kernel, by decide +kernel, by decide⟩
theorem c_X8_fewest (l : Launch) (G : GX)  (a1 : Int32) (a2 : Int32) (σ : MM) (h : (f_X8_fewest a1 a2 σ).isSome = true) : CTi l G yX8_fewest wsX8_fewest 10 [.ref (G.1 108), .int a1, .int a2] σ (f_X8_fewest a1 a2 σ) :=
  CTi_of md_X8_fewest (Nat.le_of_ble_eq_true rfl) (fun K X hR => e_X8_fewest X hR a1 a2 σ (ok_is h))
-- X8_isContentByAny
theorem in_X8_isContentByAny_5 : ∀ w ∈ u_ws RX5 TX5 3, w ∈ wsX8_isContentByAny := fun _ h => List.mem_cons_of_mem _ (List.mem_append_left _ (List.mem_append_left _ (List.mem_append_left _ (List.mem_append_left _ (List.mem_append_right _ h)))))
theorem in_X8_isContentByAny_8 : ∀ w ∈ u_ws RX8 TX8 9, w ∈ wsX8_isContentByAny := fun _ h => List.mem_cons_of_mem _ (List.mem_append_left _ (List.mem_append_left _ (List.mem_append_left _ (List.mem_append_right _ h))))
theorem in_X8_isContentByAny_0 : ∀ w ∈ u_ws RX0 TX0 12, w ∈ wsX8_isContentByAny := fun _ h => List.mem_cons_of_mem _ (List.mem_append_left _ (List.mem_append_left _ (List.mem_append_right _ h)))
theorem in_X8_isContentByAny_2 : ∀ w ∈ u_ws RX2 TX2 4, w ∈ wsX8_isContentByAny := fun _ h => List.mem_cons_of_mem _ (List.mem_append_left _ (List.mem_append_right _ h))
theorem in_X8_isContentByAny_6 : ∀ w ∈ u_ws RX6 TX6 3, w ∈ wsX8_isContentByAny := fun _ h => List.mem_cons_of_mem _ (List.mem_append_right _ h)
def u_X8_isContentByAny_2 (k2 : Nat → Nat → Int32 → MM → Option (Int32 × MM)) (t1 : Nat) (t2 : Nat) (v3 : Int32) (σ : MM) : Option (Int32 × MM) :=
  if (σ t2 2) ≤ v3 then some ((0 : Int32), σ) else bd (f_X5_get t2 v3 σ) (fun r17 σ18 => bd (f_X8_isWord r17 σ18) (fun r20 σ21 => if r20 = 0 then k2 t1 t2 (v3 + (1 : Int32)) σ21 else bd (f_X5_get t2 v3 σ21) (fun r24 σ25 => bd (f_X0_isContent 0 t1 r24 σ25) (fun r27 σ28 => if r27 = 0 then k2 t1 t2 (v3 + (1 : Int32)) σ28 else some ((1 : Int32), σ28)))))
def l_X8_isContentByAny_2 (t1 : Nat) (t2 : Nat) (v3 : Int32) (σ : MM) : Option (Int32 × MM) :=
  itr (fun _ _ _ _ => none) (u_X8_isContentByAny_2) FU t1 t2 v3 σ
def f_X8_isContentByAny (t1 : Nat) (t2 : Nat) (σ : MM) : Option (Int32 × MM) :=
  l_X8_isContentByAny_2 t1 t2 (0 : Int32) σ
set_option maxRecDepth 100000 in
set_option maxHeartbeats 4000000 in
theorem t_X8_isContentByAny_2 {l : Launch} {G : GX} {K : KX} (X : FX G K cX8_isContentByAny RX8 (some .boolean) wsX8_isContentByAny 4) {Φ : Int32 → MM → Prop} (hR : Ri G K Φ) (k2 : Nat → Nat → Int32 → MM → Option (Int32 × MM)) (hk2c : ∀ (t1 : Nat) (t2 : Nat) (v3 : Int32) (hk1 : kd t1 = 2) (hk2 : kd t2 = 5) (σ : MM), Ok Φ (k2 t1 t2 v3 σ) → V l G 7 K 4 2 [(0, .ref (G.1 108)), (1, .ref (G.1 t1)), (2, .ref (G.1 t2)), (3, .int v3)] [] σ) (t1 : Nat) (t2 : Nat) (v3 : Int32) (hk1 : kd t1 = 2) (hk2 : kd t2 = 5) (σ : MM) (hf : Ok Φ (u_X8_isContentByAny_2 k2 t1 t2 v3 σ)) : V l G 7 K 4 2 [(0, .ref (G.1 108)), (1, .ref (G.1 t1)), (2, .ref (G.1 t2)), (3, .int v3)] [] σ := by
    unfold u_X8_isContentByAny_2 at hf
    refine r_iload_n X dX8_isContentByAny_2 3 rfl ?_
    refine r_aload_n X dX8_isContentByAny_3 2 rfl isr_ref ?_
    refine r_get (i := t2) (v := .int (σ t2 2)) X in_X8_isContentByAny_5 rfl 2 (by decide) (kd_in hk2 (by decide)) (EE_5 _ hk2) rfl (mem_ix 1 rfl) dX8_isContentByAny_4 ?_
    refine r_icmp_ge (tgt := 45) X dX8_isContentByAny_7 (by decide) (fun h16 => ?_) (fun h16 => ?_)
    · replace hf := okt h16 hf
      refine r_iconst X dX8_isContentByAny_45 ci_0 ?_
      exact r_zret X rfl hR (by decide) (ok0 hf) dX8_isContentByAny_46
    · replace hf := okf h16 hf
      refine r_aload_n X dX8_isContentByAny_10 2 rfl isr_ref ?_
      refine r_iload_n X dX8_isContentByAny_11 3 rfl ?_
      refine r_callVi (rest := []) X (c_X5_get l G t2 v3 hk2 σ (oks hf)) md_X5_get gX8_isContentByAny_X5_get (by decide) rfl rfl (kd_in hk2 (by decide)) (EE_5 _ hk2) rfl rfl (Nat.le_of_ble_eq_true rfl) dX8_isContentByAny_12 (fun r17 σ18 e19 => ?_)
      replace hf := okn e19 hf
      refine r_callSi (rest := []) X (c_X8_isWord l G r17 σ18 (oks hf)) md_X8_isWord gX8_isContentByAny_X8_isWord (by decide) rfl rfl (Nat.le_of_ble_eq_true rfl) dX8_isContentByAny_15 (fun r20 σ21 e22 => ?_)
      replace hf := okn e22 hf
      refine r_if_eq (tgt := 39) X dX8_isContentByAny_18 (by decide) (fun h23 => ?_) (fun h23 => ?_)
      · replace hf := okt h23 hf
        refine r_iinc (v := (v3 + (1 : Int32))) X dX8_isContentByAny_39 3 rfl (congrArg _ ci_1) (by decide) (lv' := [(3, .int (v3 + (1 : Int32))), (0, .ref (G.1 108)), (1, .ref (G.1 t1)), (2, .ref (G.1 t2))]) rfl ?_
        refine r_goto (tgt := 2) X dX8_isContentByAny_42 (by decide) ?_
        refine r_sub [1, 2, 3, 0] rfl ?_
        exact hk2c t1 t2 (v3 + (1 : Int32)) hk1 hk2 σ21 hf
      · replace hf := okf h23 hf
        refine r_aload_n X dX8_isContentByAny_21 0 rfl isr_ref ?_
        refine r_get (i := 108) (v := .ref (G.1 0)) X in_X8_isContentByAny_8 rfl 0 (by decide) (kd_in kc_108 (by decide)) (EE_8 _ kc_108) rfl (mem_ix 2 rfl) dX8_isContentByAny_22 ?_
        refine r_aload_n X dX8_isContentByAny_25 1 rfl isr_ref ?_
        refine r_aload_n X dX8_isContentByAny_26 2 rfl isr_ref ?_
        refine r_iload_n X dX8_isContentByAny_27 3 rfl ?_
        refine r_callVi (rest := [.ref (G.1 t1), .ref (G.1 0)]) X (c_X5_get l G t2 v3 hk2 σ21 (oks hf)) md_X5_get gX8_isContentByAny_X5_get (by decide) rfl rfl (kd_in hk2 (by decide)) (EE_5 _ hk2) rfl rfl (Nat.le_of_ble_eq_true rfl) dX8_isContentByAny_28 (fun r24 σ25 e26 => ?_)
        replace hf := okn e26 hf
        refine r_callVi (rest := []) X (c_X0_isContent l G 0 t1 r24 kc_0 hk1 σ25 (oks hf)) md_X0_isContent gX8_isContentByAny_X0_isContent (by decide) rfl rfl (kd_in kc_0 (by decide)) (EE_0 _ kc_0) rfl rfl (Nat.le_of_ble_eq_true rfl) dX8_isContentByAny_31 (fun r27 σ28 e29 => ?_)
        replace hf := okn e29 hf
        refine r_if_eq (tgt := 39) X dX8_isContentByAny_34 (by decide) (fun h30 => ?_) (fun h30 => ?_)
        · replace hf := okt h30 hf
          refine r_iinc (v := (v3 + (1 : Int32))) X dX8_isContentByAny_39 3 rfl (congrArg _ ci_1) (by decide) (lv' := [(3, .int (v3 + (1 : Int32))), (0, .ref (G.1 108)), (1, .ref (G.1 t1)), (2, .ref (G.1 t2))]) rfl ?_
          refine r_goto (tgt := 2) X dX8_isContentByAny_42 (by decide) ?_
          refine r_sub [1, 2, 3, 0] rfl ?_
          exact hk2c t1 t2 (v3 + (1 : Int32)) hk1 hk2 σ28 hf
        · replace hf := okf h30 hf
          refine r_iconst X dX8_isContentByAny_37 ci_1 ?_
          exact r_zret X rfl hR (by decide) (ok0 hf) dX8_isContentByAny_38
theorem tl_X8_isContentByAny_2 {l : Launch} {G : GX} {K : KX} (X : FX G K cX8_isContentByAny RX8 (some .boolean) wsX8_isContentByAny 4) {Φ : Int32 → MM → Prop} (hR : Ri G K Φ) : ∀ (m : Nat) (t1 : Nat) (t2 : Nat) (v3 : Int32) (hk1 : kd t1 = 2) (hk2 : kd t2 = 5) (σ : MM), Ok Φ (itr (fun _ _ _ _ => none) (u_X8_isContentByAny_2) m t1 t2 v3 σ) → V l G 7 K 4 2 [(0, .ref (G.1 108)), (1, .ref (G.1 t1)), (2, .ref (G.1 t2)), (3, .int v3)] [] σ := by
  intro m
  induction m with
  | zero => intro t1 t2 v3 hk1 hk2 σ hf; exact (okx hf).elim
  | succ m ih => intro t1 t2 v3 hk1 hk2 σ hf; exact t_X8_isContentByAny_2 X hR _ ih t1 t2 v3 hk1 hk2 σ hf
set_option maxRecDepth 100000 in
set_option maxHeartbeats 4000000 in
theorem e_X8_isContentByAny {l : Launch} {G : GX} {K : KX} (X : FX G K cX8_isContentByAny RX8 (some .boolean) wsX8_isContentByAny 4) {Φ : Int32 → MM → Prop} (hR : Ri G K Φ) (t1 : Nat) (t2 : Nat) (hk1 : kd t1 = 2) (hk2 : kd t2 = 5) (σ : MM) (hf : Ok Φ (f_X8_isContentByAny t1 t2 σ)) : V l G 7 K 4 0 [(0, .ref (G.1 108)), (1, .ref (G.1 t1)), (2, .ref (G.1 t2))] [] σ := by
    unfold f_X8_isContentByAny at hf
    refine r_iconst X dX8_isContentByAny_0 ci_0 ?_
    refine r_istore_n X dX8_isContentByAny_1 (i := 3) rfl (by decide) (lv' := [(3, .int (0 : Int32)), (0, .ref (G.1 108)), (1, .ref (G.1 t1)), (2, .ref (G.1 t2))]) rfl ?_
    refine r_sub [1, 2, 3, 0] rfl ?_
    exact tl_X8_isContentByAny_2 X hR FU t1 t2 (0 : Int32) hk1 hk2 σ hf
theorem md_X8_isContentByAny : MD yX8_isContentByAny wsX8_isContentByAny cX8_isContentByAny 4 2 (some .boolean) := ⟨⟨_, rfl⟩, by decide +kernel, by decide +kernel, by decide⟩
theorem c_X8_isContentByAny (l : Launch) (G : GX)  (t1 : Nat) (t2 : Nat) (hk1 : kd t1 = 2) (hk2 : kd t2 = 5) (σ : MM) (h : (f_X8_isContentByAny t1 t2 σ).isSome = true) : CTi l G yX8_isContentByAny wsX8_isContentByAny 7 [.ref (G.1 108), .ref (G.1 t1), .ref (G.1 t2)] σ (f_X8_isContentByAny t1 t2 σ) :=
  CTi_of md_X8_isContentByAny (Nat.le_of_ble_eq_true rfl) (fun K X hR => e_X8_isContentByAny X hR t1 t2 hk1 hk2 σ (ok_is h))
-- X8_cheapest
theorem in_X8_cheapest_8 : ∀ w ∈ u_ws RX8 TX8 9, w ∈ wsX8_cheapest := fun _ h => List.mem_cons_of_mem _ (List.mem_append_left _ (List.mem_append_left _ (List.mem_append_left _ (List.mem_append_left _ (List.mem_append_left _ (List.mem_append_right _ h))))))
theorem in_X8_cheapest_3 : ∀ w ∈ u_ws RX3 TX3 4, w ∈ wsX8_cheapest := fun _ h => List.mem_cons_of_mem _ (List.mem_append_left _ (List.mem_append_left _ (List.mem_append_left _ (List.mem_append_left _ (List.mem_append_right _ h)))))
theorem in_X8_cheapest_0 : ∀ w ∈ u_ws RX0 TX0 12, w ∈ wsX8_cheapest := fun _ h => List.mem_cons_of_mem _ (List.mem_append_left _ (List.mem_append_left _ (List.mem_append_left _ (List.mem_append_right _ h))))
theorem in_X8_cheapest_5 : ∀ w ∈ u_ws RX5 TX5 3, w ∈ wsX8_cheapest := fun _ h => List.mem_cons_of_mem _ (List.mem_append_left _ (List.mem_append_left _ (List.mem_append_right _ h)))
theorem in_X8_cheapest_2 : ∀ w ∈ u_ws RX2 TX2 4, w ∈ wsX8_cheapest := fun _ h => List.mem_cons_of_mem _ (List.mem_append_left _ (List.mem_append_right _ h))
theorem in_X8_cheapest_6 : ∀ w ∈ u_ws RX6 TX6 3, w ∈ wsX8_cheapest := fun _ h => List.mem_cons_of_mem _ (List.mem_append_right _ h)
def u_X8_cheapest_36  (σ : MM) : Option (Int32 × MM) :=
  bd (f_X8_error (-1000000001 : Int32) σ) (fun r54 σ55 => some (r54, σ55))
def u_X8_cheapest_71 (k71 : Int32 → Nat → Int32 → Int32 → Int32 → MM → Option (Int32 × MM)) (v3 : Int32) (t5 : Nat) (v6 : Int32) (v7 : Int32) (v8 : Int32) (σ : MM) : Option (Int32 × MM) :=
  if (σ 0 1) ≤ v8 then if v3 = 0 then some (v6, σ) else some (v7, σ) else bd (f_X0_judgeOn 0 v8 σ) (fun r72 σ73 => onO r72 (k71 v3 t5 v6 v7 (v8 + (1 : Int32)) σ73) (fun i75 => if kd i75 = 2 then bd (f_X8_isContentByAny i75 t5 σ73) (fun r77 σ78 => if r77 = 0 then bd (f_X0_bribeOf 0 i75 σ78) (fun r81 σ82 => k71 v3 t5 (v6 + r81) (v7 ||| ((1 : Int32) <<< (v8 &&& 31))) (v8 + (1 : Int32)) σ82) else k71 v3 t5 v6 v7 (v8 + (1 : Int32)) σ78) else none))
def l_X8_cheapest_71 (v3 : Int32) (t5 : Nat) (v6 : Int32) (v7 : Int32) (v8 : Int32) (σ : MM) : Option (Int32 × MM) :=
  itr (fun _ _ _ _ _ _ => none) (u_X8_cheapest_71) FU v3 t5 v6 v7 v8 σ
def f_X8_cheapest (a1 : Int32) (a2 : Int32) (a3 : Int32) (σ : MM) : Option (Int32 × MM) :=
  bd (f_X0_personOf 0 a1 σ) (fun r44 σ45 => onO r44 (bd (f_X8_sheetOf a2 σ45) (fun r49 σ50 => onO r49 (u_X8_cheapest_36 σ50) (fun i52 => if kd i52 = 5 then u_X8_cheapest_36 σ50 else none))) (fun i47 => if kd i47 = 3 then bd (f_X8_sheetOf a2 σ45) (fun r57 σ58 => onO r57 (u_X8_cheapest_36 σ58) (fun i60 => if kd i60 = 5 then bd (f_X8_within a3 (0 : Int32) (1 : Int32) σ58) (fun r62 σ63 => if r62 = 0 then u_X8_cheapest_36 σ63 else bd (f_X5_isMissing i60 σ63) (fun r66 σ67 => if r66 = 0 then l_X8_cheapest_71 a3 i60 (0 : Int32) (0 : Int32) (σ67 i47 0) σ67 else bd (f_X8_error (-1000000002 : Int32) σ67) (fun r84 σ85 => some (r84, σ85)))) else none)) else none))
set_option maxRecDepth 100000 in
set_option maxHeartbeats 4000000 in
theorem t_X8_cheapest_36 {l : Launch} {G : GX} {K : KX} (X : FX G K cX8_cheapest RX8 (some .int) wsX8_cheapest 10) {Φ : Int32 → MM → Prop} (hR : Ri G K Φ)  (σ : MM) (hf : Ok Φ (u_X8_cheapest_36  σ)) : V l G 8 K 10 36 [(0, .ref (G.1 108))] [] σ := by
    unfold u_X8_cheapest_36 at hf
    refine r_aload_n X dX8_cheapest_36 0 rfl isr_ref ?_
    refine r_ldc (v := (-1000000001 : Int32)) X (mem_ix 2 rfl) dX8_cheapest_37 ?_
    refine r_callVi (rest := []) X (c_X8_error l G (-1000000001 : Int32) σ (oks hf)) md_X8_error gX8_cheapest_X8_error (by decide) rfl rfl (kd_in kc_108 (by decide)) (EE_8 _ kc_108) rfl rfl (Nat.le_of_ble_eq_true rfl) dX8_cheapest_39 (fun r54 σ55 e56 => ?_)
    replace hf := okn e56 hf
    exact r_iret X rfl hR (ok0 hf) dX8_cheapest_42
set_option maxRecDepth 100000 in
set_option maxHeartbeats 4000000 in
theorem t_X8_cheapest_71 {l : Launch} {G : GX} {K : KX} (X : FX G K cX8_cheapest RX8 (some .int) wsX8_cheapest 10) {Φ : Int32 → MM → Prop} (hR : Ri G K Φ) (k71 : Int32 → Nat → Int32 → Int32 → Int32 → MM → Option (Int32 × MM)) (hk71c : ∀ (v3 : Int32) (t5 : Nat) (v6 : Int32) (v7 : Int32) (v8 : Int32) (hk5 : kd t5 = 5) (σ : MM), Ok Φ (k71 v3 t5 v6 v7 v8 σ) → V l G 8 K 10 71 [(0, .ref (G.1 108)), (3, .int v3), (5, .ref (G.1 t5)), (6, .int v6), (7, .int v7), (8, .int v8)] [] σ) (v3 : Int32) (t5 : Nat) (v6 : Int32) (v7 : Int32) (v8 : Int32) (hk5 : kd t5 = 5) (σ : MM) (hf : Ok Φ (u_X8_cheapest_71 k71 v3 t5 v6 v7 v8 σ)) : V l G 8 K 10 71 [(0, .ref (G.1 108)), (3, .int v3), (5, .ref (G.1 t5)), (6, .int v6), (7, .int v7), (8, .int v8)] [] σ := by
    unfold u_X8_cheapest_71 at hf
    refine r_iload X dX8_cheapest_71 5 rfl ?_
    refine r_aload_n X dX8_cheapest_73 0 rfl isr_ref ?_
    refine r_get (i := 108) (v := .ref (G.1 0)) X in_X8_cheapest_8 rfl 0 (by decide) (kd_in kc_108 (by decide)) (EE_8 _ kc_108) rfl (mem_ix 1 rfl) dX8_cheapest_74 ?_
    refine r_get (i := 0) (v := .int (σ 0 1)) X in_X8_cheapest_0 rfl 1 (by decide) (kd_in kc_0 (by decide)) (EE_0 _ kc_0) rfl (mem_ix 5 rfl) dX8_cheapest_77 ?_
    refine r_icmp_ge (tgt := 139) X dX8_cheapest_80 (by decide) (fun h70 => ?_) (fun h70 => ?_)
    · replace hf := okt h70 hf
      refine r_iload_n X dX8_cheapest_139 1 rfl ?_
      refine r_if_ne (tgt := 148) X dX8_cheapest_140 (by decide) (fun h71 => ?_) (fun h71 => ?_)
      · replace hf := okf h71 hf
        refine r_iload X dX8_cheapest_148 4 rfl ?_
        exact r_iret X rfl hR (ok0 hf) dX8_cheapest_150
      · replace hf := okt h71 hf
        refine r_iload X dX8_cheapest_143 3 rfl ?_
        refine r_goto (tgt := 150) X dX8_cheapest_145 (by decide) ?_
        exact r_iret X rfl hR (ok0 hf) dX8_cheapest_150
    · replace hf := okf h70 hf
      refine r_aload_n X dX8_cheapest_83 0 rfl isr_ref ?_
      refine r_get (i := 108) (v := .ref (G.1 0)) X in_X8_cheapest_8 rfl 0 (by decide) (kd_in kc_108 (by decide)) (EE_8 _ kc_108) rfl (mem_ix 1 rfl) dX8_cheapest_84 ?_
      refine r_iload X dX8_cheapest_87 5 rfl ?_
      refine r_callVq (rest := []) X (c_X0_judgeOn l G 0 v8 kc_0 σ (oks hf)) md_X0_judgeOn gX8_cheapest_X0_judgeOn (by decide) rfl rfl (kd_in kc_0 (by decide)) (EE_0 _ kc_0) rfl rfl (Nat.le_of_ble_eq_true rfl) dX8_cheapest_89 (fun r72 σ73 e74 => ?_)
      replace hf := okn e74 hf
      rcases r72 with _ | i75
      · replace hf := okz hf
        refine r_astore X dX8_cheapest_92 (by decide) isr_null (lv' := [(9, .null), (0, .ref (G.1 108)), (3, .int v3), (5, .ref (G.1 t5)), (6, .int v6), (7, .int v7), (8, .int v8)]) rfl ?_
        refine r_aload X dX8_cheapest_94 0 rfl isr_null ?_
        refine r_ifnullN (tgt := 133) X dX8_cheapest_96 (by decide) ?_
        refine r_iinc (v := (v8 + (1 : Int32))) X dX8_cheapest_133 6 rfl (congrArg _ ci_1) (by decide) (lv' := [(8, .int (v8 + (1 : Int32))), (9, .null), (0, .ref (G.1 108)), (3, .int v3), (5, .ref (G.1 t5)), (6, .int v6), (7, .int v7)]) rfl ?_
        refine r_goto (tgt := 71) X dX8_cheapest_136 (by decide) ?_
        refine r_sub [2, 3, 4, 5, 6, 0] rfl ?_
        exact hk71c v3 t5 v6 v7 (v8 + (1 : Int32)) hk5 σ73 hf
      · replace hf := oky hf
        obtain ⟨hi76, hf⟩ := okp hf
        refine r_astore X dX8_cheapest_92 (by decide) isr_ref (lv' := [(9, .ref (G.1 i75)), (0, .ref (G.1 108)), (3, .int v3), (5, .ref (G.1 t5)), (6, .int v6), (7, .int v7), (8, .int v8)]) rfl ?_
        refine r_aload X dX8_cheapest_94 0 rfl isr_ref ?_
        refine r_ifnull X dX8_cheapest_96 ?_
        refine r_aload_n X dX8_cheapest_99 1 rfl isr_ref ?_
        refine r_aload X dX8_cheapest_100 0 rfl isr_ref ?_
        refine r_aload X dX8_cheapest_102 3 rfl isr_ref ?_
        refine r_callVi (rest := []) X (c_X8_isContentByAny l G i75 t5 hi76 hk5 σ73 (oks hf)) md_X8_isContentByAny gX8_cheapest_X8_isContentByAny (by decide) rfl rfl (kd_in kc_108 (by decide)) (EE_8 _ kc_108) rfl rfl (Nat.le_of_ble_eq_true rfl) dX8_cheapest_104 (fun r77 σ78 e79 => ?_)
        replace hf := okn e79 hf
        refine r_if_ne (tgt := 133) X dX8_cheapest_107 (by decide) (fun h80 => ?_) (fun h80 => ?_)
        · replace hf := okf h80 hf
          refine r_iinc (v := (v8 + (1 : Int32))) X dX8_cheapest_133 6 rfl (congrArg _ ci_1) (by decide) (lv' := [(8, .int (v8 + (1 : Int32))), (9, .ref (G.1 i75)), (0, .ref (G.1 108)), (3, .int v3), (5, .ref (G.1 t5)), (6, .int v6), (7, .int v7)]) rfl ?_
          refine r_goto (tgt := 71) X dX8_cheapest_136 (by decide) ?_
          refine r_sub [2, 3, 4, 5, 6, 0] rfl ?_
          exact hk71c v3 t5 v6 v7 (v8 + (1 : Int32)) hk5 σ78 hf
        · replace hf := okt h80 hf
          refine r_iload X dX8_cheapest_110 4 rfl ?_
          refine r_aload_n X dX8_cheapest_112 1 rfl isr_ref ?_
          refine r_get (i := 108) (v := .ref (G.1 0)) X in_X8_cheapest_8 rfl 0 (by decide) (kd_in kc_108 (by decide)) (EE_8 _ kc_108) rfl (mem_ix 1 rfl) dX8_cheapest_113 ?_
          refine r_aload X dX8_cheapest_116 0 rfl isr_ref ?_
          refine r_callVi (rest := [.int v6]) X (c_X0_bribeOf l G 0 i75 kc_0 hi76 σ78 (oks hf)) md_X0_bribeOf gX8_cheapest_X0_bribeOf (by decide) rfl rfl (kd_in kc_0 (by decide)) (EE_0 _ kc_0) rfl rfl (Nat.le_of_ble_eq_true rfl) dX8_cheapest_118 (fun r81 σ82 e83 => ?_)
          replace hf := okn e83 hf
          refine r_iadd X dX8_cheapest_121 ?_
          refine r_istore X dX8_cheapest_122 (by decide) (lv' := [(6, .int (v6 + r81)), (9, .ref (G.1 i75)), (0, .ref (G.1 108)), (3, .int v3), (5, .ref (G.1 t5)), (7, .int v7), (8, .int v8)]) rfl ?_
          refine r_iload X dX8_cheapest_124 5 rfl ?_
          refine r_iconst X dX8_cheapest_126 ci_1 ?_
          refine r_iload X dX8_cheapest_127 6 rfl ?_
          refine r_ishl X dX8_cheapest_129 ?_
          refine r_ior X dX8_cheapest_130 ?_
          refine r_istore X dX8_cheapest_131 (by decide) (lv' := [(7, .int (v7 ||| ((1 : Int32) <<< (v8 &&& 31)))), (6, .int (v6 + r81)), (9, .ref (G.1 i75)), (0, .ref (G.1 108)), (3, .int v3), (5, .ref (G.1 t5)), (8, .int v8)]) rfl ?_
          refine r_iinc (v := (v8 + (1 : Int32))) X dX8_cheapest_133 6 rfl (congrArg _ ci_1) (by decide) (lv' := [(8, .int (v8 + (1 : Int32))), (7, .int (v7 ||| ((1 : Int32) <<< (v8 &&& 31)))), (6, .int (v6 + r81)), (9, .ref (G.1 i75)), (0, .ref (G.1 108)), (3, .int v3), (5, .ref (G.1 t5))]) rfl ?_
          refine r_goto (tgt := 71) X dX8_cheapest_136 (by decide) ?_
          refine r_sub [4, 5, 6, 2, 1, 0] rfl ?_
          exact hk71c v3 t5 (v6 + r81) (v7 ||| ((1 : Int32) <<< (v8 &&& 31))) (v8 + (1 : Int32)) hk5 σ82 hf
theorem tl_X8_cheapest_71 {l : Launch} {G : GX} {K : KX} (X : FX G K cX8_cheapest RX8 (some .int) wsX8_cheapest 10) {Φ : Int32 → MM → Prop} (hR : Ri G K Φ) : ∀ (m : Nat) (v3 : Int32) (t5 : Nat) (v6 : Int32) (v7 : Int32) (v8 : Int32) (hk5 : kd t5 = 5) (σ : MM), Ok Φ (itr (fun _ _ _ _ _ _ => none) (u_X8_cheapest_71) m v3 t5 v6 v7 v8 σ) → V l G 8 K 10 71 [(0, .ref (G.1 108)), (3, .int v3), (5, .ref (G.1 t5)), (6, .int v6), (7, .int v7), (8, .int v8)] [] σ := by
  intro m
  induction m with
  | zero => intro v3 t5 v6 v7 v8 hk5 σ hf; exact (okx hf).elim
  | succ m ih => intro v3 t5 v6 v7 v8 hk5 σ hf; exact t_X8_cheapest_71 X hR _ ih v3 t5 v6 v7 v8 hk5 σ hf
set_option maxRecDepth 100000 in
set_option maxHeartbeats 4000000 in
theorem e_X8_cheapest {l : Launch} {G : GX} {K : KX} (X : FX G K cX8_cheapest RX8 (some .int) wsX8_cheapest 10) {Φ : Int32 → MM → Prop} (hR : Ri G K Φ) (a1 : Int32) (a2 : Int32) (a3 : Int32) (σ : MM) (hf : Ok Φ (f_X8_cheapest a1 a2 a3 σ)) : V l G 8 K 10 0 [(0, .ref (G.1 108)), (1, .int a1), (2, .int a2), (3, .int a3)] [] σ := by
    unfold f_X8_cheapest at hf
    refine r_aload_n X dX8_cheapest_0 0 rfl isr_ref ?_
    refine r_get (i := 108) (v := .ref (G.1 0)) X in_X8_cheapest_8 rfl 0 (by decide) (kd_in kc_108 (by decide)) (EE_8 _ kc_108) rfl (mem_ix 1 rfl) dX8_cheapest_1 ?_
    refine r_iload_n X dX8_cheapest_4 1 rfl ?_
    refine r_callVq (rest := []) X (c_X0_personOf l G 0 a1 kc_0 σ (oks hf)) md_X0_personOf gX8_cheapest_X0_personOf (by decide) rfl rfl (kd_in kc_0 (by decide)) (EE_0 _ kc_0) rfl rfl (Nat.le_of_ble_eq_true rfl) dX8_cheapest_5 (fun r44 σ45 e46 => ?_)
    replace hf := okn e46 hf
    rcases r44 with _ | i47
    · replace hf := okz hf
      refine r_astore X dX8_cheapest_8 (by decide) isr_null (lv' := [(4, .null), (0, .ref (G.1 108)), (1, .int a1), (2, .int a2), (3, .int a3)]) rfl ?_
      refine r_aload_n X dX8_cheapest_10 1 rfl isr_ref ?_
      refine r_iload_n X dX8_cheapest_11 3 rfl ?_
      refine r_callVq (rest := []) X (c_X8_sheetOf l G a2 σ45 (oks hf)) md_X8_sheetOf gX8_cheapest_X8_sheetOf (by decide) rfl rfl (kd_in kc_108 (by decide)) (EE_8 _ kc_108) rfl rfl (Nat.le_of_ble_eq_true rfl) dX8_cheapest_12 (fun r49 σ50 e51 => ?_)
      replace hf := okn e51 hf
      rcases r49 with _ | i52
      · replace hf := okz hf
        refine r_astore X dX8_cheapest_15 (by decide) isr_null (lv' := [(5, .null), (4, .null), (0, .ref (G.1 108)), (1, .int a1), (2, .int a2), (3, .int a3)]) rfl ?_
        refine r_aload X dX8_cheapest_17 1 rfl isr_null ?_
        refine r_ifnullN (tgt := 36) X dX8_cheapest_19 (by decide) ?_
        refine r_sub [2] rfl ?_
        exact t_X8_cheapest_36 X hR σ50 hf
      · replace hf := oky hf
        obtain ⟨hi53, hf⟩ := okp hf
        refine r_astore X dX8_cheapest_15 (by decide) isr_ref (lv' := [(5, .ref (G.1 i52)), (4, .null), (0, .ref (G.1 108)), (1, .int a1), (2, .int a2), (3, .int a3)]) rfl ?_
        refine r_aload X dX8_cheapest_17 1 rfl isr_null ?_
        refine r_ifnullN (tgt := 36) X dX8_cheapest_19 (by decide) ?_
        refine r_sub [2] rfl ?_
        exact t_X8_cheapest_36 X hR σ50 hf
    · replace hf := oky hf
      obtain ⟨hi48, hf⟩ := okp hf
      refine r_astore X dX8_cheapest_8 (by decide) isr_ref (lv' := [(4, .ref (G.1 i47)), (0, .ref (G.1 108)), (1, .int a1), (2, .int a2), (3, .int a3)]) rfl ?_
      refine r_aload_n X dX8_cheapest_10 1 rfl isr_ref ?_
      refine r_iload_n X dX8_cheapest_11 3 rfl ?_
      refine r_callVq (rest := []) X (c_X8_sheetOf l G a2 σ45 (oks hf)) md_X8_sheetOf gX8_cheapest_X8_sheetOf (by decide) rfl rfl (kd_in kc_108 (by decide)) (EE_8 _ kc_108) rfl rfl (Nat.le_of_ble_eq_true rfl) dX8_cheapest_12 (fun r57 σ58 e59 => ?_)
      replace hf := okn e59 hf
      rcases r57 with _ | i60
      · replace hf := okz hf
        refine r_astore X dX8_cheapest_15 (by decide) isr_null (lv' := [(5, .null), (4, .ref (G.1 i47)), (0, .ref (G.1 108)), (1, .int a1), (2, .int a2), (3, .int a3)]) rfl ?_
        refine r_aload X dX8_cheapest_17 1 rfl isr_ref ?_
        refine r_ifnull X dX8_cheapest_19 ?_
        refine r_aload X dX8_cheapest_22 0 rfl isr_null ?_
        refine r_ifnullN (tgt := 36) X dX8_cheapest_24 (by decide) ?_
        refine r_sub [2] rfl ?_
        exact t_X8_cheapest_36 X hR σ58 hf
      · replace hf := oky hf
        obtain ⟨hi61, hf⟩ := okp hf
        refine r_astore X dX8_cheapest_15 (by decide) isr_ref (lv' := [(5, .ref (G.1 i60)), (4, .ref (G.1 i47)), (0, .ref (G.1 108)), (1, .int a1), (2, .int a2), (3, .int a3)]) rfl ?_
        refine r_aload X dX8_cheapest_17 1 rfl isr_ref ?_
        refine r_ifnull X dX8_cheapest_19 ?_
        refine r_aload X dX8_cheapest_22 0 rfl isr_ref ?_
        refine r_ifnull X dX8_cheapest_24 ?_
        refine r_iload_n X dX8_cheapest_27 5 rfl ?_
        refine r_iconst X dX8_cheapest_28 ci_0 ?_
        refine r_iconst X dX8_cheapest_29 ci_1 ?_
        refine r_callSi (rest := []) X (c_X8_within l G a3 (0 : Int32) (1 : Int32) σ58 (oks hf)) md_X8_within gX8_cheapest_X8_within (by decide) rfl rfl (Nat.le_of_ble_eq_true rfl) dX8_cheapest_30 (fun r62 σ63 e64 => ?_)
        replace hf := okn e64 hf
        refine r_if_ne (tgt := 43) X dX8_cheapest_33 (by decide) (fun h65 => ?_) (fun h65 => ?_)
        · replace hf := okf h65 hf
          refine r_aload X dX8_cheapest_43 0 rfl isr_ref ?_
          refine r_callVi (rest := []) X (c_X5_isMissing l G i60 hi61 σ63 (oks hf)) md_X5_isMissing gX8_cheapest_X5_isMissing (by decide) rfl rfl (kd_in hi61 (by decide)) (EE_5 _ hi61) rfl rfl (Nat.le_of_ble_eq_true rfl) dX8_cheapest_45 (fun r66 σ67 e68 => ?_)
          replace hf := okn e68 hf
          refine r_if_eq (tgt := 58) X dX8_cheapest_48 (by decide) (fun h69 => ?_) (fun h69 => ?_)
          · replace hf := okt h69 hf
            refine r_iconst X dX8_cheapest_58 ci_0 ?_
            refine r_istore X dX8_cheapest_59 (by decide) (lv' := [(6, .int (0 : Int32)), (5, .ref (G.1 i60)), (4, .ref (G.1 i47)), (0, .ref (G.1 108)), (1, .int a1), (2, .int a2), (3, .int a3)]) rfl ?_
            refine r_iconst X dX8_cheapest_61 ci_0 ?_
            refine r_istore X dX8_cheapest_62 (by decide) (lv' := [(7, .int (0 : Int32)), (6, .int (0 : Int32)), (5, .ref (G.1 i60)), (4, .ref (G.1 i47)), (0, .ref (G.1 108)), (1, .int a1), (2, .int a2), (3, .int a3)]) rfl ?_
            refine r_aload X dX8_cheapest_64 3 rfl isr_ref ?_
            refine r_get (i := i47) (v := .int (σ67 i47 0)) X in_X8_cheapest_3 rfl 0 (by decide) (kd_in hi48 (by decide)) (EE_3 _ hi48) rfl (mem_ix 4 rfl) dX8_cheapest_66 ?_
            refine r_istore X dX8_cheapest_69 (by decide) (lv' := [(8, .int (σ67 i47 0)), (7, .int (0 : Int32)), (6, .int (0 : Int32)), (5, .ref (G.1 i60)), (4, .ref (G.1 i47)), (0, .ref (G.1 108)), (1, .int a1), (2, .int a2), (3, .int a3)]) rfl ?_
            refine r_sub [5, 8, 3, 2, 1, 0] rfl ?_
            exact tl_X8_cheapest_71 X hR FU a3 i60 (0 : Int32) (0 : Int32) (σ67 i47 0) hi61 σ67 hf
          · replace hf := okf h69 hf
            refine r_aload_n X dX8_cheapest_51 2 rfl isr_ref ?_
            refine r_ldc (v := (-1000000002 : Int32)) X (mem_ix 3 rfl) dX8_cheapest_52 ?_
            refine r_callVi (rest := []) X (c_X8_error l G (-1000000002 : Int32) σ67 (oks hf)) md_X8_error gX8_cheapest_X8_error (by decide) rfl rfl (kd_in kc_108 (by decide)) (EE_8 _ kc_108) rfl rfl (Nat.le_of_ble_eq_true rfl) dX8_cheapest_54 (fun r84 σ85 e86 => ?_)
            replace hf := okn e86 hf
            exact r_iret X rfl hR (ok0 hf) dX8_cheapest_57
        · replace hf := okt h65 hf
          refine r_sub [2] rfl ?_
          exact t_X8_cheapest_36 X hR σ63 hf
theorem md_X8_cheapest : MD yX8_cheapest wsX8_cheapest cX8_cheapest 10 3 (some .int) := ⟨⟨_, rfl⟩, by decide +kernel, by decide +kernel, by decide⟩
theorem c_X8_cheapest (l : Launch) (G : GX)  (a1 : Int32) (a2 : Int32) (a3 : Int32) (σ : MM) (h : (f_X8_cheapest a1 a2 a3 σ).isSome = true) : CTi l G yX8_cheapest wsX8_cheapest 8 [.ref (G.1 108), .int a1, .int a2, .int a3] σ (f_X8_cheapest a1 a2 a3 σ) :=
  CTi_of md_X8_cheapest (Nat.le_of_ble_eq_true rfl) (fun K X hR => e_X8_cheapest X hR a1 a2 a3 σ (ok_is h))
-- X8_sharedDivisor
def u_X8_sharedDivisor_9 (k9 : Int64 → Int64 → Int32 → MM → Option (Int64 × MM)) (v4 : Int64) (v6 : Int64) (v8 : Int32) (σ : MM) : Option (Int64 × MM) :=
  if (128 : Int32) ≤ v8 then some (v4, σ) else if v6 = (0 : Int64) then some (v4, σ) else if v6 = 0 then none else k9 v6 (v4 - v4 / v6 * v6) (v8 + (1 : Int32)) σ
def l_X8_sharedDivisor_9 (v4 : Int64) (v6 : Int64) (v8 : Int32) (σ : MM) : Option (Int64 × MM) :=
  itr (fun _ _ _ _ => none) (u_X8_sharedDivisor_9) FU v4 v6 v8 σ
def f_X8_sharedDivisor (a0 : Int64) (a2 : Int64) (σ : MM) : Option (Int64 × MM) :=
  l_X8_sharedDivisor_9 a0 a2 (0 : Int32) σ
set_option maxRecDepth 100000 in
set_option maxHeartbeats 4000000 in
theorem t_X8_sharedDivisor_9 {l : Launch} {G : GX} {K : KX} (X : FX G K cX8_sharedDivisor RX8 (some .long) wsX8_sharedDivisor 11) {Φ : Int64 → MM → Prop} (hR : Rl G K Φ) (k9 : Int64 → Int64 → Int32 → MM → Option (Int64 × MM)) (hk9c : ∀ (v4 : Int64) (v6 : Int64) (v8 : Int32) (σ : MM), Ok Φ (k9 v4 v6 v8 σ) → V l G 3 K 11 9 [(4, .long v4), (6, .long v6), (8, .int v8)] [] σ) (v4 : Int64) (v6 : Int64) (v8 : Int32) (σ : MM) (hf : Ok Φ (u_X8_sharedDivisor_9 k9 v4 v6 v8 σ)) : V l G 3 K 11 9 [(4, .long v4), (6, .long v6), (8, .int v8)] [] σ := by
    unfold u_X8_sharedDivisor_9 at hf
    refine r_iload X dX8_sharedDivisor_9 2 rfl ?_
    refine r_sipush X dX8_sharedDivisor_11 cs_128 ?_
    refine r_icmp_ge (tgt := 45) X dX8_sharedDivisor_14 (by decide) (fun h4 => ?_) (fun h4 => ?_)
    · replace hf := okt h4 hf
      refine r_lload X dX8_sharedDivisor_45 0 rfl ?_
      exact r_lret X rfl hR (ok0 hf) dX8_sharedDivisor_47
    · replace hf := okf h4 hf
      refine r_lload X dX8_sharedDivisor_17 1 rfl ?_
      refine r_lconst (v := (0 : Int64)) X dX8_sharedDivisor_19 (by decide) ?_
      refine r_lcmp_eq (tgt := 45) X dX8_sharedDivisor_20 dX8_sharedDivisor_21 (by decide) (fun h5 => ?_) (fun h5 => ?_)
      · replace hf := okt h5 hf
        refine r_lload X dX8_sharedDivisor_45 0 rfl ?_
        exact r_lret X rfl hR (ok0 hf) dX8_sharedDivisor_47
      · replace hf := okf h5 hf
        refine r_lload X dX8_sharedDivisor_24 0 rfl ?_
        refine r_lload X dX8_sharedDivisor_26 1 rfl ?_
        obtain ⟨g6, hf⟩ := okg hf
        refine r_lrem X dX8_sharedDivisor_28 g6 ?_
        refine r_lstore X dX8_sharedDivisor_29 (by decide) (lv' := [(9, .long (v4 - v4 / v6 * v6)), (4, .long v4), (6, .long v6), (8, .int v8)]) rfl ?_
        refine r_lload X dX8_sharedDivisor_31 2 rfl ?_
        refine r_lstore X dX8_sharedDivisor_33 (by decide) (lv' := [(4, .long v6), (9, .long (v4 - v4 / v6 * v6)), (6, .long v6), (8, .int v8)]) rfl ?_
        refine r_lload X dX8_sharedDivisor_35 1 rfl ?_
        refine r_lstore X dX8_sharedDivisor_37 (by decide) (lv' := [(6, .long (v4 - v4 / v6 * v6)), (4, .long v6), (9, .long (v4 - v4 / v6 * v6)), (8, .int v8)]) rfl ?_
        refine r_iinc (v := (v8 + (1 : Int32))) X dX8_sharedDivisor_39 3 rfl (congrArg _ ci_1) (by decide) (lv' := [(8, .int (v8 + (1 : Int32))), (6, .long (v4 - v4 / v6 * v6)), (4, .long v6), (9, .long (v4 - v4 / v6 * v6))]) rfl ?_
        refine r_goto (tgt := 9) X dX8_sharedDivisor_42 (by decide) ?_
        refine r_sub [2, 1, 0] rfl ?_
        exact hk9c v6 (v4 - v4 / v6 * v6) (v8 + (1 : Int32)) σ hf
theorem tl_X8_sharedDivisor_9 {l : Launch} {G : GX} {K : KX} (X : FX G K cX8_sharedDivisor RX8 (some .long) wsX8_sharedDivisor 11) {Φ : Int64 → MM → Prop} (hR : Rl G K Φ) : ∀ (m : Nat) (v4 : Int64) (v6 : Int64) (v8 : Int32) (σ : MM), Ok Φ (itr (fun _ _ _ _ => none) (u_X8_sharedDivisor_9) m v4 v6 v8 σ) → V l G 3 K 11 9 [(4, .long v4), (6, .long v6), (8, .int v8)] [] σ := by
  intro m
  induction m with
  | zero => intro v4 v6 v8 σ hf; exact (okx hf).elim
  | succ m ih => intro v4 v6 v8 σ hf; exact t_X8_sharedDivisor_9 X hR _ ih v4 v6 v8 σ hf
set_option maxRecDepth 100000 in
set_option maxHeartbeats 4000000 in
theorem e_X8_sharedDivisor {l : Launch} {G : GX} {K : KX} (X : FX G K cX8_sharedDivisor RX8 (some .long) wsX8_sharedDivisor 11) {Φ : Int64 → MM → Prop} (hR : Rl G K Φ) (a0 : Int64) (a2 : Int64) (σ : MM) (hf : Ok Φ (f_X8_sharedDivisor a0 a2 σ)) : V l G 3 K 11 0 [(0, .long a0), (2, .long a2)] [] σ := by
    unfold f_X8_sharedDivisor at hf
    refine r_lload_n X dX8_sharedDivisor_0 0 rfl ?_
    refine r_lstore X dX8_sharedDivisor_1 (by decide) (lv' := [(4, .long a0), (0, .long a0), (2, .long a2)]) rfl ?_
    refine r_lload_n X dX8_sharedDivisor_3 2 rfl ?_
    refine r_lstore X dX8_sharedDivisor_4 (by decide) (lv' := [(6, .long a2), (4, .long a0), (0, .long a0), (2, .long a2)]) rfl ?_
    refine r_iconst X dX8_sharedDivisor_6 ci_0 ?_
    refine r_istore X dX8_sharedDivisor_7 (by decide) (lv' := [(8, .int (0 : Int32)), (6, .long a2), (4, .long a0), (0, .long a0), (2, .long a2)]) rfl ?_
    refine r_sub [2, 1, 0] rfl ?_
    exact tl_X8_sharedDivisor_9 X hR FU a0 a2 (0 : Int32) σ hf
theorem md_X8_sharedDivisor : MD yX8_sharedDivisor wsX8_sharedDivisor cX8_sharedDivisor 11 2 (some .long) := ⟨⟨_, rfl⟩, by decide +kernel, by decide +kernel, by decide⟩
theorem c_X8_sharedDivisor (l : Launch) (G : GX)  (a0 : Int64) (a2 : Int64) (σ : MM) (h : (f_X8_sharedDivisor a0 a2 σ).isSome = true) : CTl l G yX8_sharedDivisor wsX8_sharedDivisor 3 [.long a0, .long a2] σ (f_X8_sharedDivisor a0 a2 σ) :=
  CTl_of md_X8_sharedDivisor (Nat.le_of_ble_eq_true rfl) (fun K X hR => e_X8_sharedDivisor X hR a0 a2 σ (ok_is h))
-- X8_odds
theorem in_X8_odds_8 : ∀ w ∈ u_ws RX8 TX8 9, w ∈ wsX8_odds := fun _ h => List.mem_cons_of_mem _ (List.mem_append_left _ (List.mem_append_left _ (List.mem_append_left _ (List.mem_append_left _ (List.mem_append_right _ h)))))
theorem in_X8_odds_3 : ∀ w ∈ u_ws RX3 TX3 4, w ∈ wsX8_odds := fun _ h => List.mem_cons_of_mem _ (List.mem_append_left _ (List.mem_append_left _ (List.mem_append_left _ (List.mem_append_right _ h))))
theorem in_X8_odds_0 : ∀ w ∈ u_ws RX0 TX0 12, w ∈ wsX8_odds := fun _ h => List.mem_cons_of_mem _ (List.mem_append_left _ (List.mem_append_left _ (List.mem_append_right _ h)))
theorem in_X8_odds_2 : ∀ w ∈ u_ws RX2 TX2 4, w ∈ wsX8_odds := fun _ h => List.mem_cons_of_mem _ (List.mem_append_left _ (List.mem_append_right _ h))
theorem in_X8_odds_6 : ∀ w ∈ u_ws RX6 TX6 3, w ∈ wsX8_odds := fun _ h => List.mem_cons_of_mem _ (List.mem_append_right _ h)
def u_X8_odds_33  (σ : MM) : Option (Int64 × MM) :=
  bd (f_X8_error (-1000000001 : Int32) σ) (fun r37 σ38 => some ((r37.toInt64), σ38))
def u_X8_odds_127 (v9 : Int64) (vs0 : Int64) (σ : MM) : Option (Int64 × MM) :=
  if v9 ≤ (1 : Int64) then some (vs0, σ) else if v9 = 0 then none else some ((vs0 / v9), σ)
def u_X8_odds_50 (k50 : Int32 → Int32 → Nat → Int64 → Int64 → Int32 → MM → Option (Int64 × MM)) (v2 : Int32) (v3 : Int32) (t4 : Nat) (v5 : Int64) (v7 : Int64) (v9 : Int32) (σ : MM) : Option (Int64 × MM) :=
  if v2 ≤ v9 then bd (f_X8_sharedDivisor v7 v5 σ) (fun r49 σ50 => if v3 = 0 then u_X8_odds_127 r49 v5 σ50 else u_X8_odds_127 r49 v7 σ50) else bd (f_X0_judgeOn 0 ((σ t4 0) + v9) σ) (fun r55 σ56 => onO r55 (k50 v2 v3 t4 v5 v7 (v9 + (1 : Int32)) σ56) (fun i58 => if kd i58 = 2 then bd (f_X0_contentWords 0 i58 σ56) (fun r60 σ61 => k50 v2 v3 t4 (v5 * (r60.toInt64)) (v7 * (100 : Int64)) (v9 + (1 : Int32)) σ61) else none))
def l_X8_odds_50 (v2 : Int32) (v3 : Int32) (t4 : Nat) (v5 : Int64) (v7 : Int64) (v9 : Int32) (σ : MM) : Option (Int64 × MM) :=
  itr (fun _ _ _ _ _ _ _ => none) (u_X8_odds_50) FU v2 v3 t4 v5 v7 v9 σ
def f_X8_odds (a1 : Int32) (a2 : Int32) (a3 : Int32) (σ : MM) : Option (Int64 × MM) :=
  bd (f_X0_personOf 0 a1 σ) (fun r32 σ33 => onO r32 (u_X8_odds_33 σ33) (fun i35 => if kd i35 = 3 then bd (f_X8_within a2 (0 : Int32) (4 : Int32) σ33) (fun r40 σ41 => if r40 = 0 then u_X8_odds_33 σ41 else bd (f_X8_within a3 (0 : Int32) (1 : Int32) σ41) (fun r44 σ45 => if r44 = 0 then u_X8_odds_33 σ45 else l_X8_odds_50 a2 a3 i35 (1 : Int64) (1 : Int64) (0 : Int32) σ45)) else none))
set_option maxRecDepth 100000 in
set_option maxHeartbeats 4000000 in
theorem t_X8_odds_33 {l : Launch} {G : GX} {K : KX} (X : FX G K cX8_odds RX8 (some .long) wsX8_odds 13) {Φ : Int64 → MM → Prop} (hR : Rl G K Φ)  (σ : MM) (hf : Ok Φ (u_X8_odds_33  σ)) : V l G 8 K 13 33 [(0, .ref (G.1 108))] [] σ := by
    unfold u_X8_odds_33 at hf
    refine r_aload_n X dX8_odds_33 0 rfl isr_ref ?_
    refine r_ldc (v := (-1000000001 : Int32)) X (mem_ix 2 rfl) dX8_odds_34 ?_
    refine r_callVi (rest := []) X (c_X8_error l G (-1000000001 : Int32) σ (oks hf)) md_X8_error gX8_odds_X8_error (by decide) rfl rfl (kd_in kc_108 (by decide)) (EE_8 _ kc_108) rfl rfl (Nat.le_of_ble_eq_true rfl) dX8_odds_36 (fun r37 σ38 e39 => ?_)
    replace hf := okn e39 hf
    refine r_i2l X dX8_odds_39 ?_
    exact r_lret X rfl hR (ok0 hf) dX8_odds_40
set_option maxRecDepth 100000 in
set_option maxHeartbeats 4000000 in
theorem t_X8_odds_127 {l : Launch} {G : GX} {K : KX} (X : FX G K cX8_odds RX8 (some .long) wsX8_odds 13) {Φ : Int64 → MM → Prop} (hR : Rl G K Φ) (v9 : Int64) (vs0 : Int64) (σ : MM) (hf : Ok Φ (u_X8_odds_127 v9 vs0 σ)) : V l G 8 K 13 127 [(9, .long v9)] [.long vs0] σ := by
    unfold u_X8_odds_127 at hf
    refine r_lstore X dX8_odds_127 (by decide) (lv' := [(11, .long vs0), (9, .long v9)]) rfl ?_
    refine r_lload X dX8_odds_129 1 rfl ?_
    refine r_lconst (v := (1 : Int64)) X dX8_odds_131 (by decide) ?_
    refine r_lcmp_le (tgt := 144) X dX8_odds_132 dX8_odds_133 (by decide) (fun h53 => ?_) (fun h53 => ?_)
    · replace hf := okt h53 hf
      refine r_lload X dX8_odds_144 0 rfl ?_
      exact r_lret X rfl hR (ok0 hf) dX8_odds_146
    · replace hf := okf h53 hf
      refine r_lload X dX8_odds_136 0 rfl ?_
      refine r_lload X dX8_odds_138 1 rfl ?_
      obtain ⟨g54, hf⟩ := okg hf
      refine r_ldiv X dX8_odds_140 g54 ?_
      refine r_goto (tgt := 146) X dX8_odds_141 (by decide) ?_
      exact r_lret X rfl hR (ok0 hf) dX8_odds_146
set_option maxRecDepth 100000 in
set_option maxHeartbeats 4000000 in
theorem t_X8_odds_50 {l : Launch} {G : GX} {K : KX} (X : FX G K cX8_odds RX8 (some .long) wsX8_odds 13) {Φ : Int64 → MM → Prop} (hR : Rl G K Φ) (k50 : Int32 → Int32 → Nat → Int64 → Int64 → Int32 → MM → Option (Int64 × MM)) (hk50c : ∀ (v2 : Int32) (v3 : Int32) (t4 : Nat) (v5 : Int64) (v7 : Int64) (v9 : Int32) (hk4 : kd t4 = 3) (σ : MM), Ok Φ (k50 v2 v3 t4 v5 v7 v9 σ) → V l G 8 K 13 50 [(0, .ref (G.1 108)), (2, .int v2), (3, .int v3), (4, .ref (G.1 t4)), (5, .long v5), (7, .long v7), (9, .int v9)] [] σ) (v2 : Int32) (v3 : Int32) (t4 : Nat) (v5 : Int64) (v7 : Int64) (v9 : Int32) (hk4 : kd t4 = 3) (σ : MM) (hf : Ok Φ (u_X8_odds_50 k50 v2 v3 t4 v5 v7 v9 σ)) : V l G 8 K 13 50 [(0, .ref (G.1 108)), (2, .int v2), (3, .int v3), (4, .ref (G.1 t4)), (5, .long v5), (7, .long v7), (9, .int v9)] [] σ := by
    unfold u_X8_odds_50 at hf
    refine r_iload X dX8_odds_50 6 rfl ?_
    refine r_iload_n X dX8_odds_52 1 rfl ?_
    refine r_icmp_ge (tgt := 107) X dX8_odds_53 (by decide) (fun h48 => ?_) (fun h48 => ?_)
    · replace hf := okt h48 hf
      refine r_lload X dX8_odds_107 5 rfl ?_
      refine r_lload X dX8_odds_109 4 rfl ?_
      refine r_callSl (rest := []) X (c_X8_sharedDivisor l G v7 v5 σ (oks hf)) md_X8_sharedDivisor gX8_odds_X8_sharedDivisor (by decide) rfl rfl (Nat.le_of_ble_eq_true rfl) dX8_odds_111 (fun r49 σ50 e51 => ?_)
      replace hf := okn e51 hf
      refine r_lstore X dX8_odds_114 (by decide) (lv' := [(9, .long r49), (0, .ref (G.1 108)), (2, .int v2), (3, .int v3), (4, .ref (G.1 t4)), (5, .long v5), (7, .long v7)]) rfl ?_
      refine r_iload_n X dX8_odds_116 3 rfl ?_
      refine r_if_ne (tgt := 125) X dX8_odds_117 (by decide) (fun h52 => ?_) (fun h52 => ?_)
      · replace hf := okf h52 hf
        refine r_lload X dX8_odds_125 6 rfl ?_
        refine r_sub [0] rfl ?_
        exact t_X8_odds_127 X hR r49 v7 σ50 hf
      · replace hf := okt h52 hf
        refine r_lload X dX8_odds_120 5 rfl ?_
        refine r_goto (tgt := 127) X dX8_odds_122 (by decide) ?_
        refine r_sub [0] rfl ?_
        exact t_X8_odds_127 X hR r49 v5 σ50 hf
    · replace hf := okf h48 hf
      refine r_aload_n X dX8_odds_56 0 rfl isr_ref ?_
      refine r_get (i := 108) (v := .ref (G.1 0)) X in_X8_odds_8 rfl 0 (by decide) (kd_in kc_108 (by decide)) (EE_8 _ kc_108) rfl (mem_ix 1 rfl) dX8_odds_57 ?_
      refine r_aload X dX8_odds_60 3 rfl isr_ref ?_
      refine r_get (i := t4) (v := .int (σ t4 0)) X in_X8_odds_3 rfl 0 (by decide) (kd_in hk4 (by decide)) (EE_3 _ hk4) rfl (mem_ix 3 rfl) dX8_odds_62 ?_
      refine r_iload X dX8_odds_65 6 rfl ?_
      refine r_iadd X dX8_odds_67 ?_
      refine r_callVq (rest := []) X (c_X0_judgeOn l G 0 ((σ t4 0) + v9) kc_0 σ (oks hf)) md_X0_judgeOn gX8_odds_X0_judgeOn (by decide) rfl rfl (kd_in kc_0 (by decide)) (EE_0 _ kc_0) rfl rfl (Nat.le_of_ble_eq_true rfl) dX8_odds_68 (fun r55 σ56 e57 => ?_)
      replace hf := okn e57 hf
      rcases r55 with _ | i58
      · replace hf := okz hf
        refine r_astore X dX8_odds_71 (by decide) isr_null (lv' := [(10, .null), (0, .ref (G.1 108)), (2, .int v2), (3, .int v3), (4, .ref (G.1 t4)), (5, .long v5), (7, .long v7), (9, .int v9)]) rfl ?_
        refine r_aload X dX8_odds_73 0 rfl isr_null ?_
        refine r_ifnullN (tgt := 101) X dX8_odds_75 (by decide) ?_
        refine r_iinc (v := (v9 + (1 : Int32))) X dX8_odds_101 7 rfl (congrArg _ ci_1) (by decide) (lv' := [(9, .int (v9 + (1 : Int32))), (10, .null), (0, .ref (G.1 108)), (2, .int v2), (3, .int v3), (4, .ref (G.1 t4)), (5, .long v5), (7, .long v7)]) rfl ?_
        refine r_goto (tgt := 50) X dX8_odds_104 (by decide) ?_
        refine r_sub [2, 3, 4, 5, 6, 7, 0] rfl ?_
        exact hk50c v2 v3 t4 v5 v7 (v9 + (1 : Int32)) hk4 σ56 hf
      · replace hf := oky hf
        obtain ⟨hi59, hf⟩ := okp hf
        refine r_astore X dX8_odds_71 (by decide) isr_ref (lv' := [(10, .ref (G.1 i58)), (0, .ref (G.1 108)), (2, .int v2), (3, .int v3), (4, .ref (G.1 t4)), (5, .long v5), (7, .long v7), (9, .int v9)]) rfl ?_
        refine r_aload X dX8_odds_73 0 rfl isr_ref ?_
        refine r_ifnull X dX8_odds_75 ?_
        refine r_lload X dX8_odds_78 5 rfl ?_
        refine r_aload_n X dX8_odds_80 1 rfl isr_ref ?_
        refine r_get (i := 108) (v := .ref (G.1 0)) X in_X8_odds_8 rfl 0 (by decide) (kd_in kc_108 (by decide)) (EE_8 _ kc_108) rfl (mem_ix 1 rfl) dX8_odds_81 ?_
        refine r_aload X dX8_odds_84 0 rfl isr_ref ?_
        refine r_callVi (rest := [.long v5]) X (c_X0_contentWords l G 0 i58 kc_0 hi59 σ56 (oks hf)) md_X0_contentWords gX8_odds_X0_contentWords (by decide) rfl rfl (kd_in kc_0 (by decide)) (EE_0 _ kc_0) rfl rfl (Nat.le_of_ble_eq_true rfl) dX8_odds_86 (fun r60 σ61 e62 => ?_)
        replace hf := okn e62 hf
        refine r_i2l X dX8_odds_89 ?_
        refine r_lmul X dX8_odds_90 ?_
        refine r_lstore X dX8_odds_91 (by decide) (lv' := [(5, .long (v5 * (r60.toInt64))), (10, .ref (G.1 i58)), (0, .ref (G.1 108)), (2, .int v2), (3, .int v3), (4, .ref (G.1 t4)), (7, .long v7), (9, .int v9)]) rfl ?_
        refine r_lload X dX8_odds_93 6 rfl ?_
        refine r_ldc2 (v := (100 : Int64)) X (mem_ix 4 rfl) dX8_odds_95 ?_
        refine r_lmul X dX8_odds_98 ?_
        refine r_lstore X dX8_odds_99 (by decide) (lv' := [(7, .long (v7 * (100 : Int64))), (5, .long (v5 * (r60.toInt64))), (10, .ref (G.1 i58)), (0, .ref (G.1 108)), (2, .int v2), (3, .int v3), (4, .ref (G.1 t4)), (9, .int v9)]) rfl ?_
        refine r_iinc (v := (v9 + (1 : Int32))) X dX8_odds_101 7 rfl (congrArg _ ci_1) (by decide) (lv' := [(9, .int (v9 + (1 : Int32))), (7, .long (v7 * (100 : Int64))), (5, .long (v5 * (r60.toInt64))), (10, .ref (G.1 i58)), (0, .ref (G.1 108)), (2, .int v2), (3, .int v3), (4, .ref (G.1 t4))]) rfl ?_
        refine r_goto (tgt := 50) X dX8_odds_104 (by decide) ?_
        refine r_sub [4, 5, 6, 7, 2, 1, 0] rfl ?_
        exact hk50c v2 v3 t4 (v5 * (r60.toInt64)) (v7 * (100 : Int64)) (v9 + (1 : Int32)) hk4 σ61 hf
theorem tl_X8_odds_50 {l : Launch} {G : GX} {K : KX} (X : FX G K cX8_odds RX8 (some .long) wsX8_odds 13) {Φ : Int64 → MM → Prop} (hR : Rl G K Φ) : ∀ (m : Nat) (v2 : Int32) (v3 : Int32) (t4 : Nat) (v5 : Int64) (v7 : Int64) (v9 : Int32) (hk4 : kd t4 = 3) (σ : MM), Ok Φ (itr (fun _ _ _ _ _ _ _ => none) (u_X8_odds_50) m v2 v3 t4 v5 v7 v9 σ) → V l G 8 K 13 50 [(0, .ref (G.1 108)), (2, .int v2), (3, .int v3), (4, .ref (G.1 t4)), (5, .long v5), (7, .long v7), (9, .int v9)] [] σ := by
  intro m
  induction m with
  | zero => intro v2 v3 t4 v5 v7 v9 hk4 σ hf; exact (okx hf).elim
  | succ m ih => intro v2 v3 t4 v5 v7 v9 hk4 σ hf; exact t_X8_odds_50 X hR _ ih v2 v3 t4 v5 v7 v9 hk4 σ hf
set_option maxRecDepth 100000 in
set_option maxHeartbeats 4000000 in
theorem e_X8_odds {l : Launch} {G : GX} {K : KX} (X : FX G K cX8_odds RX8 (some .long) wsX8_odds 13) {Φ : Int64 → MM → Prop} (hR : Rl G K Φ) (a1 : Int32) (a2 : Int32) (a3 : Int32) (σ : MM) (hf : Ok Φ (f_X8_odds a1 a2 a3 σ)) : V l G 8 K 13 0 [(0, .ref (G.1 108)), (1, .int a1), (2, .int a2), (3, .int a3)] [] σ := by
    unfold f_X8_odds at hf
    refine r_aload_n X dX8_odds_0 0 rfl isr_ref ?_
    refine r_get (i := 108) (v := .ref (G.1 0)) X in_X8_odds_8 rfl 0 (by decide) (kd_in kc_108 (by decide)) (EE_8 _ kc_108) rfl (mem_ix 1 rfl) dX8_odds_1 ?_
    refine r_iload_n X dX8_odds_4 1 rfl ?_
    refine r_callVq (rest := []) X (c_X0_personOf l G 0 a1 kc_0 σ (oks hf)) md_X0_personOf gX8_odds_X0_personOf (by decide) rfl rfl (kd_in kc_0 (by decide)) (EE_0 _ kc_0) rfl rfl (Nat.le_of_ble_eq_true rfl) dX8_odds_5 (fun r32 σ33 e34 => ?_)
    replace hf := okn e34 hf
    rcases r32 with _ | i35
    · replace hf := okz hf
      refine r_astore X dX8_odds_8 (by decide) isr_null (lv' := [(4, .null), (0, .ref (G.1 108)), (1, .int a1), (2, .int a2), (3, .int a3)]) rfl ?_
      refine r_aload X dX8_odds_10 0 rfl isr_null ?_
      refine r_ifnullN (tgt := 33) X dX8_odds_12 (by decide) ?_
      refine r_sub [1] rfl ?_
      exact t_X8_odds_33 X hR σ33 hf
    · replace hf := oky hf
      obtain ⟨hi36, hf⟩ := okp hf
      refine r_astore X dX8_odds_8 (by decide) isr_ref (lv' := [(4, .ref (G.1 i35)), (0, .ref (G.1 108)), (1, .int a1), (2, .int a2), (3, .int a3)]) rfl ?_
      refine r_aload X dX8_odds_10 0 rfl isr_ref ?_
      refine r_ifnull X dX8_odds_12 ?_
      refine r_iload_n X dX8_odds_15 3 rfl ?_
      refine r_iconst X dX8_odds_16 ci_0 ?_
      refine r_iconst X dX8_odds_17 ci_4 ?_
      refine r_callSi (rest := []) X (c_X8_within l G a2 (0 : Int32) (4 : Int32) σ33 (oks hf)) md_X8_within gX8_odds_X8_within (by decide) rfl rfl (Nat.le_of_ble_eq_true rfl) dX8_odds_18 (fun r40 σ41 e42 => ?_)
      replace hf := okn e42 hf
      refine r_if_eq (tgt := 33) X dX8_odds_21 (by decide) (fun h43 => ?_) (fun h43 => ?_)
      · replace hf := okt h43 hf
        refine r_sub [1] rfl ?_
        exact t_X8_odds_33 X hR σ41 hf
      · replace hf := okf h43 hf
        refine r_iload_n X dX8_odds_24 4 rfl ?_
        refine r_iconst X dX8_odds_25 ci_0 ?_
        refine r_iconst X dX8_odds_26 ci_1 ?_
        refine r_callSi (rest := []) X (c_X8_within l G a3 (0 : Int32) (1 : Int32) σ41 (oks hf)) md_X8_within gX8_odds_X8_within (by decide) rfl rfl (Nat.le_of_ble_eq_true rfl) dX8_odds_27 (fun r44 σ45 e46 => ?_)
        replace hf := okn e46 hf
        refine r_if_ne (tgt := 41) X dX8_odds_30 (by decide) (fun h47 => ?_) (fun h47 => ?_)
        · replace hf := okf h47 hf
          refine r_lconst (v := (1 : Int64)) X dX8_odds_41 (by decide) ?_
          refine r_lstore X dX8_odds_42 (by decide) (lv' := [(5, .long (1 : Int64)), (4, .ref (G.1 i35)), (0, .ref (G.1 108)), (1, .int a1), (2, .int a2), (3, .int a3)]) rfl ?_
          refine r_lconst (v := (1 : Int64)) X dX8_odds_44 (by decide) ?_
          refine r_lstore X dX8_odds_45 (by decide) (lv' := [(7, .long (1 : Int64)), (5, .long (1 : Int64)), (4, .ref (G.1 i35)), (0, .ref (G.1 108)), (1, .int a1), (2, .int a2), (3, .int a3)]) rfl ?_
          refine r_iconst X dX8_odds_47 ci_0 ?_
          refine r_istore X dX8_odds_48 (by decide) (lv' := [(9, .int (0 : Int32)), (7, .long (1 : Int64)), (5, .long (1 : Int64)), (4, .ref (G.1 i35)), (0, .ref (G.1 108)), (1, .int a1), (2, .int a2), (3, .int a3)]) rfl ?_
          refine r_sub [4, 6, 7, 3, 2, 1, 0] rfl ?_
          exact tl_X8_odds_50 X hR FU a2 a3 i35 (1 : Int64) (1 : Int64) (0 : Int32) hi36 σ45 hf
        · replace hf := okt h47 hf
          refine r_sub [1] rfl ?_
          exact t_X8_odds_33 X hR σ45 hf
theorem md_X8_odds : MD yX8_odds wsX8_odds cX8_odds 13 3 (some .long) := ⟨⟨_, rfl⟩, by decide +kernel, by decide +kernel, by decide⟩
theorem c_X8_odds (l : Launch) (G : GX)  (a1 : Int32) (a2 : Int32) (a3 : Int32) (σ : MM) (h : (f_X8_odds a1 a2 a3 σ).isSome = true) : CTl l G yX8_odds wsX8_odds 8 [.ref (G.1 108), .int a1, .int a2, .int a3] σ (f_X8_odds a1 a2 a3 σ) :=
  CTl_of md_X8_odds (Nat.le_of_ble_eq_true rfl) (fun K X hR => e_X8_odds X hR a1 a2 a3 σ (ok_is h))

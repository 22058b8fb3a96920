-- X9_bribeOf
theorem in_X9_bribeOf_9 : ∀ w ∈ u_ws RX9 TX9 21, w ∈ wsX9_bribeOf := fun _ h => List.mem_cons_of_mem _ (List.mem_append_right _ h)
def f_X9_bribeOf (a1 : Int32) (σ : MM) : Option (Int32 × MM) :=
  bd (f_X9_wantsOf a1 σ) (fun r10 σ11 => bd (f_X9_of a1 (0 : Int32) σ11) (fun r13 σ14 => bd (f_X9_gives (1 : Int32) r10 a1 r13 σ14) (fun r16 σ17 => some (r16, σ17))))
set_option maxRecDepth 100000 in
set_option maxHeartbeats 4000000 in
theorem e_X9_bribeOf {l : Launch} {G : GX} {K : KX} (X : FX G K cX9_bribeOf RX9 (some .int) wsX9_bribeOf 2) {Φ : Int32 → MM → Prop} (hR : Ri G K Φ) (a1 : Int32) (σ : MM) (hf : Ok Φ (f_X9_bribeOf a1 σ)) : V l G 6 K 2 0 [(0, .ref (G.1 129)), (1, .int a1)] [] σ := by
    unfold f_X9_bribeOf at hf
    refine r_aload_n X dX9_bribeOf_0 0 rfl isr_ref ?_
    refine r_iconst X dX9_bribeOf_1 ci_1 ?_
    refine r_aload_n X dX9_bribeOf_2 0 rfl isr_ref ?_
    refine r_iload_n X dX9_bribeOf_3 1 rfl ?_
    refine r_callVi (rest := [.int (1 : Int32), .ref (G.1 129)]) X (c_X9_wantsOf l G a1 σ (oks hf)) md_X9_wantsOf gX9_bribeOf_X9_wantsOf (by decide) rfl rfl (kd_in kc_129 (by decide)) (EE_9 _ kc_129) rfl rfl (Nat.le_of_ble_eq_true rfl) dX9_bribeOf_4 (fun r10 σ11 e12 => ?_)
    replace hf := okn e12 hf
    refine r_iload_n X dX9_bribeOf_7 1 rfl ?_
    refine r_aload_n X dX9_bribeOf_8 0 rfl isr_ref ?_
    refine r_iload_n X dX9_bribeOf_9 1 rfl ?_
    refine r_iconst X dX9_bribeOf_10 ci_0 ?_
    refine r_callVi (rest := [.int a1, .int r10, .int (1 : Int32), .ref (G.1 129)]) X (c_X9_of l G a1 (0 : Int32) σ11 (oks hf)) md_X9_of gX9_bribeOf_X9_of (by decide) rfl rfl (kd_in kc_129 (by decide)) (EE_9 _ kc_129) rfl rfl (Nat.le_of_ble_eq_true rfl) dX9_bribeOf_11 (fun r13 σ14 e15 => ?_)
    replace hf := okn e15 hf
    refine r_callVi (rest := []) X (c_X9_gives l G (1 : Int32) r10 a1 r13 σ14 (oks hf)) md_X9_gives gX9_bribeOf_X9_gives (by decide) rfl rfl (kd_in kc_129 (by decide)) (EE_9 _ kc_129) rfl rfl (Nat.le_of_ble_eq_true rfl) dX9_bribeOf_14 (fun r16 σ17 e18 => ?_)
    replace hf := okn e18 hf
    exact r_iret X rfl hR (ok0 hf) dX9_bribeOf_17
theorem md_X9_bribeOf : MD yX9_bribeOf wsX9_bribeOf cX9_bribeOf 2 1 (some .int) := ⟨⟨_, rfl⟩, by decide +kernel, by decide +kernel, by decide⟩
theorem c_X9_bribeOf (l : Launch) (G : GX)  (a1 : Int32) (σ : MM) (h : (f_X9_bribeOf a1 σ).isSome = true) : CTi l G yX9_bribeOf wsX9_bribeOf 6 [.ref (G.1 129), .int a1] σ (f_X9_bribeOf a1 σ) :=
  CTi_of md_X9_bribeOf (Nat.le_of_ble_eq_true rfl) (fun K X hR => e_X9_bribeOf X hR a1 σ (ok_is h))
-- X9_isKm
def f_X9_isKm (a0 : Int32) (σ : MM) : Option (Int32 × MM) :=
  bd (f_X9_in a0 (0 : Int32) (69 : Int32) σ) (fun r4 σ5 => if r4 = 0 ∨ r4 = 1 then some (r4, σ5) else none)
set_option maxRecDepth 100000 in
set_option maxHeartbeats 4000000 in
theorem e_X9_isKm {l : Launch} {G : GX} {K : KX} (X : FX G K cX9_isKm RX9 (some .boolean) wsX9_isKm 1) {Φ : Int32 → MM → Prop} (hR : Ri G K Φ) (a0 : Int32) (σ : MM) (hf : Ok Φ (f_X9_isKm a0 σ)) : V l G 4 K 1 0 [(0, .int a0)] [] σ := by
    unfold f_X9_isKm at hf
    refine r_iload_n X dX9_isKm_0 0 rfl ?_
    refine r_iconst X dX9_isKm_1 ci_0 ?_
    refine r_bipush X dX9_isKm_2 cb_69 ?_
    refine r_callSi (rest := []) X (c_X9_in l G a0 (0 : Int32) (69 : Int32) σ (oks hf)) md_X9_in gX9_isKm_X9_in (by decide) rfl rfl (Nat.le_of_ble_eq_true rfl) dX9_isKm_4 (fun r4 σ5 e6 => ?_)
    replace hf := okn e6 hf
    obtain ⟨g7, hf⟩ := okp hf
    exact r_zret X rfl hR g7 (ok0 hf) dX9_isKm_7
theorem md_X9_isKm : MD yX9_isKm wsX9_isKm cX9_isKm 1 1 (some .boolean) := ⟨⟨_, rfl⟩, by decide +kernel, by decide +kernel, by decide⟩
theorem c_X9_isKm (l : Launch) (G : GX)  (a0 : Int32) (σ : MM) (h : (f_X9_isKm a0 σ).isSome = true) : CTi l G yX9_isKm wsX9_isKm 4 [.int a0] σ (f_X9_isKm a0 σ) :=
  CTi_of md_X9_isKm (Nat.le_of_ble_eq_true rfl) (fun K X hR => e_X9_isKm X hR a0 σ (ok_is h))
-- X9_step
theorem in_X9_step_9 : ∀ w ∈ u_ws RX9 TX9 21, w ∈ wsX9_step := fun _ h => List.mem_cons_of_mem _ (List.mem_append_right _ h)
def f_X9_step (a1 : Int32) (σ : MM) : Option (Int32 × MM) :=
  bd (f_X9_isKm a1 σ) (fun r23 σ24 => if r23 = 0 then bd (f_X9_error (-1000000001 : Int32) σ24) (fun r42 σ43 => some (r42, σ43)) else if (σ24 130 2) = (20 : Int32) then bd (f_X9_error (-1000000004 : Int32) σ24) (fun r39 σ40 => some (r39, σ40)) else lt (mu σ24 130 2 ((σ24 130 2) + (1 : Int32))) (fun σ28 => if ((6 : Int32) + ((3 : Int32) * (σ24 130 2))) < 0 ∨ 412 ≤ ((6 : Int32) + ((3 : Int32) * (σ24 130 2))).toNatClampNeg then none else lt (mu σ28 130 (((6 : Int32) + ((3 : Int32) * (σ24 130 2))).toNatClampNeg) (a1 / (10 : Int32))) (fun σ31 => if (((6 : Int32) + ((3 : Int32) * (σ24 130 2))) + (1 : Int32)) < 0 ∨ 412 ≤ (((6 : Int32) + ((3 : Int32) * (σ24 130 2))) + (1 : Int32)).toNatClampNeg then none else lt (mu σ31 130 ((((6 : Int32) + ((3 : Int32) * (σ24 130 2))) + (1 : Int32)).toNatClampNeg) (a1 - a1 / (10 : Int32) * (10 : Int32))) (fun σ34 => if (((6 : Int32) + ((3 : Int32) * (σ24 130 2))) + (2 : Int32)) < 0 ∨ 412 ≤ (((6 : Int32) + ((3 : Int32) * (σ24 130 2))) + (2 : Int32)).toNatClampNeg then none else lt (mu σ34 130 ((((6 : Int32) + ((3 : Int32) * (σ24 130 2))) + (2 : Int32)).toNatClampNeg) (0 : Int32)) (fun σ37 => some ((σ24 130 2), σ37))))))
set_option maxRecDepth 100000 in
set_option maxHeartbeats 4000000 in
theorem e_X9_step {l : Launch} {G : GX} {K : KX} (X : FX G K cX9_step RX9 (some .int) wsX9_step 3) {Φ : Int32 → MM → Prop} (hR : Ri G K Φ) (a1 : Int32) (σ : MM) (hf : Ok Φ (f_X9_step a1 σ)) : V l G 5 K 3 0 [(0, .ref (G.1 129)), (1, .int a1)] [] σ := by
    unfold f_X9_step at hf
    refine r_iload_n X dX9_step_0 1 rfl ?_
    refine r_callSi (rest := []) X (c_X9_isKm l G a1 σ (oks hf)) md_X9_isKm gX9_step_X9_isKm (by decide) rfl rfl (Nat.le_of_ble_eq_true rfl) dX9_step_1 (fun r23 σ24 e25 => ?_)
    replace hf := okn e25 hf
    refine r_if_ne (tgt := 14) X dX9_step_4 (by decide) (fun h26 => ?_) (fun h26 => ?_)
    · replace hf := okf h26 hf
      refine r_aload_n X dX9_step_14 0 rfl isr_ref ?_
      refine r_get (i := 129) (v := .ref (G.1 130)) X in_X9_step_9 rfl 0 (by decide) (kd_in kc_129 (by decide)) (EE_9 _ kc_129) rfl (mem_ix 2 rfl) dX9_step_15 ?_
      refine r_iconst X dX9_step_18 ci_2 ?_
      refine r_iald (i := 130) (jn := 2) X (kd_in kc_130 (by decide)) (EE_26 _ kc_130) (by decide) (by decide) dX9_step_19 ?_
      refine r_istore_n X dX9_step_20 (i := 2) rfl (by decide) (lv' := [(2, .int (σ24 130 2)), (0, .ref (G.1 129)), (1, .int a1)]) rfl ?_
      refine r_iload_n X dX9_step_21 0 rfl ?_
      refine r_bipush X dX9_step_22 cb_20 ?_
      refine r_icmp_ne (tgt := 34) X dX9_step_24 (by decide) (fun h27 => ?_) (fun h27 => ?_)
      · replace hf := okf h27 hf
        refine r_aload_n X dX9_step_34 1 rfl isr_ref ?_
        refine r_get (i := 129) (v := .ref (G.1 130)) X in_X9_step_9 rfl 0 (by decide) (kd_in kc_129 (by decide)) (EE_9 _ kc_129) rfl (mem_ix 2 rfl) dX9_step_35 ?_
        refine r_iconst X dX9_step_38 ci_2 ?_
        refine r_dup2 X dX9_step_39 rfl rfl ?_
        refine r_iald (i := 130) (jn := 2) X (kd_in kc_130 (by decide)) (EE_26 _ kc_130) (by decide) (by decide) dX9_step_40 ?_
        refine r_iconst X dX9_step_41 ci_1 ?_
        refine r_iadd X dX9_step_42 ?_
        obtain ⟨σ28, e29, hf⟩ := okl hf
        refine r_iast (i := 130) (jn := 2) X (kd_in kc_130 (by decide)) (fun _ => EE_26 _ kc_130) (by decide) (by decide) dX9_step_43 ?_
        refine r_sg e29 ?_
        refine r_aload_n X dX9_step_44 1 rfl isr_ref ?_
        refine r_get (i := 129) (v := .ref (G.1 130)) X in_X9_step_9 rfl 0 (by decide) (kd_in kc_129 (by decide)) (EE_9 _ kc_129) rfl (mem_ix 2 rfl) dX9_step_45 ?_
        refine r_bipush X dX9_step_48 cb_6 ?_
        refine r_iconst X dX9_step_50 ci_3 ?_
        refine r_iload_n X dX9_step_51 0 rfl ?_
        refine r_imul X dX9_step_52 ?_
        refine r_iadd X dX9_step_53 ?_
        refine r_iload_n X dX9_step_54 2 rfl ?_
        refine r_bipush X dX9_step_55 cb_10 ?_
        refine r_idiv X dX9_step_57 (by decide) ?_
        obtain ⟨g30, hf⟩ := okg hf
        obtain ⟨σ31, e32, hf⟩ := okl hf
        refine r_iast (i := 130) (jn := ((6 : Int32) + ((3 : Int32) * (σ24 130 2))).toNatClampNeg) X (kd_in kc_130 (by decide)) (fun _ => EE_26 _ kc_130) rfl g30 dX9_step_58 ?_
        refine r_sg e32 ?_
        refine r_aload_n X dX9_step_59 1 rfl isr_ref ?_
        refine r_get (i := 129) (v := .ref (G.1 130)) X in_X9_step_9 rfl 0 (by decide) (kd_in kc_129 (by decide)) (EE_9 _ kc_129) rfl (mem_ix 2 rfl) dX9_step_60 ?_
        refine r_bipush X dX9_step_63 cb_6 ?_
        refine r_iconst X dX9_step_65 ci_3 ?_
        refine r_iload_n X dX9_step_66 0 rfl ?_
        refine r_imul X dX9_step_67 ?_
        refine r_iadd X dX9_step_68 ?_
        refine r_iconst X dX9_step_69 ci_1 ?_
        refine r_iadd X dX9_step_70 ?_
        refine r_iload_n X dX9_step_71 2 rfl ?_
        refine r_bipush X dX9_step_72 cb_10 ?_
        refine r_irem X dX9_step_74 (by decide) ?_
        obtain ⟨g33, hf⟩ := okg hf
        obtain ⟨σ34, e35, hf⟩ := okl hf
        refine r_iast (i := 130) (jn := (((6 : Int32) + ((3 : Int32) * (σ24 130 2))) + (1 : Int32)).toNatClampNeg) X (kd_in kc_130 (by decide)) (fun _ => EE_26 _ kc_130) rfl g33 dX9_step_75 ?_
        refine r_sg e35 ?_
        refine r_aload_n X dX9_step_76 1 rfl isr_ref ?_
        refine r_get (i := 129) (v := .ref (G.1 130)) X in_X9_step_9 rfl 0 (by decide) (kd_in kc_129 (by decide)) (EE_9 _ kc_129) rfl (mem_ix 2 rfl) dX9_step_77 ?_
        refine r_bipush X dX9_step_80 cb_6 ?_
        refine r_iconst X dX9_step_82 ci_3 ?_
        refine r_iload_n X dX9_step_83 0 rfl ?_
        refine r_imul X dX9_step_84 ?_
        refine r_iadd X dX9_step_85 ?_
        refine r_iconst X dX9_step_86 ci_2 ?_
        refine r_iadd X dX9_step_87 ?_
        refine r_iconst X dX9_step_88 ci_0 ?_
        obtain ⟨g36, hf⟩ := okg hf
        obtain ⟨σ37, e38, hf⟩ := okl hf
        refine r_iast (i := 130) (jn := (((6 : Int32) + ((3 : Int32) * (σ24 130 2))) + (2 : Int32)).toNatClampNeg) X (kd_in kc_130 (by decide)) (fun _ => EE_26 _ kc_130) rfl g36 dX9_step_89 ?_
        refine r_sg e38 ?_
        refine r_iload_n X dX9_step_90 0 rfl ?_
        exact r_iret X rfl hR (ok0 hf) dX9_step_91
      · replace hf := okt h27 hf
        refine r_aload_n X dX9_step_27 1 rfl isr_ref ?_
        refine r_ldc (v := (-1000000004 : Int32)) X (mem_ix 3 rfl) dX9_step_28 ?_
        refine r_callVi (rest := []) X (c_X9_error l G (-1000000004 : Int32) σ24 (oks hf)) md_X9_error gX9_step_X9_error (by decide) rfl rfl (kd_in kc_129 (by decide)) (EE_9 _ kc_129) rfl rfl (Nat.le_of_ble_eq_true rfl) dX9_step_30 (fun r39 σ40 e41 => ?_)
        replace hf := okn e41 hf
        exact r_iret X rfl hR (ok0 hf) dX9_step_33
    · replace hf := okt h26 hf
      refine r_aload_n X dX9_step_7 0 rfl isr_ref ?_
      refine r_ldc (v := (-1000000001 : Int32)) X (mem_ix 1 rfl) dX9_step_8 ?_
      refine r_callVi (rest := []) X (c_X9_error l G (-1000000001 : Int32) σ24 (oks hf)) md_X9_error gX9_step_X9_error (by decide) rfl rfl (kd_in kc_129 (by decide)) (EE_9 _ kc_129) rfl rfl (Nat.le_of_ble_eq_true rfl) dX9_step_10 (fun r42 σ43 e44 => ?_)
      replace hf := okn e44 hf
      exact r_iret X rfl hR (ok0 hf) dX9_step_13
theorem md_X9_step : MD yX9_step wsX9_step cX9_step 3 1 (some .int) := ⟨⟨_, rfl⟩, by decide +kernel, by decide +kernel, by decide⟩
theorem c_X9_step (l : Launch) (G : GX)  (a1 : Int32) (σ : MM) (h : (f_X9_step a1 σ).isSome = true) : CTi l G yX9_step wsX9_step 5 [.ref (G.1 129), .int a1] σ (f_X9_step a1 σ) :=
  CTi_of md_X9_step (Nat.le_of_ble_eq_true rfl) (fun K X hR => e_X9_step X hR a1 σ (ok_is h))
-- X9_stepIs
theorem in_X9_stepIs_9 : ∀ w ∈ u_ws RX9 TX9 21, w ∈ wsX9_stepIs := fun _ h => List.mem_cons_of_mem _ (List.mem_append_right _ h)
def u_X9_stepIs_17  (σ : MM) : Option (Int32 × MM) :=
  bd (f_X9_error (-1000000001 : Int32) σ) (fun r23 σ24 => some (r23, σ24))
def f_X9_stepIs (a1 : Int32) (a2 : Int32) (σ : MM) : Option (Int32 × MM) :=
  bd (f_X9_isStep a1 σ) (fun r19 σ20 => if r19 = 0 then u_X9_stepIs_17 σ20 else bd (f_X9_in a2 (0 : Int32) (3 : Int32) σ20) (fun r26 σ27 => if r26 = 0 then u_X9_stepIs_17 σ27 else if (3 : Int32) ≤ a2 then bd (f_X9_bribeOf a1 σ27) (fun r31 σ32 => some (r31, σ32)) else bd (f_X9_of a1 a2 σ27) (fun r34 σ35 => some (r34, σ35))))
set_option maxRecDepth 100000 in
set_option maxHeartbeats 4000000 in
theorem t_X9_stepIs_17 {l : Launch} {G : GX} {K : KX} (X : FX G K cX9_stepIs RX9 (some .int) wsX9_stepIs 3) {Φ : Int32 → MM → Prop} (hR : Ri G K Φ)  (σ : MM) (hf : Ok Φ (u_X9_stepIs_17  σ)) : V l G 7 K 3 17 [(0, .ref (G.1 129))] [] σ := by
    unfold u_X9_stepIs_17 at hf
    refine r_aload_n X dX9_stepIs_17 0 rfl isr_ref ?_
    refine r_ldc (v := (-1000000001 : Int32)) X (mem_ix 1 rfl) dX9_stepIs_18 ?_
    refine r_callVi (rest := []) X (c_X9_error l G (-1000000001 : Int32) σ (oks hf)) md_X9_error gX9_stepIs_X9_error (by decide) rfl rfl (kd_in kc_129 (by decide)) (EE_9 _ kc_129) rfl rfl (Nat.le_of_ble_eq_true rfl) dX9_stepIs_20 (fun r23 σ24 e25 => ?_)
    replace hf := okn e25 hf
    exact r_iret X rfl hR (ok0 hf) dX9_stepIs_23
set_option maxRecDepth 100000 in
set_option maxHeartbeats 4000000 in
theorem e_X9_stepIs {l : Launch} {G : GX} {K : KX} (X : FX G K cX9_stepIs RX9 (some .int) wsX9_stepIs 3) {Φ : Int32 → MM → Prop} (hR : Ri G K Φ) (a1 : Int32) (a2 : Int32) (σ : MM) (hf : Ok Φ (f_X9_stepIs a1 a2 σ)) : V l G 7 K 3 0 [(0, .ref (G.1 129)), (1, .int a1), (2, .int a2)] [] σ := by
    unfold f_X9_stepIs at hf
    refine r_aload_n X dX9_stepIs_0 0 rfl isr_ref ?_
    refine r_iload_n X dX9_stepIs_1 1 rfl ?_
    refine r_callVi (rest := []) X (c_X9_isStep l G a1 σ (oks hf)) md_X9_isStep gX9_stepIs_X9_isStep (by decide) rfl rfl (kd_in kc_129 (by decide)) (EE_9 _ kc_129) rfl rfl (Nat.le_of_ble_eq_true rfl) dX9_stepIs_2 (fun r19 σ20 e21 => ?_)
    replace hf := okn e21 hf
    refine r_if_eq (tgt := 17) X dX9_stepIs_5 (by decide) (fun h22 => ?_) (fun h22 => ?_)
    · replace hf := okt h22 hf
      refine r_sub [0] rfl ?_
      exact t_X9_stepIs_17 X hR σ20 hf
    · replace hf := okf h22 hf
      refine r_iload_n X dX9_stepIs_8 2 rfl ?_
      refine r_iconst X dX9_stepIs_9 ci_0 ?_
      refine r_iconst X dX9_stepIs_10 ci_3 ?_
      refine r_callSi (rest := []) X (c_X9_in l G a2 (0 : Int32) (3 : Int32) σ20 (oks hf)) md_X9_in gX9_stepIs_X9_in (by decide) rfl rfl (Nat.le_of_ble_eq_true rfl) dX9_stepIs_11 (fun r26 σ27 e28 => ?_)
      replace hf := okn e28 hf
      refine r_if_ne (tgt := 24) X dX9_stepIs_14 (by decide) (fun h29 => ?_) (fun h29 => ?_)
      · replace hf := okf h29 hf
        refine r_iload_n X dX9_stepIs_24 2 rfl ?_
        refine r_iconst X dX9_stepIs_25 ci_3 ?_
        refine r_icmp_ge (tgt := 38) X dX9_stepIs_26 (by decide) (fun h30 => ?_) (fun h30 => ?_)
        · replace hf := okt h30 hf
          refine r_aload_n X dX9_stepIs_38 0 rfl isr_ref ?_
          refine r_iload_n X dX9_stepIs_39 1 rfl ?_
          refine r_callVi (rest := []) X (c_X9_bribeOf l G a1 σ27 (oks hf)) md_X9_bribeOf gX9_stepIs_X9_bribeOf (by decide) rfl rfl (kd_in kc_129 (by decide)) (EE_9 _ kc_129) rfl rfl (Nat.le_of_ble_eq_true rfl) dX9_stepIs_40 (fun r31 σ32 e33 => ?_)
          replace hf := okn e33 hf
          exact r_iret X rfl hR (ok0 hf) dX9_stepIs_43
        · replace hf := okf h30 hf
          refine r_aload_n X dX9_stepIs_29 0 rfl isr_ref ?_
          refine r_iload_n X dX9_stepIs_30 1 rfl ?_
          refine r_iload_n X dX9_stepIs_31 2 rfl ?_
          refine r_callVi (rest := []) X (c_X9_of l G a1 a2 σ27 (oks hf)) md_X9_of gX9_stepIs_X9_of (by decide) rfl rfl (kd_in kc_129 (by decide)) (EE_9 _ kc_129) rfl rfl (Nat.le_of_ble_eq_true rfl) dX9_stepIs_32 (fun r34 σ35 e36 => ?_)
          replace hf := okn e36 hf
          refine r_goto (tgt := 43) X dX9_stepIs_35 (by decide) ?_
          exact r_iret X rfl hR (ok0 hf) dX9_stepIs_43
      · replace hf := okt h29 hf
        refine r_sub [0] rfl ?_
        exact t_X9_stepIs_17 X hR σ27 hf
theorem md_X9_stepIs : MD yX9_stepIs wsX9_stepIs cX9_stepIs 3 2 (some .int) := ⟨⟨_, rfl⟩, by decide +kernel, by decide +kernel, by decide⟩
theorem c_X9_stepIs (l : Launch) (G : GX)  (a1 : Int32) (a2 : Int32) (σ : MM) (h : (f_X9_stepIs a1 a2 σ).isSome = true) : CTi l G yX9_stepIs wsX9_stepIs 7 [.ref (G.1 129), .int a1, .int a2] σ (f_X9_stepIs a1 a2 σ) :=
  CTi_of md_X9_stepIs (Nat.le_of_ble_eq_true rfl) (fun K X hR => e_X9_stepIs X hR a1 a2 σ (ok_is h))
-- X9_become
theorem in_X9_become_9 : ∀ w ∈ u_ws RX9 TX9 21, w ∈ wsX9_become := fun _ h => List.mem_cons_of_mem _ (List.mem_append_right _ h)
def u_X9_become_15  (σ : MM) : Option (Int32 × MM) :=
  bd (f_X9_error (-1000000001 : Int32) σ) (fun r22 σ23 => some (r22, σ23))
def f_X9_become (a1 : Int32) (a2 : Int32) (σ : MM) : Option (Int32 × MM) :=
  bd (f_X9_isStep a1 σ) (fun r18 σ19 => if r18 = 0 then u_X9_become_15 σ19 else bd (f_X9_isKm a2 σ19) (fun r25 σ26 => if r25 = 0 then u_X9_become_15 σ26 else if (((6 : Int32) + ((3 : Int32) * a1)) + (1 : Int32)) < 0 ∨ 412 ≤ (((6 : Int32) + ((3 : Int32) * a1)) + (1 : Int32)).toNatClampNeg then none else lt (mu σ26 130 ((((6 : Int32) + ((3 : Int32) * a1)) + (1 : Int32)).toNatClampNeg) (a2 - a2 / (10 : Int32) * (10 : Int32))) (fun σ30 => bd (f_X9_becomes ((6 : Int32) + ((3 : Int32) * a1)) (a2 / (10 : Int32)) σ30) (fun r32 σ33 => some (r32, σ33)))))
set_option maxRecDepth 100000 in
set_option maxHeartbeats 4000000 in
theorem t_X9_become_15 {l : Launch} {G : GX} {K : KX} (X : FX G K cX9_become RX9 (some .int) wsX9_become 3) {Φ : Int32 → MM → Prop} (hR : Ri G K Φ)  (σ : MM) (hf : Ok Φ (u_X9_become_15  σ)) : V l G 5 K 3 15 [(0, .ref (G.1 129))] [] σ := by
    unfold u_X9_become_15 at hf
    refine r_aload_n X dX9_become_15 0 rfl isr_ref ?_
    refine r_ldc (v := (-1000000001 : Int32)) X (mem_ix 1 rfl) dX9_become_16 ?_
    refine r_callVi (rest := []) X (c_X9_error l G (-1000000001 : Int32) σ (oks hf)) md_X9_error gX9_become_X9_error (by decide) rfl rfl (kd_in kc_129 (by decide)) (EE_9 _ kc_129) rfl rfl (Nat.le_of_ble_eq_true rfl) dX9_become_18 (fun r22 σ23 e24 => ?_)
    replace hf := okn e24 hf
    exact r_iret X rfl hR (ok0 hf) dX9_become_21
set_option maxRecDepth 100000 in
set_option maxHeartbeats 4000000 in
theorem e_X9_become {l : Launch} {G : GX} {K : KX} (X : FX G K cX9_become RX9 (some .int) wsX9_become 3) {Φ : Int32 → MM → Prop} (hR : Ri G K Φ) (a1 : Int32) (a2 : Int32) (σ : MM) (hf : Ok Φ (f_X9_become a1 a2 σ)) : V l G 5 K 3 0 [(0, .ref (G.1 129)), (1, .int a1), (2, .int a2)] [] σ := by
    unfold f_X9_become at hf
    refine r_aload_n X dX9_become_0 0 rfl isr_ref ?_
    refine r_iload_n X dX9_become_1 1 rfl ?_
    refine r_callVi (rest := []) X (c_X9_isStep l G a1 σ (oks hf)) md_X9_isStep gX9_become_X9_isStep (by decide) rfl rfl (kd_in kc_129 (by decide)) (EE_9 _ kc_129) rfl rfl (Nat.le_of_ble_eq_true rfl) dX9_become_2 (fun r18 σ19 e20 => ?_)
    replace hf := okn e20 hf
    refine r_if_eq (tgt := 15) X dX9_become_5 (by decide) (fun h21 => ?_) (fun h21 => ?_)
    · replace hf := okt h21 hf
      refine r_sub [0] rfl ?_
      exact t_X9_become_15 X hR σ19 hf
    · replace hf := okf h21 hf
      refine r_iload_n X dX9_become_8 2 rfl ?_
      refine r_callSi (rest := []) X (c_X9_isKm l G a2 σ19 (oks hf)) md_X9_isKm gX9_become_X9_isKm (by decide) rfl rfl (Nat.le_of_ble_eq_true rfl) dX9_become_9 (fun r25 σ26 e27 => ?_)
      replace hf := okn e27 hf
      refine r_if_ne (tgt := 22) X dX9_become_12 (by decide) (fun h28 => ?_) (fun h28 => ?_)
      · replace hf := okf h28 hf
        refine r_aload_n X dX9_become_22 0 rfl isr_ref ?_
        refine r_get (i := 129) (v := .ref (G.1 130)) X in_X9_become_9 rfl 0 (by decide) (kd_in kc_129 (by decide)) (EE_9 _ kc_129) rfl (mem_ix 2 rfl) dX9_become_23 ?_
        refine r_bipush X dX9_become_26 cb_6 ?_
        refine r_iconst X dX9_become_28 ci_3 ?_
        refine r_iload_n X dX9_become_29 1 rfl ?_
        refine r_imul X dX9_become_30 ?_
        refine r_iadd X dX9_become_31 ?_
        refine r_iconst X dX9_become_32 ci_1 ?_
        refine r_iadd X dX9_become_33 ?_
        refine r_iload_n X dX9_become_34 2 rfl ?_
        refine r_bipush X dX9_become_35 cb_10 ?_
        refine r_irem X dX9_become_37 (by decide) ?_
        obtain ⟨g29, hf⟩ := okg hf
        obtain ⟨σ30, e31, hf⟩ := okl hf
        refine r_iast (i := 130) (jn := (((6 : Int32) + ((3 : Int32) * a1)) + (1 : Int32)).toNatClampNeg) X (kd_in kc_130 (by decide)) (fun _ => EE_26 _ kc_130) rfl g29 dX9_become_38 ?_
        refine r_sg e31 ?_
        refine r_aload_n X dX9_become_39 0 rfl isr_ref ?_
        refine r_bipush X dX9_become_40 cb_6 ?_
        refine r_iconst X dX9_become_42 ci_3 ?_
        refine r_iload_n X dX9_become_43 1 rfl ?_
        refine r_imul X dX9_become_44 ?_
        refine r_iadd X dX9_become_45 ?_
        refine r_iload_n X dX9_become_46 2 rfl ?_
        refine r_bipush X dX9_become_47 cb_10 ?_
        refine r_idiv X dX9_become_49 (by decide) ?_
        refine r_callVi (rest := []) X (c_X9_becomes l G ((6 : Int32) + ((3 : Int32) * a1)) (a2 / (10 : Int32)) σ30 (oks hf)) md_X9_becomes gX9_become_X9_becomes (by decide) rfl rfl (kd_in kc_129 (by decide)) (EE_9 _ kc_129) rfl rfl (Nat.le_of_ble_eq_true rfl) dX9_become_50 (fun r32 σ33 e34 => ?_)
        replace hf := okn e34 hf
        exact r_iret X rfl hR (ok0 hf) dX9_become_53
      · replace hf := okt h28 hf
        refine r_sub [0] rfl ?_
        exact t_X9_become_15 X hR σ26 hf
theorem md_X9_become : MD yX9_become wsX9_become cX9_become 3 2 (some .int) := ⟨⟨_, rfl⟩, by decide +kernel, by decide +kernel, by decide⟩
theorem c_X9_become (l : Launch) (G : GX)  (a1 : Int32) (a2 : Int32) (σ : MM) (h : (f_X9_become a1 a2 σ).isSome = true) : CTi l G yX9_become wsX9_become 5 [.ref (G.1 129), .int a1, .int a2] σ (f_X9_become a1 a2 σ) :=
  CTi_of md_X9_become (Nat.le_of_ble_eq_true rfl) (fun K X hR => e_X9_become X hR a1 a2 σ (ok_is h))
-- X9_as
theorem in_X9_as_9 : ∀ w ∈ u_ws RX9 TX9 21, w ∈ wsX9_as := fun _ h => List.mem_cons_of_mem _ (List.mem_append_right _ h)
def u_X9_as_18  (σ : MM) : Option (Int32 × MM) :=
  bd (f_X9_error (-1000000001 : Int32) σ) (fun r32 σ33 => some (r32, σ33))
def u_X9_as_66 (v1 : Int32) (vs0 : Int32) (σ : MM) : Option (Int32 × MM) :=
  if vs0 = 0 then bd (f_X9_error (-1000000005 : Int32) σ) (fun r44 σ45 => some (r44, σ45)) else bd (f_X9_of v1 (1 : Int32) σ) (fun r47 σ48 => some (r47, σ48))
def u_X9_as_51 (v1 : Int32) (v2 : Int32) (v3 : Int32) (σ : MM) : Option (Int32 × MM) :=
  if v2 = (2 : Int32) then if v3 = (5 : Int32) then u_X9_as_66 v1 (1 : Int32) σ else u_X9_as_66 v1 (0 : Int32) σ else u_X9_as_66 v1 (0 : Int32) σ
def f_X9_as (a1 : Int32) (a2 : Int32) (σ : MM) : Option (Int32 × MM) :=
  bd (f_X9_isStep a1 σ) (fun r28 σ29 => if r28 = 0 then u_X9_as_18 σ29 else bd (f_X9_in a2 (0 : Int32) (6 : Int32) σ29) (fun r35 σ36 => if r35 = 0 then u_X9_as_18 σ36 else bd (f_X9_of a1 (0 : Int32) σ36) (fun r39 σ40 => if a2 = 0 then u_X9_as_66 a1 (1 : Int32) σ40 else if a2 = r39 then u_X9_as_66 a1 (1 : Int32) σ40 else if a2 = (1 : Int32) then if r39 = (4 : Int32) then u_X9_as_66 a1 (1 : Int32) σ40 else u_X9_as_51 a1 a2 r39 σ40 else u_X9_as_51 a1 a2 r39 σ40)))
set_option maxRecDepth 100000 in
set_option maxHeartbeats 4000000 in
theorem t_X9_as_18 {l : Launch} {G : GX} {K : KX} (X : FX G K cX9_as RX9 (some .int) wsX9_as 5) {Φ : Int32 → MM → Prop} (hR : Ri G K Φ)  (σ : MM) (hf : Ok Φ (u_X9_as_18  σ)) : V l G 5 K 5 18 [(0, .ref (G.1 129))] [] σ := by
    unfold u_X9_as_18 at hf
    refine r_aload_n X dX9_as_18 0 rfl isr_ref ?_
    refine r_ldc (v := (-1000000001 : Int32)) X (mem_ix 1 rfl) dX9_as_19 ?_
    refine r_callVi (rest := []) X (c_X9_error l G (-1000000001 : Int32) σ (oks hf)) md_X9_error gX9_as_X9_error (by decide) rfl rfl (kd_in kc_129 (by decide)) (EE_9 _ kc_129) rfl rfl (Nat.le_of_ble_eq_true rfl) dX9_as_21 (fun r32 σ33 e34 => ?_)
    replace hf := okn e34 hf
    exact r_iret X rfl hR (ok0 hf) dX9_as_24
set_option maxRecDepth 100000 in
set_option maxHeartbeats 4000000 in
theorem t_X9_as_66 {l : Launch} {G : GX} {K : KX} (X : FX G K cX9_as RX9 (some .int) wsX9_as 5) {Φ : Int32 → MM → Prop} (hR : Ri G K Φ) (v1 : Int32) (vs0 : Int32) (σ : MM) (hf : Ok Φ (u_X9_as_66 v1 vs0 σ)) : V l G 5 K 5 66 [(0, .ref (G.1 129)), (1, .int v1)] [.int vs0] σ := by
    unfold u_X9_as_66 at hf
    refine r_istore X dX9_as_66 (by decide) (lv' := [(4, .int vs0), (0, .ref (G.1 129)), (1, .int v1)]) rfl ?_
    refine r_iload X dX9_as_68 0 rfl ?_
    refine r_if_eq (tgt := 82) X dX9_as_70 (by decide) (fun h43 => ?_) (fun h43 => ?_)
    · replace hf := okt h43 hf
      refine r_aload_n X dX9_as_82 1 rfl isr_ref ?_
      refine r_ldc (v := (-1000000005 : Int32)) X (mem_ix 2 rfl) dX9_as_83 ?_
      refine r_callVi (rest := []) X (c_X9_error l G (-1000000005 : Int32) σ (oks hf)) md_X9_error gX9_as_X9_error (by decide) rfl rfl (kd_in kc_129 (by decide)) (EE_9 _ kc_129) rfl rfl (Nat.le_of_ble_eq_true rfl) dX9_as_85 (fun r44 σ45 e46 => ?_)
      replace hf := okn e46 hf
      exact r_iret X rfl hR (ok0 hf) dX9_as_88
    · replace hf := okf h43 hf
      refine r_aload_n X dX9_as_73 1 rfl isr_ref ?_
      refine r_iload_n X dX9_as_74 2 rfl ?_
      refine r_iconst X dX9_as_75 ci_1 ?_
      refine r_callVi (rest := []) X (c_X9_of l G v1 (1 : Int32) σ (oks hf)) md_X9_of gX9_as_X9_of (by decide) rfl rfl (kd_in kc_129 (by decide)) (EE_9 _ kc_129) rfl rfl (Nat.le_of_ble_eq_true rfl) dX9_as_76 (fun r47 σ48 e49 => ?_)
      replace hf := okn e49 hf
      refine r_goto (tgt := 88) X dX9_as_79 (by decide) ?_
      exact r_iret X rfl hR (ok0 hf) dX9_as_88
set_option maxRecDepth 100000 in
set_option maxHeartbeats 4000000 in
theorem t_X9_as_51 {l : Launch} {G : GX} {K : KX} (X : FX G K cX9_as RX9 (some .int) wsX9_as 5) {Φ : Int32 → MM → Prop} (hR : Ri G K Φ) (v1 : Int32) (v2 : Int32) (v3 : Int32) (σ : MM) (hf : Ok Φ (u_X9_as_51 v1 v2 v3 σ)) : V l G 5 K 5 51 [(0, .ref (G.1 129)), (1, .int v1), (2, .int v2), (3, .int v3)] [] σ := by
    unfold u_X9_as_51 at hf
    refine r_iload_n X dX9_as_51 2 rfl ?_
    refine r_iconst X dX9_as_52 ci_2 ?_
    refine r_icmp_ne (tgt := 65) X dX9_as_53 (by decide) (fun h52 => ?_) (fun h52 => ?_)
    · replace hf := okf h52 hf
      refine r_iconst X dX9_as_65 ci_0 ?_
      refine r_sub [0, 1] rfl ?_
      exact t_X9_as_66 X hR v1 (0 : Int32) σ hf
    · replace hf := okt h52 hf
      refine r_iload_n X dX9_as_56 3 rfl ?_
      refine r_iconst X dX9_as_57 ci_5 ?_
      refine r_icmp_ne (tgt := 65) X dX9_as_58 (by decide) (fun h53 => ?_) (fun h53 => ?_)
      · replace hf := okf h53 hf
        refine r_iconst X dX9_as_65 ci_0 ?_
        refine r_sub [0, 1] rfl ?_
        exact t_X9_as_66 X hR v1 (0 : Int32) σ hf
      · replace hf := okt h53 hf
        refine r_iconst X dX9_as_61 ci_1 ?_
        refine r_goto (tgt := 66) X dX9_as_62 (by decide) ?_
        refine r_sub [0, 1] rfl ?_
        exact t_X9_as_66 X hR v1 (1 : Int32) σ hf
set_option maxRecDepth 100000 in
set_option maxHeartbeats 4000000 in
theorem e_X9_as {l : Launch} {G : GX} {K : KX} (X : FX G K cX9_as RX9 (some .int) wsX9_as 5) {Φ : Int32 → MM → Prop} (hR : Ri G K Φ) (a1 : Int32) (a2 : Int32) (σ : MM) (hf : Ok Φ (f_X9_as a1 a2 σ)) : V l G 5 K 5 0 [(0, .ref (G.1 129)), (1, .int a1), (2, .int a2)] [] σ := by
    unfold f_X9_as at hf
    refine r_aload_n X dX9_as_0 0 rfl isr_ref ?_
    refine r_iload_n X dX9_as_1 1 rfl ?_
    refine r_callVi (rest := []) X (c_X9_isStep l G a1 σ (oks hf)) md_X9_isStep gX9_as_X9_isStep (by decide) rfl rfl (kd_in kc_129 (by decide)) (EE_9 _ kc_129) rfl rfl (Nat.le_of_ble_eq_true rfl) dX9_as_2 (fun r28 σ29 e30 => ?_)
    replace hf := okn e30 hf
    refine r_if_eq (tgt := 18) X dX9_as_5 (by decide) (fun h31 => ?_) (fun h31 => ?_)
    · replace hf := okt h31 hf
      refine r_sub [0] rfl ?_
      exact t_X9_as_18 X hR σ29 hf
    · replace hf := okf h31 hf
      refine r_iload_n X dX9_as_8 2 rfl ?_
      refine r_iconst X dX9_as_9 ci_0 ?_
      refine r_bipush X dX9_as_10 cb_6 ?_
      refine r_callSi (rest := []) X (c_X9_in l G a2 (0 : Int32) (6 : Int32) σ29 (oks hf)) md_X9_in gX9_as_X9_in (by decide) rfl rfl (Nat.le_of_ble_eq_true rfl) dX9_as_12 (fun r35 σ36 e37 => ?_)
      replace hf := okn e37 hf
      refine r_if_ne (tgt := 25) X dX9_as_15 (by decide) (fun h38 => ?_) (fun h38 => ?_)
      · replace hf := okf h38 hf
        refine r_aload_n X dX9_as_25 0 rfl isr_ref ?_
        refine r_iload_n X dX9_as_26 1 rfl ?_
        refine r_iconst X dX9_as_27 ci_0 ?_
        refine r_callVi (rest := []) X (c_X9_of l G a1 (0 : Int32) σ36 (oks hf)) md_X9_of gX9_as_X9_of (by decide) rfl rfl (kd_in kc_129 (by decide)) (EE_9 _ kc_129) rfl rfl (Nat.le_of_ble_eq_true rfl) dX9_as_28 (fun r39 σ40 e41 => ?_)
        replace hf := okn e41 hf
        refine r_istore_n X dX9_as_31 (i := 3) rfl (by decide) (lv' := [(3, .int r39), (0, .ref (G.1 129)), (1, .int a1), (2, .int a2)]) rfl ?_
        refine r_iload_n X dX9_as_32 3 rfl ?_
        refine r_if_eq (tgt := 61) X dX9_as_33 (by decide) (fun h42 => ?_) (fun h42 => ?_)
        · replace hf := okt h42 hf
          refine r_iconst X dX9_as_61 ci_1 ?_
          refine r_goto (tgt := 66) X dX9_as_62 (by decide) ?_
          refine r_sub [1, 2] rfl ?_
          exact t_X9_as_66 X hR a1 (1 : Int32) σ40 hf
        · replace hf := okf h42 hf
          refine r_iload_n X dX9_as_36 3 rfl ?_
          refine r_iload_n X dX9_as_37 0 rfl ?_
          refine r_icmp_eq (tgt := 61) X dX9_as_38 (by decide) (fun h50 => ?_) (fun h50 => ?_)
          · replace hf := okt h50 hf
            refine r_iconst X dX9_as_61 ci_1 ?_
            refine r_goto (tgt := 66) X dX9_as_62 (by decide) ?_
            refine r_sub [1, 2] rfl ?_
            exact t_X9_as_66 X hR a1 (1 : Int32) σ40 hf
          · replace hf := okf h50 hf
            refine r_iload_n X dX9_as_41 3 rfl ?_
            refine r_iconst X dX9_as_42 ci_1 ?_
            refine r_icmp_ne (tgt := 51) X dX9_as_43 (by decide) (fun h51 => ?_) (fun h51 => ?_)
            · replace hf := okf h51 hf
              refine r_sub [1, 2, 3, 0] rfl ?_
              exact t_X9_as_51 X hR a1 a2 r39 σ40 hf
            · replace hf := okt h51 hf
              refine r_iload_n X dX9_as_46 0 rfl ?_
              refine r_iconst X dX9_as_47 ci_4 ?_
              refine r_icmp_eq (tgt := 61) X dX9_as_48 (by decide) (fun h54 => ?_) (fun h54 => ?_)
              · replace hf := okt h54 hf
                refine r_iconst X dX9_as_61 ci_1 ?_
                refine r_goto (tgt := 66) X dX9_as_62 (by decide) ?_
                refine r_sub [1, 2] rfl ?_
                exact t_X9_as_66 X hR a1 (1 : Int32) σ40 hf
              · replace hf := okf h54 hf
                refine r_sub [1, 2, 3, 0] rfl ?_
                exact t_X9_as_51 X hR a1 a2 r39 σ40 hf
      · replace hf := okt h38 hf
        refine r_sub [0] rfl ?_
        exact t_X9_as_18 X hR σ36 hf
theorem md_X9_as : MD yX9_as wsX9_as cX9_as 5 2 (some .int) := ⟨⟨_, rfl⟩, by decide +kernel, by decide +kernel, by decide⟩
theorem c_X9_as (l : Launch) (G : GX)  (a1 : Int32) (a2 : Int32) (σ : MM) (h : (f_X9_as a1 a2 σ).isSome = true) : CTi l G yX9_as wsX9_as 5 [.ref (G.1 129), .int a1, .int a2] σ (f_X9_as a1 a2 σ) :=
  CTi_of md_X9_as (Nat.le_of_ble_eq_true rfl) (fun K X hR => e_X9_as X hR a1 a2 σ (ok_is h))
-- X9_person
theorem in_X9_person_9 : ∀ w ∈ u_ws RX9 TX9 21, w ∈ wsX9_person := fun _ h => List.mem_cons_of_mem _ (List.mem_append_right _ h)
def f_X9_person (a1 : Int32) (σ : MM) : Option (Int32 × MM) :=
  bd (f_X9_in a1 (0 : Int32) (999 : Int32) σ) (fun r26 σ27 => if r26 = 0 then bd (f_X9_error (-1000000001 : Int32) σ27) (fun r48 σ49 => some (r48, σ49)) else if (σ27 130 3) = (5 : Int32) then bd (f_X9_error (-1000000004 : Int32) σ27) (fun r45 σ46 => some (r45, σ46)) else lt (mu σ27 130 3 ((σ27 130 3) + (1 : Int32))) (fun σ31 => bd (f_X9_lets (σ27 130 3) (0 : Int32) (0 : Int32) σ31) (fun r33 σ34 => bd (f_X9_lets (σ27 130 3) (1 : Int32) a1 σ34) (fun r36 σ37 => bd (f_X9_lets (σ27 130 3) (2 : Int32) (0 : Int32) σ37) (fun r39 σ40 => bd (f_X9_lets (σ27 130 3) (3 : Int32) (0 : Int32) σ40) (fun r42 σ43 => some ((σ27 130 3), σ43)))))))
set_option maxRecDepth 100000 in
set_option maxHeartbeats 4000000 in
theorem e_X9_person {l : Launch} {G : GX} {K : KX} (X : FX G K cX9_person RX9 (some .int) wsX9_person 3) {Φ : Int32 → MM → Prop} (hR : Ri G K Φ) (a1 : Int32) (σ : MM) (hf : Ok Φ (f_X9_person a1 σ)) : V l G 4 K 3 0 [(0, .ref (G.1 129)), (1, .int a1)] [] σ := by
    unfold f_X9_person at hf
    refine r_iload_n X dX9_person_0 1 rfl ?_
    refine r_iconst X dX9_person_1 ci_0 ?_
    refine r_sipush X dX9_person_2 cs_999 ?_
    refine r_callSi (rest := []) X (c_X9_in l G a1 (0 : Int32) (999 : Int32) σ (oks hf)) md_X9_in gX9_person_X9_in (by decide) rfl rfl (Nat.le_of_ble_eq_true rfl) dX9_person_5 (fun r26 σ27 e28 => ?_)
    replace hf := okn e28 hf
    refine r_if_ne (tgt := 18) X dX9_person_8 (by decide) (fun h29 => ?_) (fun h29 => ?_)
    · replace hf := okf h29 hf
      refine r_aload_n X dX9_person_18 0 rfl isr_ref ?_
      refine r_get (i := 129) (v := .ref (G.1 130)) X in_X9_person_9 rfl 0 (by decide) (kd_in kc_129 (by decide)) (EE_9 _ kc_129) rfl (mem_ix 2 rfl) dX9_person_19 ?_
      refine r_iconst X dX9_person_22 ci_3 ?_
      refine r_iald (i := 130) (jn := 3) X (kd_in kc_130 (by decide)) (EE_26 _ kc_130) (by decide) (by decide) dX9_person_23 ?_
      refine r_istore_n X dX9_person_24 (i := 2) rfl (by decide) (lv' := [(2, .int (σ27 130 3)), (0, .ref (G.1 129)), (1, .int a1)]) rfl ?_
      refine r_iload_n X dX9_person_25 0 rfl ?_
      refine r_iconst X dX9_person_26 ci_5 ?_
      refine r_icmp_ne (tgt := 37) X dX9_person_27 (by decide) (fun h30 => ?_) (fun h30 => ?_)
      · replace hf := okf h30 hf
        refine r_aload_n X dX9_person_37 1 rfl isr_ref ?_
        refine r_get (i := 129) (v := .ref (G.1 130)) X in_X9_person_9 rfl 0 (by decide) (kd_in kc_129 (by decide)) (EE_9 _ kc_129) rfl (mem_ix 2 rfl) dX9_person_38 ?_
        refine r_iconst X dX9_person_41 ci_3 ?_
        refine r_dup2 X dX9_person_42 rfl rfl ?_
        refine r_iald (i := 130) (jn := 3) X (kd_in kc_130 (by decide)) (EE_26 _ kc_130) (by decide) (by decide) dX9_person_43 ?_
        refine r_iconst X dX9_person_44 ci_1 ?_
        refine r_iadd X dX9_person_45 ?_
        obtain ⟨σ31, e32, hf⟩ := okl hf
        refine r_iast (i := 130) (jn := 3) X (kd_in kc_130 (by decide)) (fun _ => EE_26 _ kc_130) (by decide) (by decide) dX9_person_46 ?_
        refine r_sg e32 ?_
        refine r_aload_n X dX9_person_47 1 rfl isr_ref ?_
        refine r_iload_n X dX9_person_48 0 rfl ?_
        refine r_iconst X dX9_person_49 ci_0 ?_
        refine r_iconst X dX9_person_50 ci_0 ?_
        refine r_callVv (rest := []) X (c_X9_lets l G (σ27 130 3) (0 : Int32) (0 : Int32) σ31 (oks hf)) md_X9_lets gX9_person_X9_lets (by decide) rfl rfl (kd_in kc_129 (by decide)) (EE_9 _ kc_129) rfl rfl (Nat.le_of_ble_eq_true rfl) dX9_person_51 (fun r33 σ34 e35 => ?_)
        replace hf := okn e35 hf
        refine r_aload_n X dX9_person_54 1 rfl isr_ref ?_
        refine r_iload_n X dX9_person_55 0 rfl ?_
        refine r_iconst X dX9_person_56 ci_1 ?_
        refine r_iload_n X dX9_person_57 2 rfl ?_
        refine r_callVv (rest := []) X (c_X9_lets l G (σ27 130 3) (1 : Int32) a1 σ34 (oks hf)) md_X9_lets gX9_person_X9_lets (by decide) rfl rfl (kd_in kc_129 (by decide)) (EE_9 _ kc_129) rfl rfl (Nat.le_of_ble_eq_true rfl) dX9_person_58 (fun r36 σ37 e38 => ?_)
        replace hf := okn e38 hf
        refine r_aload_n X dX9_person_61 1 rfl isr_ref ?_
        refine r_iload_n X dX9_person_62 0 rfl ?_
        refine r_iconst X dX9_person_63 ci_2 ?_
        refine r_iconst X dX9_person_64 ci_0 ?_
        refine r_callVv (rest := []) X (c_X9_lets l G (σ27 130 3) (2 : Int32) (0 : Int32) σ37 (oks hf)) md_X9_lets gX9_person_X9_lets (by decide) rfl rfl (kd_in kc_129 (by decide)) (EE_9 _ kc_129) rfl rfl (Nat.le_of_ble_eq_true rfl) dX9_person_65 (fun r39 σ40 e41 => ?_)
        replace hf := okn e41 hf
        refine r_aload_n X dX9_person_68 1 rfl isr_ref ?_
        refine r_iload_n X dX9_person_69 0 rfl ?_
        refine r_iconst X dX9_person_70 ci_3 ?_
        refine r_iconst X dX9_person_71 ci_0 ?_
        refine r_callVv (rest := []) X (c_X9_lets l G (σ27 130 3) (3 : Int32) (0 : Int32) σ40 (oks hf)) md_X9_lets gX9_person_X9_lets (by decide) rfl rfl (kd_in kc_129 (by decide)) (EE_9 _ kc_129) rfl rfl (Nat.le_of_ble_eq_true rfl) dX9_person_72 (fun r42 σ43 e44 => ?_)
        replace hf := okn e44 hf
        refine r_iload_n X dX9_person_75 0 rfl ?_
        exact r_iret X rfl hR (ok0 hf) dX9_person_76
      · replace hf := okt h30 hf
        refine r_aload_n X dX9_person_30 1 rfl isr_ref ?_
        refine r_ldc (v := (-1000000004 : Int32)) X (mem_ix 3 rfl) dX9_person_31 ?_
        refine r_callVi (rest := []) X (c_X9_error l G (-1000000004 : Int32) σ27 (oks hf)) md_X9_error gX9_person_X9_error (by decide) rfl rfl (kd_in kc_129 (by decide)) (EE_9 _ kc_129) rfl rfl (Nat.le_of_ble_eq_true rfl) dX9_person_33 (fun r45 σ46 e47 => ?_)
        replace hf := okn e47 hf
        exact r_iret X rfl hR (ok0 hf) dX9_person_36
    · replace hf := okt h29 hf
      refine r_aload_n X dX9_person_11 0 rfl isr_ref ?_
      refine r_ldc (v := (-1000000001 : Int32)) X (mem_ix 1 rfl) dX9_person_12 ?_
      refine r_callVi (rest := []) X (c_X9_error l G (-1000000001 : Int32) σ27 (oks hf)) md_X9_error gX9_person_X9_error (by decide) rfl rfl (kd_in kc_129 (by decide)) (EE_9 _ kc_129) rfl rfl (Nat.le_of_ble_eq_true rfl) dX9_person_14 (fun r48 σ49 e50 => ?_)
      replace hf := okn e50 hf
      exact r_iret X rfl hR (ok0 hf) dX9_person_17
theorem md_X9_person : MD yX9_person wsX9_person cX9_person 3 1 (some .int) := ⟨⟨_, rfl⟩, by decide +kernel, by decide +kernel, by decide⟩
theorem c_X9_person (l : Launch) (G : GX)  (a1 : Int32) (σ : MM) (h : (f_X9_person a1 σ).isSome = true) : CTi l G yX9_person wsX9_person 4 [.ref (G.1 129), .int a1] σ (f_X9_person a1 σ) :=
  CTi_of md_X9_person (Nat.le_of_ble_eq_true rfl) (fun K X hR => e_X9_person X hR a1 σ (ok_is h))
-- X9_isUp
theorem in_X9_isUp_9 : ∀ w ∈ u_ws RX9 TX9 21, w ∈ wsX9_isUp := fun _ h => List.mem_cons_of_mem _ (List.mem_append_right _ h)
def f_X9_isUp (a1 : Int32) (σ : MM) : Option (Int32 × MM) :=
  bd (f_X9_about a1 (0 : Int32) σ) (fun r5 σ6 => if r5 < (σ6 130 2) then some ((0 : Int32), σ6) else some ((1 : Int32), σ6))
set_option maxRecDepth 100000 in
set_option maxHeartbeats 4000000 in
theorem e_X9_isUp {l : Launch} {G : GX} {K : KX} (X : FX G K cX9_isUp RX9 (some .boolean) wsX9_isUp 2) {Φ : Int32 → MM → Prop} (hR : Ri G K Φ) (a1 : Int32) (σ : MM) (hf : Ok Φ (f_X9_isUp a1 σ)) : V l G 4 K 2 0 [(0, .ref (G.1 129)), (1, .int a1)] [] σ := by
    unfold f_X9_isUp at hf
    refine r_aload_n X dX9_isUp_0 0 rfl isr_ref ?_
    refine r_iload_n X dX9_isUp_1 1 rfl ?_
    refine r_iconst X dX9_isUp_2 ci_0 ?_
    refine r_callVi (rest := []) X (c_X9_about l G a1 (0 : Int32) σ (oks hf)) md_X9_about gX9_isUp_X9_about (by decide) rfl rfl (kd_in kc_129 (by decide)) (EE_9 _ kc_129) rfl rfl (Nat.le_of_ble_eq_true rfl) dX9_isUp_3 (fun r5 σ6 e7 => ?_)
    replace hf := okn e7 hf
    refine r_aload_n X dX9_isUp_6 0 rfl isr_ref ?_
    refine r_get (i := 129) (v := .ref (G.1 130)) X in_X9_isUp_9 rfl 0 (by decide) (kd_in kc_129 (by decide)) (EE_9 _ kc_129) rfl (mem_ix 1 rfl) dX9_isUp_7 ?_
    refine r_iconst X dX9_isUp_10 ci_2 ?_
    refine r_iald (i := 130) (jn := 2) X (kd_in kc_130 (by decide)) (EE_26 _ kc_130) (by decide) (by decide) dX9_isUp_11 ?_
    refine r_icmp_lt (tgt := 19) X dX9_isUp_12 (by decide) (fun h8 => ?_) (fun h8 => ?_)
    · replace hf := okt h8 hf
      refine r_iconst X dX9_isUp_19 ci_0 ?_
      exact r_zret X rfl hR (by decide) (ok0 hf) dX9_isUp_20
    · replace hf := okf h8 hf
      refine r_iconst X dX9_isUp_15 ci_1 ?_
      refine r_goto (tgt := 20) X dX9_isUp_16 (by decide) ?_
      exact r_zret X rfl hR (by decide) (ok0 hf) dX9_isUp_20
theorem md_X9_isUp : MD yX9_isUp wsX9_isUp cX9_isUp 2 1 (some .boolean) := ⟨⟨_, rfl⟩, by decide +kernel, by decide +kernel, by decide⟩
theorem c_X9_isUp (l : Launch) (G : GX)  (a1 : Int32) (σ : MM) (h : (f_X9_isUp a1 σ).isSome = true) : CTi l G yX9_isUp wsX9_isUp 4 [.ref (G.1 129), .int a1] σ (f_X9_isUp a1 σ) :=
  CTi_of md_X9_isUp (Nat.le_of_ble_eq_true rfl) (fun K X hR => e_X9_isUp X hR a1 σ (ok_is h))
-- X9_personIs
theorem in_X9_personIs_9 : ∀ w ∈ u_ws RX9 TX9 21, w ∈ wsX9_personIs := fun _ h => List.mem_cons_of_mem _ (List.mem_append_right _ h)
def u_X9_personIs_17  (σ : MM) : Option (Int32 × MM) :=
  bd (f_X9_error (-1000000001 : Int32) σ) (fun r24 σ25 => some (r24, σ25))
def f_X9_personIs (a1 : Int32) (a2 : Int32) (σ : MM) : Option (Int32 × MM) :=
  bd (f_X9_isPerson a1 σ) (fun r20 σ21 => if r20 = 0 then u_X9_personIs_17 σ21 else bd (f_X9_in a2 (0 : Int32) (4 : Int32) σ21) (fun r27 σ28 => if r27 = 0 then u_X9_personIs_17 σ28 else if (4 : Int32) ≤ a2 then bd (f_X9_isUp a1 σ28) (fun r32 σ33 => if r32 = 0 then some ((0 : Int32), σ33) else some ((1 : Int32), σ33)) else bd (f_X9_about a1 a2 σ28) (fun r36 σ37 => some (r36, σ37))))
set_option maxRecDepth 100000 in
set_option maxHeartbeats 4000000 in
theorem t_X9_personIs_17 {l : Launch} {G : GX} {K : KX} (X : FX G K cX9_personIs RX9 (some .int) wsX9_personIs 3) {Φ : Int32 → MM → Prop} (hR : Ri G K Φ)  (σ : MM) (hf : Ok Φ (u_X9_personIs_17  σ)) : V l G 5 K 3 17 [(0, .ref (G.1 129))] [] σ := by
    unfold u_X9_personIs_17 at hf
    refine r_aload_n X dX9_personIs_17 0 rfl isr_ref ?_
    refine r_ldc (v := (-1000000001 : Int32)) X (mem_ix 1 rfl) dX9_personIs_18 ?_
    refine r_callVi (rest := []) X (c_X9_error l G (-1000000001 : Int32) σ (oks hf)) md_X9_error gX9_personIs_X9_error (by decide) rfl rfl (kd_in kc_129 (by decide)) (EE_9 _ kc_129) rfl rfl (Nat.le_of_ble_eq_true rfl) dX9_personIs_20 (fun r24 σ25 e26 => ?_)
    replace hf := okn e26 hf
    exact r_iret X rfl hR (ok0 hf) dX9_personIs_23
set_option maxRecDepth 100000 in
set_option maxHeartbeats 4000000 in
theorem e_X9_personIs {l : Launch} {G : GX} {K : KX} (X : FX G K cX9_personIs RX9 (some .int) wsX9_personIs 3) {Φ : Int32 → MM → Prop} (hR : Ri G K Φ) (a1 : Int32) (a2 : Int32) (σ : MM) (hf : Ok Φ (f_X9_personIs a1 a2 σ)) : V l G 5 K 3 0 [(0, .ref (G.1 129)), (1, .int a1), (2, .int a2)] [] σ := by
    unfold f_X9_personIs at hf
    refine r_aload_n X dX9_personIs_0 0 rfl isr_ref ?_
    refine r_iload_n X dX9_personIs_1 1 rfl ?_
    refine r_callVi (rest := []) X (c_X9_isPerson l G a1 σ (oks hf)) md_X9_isPerson gX9_personIs_X9_isPerson (by decide) rfl rfl (kd_in kc_129 (by decide)) (EE_9 _ kc_129) rfl rfl (Nat.le_of_ble_eq_true rfl) dX9_personIs_2 (fun r20 σ21 e22 => ?_)
    replace hf := okn e22 hf
    refine r_if_eq (tgt := 17) X dX9_personIs_5 (by decide) (fun h23 => ?_) (fun h23 => ?_)
    · replace hf := okt h23 hf
      refine r_sub [0] rfl ?_
      exact t_X9_personIs_17 X hR σ21 hf
    · replace hf := okf h23 hf
      refine r_iload_n X dX9_personIs_8 2 rfl ?_
      refine r_iconst X dX9_personIs_9 ci_0 ?_
      refine r_iconst X dX9_personIs_10 ci_4 ?_
      refine r_callSi (rest := []) X (c_X9_in l G a2 (0 : Int32) (4 : Int32) σ21 (oks hf)) md_X9_in gX9_personIs_X9_in (by decide) rfl rfl (Nat.le_of_ble_eq_true rfl) dX9_personIs_11 (fun r27 σ28 e29 => ?_)
      replace hf := okn e29 hf
      refine r_if_ne (tgt := 24) X dX9_personIs_14 (by decide) (fun h30 => ?_) (fun h30 => ?_)
      · replace hf := okf h30 hf
        refine r_iload_n X dX9_personIs_24 2 rfl ?_
        refine r_iconst X dX9_personIs_25 ci_4 ?_
        refine r_icmp_ge (tgt := 38) X dX9_personIs_26 (by decide) (fun h31 => ?_) (fun h31 => ?_)
        · replace hf := okt h31 hf
          refine r_aload_n X dX9_personIs_38 0 rfl isr_ref ?_
          refine r_iload_n X dX9_personIs_39 1 rfl ?_
          refine r_callVi (rest := []) X (c_X9_isUp l G a1 σ28 (oks hf)) md_X9_isUp gX9_personIs_X9_isUp (by decide) rfl rfl (kd_in kc_129 (by decide)) (EE_9 _ kc_129) rfl rfl (Nat.le_of_ble_eq_true rfl) dX9_personIs_40 (fun r32 σ33 e34 => ?_)
          replace hf := okn e34 hf
          refine r_if_eq (tgt := 50) X dX9_personIs_43 (by decide) (fun h35 => ?_) (fun h35 => ?_)
          · replace hf := okt h35 hf
            refine r_iconst X dX9_personIs_50 ci_0 ?_
            exact r_iret X rfl hR (ok0 hf) dX9_personIs_51
          · replace hf := okf h35 hf
            refine r_iconst X dX9_personIs_46 ci_1 ?_
            refine r_goto (tgt := 51) X dX9_personIs_47 (by decide) ?_
            exact r_iret X rfl hR (ok0 hf) dX9_personIs_51
        · replace hf := okf h31 hf
          refine r_aload_n X dX9_personIs_29 0 rfl isr_ref ?_
          refine r_iload_n X dX9_personIs_30 1 rfl ?_
          refine r_iload_n X dX9_personIs_31 2 rfl ?_
          refine r_callVi (rest := []) X (c_X9_about l G a1 a2 σ28 (oks hf)) md_X9_about gX9_personIs_X9_about (by decide) rfl rfl (kd_in kc_129 (by decide)) (EE_9 _ kc_129) rfl rfl (Nat.le_of_ble_eq_true rfl) dX9_personIs_32 (fun r36 σ37 e38 => ?_)
          replace hf := okn e38 hf
          refine r_goto (tgt := 51) X dX9_personIs_35 (by decide) ?_
          exact r_iret X rfl hR (ok0 hf) dX9_personIs_51
      · replace hf := okt h30 hf
        refine r_sub [0] rfl ?_
        exact t_X9_personIs_17 X hR σ28 hf
theorem md_X9_personIs : MD yX9_personIs wsX9_personIs cX9_personIs 3 2 (some .int) := ⟨⟨_, rfl⟩, by decide +kernel, by decide +kernel, by decide⟩
theorem c_X9_personIs (l : Launch) (G : GX)  (a1 : Int32) (a2 : Int32) (σ : MM) (h : (f_X9_personIs a1 a2 σ).isSome = true) : CTi l G yX9_personIs wsX9_personIs 5 [.ref (G.1 129), .int a1, .int a2] σ (f_X9_personIs a1 a2 σ) :=
  CTi_of md_X9_personIs (Nat.le_of_ble_eq_true rfl) (fun K X hR => e_X9_personIs X hR a1 a2 σ (ok_is h))
-- X9_rests
theorem in_X9_rests_9 : ∀ w ∈ u_ws RX9 TX9 21, w ∈ wsX9_rests := fun _ h => List.mem_cons_of_mem _ (List.mem_append_right _ h)
def u_X9_rests_35  (σ : MM) : Option (Int32 × MM) :=
  bd (f_X9_error (-1000000001 : Int32) σ) (fun r19 σ20 => some (r19, σ20))
def f_X9_rests (a1 : Int32) (a2 : Int32) (σ : MM) : Option (Int32 × MM) :=
  bd (f_X9_isPerson a1 σ) (fun r15 σ16 => if r15 = 0 then u_X9_rests_35 σ16 else bd (f_X9_in a2 (0 : Int32) (999 : Int32) σ16) (fun r22 σ23 => if r22 = 0 then u_X9_rests_35 σ23 else bd (f_X9_becomes (((66 : Int32) + ((4 : Int32) * a1)) + (1 : Int32)) a2 σ23) (fun r26 σ27 => some (r26, σ27))))
set_option maxRecDepth 100000 in
set_option maxHeartbeats 4000000 in
theorem t_X9_rests_35 {l : Launch} {G : GX} {K : KX} (X : FX G K cX9_rests RX9 (some .int) wsX9_rests 3) {Φ : Int32 → MM → Prop} (hR : Ri G K Φ)  (σ : MM) (hf : Ok Φ (u_X9_rests_35  σ)) : V l G 5 K 3 35 [(0, .ref (G.1 129))] [] σ := by
    unfold u_X9_rests_35 at hf
    refine r_aload_n X dX9_rests_35 0 rfl isr_ref ?_
    refine r_ldc (v := (-1000000001 : Int32)) X (mem_ix 1 rfl) dX9_rests_36 ?_
    refine r_callVi (rest := []) X (c_X9_error l G (-1000000001 : Int32) σ (oks hf)) md_X9_error gX9_rests_X9_error (by decide) rfl rfl (kd_in kc_129 (by decide)) (EE_9 _ kc_129) rfl rfl (Nat.le_of_ble_eq_true rfl) dX9_rests_38 (fun r19 σ20 e21 => ?_)
    replace hf := okn e21 hf
    exact r_iret X rfl hR (ok0 hf) dX9_rests_41
set_option maxRecDepth 100000 in
set_option maxHeartbeats 4000000 in
theorem e_X9_rests {l : Launch} {G : GX} {K : KX} (X : FX G K cX9_rests RX9 (some .int) wsX9_rests 3) {Φ : Int32 → MM → Prop} (hR : Ri G K Φ) (a1 : Int32) (a2 : Int32) (σ : MM) (hf : Ok Φ (f_X9_rests a1 a2 σ)) : V l G 5 K 3 0 [(0, .ref (G.1 129)), (1, .int a1), (2, .int a2)] [] σ := by
    unfold f_X9_rests at hf
    refine r_aload_n X dX9_rests_0 0 rfl isr_ref ?_
    refine r_iload_n X dX9_rests_1 1 rfl ?_
    refine r_callVi (rest := []) X (c_X9_isPerson l G a1 σ (oks hf)) md_X9_isPerson gX9_rests_X9_isPerson (by decide) rfl rfl (kd_in kc_129 (by decide)) (EE_9 _ kc_129) rfl rfl (Nat.le_of_ble_eq_true rfl) dX9_rests_2 (fun r15 σ16 e17 => ?_)
    replace hf := okn e17 hf
    refine r_if_eq (tgt := 35) X dX9_rests_5 (by decide) (fun h18 => ?_) (fun h18 => ?_)
    · replace hf := okt h18 hf
      refine r_sub [0] rfl ?_
      exact t_X9_rests_35 X hR σ16 hf
    · replace hf := okf h18 hf
      refine r_iload_n X dX9_rests_8 2 rfl ?_
      refine r_iconst X dX9_rests_9 ci_0 ?_
      refine r_sipush X dX9_rests_10 cs_999 ?_
      refine r_callSi (rest := []) X (c_X9_in l G a2 (0 : Int32) (999 : Int32) σ16 (oks hf)) md_X9_in gX9_rests_X9_in (by decide) rfl rfl (Nat.le_of_ble_eq_true rfl) dX9_rests_13 (fun r22 σ23 e24 => ?_)
      replace hf := okn e24 hf
      refine r_if_eq (tgt := 35) X dX9_rests_16 (by decide) (fun h25 => ?_) (fun h25 => ?_)
      · replace hf := okt h25 hf
        refine r_sub [0] rfl ?_
        exact t_X9_rests_35 X hR σ23 hf
      · replace hf := okf h25 hf
        refine r_aload_n X dX9_rests_19 0 rfl isr_ref ?_
        refine r_bipush X dX9_rests_20 cb_66 ?_
        refine r_iconst X dX9_rests_22 ci_4 ?_
        refine r_iload_n X dX9_rests_23 1 rfl ?_
        refine r_imul X dX9_rests_24 ?_
        refine r_iadd X dX9_rests_25 ?_
        refine r_iconst X dX9_rests_26 ci_1 ?_
        refine r_iadd X dX9_rests_27 ?_
        refine r_iload_n X dX9_rests_28 2 rfl ?_
        refine r_callVi (rest := []) X (c_X9_becomes l G (((66 : Int32) + ((4 : Int32) * a1)) + (1 : Int32)) a2 σ23 (oks hf)) md_X9_becomes gX9_rests_X9_becomes (by decide) rfl rfl (kd_in kc_129 (by decide)) (EE_9 _ kc_129) rfl rfl (Nat.le_of_ble_eq_true rfl) dX9_rests_29 (fun r26 σ27 e28 => ?_)
        replace hf := okn e28 hf
        refine r_goto (tgt := 41) X dX9_rests_32 (by decide) ?_
        exact r_iret X rfl hR (ok0 hf) dX9_rests_41
theorem md_X9_rests : MD yX9_rests wsX9_rests cX9_rests 3 2 (some .int) := ⟨⟨_, rfl⟩, by decide +kernel, by decide +kernel, by decide⟩
theorem c_X9_rests (l : Launch) (G : GX)  (a1 : Int32) (a2 : Int32) (σ : MM) (h : (f_X9_rests a1 a2 σ).isSome = true) : CTi l G yX9_rests wsX9_rests 5 [.ref (G.1 129), .int a1, .int a2] σ (f_X9_rests a1 a2 σ) :=
  CTi_of md_X9_rests (Nat.le_of_ble_eq_true rfl) (fun K X hR => e_X9_rests X hR a1 a2 σ (ok_is h))
-- X9_carry
theorem in_X9_carry_9 : ∀ w ∈ u_ws RX9 TX9 21, w ∈ wsX9_carry := fun _ h => List.mem_cons_of_mem _ (List.mem_append_right _ h)
def u_X9_carry_38  (σ : MM) : Option (Int32 × MM) :=
  bd (f_X9_error (-1000000001 : Int32) σ) (fun r19 σ20 => some (r19, σ20))
def f_X9_carry (a1 : Int32) (a2 : Int32) (σ : MM) : Option (Int32 × MM) :=
  bd (f_X9_isPerson a1 σ) (fun r15 σ16 => if r15 = 0 then u_X9_carry_38 σ16 else bd (f_X9_in a2 (0 : Int32) (σ16 130 2) σ16) (fun r22 σ23 => if r22 = 0 then u_X9_carry_38 σ23 else bd (f_X9_becomes (((66 : Int32) + ((4 : Int32) * a1)) + (0 : Int32)) a2 σ23) (fun r26 σ27 => some (r26, σ27))))
set_option maxRecDepth 100000 in
set_option maxHeartbeats 4000000 in
theorem t_X9_carry_38 {l : Launch} {G : GX} {K : KX} (X : FX G K cX9_carry RX9 (some .int) wsX9_carry 3) {Φ : Int32 → MM → Prop} (hR : Ri G K Φ)  (σ : MM) (hf : Ok Φ (u_X9_carry_38  σ)) : V l G 5 K 3 38 [(0, .ref (G.1 129))] [] σ := by
    unfold u_X9_carry_38 at hf
    refine r_aload_n X dX9_carry_38 0 rfl isr_ref ?_
    refine r_ldc (v := (-1000000001 : Int32)) X (mem_ix 2 rfl) dX9_carry_39 ?_
    refine r_callVi (rest := []) X (c_X9_error l G (-1000000001 : Int32) σ (oks hf)) md_X9_error gX9_carry_X9_error (by decide) rfl rfl (kd_in kc_129 (by decide)) (EE_9 _ kc_129) rfl rfl (Nat.le_of_ble_eq_true rfl) dX9_carry_41 (fun r19 σ20 e21 => ?_)
    replace hf := okn e21 hf
    exact r_iret X rfl hR (ok0 hf) dX9_carry_44
set_option maxRecDepth 100000 in
set_option maxHeartbeats 4000000 in
theorem e_X9_carry {l : Launch} {G : GX} {K : KX} (X : FX G K cX9_carry RX9 (some .int) wsX9_carry 3) {Φ : Int32 → MM → Prop} (hR : Ri G K Φ) (a1 : Int32) (a2 : Int32) (σ : MM) (hf : Ok Φ (f_X9_carry a1 a2 σ)) : V l G 5 K 3 0 [(0, .ref (G.1 129)), (1, .int a1), (2, .int a2)] [] σ := by
    unfold f_X9_carry at hf
    refine r_aload_n X dX9_carry_0 0 rfl isr_ref ?_
    refine r_iload_n X dX9_carry_1 1 rfl ?_
    refine r_callVi (rest := []) X (c_X9_isPerson l G a1 σ (oks hf)) md_X9_isPerson gX9_carry_X9_isPerson (by decide) rfl rfl (kd_in kc_129 (by decide)) (EE_9 _ kc_129) rfl rfl (Nat.le_of_ble_eq_true rfl) dX9_carry_2 (fun r15 σ16 e17 => ?_)
    replace hf := okn e17 hf
    refine r_if_eq (tgt := 38) X dX9_carry_5 (by decide) (fun h18 => ?_) (fun h18 => ?_)
    · replace hf := okt h18 hf
      refine r_sub [0] rfl ?_
      exact t_X9_carry_38 X hR σ16 hf
    · replace hf := okf h18 hf
      refine r_iload_n X dX9_carry_8 2 rfl ?_
      refine r_iconst X dX9_carry_9 ci_0 ?_
      refine r_aload_n X dX9_carry_10 0 rfl isr_ref ?_
      refine r_get (i := 129) (v := .ref (G.1 130)) X in_X9_carry_9 rfl 0 (by decide) (kd_in kc_129 (by decide)) (EE_9 _ kc_129) rfl (mem_ix 1 rfl) dX9_carry_11 ?_
      refine r_iconst X dX9_carry_14 ci_2 ?_
      refine r_iald (i := 130) (jn := 2) X (kd_in kc_130 (by decide)) (EE_26 _ kc_130) (by decide) (by decide) dX9_carry_15 ?_
      refine r_callSi (rest := []) X (c_X9_in l G a2 (0 : Int32) (σ16 130 2) σ16 (oks hf)) md_X9_in gX9_carry_X9_in (by decide) rfl rfl (Nat.le_of_ble_eq_true rfl) dX9_carry_16 (fun r22 σ23 e24 => ?_)
      replace hf := okn e24 hf
      refine r_if_eq (tgt := 38) X dX9_carry_19 (by decide) (fun h25 => ?_) (fun h25 => ?_)
      · replace hf := okt h25 hf
        refine r_sub [0] rfl ?_
        exact t_X9_carry_38 X hR σ23 hf
      · replace hf := okf h25 hf
        refine r_aload_n X dX9_carry_22 0 rfl isr_ref ?_
        refine r_bipush X dX9_carry_23 cb_66 ?_
        refine r_iconst X dX9_carry_25 ci_4 ?_
        refine r_iload_n X dX9_carry_26 1 rfl ?_
        refine r_imul X dX9_carry_27 ?_
        refine r_iadd X dX9_carry_28 ?_
        refine r_iconst X dX9_carry_29 ci_0 ?_
        refine r_iadd X dX9_carry_30 ?_
        refine r_iload_n X dX9_carry_31 2 rfl ?_
        refine r_callVi (rest := []) X (c_X9_becomes l G (((66 : Int32) + ((4 : Int32) * a1)) + (0 : Int32)) a2 σ23 (oks hf)) md_X9_becomes gX9_carry_X9_becomes (by decide) rfl rfl (kd_in kc_129 (by decide)) (EE_9 _ kc_129) rfl rfl (Nat.le_of_ble_eq_true rfl) dX9_carry_32 (fun r26 σ27 e28 => ?_)
        replace hf := okn e28 hf
        refine r_goto (tgt := 44) X dX9_carry_35 (by decide) ?_
        exact r_iret X rfl hR (ok0 hf) dX9_carry_44
theorem md_X9_carry : MD yX9_carry wsX9_carry cX9_carry 3 2 (some .int) := ⟨⟨_, rfl⟩, by decide +kernel, by decide +kernel, by decide⟩
theorem c_X9_carry (l : Launch) (G : GX)  (a1 : Int32) (a2 : Int32) (σ : MM) (h : (f_X9_carry a1 a2 σ).isSome = true) : CTi l G yX9_carry wsX9_carry 5 [.ref (G.1 129), .int a1, .int a2] σ (f_X9_carry a1 a2 σ) :=
  CTi_of md_X9_carry (Nat.le_of_ble_eq_true rfl) (fun K X hR => e_X9_carry X hR a1 a2 σ (ok_is h))
-- X9_content
theorem in_X9_content_9 : ∀ w ∈ u_ws RX9 TX9 21, w ∈ wsX9_content := fun _ h => List.mem_cons_of_mem _ (List.mem_append_right _ h)
def u_X9_content_15  (σ : MM) : Option (Int32 × MM) :=
  bd (f_X9_error (-1000000001 : Int32) σ) (fun r20 σ21 => some (r20, σ21))
def f_X9_content (a1 : Int32) (a2 : Int32) (σ : MM) : Option (Int32 × MM) :=
  bd (f_X9_isStep a1 σ) (fun r16 σ17 => if r16 = 0 then u_X9_content_15 σ17 else bd (f_X9_isWord a2 σ17) (fun r23 σ24 => if r23 = 0 then u_X9_content_15 σ24 else bd (f_X9_isContent a1 a2 σ24) (fun r27 σ28 => if r27 = 0 then some ((0 : Int32), σ28) else some ((1 : Int32), σ28))))
set_option maxRecDepth 100000 in
set_option maxHeartbeats 4000000 in
theorem t_X9_content_15 {l : Launch} {G : GX} {K : KX} (X : FX G K cX9_content RX9 (some .int) wsX9_content 3) {Φ : Int32 → MM → Prop} (hR : Ri G K Φ)  (σ : MM) (hf : Ok Φ (u_X9_content_15  σ)) : V l G 7 K 3 15 [(0, .ref (G.1 129))] [] σ := by
    unfold u_X9_content_15 at hf
    refine r_aload_n X dX9_content_15 0 rfl isr_ref ?_
    refine r_ldc (v := (-1000000001 : Int32)) X (mem_ix 1 rfl) dX9_content_16 ?_
    refine r_callVi (rest := []) X (c_X9_error l G (-1000000001 : Int32) σ (oks hf)) md_X9_error gX9_content_X9_error (by decide) rfl rfl (kd_in kc_129 (by decide)) (EE_9 _ kc_129) rfl rfl (Nat.le_of_ble_eq_true rfl) dX9_content_18 (fun r20 σ21 e22 => ?_)
    replace hf := okn e22 hf
    exact r_iret X rfl hR (ok0 hf) dX9_content_21
set_option maxRecDepth 100000 in
set_option maxHeartbeats 4000000 in
theorem e_X9_content {l : Launch} {G : GX} {K : KX} (X : FX G K cX9_content RX9 (some .int) wsX9_content 3) {Φ : Int32 → MM → Prop} (hR : Ri G K Φ) (a1 : Int32) (a2 : Int32) (σ : MM) (hf : Ok Φ (f_X9_content a1 a2 σ)) : V l G 7 K 3 0 [(0, .ref (G.1 129)), (1, .int a1), (2, .int a2)] [] σ := by
    unfold f_X9_content at hf
    refine r_aload_n X dX9_content_0 0 rfl isr_ref ?_
    refine r_iload_n X dX9_content_1 1 rfl ?_
    refine r_callVi (rest := []) X (c_X9_isStep l G a1 σ (oks hf)) md_X9_isStep gX9_content_X9_isStep (by decide) rfl rfl (kd_in kc_129 (by decide)) (EE_9 _ kc_129) rfl rfl (Nat.le_of_ble_eq_true rfl) dX9_content_2 (fun r16 σ17 e18 => ?_)
    replace hf := okn e18 hf
    refine r_if_eq (tgt := 15) X dX9_content_5 (by decide) (fun h19 => ?_) (fun h19 => ?_)
    · replace hf := okt h19 hf
      refine r_sub [0] rfl ?_
      exact t_X9_content_15 X hR σ17 hf
    · replace hf := okf h19 hf
      refine r_iload_n X dX9_content_8 2 rfl ?_
      refine r_callSi (rest := []) X (c_X9_isWord l G a2 σ17 (oks hf)) md_X9_isWord gX9_content_X9_isWord (by decide) rfl rfl (Nat.le_of_ble_eq_true rfl) dX9_content_9 (fun r23 σ24 e25 => ?_)
      replace hf := okn e25 hf
      refine r_if_ne (tgt := 22) X dX9_content_12 (by decide) (fun h26 => ?_) (fun h26 => ?_)
      · replace hf := okf h26 hf
        refine r_aload_n X dX9_content_22 0 rfl isr_ref ?_
        refine r_iload_n X dX9_content_23 1 rfl ?_
        refine r_iload_n X dX9_content_24 2 rfl ?_
        refine r_callVi (rest := []) X (c_X9_isContent l G a1 a2 σ24 (oks hf)) md_X9_isContent gX9_content_X9_isContent (by decide) rfl rfl (kd_in kc_129 (by decide)) (EE_9 _ kc_129) rfl rfl (Nat.le_of_ble_eq_true rfl) dX9_content_25 (fun r27 σ28 e29 => ?_)
        replace hf := okn e29 hf
        refine r_if_eq (tgt := 35) X dX9_content_28 (by decide) (fun h30 => ?_) (fun h30 => ?_)
        · replace hf := okt h30 hf
          refine r_iconst X dX9_content_35 ci_0 ?_
          exact r_iret X rfl hR (ok0 hf) dX9_content_36
        · replace hf := okf h30 hf
          refine r_iconst X dX9_content_31 ci_1 ?_
          refine r_goto (tgt := 36) X dX9_content_32 (by decide) ?_
          exact r_iret X rfl hR (ok0 hf) dX9_content_36
      · replace hf := okt h26 hf
        refine r_sub [0] rfl ?_
        exact t_X9_content_15 X hR σ24 hf
theorem md_X9_content : MD yX9_content wsX9_content cX9_content 3 2 (some .int) := ⟨⟨_, rfl⟩, by decide +kernel, by decide +kernel, by decide⟩
theorem c_X9_content (l : Launch) (G : GX)  (a1 : Int32) (a2 : Int32) (σ : MM) (h : (f_X9_content a1 a2 σ).isSome = true) : CTi l G yX9_content wsX9_content 7 [.ref (G.1 129), .int a1, .int a2] σ (f_X9_content a1 a2 σ) :=
  CTi_of md_X9_content (Nat.le_of_ble_eq_true rfl) (fun K X hR => e_X9_content X hR a1 a2 σ (ok_is h))
-- X9_canGo
theorem in_X9_canGo_9 : ∀ w ∈ u_ws RX9 TX9 21, w ∈ wsX9_canGo := fun _ h => List.mem_cons_of_mem _ (List.mem_append_right _ h)
def f_X9_canGo (a1 : Int32) (σ : MM) : Option (Int32 × MM) :=
  bd (f_X9_isUp a1 σ) (fun r9 σ10 => if r9 = 0 then bd (f_X9_about a1 (1 : Int32) σ10) (fun r13 σ14 => if r13 ≤ 0 then some ((0 : Int32), σ14) else some ((1 : Int32), σ14)) else some ((0 : Int32), σ10))
set_option maxRecDepth 100000 in
set_option maxHeartbeats 4000000 in
theorem e_X9_canGo {l : Launch} {G : GX} {K : KX} (X : FX G K cX9_canGo RX9 (some .boolean) wsX9_canGo 2) {Φ : Int32 → MM → Prop} (hR : Ri G K Φ) (a1 : Int32) (σ : MM) (hf : Ok Φ (f_X9_canGo a1 σ)) : V l G 5 K 2 0 [(0, .ref (G.1 129)), (1, .int a1)] [] σ := by
    unfold f_X9_canGo at hf
    refine r_aload_n X dX9_canGo_0 0 rfl isr_ref ?_
    refine r_iload_n X dX9_canGo_1 1 rfl ?_
    refine r_callVi (rest := []) X (c_X9_isUp l G a1 σ (oks hf)) md_X9_isUp gX9_canGo_X9_isUp (by decide) rfl rfl (kd_in kc_129 (by decide)) (EE_9 _ kc_129) rfl rfl (Nat.le_of_ble_eq_true rfl) dX9_canGo_2 (fun r9 σ10 e11 => ?_)
    replace hf := okn e11 hf
    refine r_if_ne (tgt := 21) X dX9_canGo_5 (by decide) (fun h12 => ?_) (fun h12 => ?_)
    · replace hf := okf h12 hf
      refine r_iconst X dX9_canGo_21 ci_0 ?_
      exact r_zret X rfl hR (by decide) (ok0 hf) dX9_canGo_22
    · replace hf := okt h12 hf
      refine r_aload_n X dX9_canGo_8 0 rfl isr_ref ?_
      refine r_iload_n X dX9_canGo_9 1 rfl ?_
      refine r_iconst X dX9_canGo_10 ci_1 ?_
      refine r_callVi (rest := []) X (c_X9_about l G a1 (1 : Int32) σ10 (oks hf)) md_X9_about gX9_canGo_X9_about (by decide) rfl rfl (kd_in kc_129 (by decide)) (EE_9 _ kc_129) rfl rfl (Nat.le_of_ble_eq_true rfl) dX9_canGo_11 (fun r13 σ14 e15 => ?_)
      replace hf := okn e15 hf
      refine r_if_le (tgt := 21) X dX9_canGo_14 (by decide) (fun h16 => ?_) (fun h16 => ?_)
      · replace hf := okt h16 hf
        refine r_iconst X dX9_canGo_21 ci_0 ?_
        exact r_zret X rfl hR (by decide) (ok0 hf) dX9_canGo_22
      · replace hf := okf h16 hf
        refine r_iconst X dX9_canGo_17 ci_1 ?_
        refine r_goto (tgt := 22) X dX9_canGo_18 (by decide) ?_
        exact r_zret X rfl hR (by decide) (ok0 hf) dX9_canGo_22
theorem md_X9_canGo : MD yX9_canGo wsX9_canGo cX9_canGo 2 1 (some .boolean) := ⟨⟨_, rfl⟩, by decide +kernel, by decide +kernel, by decide⟩
theorem c_X9_canGo (l : Launch) (G : GX)  (a1 : Int32) (σ : MM) (h : (f_X9_canGo a1 σ).isSome = true) : CTi l G yX9_canGo wsX9_canGo 5 [.ref (G.1 129), .int a1] σ (f_X9_canGo a1 σ) :=
  CTi_of md_X9_canGo (Nat.le_of_ble_eq_true rfl) (fun K X hR => e_X9_canGo X hR a1 σ (ok_is h))
-- X9_says
theorem in_X9_says_9 : ∀ w ∈ u_ws RX9 TX9 21, w ∈ wsX9_says := fun _ h => List.mem_cons_of_mem _ (List.mem_append_right _ h)
def u_X9_says_110 (v4 : Int32) (vs0 : Int32) (vs1 : Int32) (vs2 : Int32) (vs3 : Int32) (σ : MM) : Option (Int32 × MM) :=
  bd (f_X9_held (vs1 + vs0) (0 : Int32) (9999 : Int32) σ) (fun r70 σ71 => bd (f_X9_lets vs3 vs2 r70 σ71) (fun r73 σ74 => if v4 = 0 ∨ v4 = 1 then some (v4, σ74) else none))
def u_X9_says_88 (v1 : Int32) (v4 : Int32) (vs0 : Int32) (vs1 : Int32) (vs2 : Int32) (σ : MM) : Option (Int32 × MM) :=
  bd (f_X9_lets vs2 vs1 vs0 σ) (fun r63 σ64 => bd (f_X9_about v1 (3 : Int32) σ64) (fun r66 σ67 => if v4 = 0 then u_X9_says_110 v4 (0 : Int32) r66 (3 : Int32) v1 σ67 else u_X9_says_110 v4 (1 : Int32) r66 (3 : Int32) v1 σ67))
def u_X9_says_21 (v1 : Int32) (v3 : Int32) (vs0 : Int32) (σ : MM) : Option (Int32 × MM) :=
  bd (f_X9_of v3 (2 : Int32) σ) (fun r47 σ48 => bd (f_X9_held (r47 + (1 : Int32)) (0 : Int32) (9999 : Int32) σ48) (fun r50 σ51 => if (((6 : Int32) + ((3 : Int32) * v3)) + (2 : Int32)) < 0 ∨ 412 ≤ (((6 : Int32) + ((3 : Int32) * v3)) + (2 : Int32)).toNatClampNeg then none else lt (mu σ51 130 ((((6 : Int32) + ((3 : Int32) * v3)) + (2 : Int32)).toNatClampNeg) r50) (fun σ54 => bd (f_X9_about v1 (1 : Int32) σ54) (fun r56 σ57 => bd (f_X9_lets v1 (1 : Int32) (r56 - (1 : Int32)) σ57) (fun r59 σ60 => if vs0 = 0 then u_X9_says_88 v1 vs0 (v3 + (1 : Int32)) (0 : Int32) v1 σ60 else bd (f_X9_held (v3 - (2 : Int32)) (0 : Int32) (20 : Int32) σ60) (fun r77 σ78 => u_X9_says_88 v1 vs0 r77 (0 : Int32) v1 σ78))))))
def f_X9_says (a1 : Int32) (a2 : Int32) (σ : MM) : Option (Int32 × MM) :=
  bd (f_X9_about a1 (0 : Int32) σ) (fun r40 σ41 => bd (f_X9_isContent r40 a2 σ41) (fun r43 σ44 => if r43 = 0 then u_X9_says_21 a1 r40 (1 : Int32) σ44 else u_X9_says_21 a1 r40 (0 : Int32) σ44))
set_option maxRecDepth 100000 in
set_option maxHeartbeats 4000000 in
theorem t_X9_says_110 {l : Launch} {G : GX} {K : KX} (X : FX G K cX9_says RX9 (some .boolean) wsX9_says 5) {Φ : Int32 → MM → Prop} (hR : Ri G K Φ) (v4 : Int32) (vs0 : Int32) (vs1 : Int32) (vs2 : Int32) (vs3 : Int32) (σ : MM) (hf : Ok Φ (u_X9_says_110 v4 vs0 vs1 vs2 vs3 σ)) : V l G 7 K 5 110 [(4, .int v4)] [.int vs0, .int vs1, .int vs2, .int vs3, .ref (G.1 129)] σ := by
    unfold u_X9_says_110 at hf
    refine r_iadd X dX9_says_110 ?_
    refine r_iconst X dX9_says_111 ci_0 ?_
    refine r_sipush X dX9_says_112 cs_9999 ?_
    refine r_callSi (rest := [.int vs2, .int vs3, .ref (G.1 129)]) X (c_X9_held l G (vs1 + vs0) (0 : Int32) (9999 : Int32) σ (oks hf)) md_X9_held gX9_says_X9_held (by decide) rfl rfl (Nat.le_of_ble_eq_true rfl) dX9_says_115 (fun r70 σ71 e72 => ?_)
    replace hf := okn e72 hf
    refine r_callVv (rest := []) X (c_X9_lets l G vs3 vs2 r70 σ71 (oks hf)) md_X9_lets gX9_says_X9_lets (by decide) rfl rfl (kd_in kc_129 (by decide)) (EE_9 _ kc_129) rfl rfl (Nat.le_of_ble_eq_true rfl) dX9_says_118 (fun r73 σ74 e75 => ?_)
    replace hf := okn e75 hf
    refine r_iload X dX9_says_121 0 rfl ?_
    obtain ⟨g76, hf⟩ := okp hf
    exact r_zret X rfl hR g76 (ok0 hf) dX9_says_123
set_option maxRecDepth 100000 in
set_option maxHeartbeats 4000000 in
theorem t_X9_says_88 {l : Launch} {G : GX} {K : KX} (X : FX G K cX9_says RX9 (some .boolean) wsX9_says 5) {Φ : Int32 → MM → Prop} (hR : Ri G K Φ) (v1 : Int32) (v4 : Int32) (vs0 : Int32) (vs1 : Int32) (vs2 : Int32) (σ : MM) (hf : Ok Φ (u_X9_says_88 v1 v4 vs0 vs1 vs2 σ)) : V l G 7 K 5 88 [(0, .ref (G.1 129)), (1, .int v1), (4, .int v4)] [.int vs0, .int vs1, .int vs2, .ref (G.1 129)] σ := by
    unfold u_X9_says_88 at hf
    refine r_callVv (rest := []) X (c_X9_lets l G vs2 vs1 vs0 σ (oks hf)) md_X9_lets gX9_says_X9_lets (by decide) rfl rfl (kd_in kc_129 (by decide)) (EE_9 _ kc_129) rfl rfl (Nat.le_of_ble_eq_true rfl) dX9_says_88 (fun r63 σ64 e65 => ?_)
    replace hf := okn e65 hf
    refine r_aload_n X dX9_says_91 0 rfl isr_ref ?_
    refine r_iload_n X dX9_says_92 1 rfl ?_
    refine r_iconst X dX9_says_93 ci_3 ?_
    refine r_aload_n X dX9_says_94 0 rfl isr_ref ?_
    refine r_iload_n X dX9_says_95 1 rfl ?_
    refine r_iconst X dX9_says_96 ci_3 ?_
    refine r_callVi (rest := [.int (3 : Int32), .int v1, .ref (G.1 129)]) X (c_X9_about l G v1 (3 : Int32) σ64 (oks hf)) md_X9_about gX9_says_X9_about (by decide) rfl rfl (kd_in kc_129 (by decide)) (EE_9 _ kc_129) rfl rfl (Nat.le_of_ble_eq_true rfl) dX9_says_97 (fun r66 σ67 e68 => ?_)
    replace hf := okn e68 hf
    refine r_iload X dX9_says_100 2 rfl ?_
    refine r_if_eq (tgt := 109) X dX9_says_102 (by decide) (fun h69 => ?_) (fun h69 => ?_)
    · replace hf := okt h69 hf
      refine r_iconst X dX9_says_109 ci_0 ?_
      refine r_sub [2] rfl ?_
      exact t_X9_says_110 X hR v4 (0 : Int32) r66 (3 : Int32) v1 σ67 hf
    · replace hf := okf h69 hf
      refine r_iconst X dX9_says_105 ci_1 ?_
      refine r_goto (tgt := 110) X dX9_says_106 (by decide) ?_
      refine r_sub [2] rfl ?_
      exact t_X9_says_110 X hR v4 (1 : Int32) r66 (3 : Int32) v1 σ67 hf
set_option maxRecDepth 100000 in
set_option maxHeartbeats 4000000 in
theorem t_X9_says_21 {l : Launch} {G : GX} {K : KX} (X : FX G K cX9_says RX9 (some .boolean) wsX9_says 5) {Φ : Int32 → MM → Prop} (hR : Ri G K Φ) (v1 : Int32) (v3 : Int32) (vs0 : Int32) (σ : MM) (hf : Ok Φ (u_X9_says_21 v1 v3 vs0 σ)) : V l G 7 K 5 21 [(0, .ref (G.1 129)), (1, .int v1), (3, .int v3)] [.int vs0] σ := by
    unfold u_X9_says_21 at hf
    refine r_istore X dX9_says_21 (by decide) (lv' := [(4, .int vs0), (0, .ref (G.1 129)), (1, .int v1), (3, .int v3)]) rfl ?_
    refine r_aload_n X dX9_says_23 1 rfl isr_ref ?_
    refine r_get (i := 129) (v := .ref (G.1 130)) X in_X9_says_9 rfl 0 (by decide) (kd_in kc_129 (by decide)) (EE_9 _ kc_129) rfl (mem_ix 1 rfl) dX9_says_24 ?_
    refine r_bipush X dX9_says_27 cb_6 ?_
    refine r_iconst X dX9_says_29 ci_3 ?_
    refine r_iload_n X dX9_says_30 3 rfl ?_
    refine r_imul X dX9_says_31 ?_
    refine r_iadd X dX9_says_32 ?_
    refine r_iconst X dX9_says_33 ci_2 ?_
    refine r_iadd X dX9_says_34 ?_
    refine r_aload_n X dX9_says_35 1 rfl isr_ref ?_
    refine r_iload_n X dX9_says_36 3 rfl ?_
    refine r_iconst X dX9_says_37 ci_2 ?_
    refine r_callVi (rest := [.int (((6 : Int32) + ((3 : Int32) * v3)) + (2 : Int32)), .ref (G.1 130)]) X (c_X9_of l G v3 (2 : Int32) σ (oks hf)) md_X9_of gX9_says_X9_of (by decide) rfl rfl (kd_in kc_129 (by decide)) (EE_9 _ kc_129) rfl rfl (Nat.le_of_ble_eq_true rfl) dX9_says_38 (fun r47 σ48 e49 => ?_)
    replace hf := okn e49 hf
    refine r_iconst X dX9_says_41 ci_1 ?_
    refine r_iadd X dX9_says_42 ?_
    refine r_iconst X dX9_says_43 ci_0 ?_
    refine r_sipush X dX9_says_44 cs_9999 ?_
    refine r_callSi (rest := [.int (((6 : Int32) + ((3 : Int32) * v3)) + (2 : Int32)), .ref (G.1 130)]) X (c_X9_held l G (r47 + (1 : Int32)) (0 : Int32) (9999 : Int32) σ48 (oks hf)) md_X9_held gX9_says_X9_held (by decide) rfl rfl (Nat.le_of_ble_eq_true rfl) dX9_says_47 (fun r50 σ51 e52 => ?_)
    replace hf := okn e52 hf
    obtain ⟨g53, hf⟩ := okg hf
    obtain ⟨σ54, e55, hf⟩ := okl hf
    refine r_iast (i := 130) (jn := (((6 : Int32) + ((3 : Int32) * v3)) + (2 : Int32)).toNatClampNeg) X (kd_in kc_130 (by decide)) (fun _ => EE_26 _ kc_130) rfl g53 dX9_says_50 ?_
    refine r_sg e55 ?_
    refine r_aload_n X dX9_says_51 1 rfl isr_ref ?_
    refine r_iload_n X dX9_says_52 2 rfl ?_
    refine r_iconst X dX9_says_53 ci_1 ?_
    refine r_aload_n X dX9_says_54 1 rfl isr_ref ?_
    refine r_iload_n X dX9_says_55 2 rfl ?_
    refine r_iconst X dX9_says_56 ci_1 ?_
    refine r_callVi (rest := [.int (1 : Int32), .int v1, .ref (G.1 129)]) X (c_X9_about l G v1 (1 : Int32) σ54 (oks hf)) md_X9_about gX9_says_X9_about (by decide) rfl rfl (kd_in kc_129 (by decide)) (EE_9 _ kc_129) rfl rfl (Nat.le_of_ble_eq_true rfl) dX9_says_57 (fun r56 σ57 e58 => ?_)
    replace hf := okn e58 hf
    refine r_iconst X dX9_says_60 ci_1 ?_
    refine r_isub X dX9_says_61 ?_
    refine r_callVv (rest := []) X (c_X9_lets l G v1 (1 : Int32) (r56 - (1 : Int32)) σ57 (oks hf)) md_X9_lets gX9_says_X9_lets (by decide) rfl rfl (kd_in kc_129 (by decide)) (EE_9 _ kc_129) rfl rfl (Nat.le_of_ble_eq_true rfl) dX9_says_62 (fun r59 σ60 e61 => ?_)
    replace hf := okn e61 hf
    refine r_aload_n X dX9_says_65 1 rfl isr_ref ?_
    refine r_iload_n X dX9_says_66 2 rfl ?_
    refine r_iconst X dX9_says_67 ci_0 ?_
    refine r_iload X dX9_says_68 0 rfl ?_
    refine r_if_eq (tgt := 85) X dX9_says_70 (by decide) (fun h62 => ?_) (fun h62 => ?_)
    · replace hf := okt h62 hf
      refine r_iload_n X dX9_says_85 3 rfl ?_
      refine r_iconst X dX9_says_86 ci_1 ?_
      refine r_iadd X dX9_says_87 ?_
      refine r_sub [1, 2, 0] rfl ?_
      exact t_X9_says_88 X hR v1 vs0 (v3 + (1 : Int32)) (0 : Int32) v1 σ60 hf
    · replace hf := okf h62 hf
      refine r_iload_n X dX9_says_73 3 rfl ?_
      refine r_iconst X dX9_says_74 ci_2 ?_
      refine r_isub X dX9_says_75 ?_
      refine r_iconst X dX9_says_76 ci_0 ?_
      refine r_bipush X dX9_says_77 cb_20 ?_
      refine r_callSi (rest := [.int (0 : Int32), .int v1, .ref (G.1 129)]) X (c_X9_held l G (v3 - (2 : Int32)) (0 : Int32) (20 : Int32) σ60 (oks hf)) md_X9_held gX9_says_X9_held (by decide) rfl rfl (Nat.le_of_ble_eq_true rfl) dX9_says_79 (fun r77 σ78 e79 => ?_)
      replace hf := okn e79 hf
      refine r_goto (tgt := 88) X dX9_says_82 (by decide) ?_
      refine r_sub [1, 2, 0] rfl ?_
      exact t_X9_says_88 X hR v1 vs0 r77 (0 : Int32) v1 σ78 hf
set_option maxRecDepth 100000 in
set_option maxHeartbeats 4000000 in
theorem e_X9_says {l : Launch} {G : GX} {K : KX} (X : FX G K cX9_says RX9 (some .boolean) wsX9_says 5) {Φ : Int32 → MM → Prop} (hR : Ri G K Φ) (a1 : Int32) (a2 : Int32) (σ : MM) (hf : Ok Φ (f_X9_says a1 a2 σ)) : V l G 7 K 5 0 [(0, .ref (G.1 129)), (1, .int a1), (2, .int a2)] [] σ := by
    unfold f_X9_says at hf
    refine r_aload_n X dX9_says_0 0 rfl isr_ref ?_
    refine r_iload_n X dX9_says_1 1 rfl ?_
    refine r_iconst X dX9_says_2 ci_0 ?_
    refine r_callVi (rest := []) X (c_X9_about l G a1 (0 : Int32) σ (oks hf)) md_X9_about gX9_says_X9_about (by decide) rfl rfl (kd_in kc_129 (by decide)) (EE_9 _ kc_129) rfl rfl (Nat.le_of_ble_eq_true rfl) dX9_says_3 (fun r40 σ41 e42 => ?_)
    replace hf := okn e42 hf
    refine r_istore_n X dX9_says_6 (i := 3) rfl (by decide) (lv' := [(3, .int r40), (0, .ref (G.1 129)), (1, .int a1), (2, .int a2)]) rfl ?_
    refine r_aload_n X dX9_says_7 1 rfl isr_ref ?_
    refine r_iload_n X dX9_says_8 0 rfl ?_
    refine r_iload_n X dX9_says_9 3 rfl ?_
    refine r_callVi (rest := []) X (c_X9_isContent l G r40 a2 σ41 (oks hf)) md_X9_isContent gX9_says_X9_isContent (by decide) rfl rfl (kd_in kc_129 (by decide)) (EE_9 _ kc_129) rfl rfl (Nat.le_of_ble_eq_true rfl) dX9_says_10 (fun r43 σ44 e45 => ?_)
    replace hf := okn e45 hf
    refine r_if_ne (tgt := 20) X dX9_says_13 (by decide) (fun h46 => ?_) (fun h46 => ?_)
    · replace hf := okf h46 hf
      refine r_iconst X dX9_says_20 ci_0 ?_
      refine r_sub [1, 2, 0] rfl ?_
      exact t_X9_says_21 X hR a1 r40 (0 : Int32) σ44 hf
    · replace hf := okt h46 hf
      refine r_iconst X dX9_says_16 ci_1 ?_
      refine r_goto (tgt := 21) X dX9_says_17 (by decide) ?_
      refine r_sub [1, 2, 0] rfl ?_
      exact t_X9_says_21 X hR a1 r40 (1 : Int32) σ44 hf
theorem md_X9_says : MD yX9_says wsX9_says cX9_says 5 2 (some .boolean) := ⟨⟨_, rfl⟩, by decide +kernel, by decide +kernel, by decide⟩
theorem c_X9_says (l : Launch) (G : GX)  (a1 : Int32) (a2 : Int32) (σ : MM) (h : (f_X9_says a1 a2 σ).isSome = true) : CTi l G yX9_says wsX9_says 7 [.ref (G.1 129), .int a1, .int a2] σ (f_X9_says a1 a2 σ) :=
  CTi_of md_X9_says (Nat.le_of_ble_eq_true rfl) (fun K X hR => e_X9_says X hR a1 a2 σ (ok_is h))
-- X9_say
theorem in_X9_say_9 : ∀ w ∈ u_ws RX9 TX9 21, w ∈ wsX9_say := fun _ h => List.mem_cons_of_mem _ (List.mem_append_right _ h)
def u_X9_say_15  (σ : MM) : Option (Int32 × MM) :=
  bd (f_X9_error (-1000000001 : Int32) σ) (fun r29 σ30 => some (r29, σ30))
def f_X9_say (a1 : Int32) (a2 : Int32) (σ : MM) : Option (Int32 × MM) :=
  bd (f_X9_isPerson a1 σ) (fun r25 σ26 => if r25 = 0 then u_X9_say_15 σ26 else bd (f_X9_isWord a2 σ26) (fun r32 σ33 => if r32 = 0 then u_X9_say_15 σ33 else bd (f_X9_canGo a1 σ33) (fun r36 σ37 => if r36 = 0 then bd (f_X9_error (-1000000003 : Int32) σ37) (fun r46 σ47 => some (r46, σ47)) else bd (f_X9_says a1 a2 σ37) (fun r40 σ41 => bd (f_X9_about a1 (0 : Int32) σ41) (fun r43 σ44 => some (r43, σ44))))))
set_option maxRecDepth 100000 in
set_option maxHeartbeats 4000000 in
theorem t_X9_say_15 {l : Launch} {G : GX} {K : KX} (X : FX G K cX9_say RX9 (some .int) wsX9_say 4) {Φ : Int32 → MM → Prop} (hR : Ri G K Φ)  (σ : MM) (hf : Ok Φ (u_X9_say_15  σ)) : V l G 8 K 4 15 [(0, .ref (G.1 129))] [] σ := by
    unfold u_X9_say_15 at hf
    refine r_aload_n X dX9_say_15 0 rfl isr_ref ?_
    refine r_ldc (v := (-1000000001 : Int32)) X (mem_ix 1 rfl) dX9_say_16 ?_
    refine r_callVi (rest := []) X (c_X9_error l G (-1000000001 : Int32) σ (oks hf)) md_X9_error gX9_say_X9_error (by decide) rfl rfl (kd_in kc_129 (by decide)) (EE_9 _ kc_129) rfl rfl (Nat.le_of_ble_eq_true rfl) dX9_say_18 (fun r29 σ30 e31 => ?_)
    replace hf := okn e31 hf
    exact r_iret X rfl hR (ok0 hf) dX9_say_21
set_option maxRecDepth 100000 in
set_option maxHeartbeats 4000000 in
theorem e_X9_say {l : Launch} {G : GX} {K : KX} (X : FX G K cX9_say RX9 (some .int) wsX9_say 4) {Φ : Int32 → MM → Prop} (hR : Ri G K Φ) (a1 : Int32) (a2 : Int32) (σ : MM) (hf : Ok Φ (f_X9_say a1 a2 σ)) : V l G 8 K 4 0 [(0, .ref (G.1 129)), (1, .int a1), (2, .int a2)] [] σ := by
    unfold f_X9_say at hf
    refine r_aload_n X dX9_say_0 0 rfl isr_ref ?_
    refine r_iload_n X dX9_say_1 1 rfl ?_
    refine r_callVi (rest := []) X (c_X9_isPerson l G a1 σ (oks hf)) md_X9_isPerson gX9_say_X9_isPerson (by decide) rfl rfl (kd_in kc_129 (by decide)) (EE_9 _ kc_129) rfl rfl (Nat.le_of_ble_eq_true rfl) dX9_say_2 (fun r25 σ26 e27 => ?_)
    replace hf := okn e27 hf
    refine r_if_eq (tgt := 15) X dX9_say_5 (by decide) (fun h28 => ?_) (fun h28 => ?_)
    · replace hf := okt h28 hf
      refine r_sub [0] rfl ?_
      exact t_X9_say_15 X hR σ26 hf
    · replace hf := okf h28 hf
      refine r_iload_n X dX9_say_8 2 rfl ?_
      refine r_callSi (rest := []) X (c_X9_isWord l G a2 σ26 (oks hf)) md_X9_isWord gX9_say_X9_isWord (by decide) rfl rfl (Nat.le_of_ble_eq_true rfl) dX9_say_9 (fun r32 σ33 e34 => ?_)
      replace hf := okn e34 hf
      refine r_if_ne (tgt := 22) X dX9_say_12 (by decide) (fun h35 => ?_) (fun h35 => ?_)
      · replace hf := okf h35 hf
        refine r_aload_n X dX9_say_22 0 rfl isr_ref ?_
        refine r_iload_n X dX9_say_23 1 rfl ?_
        refine r_callVi (rest := []) X (c_X9_canGo l G a1 σ33 (oks hf)) md_X9_canGo gX9_say_X9_canGo (by decide) rfl rfl (kd_in kc_129 (by decide)) (EE_9 _ kc_129) rfl rfl (Nat.le_of_ble_eq_true rfl) dX9_say_24 (fun r36 σ37 e38 => ?_)
        replace hf := okn e38 hf
        refine r_if_ne (tgt := 37) X dX9_say_27 (by decide) (fun h39 => ?_) (fun h39 => ?_)
        · replace hf := okf h39 hf
          refine r_aload_n X dX9_say_37 0 rfl isr_ref ?_
          refine r_iload_n X dX9_say_38 1 rfl ?_
          refine r_iload_n X dX9_say_39 2 rfl ?_
          refine r_callVi (rest := []) X (c_X9_says l G a1 a2 σ37 (oks hf)) md_X9_says gX9_say_X9_says (by decide) rfl rfl (kd_in kc_129 (by decide)) (EE_9 _ kc_129) rfl rfl (Nat.le_of_ble_eq_true rfl) dX9_say_40 (fun r40 σ41 e42 => ?_)
          replace hf := okn e42 hf
          refine r_istore_n X dX9_say_43 (i := 3) rfl (by decide) (lv' := [(3, .int r40), (0, .ref (G.1 129)), (1, .int a1), (2, .int a2)]) rfl ?_
          refine r_aload_n X dX9_say_44 1 rfl isr_ref ?_
          refine r_iload_n X dX9_say_45 2 rfl ?_
          refine r_iconst X dX9_say_46 ci_0 ?_
          refine r_callVi (rest := []) X (c_X9_about l G a1 (0 : Int32) σ41 (oks hf)) md_X9_about gX9_say_X9_about (by decide) rfl rfl (kd_in kc_129 (by decide)) (EE_9 _ kc_129) rfl rfl (Nat.le_of_ble_eq_true rfl) dX9_say_47 (fun r43 σ44 e45 => ?_)
          replace hf := okn e45 hf
          exact r_iret X rfl hR (ok0 hf) dX9_say_50
        · replace hf := okt h39 hf
          refine r_aload_n X dX9_say_30 0 rfl isr_ref ?_
          refine r_ldc (v := (-1000000003 : Int32)) X (mem_ix 2 rfl) dX9_say_31 ?_
          refine r_callVi (rest := []) X (c_X9_error l G (-1000000003 : Int32) σ37 (oks hf)) md_X9_error gX9_say_X9_error (by decide) rfl rfl (kd_in kc_129 (by decide)) (EE_9 _ kc_129) rfl rfl (Nat.le_of_ble_eq_true rfl) dX9_say_33 (fun r46 σ47 e48 => ?_)
          replace hf := okn e48 hf
          exact r_iret X rfl hR (ok0 hf) dX9_say_36
      · replace hf := okt h35 hf
        refine r_sub [0] rfl ?_
        exact t_X9_say_15 X hR σ33 hf
theorem md_X9_say : MD yX9_say wsX9_say cX9_say 4 2 (some .int) := ⟨⟨_, rfl⟩, by decide +kernel, by decide +kernel, by decide⟩
theorem c_X9_say (l : Launch) (G : GX)  (a1 : Int32) (a2 : Int32) (σ : MM) (h : (f_X9_say a1 a2 σ).isSome = true) : CTi l G yX9_say wsX9_say 8 [.ref (G.1 129), .int a1, .int a2] σ (f_X9_say a1 a2 σ) :=
  CTi_of md_X9_say (Nat.le_of_ble_eq_true rfl) (fun K X hR => e_X9_say X hR a1 a2 σ (ok_is h))
-- X9_bribe
theorem in_X9_bribe_9 : ∀ w ∈ u_ws RX9 TX9 21, w ∈ wsX9_bribe := fun _ h => List.mem_cons_of_mem _ (List.mem_append_right _ h)
def f_X9_bribe (a1 : Int32) (σ : MM) : Option (Int32 × MM) :=
  bd (f_X9_isPerson a1 σ) (fun r39 σ40 => if r39 = 0 then bd (f_X9_error (-1000000001 : Int32) σ40) (fun r74 σ75 => some (r74, σ75)) else bd (f_X9_canGo a1 σ40) (fun r43 σ44 => if r43 = 0 then bd (f_X9_error (-1000000003 : Int32) σ44) (fun r71 σ72 => some (r71, σ72)) else bd (f_X9_about a1 (0 : Int32) σ44) (fun r47 σ48 => bd (f_X9_bribeOf r47 σ48) (fun r50 σ51 => bd (f_X9_about a1 (2 : Int32) σ51) (fun r53 σ54 => bd (f_X9_held (r53 + r50) (0 : Int32) (99999 : Int32) σ54) (fun r56 σ57 => bd (f_X9_lets a1 (2 : Int32) r56 σ57) (fun r59 σ60 => bd (f_X9_about a1 (1 : Int32) σ60) (fun r62 σ63 => bd (f_X9_lets a1 (1 : Int32) (r62 - (1 : Int32)) σ63) (fun r65 σ66 => bd (f_X9_lets a1 (0 : Int32) (r47 + (1 : Int32)) σ66) (fun r68 σ69 => some (r50, σ69)))))))))))
set_option maxRecDepth 100000 in
set_option maxHeartbeats 4000000 in
theorem e_X9_bribe {l : Launch} {G : GX} {K : KX} (X : FX G K cX9_bribe RX9 (some .int) wsX9_bribe 4) {Φ : Int32 → MM → Prop} (hR : Ri G K Φ) (a1 : Int32) (σ : MM) (hf : Ok Φ (f_X9_bribe a1 σ)) : V l G 7 K 4 0 [(0, .ref (G.1 129)), (1, .int a1)] [] σ := by
    unfold f_X9_bribe at hf
    refine r_aload_n X dX9_bribe_0 0 rfl isr_ref ?_
    refine r_iload_n X dX9_bribe_1 1 rfl ?_
    refine r_callVi (rest := []) X (c_X9_isPerson l G a1 σ (oks hf)) md_X9_isPerson gX9_bribe_X9_isPerson (by decide) rfl rfl (kd_in kc_129 (by decide)) (EE_9 _ kc_129) rfl rfl (Nat.le_of_ble_eq_true rfl) dX9_bribe_2 (fun r39 σ40 e41 => ?_)
    replace hf := okn e41 hf
    refine r_if_ne (tgt := 15) X dX9_bribe_5 (by decide) (fun h42 => ?_) (fun h42 => ?_)
    · replace hf := okf h42 hf
      refine r_aload_n X dX9_bribe_15 0 rfl isr_ref ?_
      refine r_iload_n X dX9_bribe_16 1 rfl ?_
      refine r_callVi (rest := []) X (c_X9_canGo l G a1 σ40 (oks hf)) md_X9_canGo gX9_bribe_X9_canGo (by decide) rfl rfl (kd_in kc_129 (by decide)) (EE_9 _ kc_129) rfl rfl (Nat.le_of_ble_eq_true rfl) dX9_bribe_17 (fun r43 σ44 e45 => ?_)
      replace hf := okn e45 hf
      refine r_if_ne (tgt := 30) X dX9_bribe_20 (by decide) (fun h46 => ?_) (fun h46 => ?_)
      · replace hf := okf h46 hf
        refine r_aload_n X dX9_bribe_30 0 rfl isr_ref ?_
        refine r_iload_n X dX9_bribe_31 1 rfl ?_
        refine r_iconst X dX9_bribe_32 ci_0 ?_
        refine r_callVi (rest := []) X (c_X9_about l G a1 (0 : Int32) σ44 (oks hf)) md_X9_about gX9_bribe_X9_about (by decide) rfl rfl (kd_in kc_129 (by decide)) (EE_9 _ kc_129) rfl rfl (Nat.le_of_ble_eq_true rfl) dX9_bribe_33 (fun r47 σ48 e49 => ?_)
        replace hf := okn e49 hf
        refine r_istore_n X dX9_bribe_36 (i := 2) rfl (by decide) (lv' := [(2, .int r47), (0, .ref (G.1 129)), (1, .int a1)]) rfl ?_
        refine r_aload_n X dX9_bribe_37 1 rfl isr_ref ?_
        refine r_iload_n X dX9_bribe_38 0 rfl ?_
        refine r_callVi (rest := []) X (c_X9_bribeOf l G r47 σ48 (oks hf)) md_X9_bribeOf gX9_bribe_X9_bribeOf (by decide) rfl rfl (kd_in kc_129 (by decide)) (EE_9 _ kc_129) rfl rfl (Nat.le_of_ble_eq_true rfl) dX9_bribe_39 (fun r50 σ51 e52 => ?_)
        replace hf := okn e52 hf
        refine r_istore_n X dX9_bribe_42 (i := 3) rfl (by decide) (lv' := [(3, .int r50), (2, .int r47), (0, .ref (G.1 129)), (1, .int a1)]) rfl ?_
        refine r_aload_n X dX9_bribe_43 2 rfl isr_ref ?_
        refine r_iload_n X dX9_bribe_44 3 rfl ?_
        refine r_iconst X dX9_bribe_45 ci_2 ?_
        refine r_aload_n X dX9_bribe_46 2 rfl isr_ref ?_
        refine r_iload_n X dX9_bribe_47 3 rfl ?_
        refine r_iconst X dX9_bribe_48 ci_2 ?_
        refine r_callVi (rest := [.int (2 : Int32), .int a1, .ref (G.1 129)]) X (c_X9_about l G a1 (2 : Int32) σ51 (oks hf)) md_X9_about gX9_bribe_X9_about (by decide) rfl rfl (kd_in kc_129 (by decide)) (EE_9 _ kc_129) rfl rfl (Nat.le_of_ble_eq_true rfl) dX9_bribe_49 (fun r53 σ54 e55 => ?_)
        replace hf := okn e55 hf
        refine r_iload_n X dX9_bribe_52 0 rfl ?_
        refine r_iadd X dX9_bribe_53 ?_
        refine r_iconst X dX9_bribe_54 ci_0 ?_
        refine r_ldc (v := (99999 : Int32)) X (mem_ix 3 rfl) dX9_bribe_55 ?_
        refine r_callSi (rest := [.int (2 : Int32), .int a1, .ref (G.1 129)]) X (c_X9_held l G (r53 + r50) (0 : Int32) (99999 : Int32) σ54 (oks hf)) md_X9_held gX9_bribe_X9_held (by decide) rfl rfl (Nat.le_of_ble_eq_true rfl) dX9_bribe_57 (fun r56 σ57 e58 => ?_)
        replace hf := okn e58 hf
        refine r_callVv (rest := []) X (c_X9_lets l G a1 (2 : Int32) r56 σ57 (oks hf)) md_X9_lets gX9_bribe_X9_lets (by decide) rfl rfl (kd_in kc_129 (by decide)) (EE_9 _ kc_129) rfl rfl (Nat.le_of_ble_eq_true rfl) dX9_bribe_60 (fun r59 σ60 e61 => ?_)
        replace hf := okn e61 hf
        refine r_aload_n X dX9_bribe_63 2 rfl isr_ref ?_
        refine r_iload_n X dX9_bribe_64 3 rfl ?_
        refine r_iconst X dX9_bribe_65 ci_1 ?_
        refine r_aload_n X dX9_bribe_66 2 rfl isr_ref ?_
        refine r_iload_n X dX9_bribe_67 3 rfl ?_
        refine r_iconst X dX9_bribe_68 ci_1 ?_
        refine r_callVi (rest := [.int (1 : Int32), .int a1, .ref (G.1 129)]) X (c_X9_about l G a1 (1 : Int32) σ60 (oks hf)) md_X9_about gX9_bribe_X9_about (by decide) rfl rfl (kd_in kc_129 (by decide)) (EE_9 _ kc_129) rfl rfl (Nat.le_of_ble_eq_true rfl) dX9_bribe_69 (fun r62 σ63 e64 => ?_)
        replace hf := okn e64 hf
        refine r_iconst X dX9_bribe_72 ci_1 ?_
        refine r_isub X dX9_bribe_73 ?_
        refine r_callVv (rest := []) X (c_X9_lets l G a1 (1 : Int32) (r62 - (1 : Int32)) σ63 (oks hf)) md_X9_lets gX9_bribe_X9_lets (by decide) rfl rfl (kd_in kc_129 (by decide)) (EE_9 _ kc_129) rfl rfl (Nat.le_of_ble_eq_true rfl) dX9_bribe_74 (fun r65 σ66 e67 => ?_)
        replace hf := okn e67 hf
        refine r_aload_n X dX9_bribe_77 2 rfl isr_ref ?_
        refine r_iload_n X dX9_bribe_78 3 rfl ?_
        refine r_iconst X dX9_bribe_79 ci_0 ?_
        refine r_iload_n X dX9_bribe_80 1 rfl ?_
        refine r_iconst X dX9_bribe_81 ci_1 ?_
        refine r_iadd X dX9_bribe_82 ?_
        refine r_callVv (rest := []) X (c_X9_lets l G a1 (0 : Int32) (r47 + (1 : Int32)) σ66 (oks hf)) md_X9_lets gX9_bribe_X9_lets (by decide) rfl rfl (kd_in kc_129 (by decide)) (EE_9 _ kc_129) rfl rfl (Nat.le_of_ble_eq_true rfl) dX9_bribe_83 (fun r68 σ69 e70 => ?_)
        replace hf := okn e70 hf
        refine r_iload_n X dX9_bribe_86 0 rfl ?_
        exact r_iret X rfl hR (ok0 hf) dX9_bribe_87
      · replace hf := okt h46 hf
        refine r_aload_n X dX9_bribe_23 0 rfl isr_ref ?_
        refine r_ldc (v := (-1000000003 : Int32)) X (mem_ix 2 rfl) dX9_bribe_24 ?_
        refine r_callVi (rest := []) X (c_X9_error l G (-1000000003 : Int32) σ44 (oks hf)) md_X9_error gX9_bribe_X9_error (by decide) rfl rfl (kd_in kc_129 (by decide)) (EE_9 _ kc_129) rfl rfl (Nat.le_of_ble_eq_true rfl) dX9_bribe_26 (fun r71 σ72 e73 => ?_)
        replace hf := okn e73 hf
        exact r_iret X rfl hR (ok0 hf) dX9_bribe_29
    · replace hf := okt h42 hf
      refine r_aload_n X dX9_bribe_8 0 rfl isr_ref ?_
      refine r_ldc (v := (-1000000001 : Int32)) X (mem_ix 1 rfl) dX9_bribe_9 ?_
      refine r_callVi (rest := []) X (c_X9_error l G (-1000000001 : Int32) σ40 (oks hf)) md_X9_error gX9_bribe_X9_error (by decide) rfl rfl (kd_in kc_129 (by decide)) (EE_9 _ kc_129) rfl rfl (Nat.le_of_ble_eq_true rfl) dX9_bribe_11 (fun r74 σ75 e76 => ?_)
      replace hf := okn e76 hf
      exact r_iret X rfl hR (ok0 hf) dX9_bribe_14
theorem md_X9_bribe : MD yX9_bribe wsX9_bribe cX9_bribe 4 1 (some .int) := ⟨⟨_, rfl⟩, by decide +kernel, by decide +kernel, by decide⟩
theorem c_X9_bribe (l : Launch) (G : GX)  (a1 : Int32) (σ : MM) (h : (f_X9_bribe a1 σ).isSome = true) : CTi l G yX9_bribe wsX9_bribe 7 [.ref (G.1 129), .int a1] σ (f_X9_bribe a1 σ) :=
  CTi_of md_X9_bribe (Nat.le_of_ble_eq_true rfl) (fun K X hR => e_X9_bribe X hR a1 σ (ok_is h))
-- X9_feed
theorem in_X9_feed_9 : ∀ w ∈ u_ws RX9 TX9 21, w ∈ wsX9_feed := fun _ h => List.mem_cons_of_mem _ (List.mem_append_right _ h)
def u_X9_feed_40 (k40 : Int64 → Int32 → Int32 → MM → Option (Int32 × MM)) (v1 : Int64) (v3 : Int32) (v4 : Int32) (σ : MM) : Option (Int32 × MM) :=
  if v3 ≤ v4 then some ((σ 130 4), σ) else if ((86 : Int32) + (σ 130 4)) < 0 ∨ 412 ≤ ((86 : Int32) + (σ 130 4)).toNatClampNeg then none else lt (mu σ 130 (((86 : Int32) + (σ 130 4)).toNatClampNeg) (((v1 >>> (((8 : Int32) * v4).toInt64 &&& 63)) &&& (255 : Int64)).toInt32)) (fun σ25 => lt (mu σ25 130 4 ((σ25 130 4) + (1 : Int32))) (fun σ27 => k40 v1 v3 (v4 + (1 : Int32)) σ27))
def l_X9_feed_40 (v1 : Int64) (v3 : Int32) (v4 : Int32) (σ : MM) : Option (Int32 × MM) :=
  itr (fun _ _ _ _ => none) (u_X9_feed_40) FU v1 v3 v4 σ
def f_X9_feed (a1 : Int64) (a3 : Int32) (σ : MM) : Option (Int32 × MM) :=
  bd (f_X9_in a3 (1 : Int32) (8 : Int32) σ) (fun r18 σ19 => if r18 = 0 then bd (f_X9_error (-1000000001 : Int32) σ19) (fun r32 σ33 => some (r32, σ33)) else if ((σ19 130 4) + a3) ≤ (60 : Int32) then l_X9_feed_40 a1 a3 (0 : Int32) σ19 else bd (f_X9_error (-1000000004 : Int32) σ19) (fun r29 σ30 => some (r29, σ30)))
set_option maxRecDepth 100000 in
set_option maxHeartbeats 4000000 in
theorem t_X9_feed_40 {l : Launch} {G : GX} {K : KX} (X : FX G K cX9_feed RX9 (some .int) wsX9_feed 5) {Φ : Int32 → MM → Prop} (hR : Ri G K Φ) (k40 : Int64 → Int32 → Int32 → MM → Option (Int32 × MM)) (hk40c : ∀ (v1 : Int64) (v3 : Int32) (v4 : Int32) (σ : MM), Ok Φ (k40 v1 v3 v4 σ) → V l G 4 K 5 40 [(0, .ref (G.1 129)), (1, .long v1), (3, .int v3), (4, .int v4)] [] σ) (v1 : Int64) (v3 : Int32) (v4 : Int32) (σ : MM) (hf : Ok Φ (u_X9_feed_40 k40 v1 v3 v4 σ)) : V l G 4 K 5 40 [(0, .ref (G.1 129)), (1, .long v1), (3, .int v3), (4, .int v4)] [] σ := by
    unfold u_X9_feed_40 at hf
    refine r_iload X dX9_feed_40 3 rfl ?_
    refine r_iload_n X dX9_feed_42 2 rfl ?_
    refine r_icmp_ge (tgt := 88) X dX9_feed_43 (by decide) (fun h23 => ?_) (fun h23 => ?_)
    · replace hf := okt h23 hf
      refine r_aload_n X dX9_feed_88 0 rfl isr_ref ?_
      refine r_get (i := 129) (v := .ref (G.1 130)) X in_X9_feed_9 rfl 0 (by decide) (kd_in kc_129 (by decide)) (EE_9 _ kc_129) rfl (mem_ix 2 rfl) dX9_feed_89 ?_
      refine r_iconst X dX9_feed_92 ci_4 ?_
      refine r_iald (i := 130) (jn := 4) X (kd_in kc_130 (by decide)) (EE_26 _ kc_130) (by decide) (by decide) dX9_feed_93 ?_
      exact r_iret X rfl hR (ok0 hf) dX9_feed_94
    · replace hf := okf h23 hf
      refine r_aload_n X dX9_feed_46 0 rfl isr_ref ?_
      refine r_get (i := 129) (v := .ref (G.1 130)) X in_X9_feed_9 rfl 0 (by decide) (kd_in kc_129 (by decide)) (EE_9 _ kc_129) rfl (mem_ix 2 rfl) dX9_feed_47 ?_
      refine r_bipush X dX9_feed_50 cb_86 ?_
      refine r_aload_n X dX9_feed_52 0 rfl isr_ref ?_
      refine r_get (i := 129) (v := .ref (G.1 130)) X in_X9_feed_9 rfl 0 (by decide) (kd_in kc_129 (by decide)) (EE_9 _ kc_129) rfl (mem_ix 2 rfl) dX9_feed_53 ?_
      refine r_iconst X dX9_feed_56 ci_4 ?_
      refine r_iald (i := 130) (jn := 4) X (kd_in kc_130 (by decide)) (EE_26 _ kc_130) (by decide) (by decide) dX9_feed_57 ?_
      refine r_iadd X dX9_feed_58 ?_
      refine r_lload_n X dX9_feed_59 1 rfl ?_
      refine r_bipush X dX9_feed_60 cb_8 ?_
      refine r_iload X dX9_feed_62 3 rfl ?_
      refine r_imul X dX9_feed_64 ?_
      refine r_lshr X dX9_feed_65 ?_
      refine r_ldc2 (v := (255 : Int64)) X (mem_ix 4 rfl) dX9_feed_66 ?_
      refine r_land X dX9_feed_69 ?_
      refine r_l2i X dX9_feed_70 ?_
      obtain ⟨g24, hf⟩ := okg hf
      obtain ⟨σ25, e26, hf⟩ := okl hf
      refine r_iast (i := 130) (jn := ((86 : Int32) + (σ 130 4)).toNatClampNeg) X (kd_in kc_130 (by decide)) (fun _ => EE_26 _ kc_130) rfl g24 dX9_feed_71 ?_
      refine r_sg e26 ?_
      refine r_aload_n X dX9_feed_72 0 rfl isr_ref ?_
      refine r_get (i := 129) (v := .ref (G.1 130)) X in_X9_feed_9 rfl 0 (by decide) (kd_in kc_129 (by decide)) (EE_9 _ kc_129) rfl (mem_ix 2 rfl) dX9_feed_73 ?_
      refine r_iconst X dX9_feed_76 ci_4 ?_
      refine r_dup2 X dX9_feed_77 rfl rfl ?_
      refine r_iald (i := 130) (jn := 4) X (kd_in kc_130 (by decide)) (EE_26 _ kc_130) (by decide) (by decide) dX9_feed_78 ?_
      refine r_iconst X dX9_feed_79 ci_1 ?_
      refine r_iadd X dX9_feed_80 ?_
      obtain ⟨σ27, e28, hf⟩ := okl hf
      refine r_iast (i := 130) (jn := 4) X (kd_in kc_130 (by decide)) (fun _ => EE_26 _ kc_130) (by decide) (by decide) dX9_feed_81 ?_
      refine r_sg e28 ?_
      refine r_iinc (v := (v4 + (1 : Int32))) X dX9_feed_82 3 rfl (congrArg _ ci_1) (by decide) (lv' := [(4, .int (v4 + (1 : Int32))), (0, .ref (G.1 129)), (1, .long v1), (3, .int v3)]) rfl ?_
      refine r_goto (tgt := 40) X dX9_feed_85 (by decide) ?_
      refine r_sub [1, 2, 3, 0] rfl ?_
      exact hk40c v1 v3 (v4 + (1 : Int32)) σ27 hf
theorem tl_X9_feed_40 {l : Launch} {G : GX} {K : KX} (X : FX G K cX9_feed RX9 (some .int) wsX9_feed 5) {Φ : Int32 → MM → Prop} (hR : Ri G K Φ) : ∀ (m : Nat) (v1 : Int64) (v3 : Int32) (v4 : Int32) (σ : MM), Ok Φ (itr (fun _ _ _ _ => none) (u_X9_feed_40) m v1 v3 v4 σ) → V l G 4 K 5 40 [(0, .ref (G.1 129)), (1, .long v1), (3, .int v3), (4, .int v4)] [] σ := by
  intro m
  induction m with
  | zero => intro v1 v3 v4 σ hf; exact (okx hf).elim
  | succ m ih => intro v1 v3 v4 σ hf; exact t_X9_feed_40 X hR _ ih v1 v3 v4 σ hf
set_option maxRecDepth 100000 in
set_option maxHeartbeats 4000000 in
theorem e_X9_feed {l : Launch} {G : GX} {K : KX} (X : FX G K cX9_feed RX9 (some .int) wsX9_feed 5) {Φ : Int32 → MM → Prop} (hR : Ri G K Φ) (a1 : Int64) (a3 : Int32) (σ : MM) (hf : Ok Φ (f_X9_feed a1 a3 σ)) : V l G 4 K 5 0 [(0, .ref (G.1 129)), (1, .long a1), (3, .int a3)] [] σ := by
    unfold f_X9_feed at hf
    refine r_iload_n X dX9_feed_0 2 rfl ?_
    refine r_iconst X dX9_feed_1 ci_1 ?_
    refine r_bipush X dX9_feed_2 cb_8 ?_
    refine r_callSi (rest := []) X (c_X9_in l G a3 (1 : Int32) (8 : Int32) σ (oks hf)) md_X9_in gX9_feed_X9_in (by decide) rfl rfl (Nat.le_of_ble_eq_true rfl) dX9_feed_4 (fun r18 σ19 e20 => ?_)
    replace hf := okn e20 hf
    refine r_if_ne (tgt := 17) X dX9_feed_7 (by decide) (fun h21 => ?_) (fun h21 => ?_)
    · replace hf := okf h21 hf
      refine r_aload_n X dX9_feed_17 0 rfl isr_ref ?_
      refine r_get (i := 129) (v := .ref (G.1 130)) X in_X9_feed_9 rfl 0 (by decide) (kd_in kc_129 (by decide)) (EE_9 _ kc_129) rfl (mem_ix 2 rfl) dX9_feed_18 ?_
      refine r_iconst X dX9_feed_21 ci_4 ?_
      refine r_iald (i := 130) (jn := 4) X (kd_in kc_130 (by decide)) (EE_26 _ kc_130) (by decide) (by decide) dX9_feed_22 ?_
      refine r_iload_n X dX9_feed_23 2 rfl ?_
      refine r_iadd X dX9_feed_24 ?_
      refine r_bipush X dX9_feed_25 cb_60 ?_
      refine r_icmp_le (tgt := 37) X dX9_feed_27 (by decide) (fun h22 => ?_) (fun h22 => ?_)
      · replace hf := okt h22 hf
        refine r_iconst X dX9_feed_37 ci_0 ?_
        refine r_istore X dX9_feed_38 (by decide) (lv' := [(4, .int (0 : Int32)), (0, .ref (G.1 129)), (1, .long a1), (3, .int a3)]) rfl ?_
        refine r_sub [1, 2, 3, 0] rfl ?_
        exact tl_X9_feed_40 X hR FU a1 a3 (0 : Int32) σ19 hf
      · replace hf := okf h22 hf
        refine r_aload_n X dX9_feed_30 0 rfl isr_ref ?_
        refine r_ldc (v := (-1000000004 : Int32)) X (mem_ix 3 rfl) dX9_feed_31 ?_
        refine r_callVi (rest := []) X (c_X9_error l G (-1000000004 : Int32) σ19 (oks hf)) md_X9_error gX9_feed_X9_error (by decide) rfl rfl (kd_in kc_129 (by decide)) (EE_9 _ kc_129) rfl rfl (Nat.le_of_ble_eq_true rfl) dX9_feed_33 (fun r29 σ30 e31 => ?_)
        replace hf := okn e31 hf
        exact r_iret X rfl hR (ok0 hf) dX9_feed_36
    · replace hf := okt h21 hf
      refine r_aload_n X dX9_feed_10 0 rfl isr_ref ?_
      refine r_ldc (v := (-1000000001 : Int32)) X (mem_ix 1 rfl) dX9_feed_11 ?_
      refine r_callVi (rest := []) X (c_X9_error l G (-1000000001 : Int32) σ19 (oks hf)) md_X9_error gX9_feed_X9_error (by decide) rfl rfl (kd_in kc_129 (by decide)) (EE_9 _ kc_129) rfl rfl (Nat.le_of_ble_eq_true rfl) dX9_feed_13 (fun r32 σ33 e34 => ?_)
      replace hf := okn e34 hf
      exact r_iret X rfl hR (ok0 hf) dX9_feed_16
theorem md_X9_feed : MD yX9_feed wsX9_feed cX9_feed 5 2 (some .int) := ⟨⟨_, rfl⟩, by decide +kernel, by decide +kernel, by decide⟩
theorem c_X9_feed (l : Launch) (G : GX)  (a1 : Int64) (a3 : Int32) (σ : MM) (h : (f_X9_feed a1 a3 σ).isSome = true) : CTi l G yX9_feed wsX9_feed 4 [.ref (G.1 129), .long a1, .int a3] σ (f_X9_feed a1 a3 σ) :=
  CTi_of md_X9_feed (Nat.le_of_ble_eq_true rfl) (fun K X hR => e_X9_feed X hR a1 a3 σ (ok_is h))

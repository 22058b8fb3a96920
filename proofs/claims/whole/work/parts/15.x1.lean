-- X0_hold
def f_X0_hold (a0 : Int32) (a1 : Int32) (σ : MM) : Option (Int32 × MM) :=
  some ((if (0 : Int32) < (if a0 < a1 then a0 else a1) then (if a0 < a1 then a0 else a1) else (0 : Int32)), σ)
set_option maxRecDepth 100000 in
set_option maxHeartbeats 4000000 in
theorem e_X0_hold {l : Launch} {G : GX} {K : KX} (X : FX G K cX0_hold RX0 (some .int) wsX0_hold 2) {Φ : Int32 → MM → Prop} (hR : Ri G K Φ) (a0 : Int32) (a1 : Int32) (σ : MM) (hf : Ok Φ (f_X0_hold a0 a1 σ)) : V l G 3 K 2 0 [(0, .int a0), (1, .int a1)] [] σ := by
    unfold f_X0_hold at hf
    refine r_iconst X dX0_hold_0 ci_0 ?_
    refine r_iload_n X dX0_hold_1 1 rfl ?_
    refine r_iload_n X dX0_hold_2 0 rfl ?_
    refine r_mmin X (mem_ix 1 rfl) (mem_ix 2 rfl) (mem_ix 3 rfl) (mem_ix 4 rfl) (Nat.le_of_ble_eq_true rfl) (by decide) dX0_hold_3 ?_
    refine r_mmax X (mem_ix 5 rfl) (mem_ix 6 rfl) (mem_ix 3 rfl) (mem_ix 7 rfl) (Nat.le_of_ble_eq_true rfl) (by decide) dX0_hold_6 ?_
    exact r_iret X rfl hR (ok0 hf) dX0_hold_9
theorem md_X0_hold : MD yX0_hold wsX0_hold cX0_hold 2 2 (some .int) := ⟨⟨_, rfl⟩, by decide +kernel, by decide +kernel, by decide⟩
theorem c_X0_hold (l : Launch) (G : GX)  (a0 : Int32) (a1 : Int32) (σ : MM) (h : (f_X0_hold a0 a1 σ).isSome = true) : CTi l G yX0_hold wsX0_hold 3 [.int a0, .int a1] σ (f_X0_hold a0 a1 σ) :=
  CTi_of md_X0_hold (Nat.le_of_ble_eq_true rfl) (fun K X hR => e_X0_hold X hR a0 a1 σ (ok_is h))
-- X0_gives
theorem in_X0_gives_0 : ∀ w ∈ u_ws RX0 TX0 12, w ∈ wsX0_gives := fun _ h => List.mem_cons_of_mem _ (List.mem_append_left _ (List.mem_append_right _ h))
theorem in_X0_gives_6 : ∀ w ∈ u_ws RX6 TX6 3, w ∈ wsX0_gives := fun _ h => List.mem_cons_of_mem _ (List.mem_append_right _ h)
def u_X0_gives_59 (vs0 : Int32) (σ : MM) : Option (Int32 × MM) :=
  bd (f_X0_hold vs0 (99 : Int32) σ) (fun r27 σ28 => some (r27, σ28))
def u_X0_gives_29 (vs0 : Int32) (σ : MM) : Option (Int32 × MM) :=
  bd (f_X0_hold vs0 (1 : Int32) σ) (fun r37 σ38 => some (r37, σ38))
def f_X0_gives (t0 : Nat) (a1 : Int32) (a2 : Int32) (a3 : Int32) (a4 : Int32) (σ : MM) : Option (Int32 × MM) :=
  if a1 = 0 then bd (f_X6_isThere (t0 + 3) σ) (fun r33 σ34 => if r33 = 0 then u_X0_gives_29 (1 : Int32) σ34 else bd (f_X6_work (t0 + 3) a2 a3 a4 σ34) (fun r40 σ41 => u_X0_gives_29 r40 σ41)) else bd (f_X6_isThere (t0 + 6) σ) (fun r23 σ24 => if r23 = 0 then u_X0_gives_59 a2 σ24 else bd (f_X6_work (t0 + 6) a2 a3 a4 σ24) (fun r30 σ31 => u_X0_gives_59 r30 σ31))
set_option maxRecDepth 100000 in
set_option maxHeartbeats 4000000 in
theorem t_X0_gives_59 {l : Launch} {G : GX} {K : KX} (X : FX G K cX0_gives RX0 (some .int) wsX0_gives 5) {Φ : Int32 → MM → Prop} (hR : Ri G K Φ) (vs0 : Int32) (σ : MM) (hf : Ok Φ (u_X0_gives_59 vs0 σ)) : V l G 5 K 5 59 [] [.int vs0] σ := by
    unfold u_X0_gives_59 at hf
    refine r_bipush X dX0_gives_59 cb_99 ?_
    refine r_callSi (rest := []) X (c_X0_hold l G vs0 (99 : Int32) σ (oks hf)) md_X0_hold gX0_gives_X0_hold (by decide) rfl rfl (Nat.le_of_ble_eq_true rfl) dX0_gives_61 (fun r27 σ28 e29 => ?_)
    replace hf := okn e29 hf
    exact r_iret X rfl hR (ok0 hf) dX0_gives_64
set_option maxRecDepth 100000 in
set_option maxHeartbeats 4000000 in
theorem t_X0_gives_29 {l : Launch} {G : GX} {K : KX} (X : FX G K cX0_gives RX0 (some .int) wsX0_gives 5) {Φ : Int32 → MM → Prop} (hR : Ri G K Φ) (vs0 : Int32) (σ : MM) (hf : Ok Φ (u_X0_gives_29 vs0 σ)) : V l G 5 K 5 29 [] [.int vs0] σ := by
    unfold u_X0_gives_29 at hf
    refine r_iconst X dX0_gives_29 ci_1 ?_
    refine r_callSi (rest := []) X (c_X0_hold l G vs0 (1 : Int32) σ (oks hf)) md_X0_hold gX0_gives_X0_hold (by decide) rfl rfl (Nat.le_of_ble_eq_true rfl) dX0_gives_30 (fun r37 σ38 e39 => ?_)
    replace hf := okn e39 hf
    exact r_iret X rfl hR (ok0 hf) dX0_gives_33
set_option maxRecDepth 100000 in
set_option maxHeartbeats 4000000 in
theorem e_X0_gives {l : Launch} {G : GX} {K : KX} (X : FX G K cX0_gives RX0 (some .int) wsX0_gives 5) {Φ : Int32 → MM → Prop} (hR : Ri G K Φ) (t0 : Nat) (a1 : Int32) (a2 : Int32) (a3 : Int32) (a4 : Int32) (hk0 : kd t0 = 0) (σ : MM) (hf : Ok Φ (f_X0_gives t0 a1 a2 a3 a4 σ)) : V l G 5 K 5 0 [(0, .ref (G.1 t0)), (1, .int a1), (2, .int a2), (3, .int a3), (4, .int a4)] [] σ := by
    unfold f_X0_gives at hf
    refine r_iload_n X dX0_gives_0 1 rfl ?_
    refine r_if_ne (tgt := 34) X dX0_gives_1 (by decide) (fun h22 => ?_) (fun h22 => ?_)
    · replace hf := okf h22 hf
      refine r_aload_n X dX0_gives_34 0 rfl isr_ref ?_
      refine r_get (i := t0) (v := .ref (G.1 (t0 + 6))) X in_X0_gives_0 rfl 5 (by decide) (kd_in hk0 (by decide)) (EE_0 _ hk0) rfl (mem_ix 2 rfl) dX0_gives_35 ?_
      refine r_callVi (rest := []) X (c_X6_isThere l G (t0 + 6) (kf_0_6 hk0) σ (oks hf)) md_X6_isThere gX0_gives_X6_isThere (by decide) rfl rfl (kd_in (kf_0_6 hk0) (by decide)) (EE_6 _ (kf_0_6 hk0)) rfl rfl (Nat.le_of_ble_eq_true rfl) dX0_gives_38 (fun r23 σ24 e25 => ?_)
      replace hf := okn e25 hf
      refine r_if_eq (tgt := 58) X dX0_gives_41 (by decide) (fun h26 => ?_) (fun h26 => ?_)
      · replace hf := okt h26 hf
        refine r_iload_n X dX0_gives_58 2 rfl ?_
        refine r_sub [] rfl ?_
        exact t_X0_gives_59 X hR a2 σ24 hf
      · replace hf := okf h26 hf
        refine r_aload_n X dX0_gives_44 0 rfl isr_ref ?_
        refine r_get (i := t0) (v := .ref (G.1 (t0 + 6))) X in_X0_gives_0 rfl 5 (by decide) (kd_in hk0 (by decide)) (EE_0 _ hk0) rfl (mem_ix 2 rfl) dX0_gives_45 ?_
        refine r_iload_n X dX0_gives_48 2 rfl ?_
        refine r_iload_n X dX0_gives_49 3 rfl ?_
        refine r_iload X dX0_gives_50 4 rfl ?_
        refine r_callVi (rest := []) X (c_X6_work l G (t0 + 6) a2 a3 a4 (kf_0_6 hk0) σ24 (oks hf)) md_X6_work gX0_gives_X6_work (by decide) rfl rfl (kd_in (kf_0_6 hk0) (by decide)) (EE_6 _ (kf_0_6 hk0)) rfl rfl (Nat.le_of_ble_eq_true rfl) dX0_gives_52 (fun r30 σ31 e32 => ?_)
        replace hf := okn e32 hf
        refine r_goto (tgt := 59) X dX0_gives_55 (by decide) ?_
        refine r_sub [] rfl ?_
        exact t_X0_gives_59 X hR r30 σ31 hf
    · replace hf := okt h22 hf
      refine r_aload_n X dX0_gives_4 0 rfl isr_ref ?_
      refine r_get (i := t0) (v := .ref (G.1 (t0 + 3))) X in_X0_gives_0 rfl 4 (by decide) (kd_in hk0 (by decide)) (EE_0 _ hk0) rfl (mem_ix 1 rfl) dX0_gives_5 ?_
      refine r_callVi (rest := []) X (c_X6_isThere l G (t0 + 3) (kf_0_3 hk0) σ (oks hf)) md_X6_isThere gX0_gives_X6_isThere (by decide) rfl rfl (kd_in (kf_0_3 hk0) (by decide)) (EE_6 _ (kf_0_3 hk0)) rfl rfl (Nat.le_of_ble_eq_true rfl) dX0_gives_8 (fun r33 σ34 e35 => ?_)
      replace hf := okn e35 hf
      refine r_if_eq (tgt := 28) X dX0_gives_11 (by decide) (fun h36 => ?_) (fun h36 => ?_)
      · replace hf := okt h36 hf
        refine r_iconst X dX0_gives_28 ci_1 ?_
        refine r_sub [] rfl ?_
        exact t_X0_gives_29 X hR (1 : Int32) σ34 hf
      · replace hf := okf h36 hf
        refine r_aload_n X dX0_gives_14 0 rfl isr_ref ?_
        refine r_get (i := t0) (v := .ref (G.1 (t0 + 3))) X in_X0_gives_0 rfl 4 (by decide) (kd_in hk0 (by decide)) (EE_0 _ hk0) rfl (mem_ix 1 rfl) dX0_gives_15 ?_
        refine r_iload_n X dX0_gives_18 2 rfl ?_
        refine r_iload_n X dX0_gives_19 3 rfl ?_
        refine r_iload X dX0_gives_20 4 rfl ?_
        refine r_callVi (rest := []) X (c_X6_work l G (t0 + 3) a2 a3 a4 (kf_0_3 hk0) σ34 (oks hf)) md_X6_work gX0_gives_X6_work (by decide) rfl rfl (kd_in (kf_0_3 hk0) (by decide)) (EE_6 _ (kf_0_3 hk0)) rfl rfl (Nat.le_of_ble_eq_true rfl) dX0_gives_22 (fun r40 σ41 e42 => ?_)
        replace hf := okn e42 hf
        refine r_goto (tgt := 29) X dX0_gives_25 (by decide) ?_
        refine r_sub [] rfl ?_
        exact t_X0_gives_29 X hR r40 σ41 hf
theorem md_X0_gives : MD yX0_gives wsX0_gives cX0_gives 5 4 (some .int) := ⟨⟨_, rfl⟩, by decide +kernel, by decide +kernel, by decide⟩
theorem c_X0_gives (l : Launch) (G : GX)  (t0 : Nat) (a1 : Int32) (a2 : Int32) (a3 : Int32) (a4 : Int32) (hk0 : kd t0 = 0) (σ : MM) (h : (f_X0_gives t0 a1 a2 a3 a4 σ).isSome = true) : CTi l G yX0_gives wsX0_gives 5 [.ref (G.1 t0), .int a1, .int a2, .int a3, .int a4] σ (f_X0_gives t0 a1 a2 a3 a4 σ) :=
  CTi_of md_X0_gives (Nat.le_of_ble_eq_true rfl) (fun K X hR => e_X0_gives X hR t0 a1 a2 a3 a4 hk0 σ (ok_is h))
-- X2_nodsPlainly
theorem in_X2_nodsPlainly_2 : ∀ w ∈ u_ws RX2 TX2 4, w ∈ wsX2_nodsPlainly := fun _ h => List.mem_cons_of_mem _ (List.mem_append_right _ h)
def f_X2_nodsPlainly (t0 : Nat) (a1 : Int32) (σ : MM) : Option (Int32 × MM) :=
  if a1 < ((5 : Int32) * (σ t0 2)) then some ((0 : Int32), σ) else some ((1 : Int32), σ)
set_option maxRecDepth 100000 in
set_option maxHeartbeats 4000000 in
theorem e_X2_nodsPlainly {l : Launch} {G : GX} {K : KX} (X : FX G K cX2_nodsPlainly RX2 (some .boolean) wsX2_nodsPlainly 2) {Φ : Int32 → MM → Prop} (hR : Ri G K Φ) (t0 : Nat) (a1 : Int32) (hk0 : kd t0 = 2) (σ : MM) (hf : Ok Φ (f_X2_nodsPlainly t0 a1 σ)) : V l G 3 K 2 0 [(0, .ref (G.1 t0)), (1, .int a1)] [] σ := by
    unfold f_X2_nodsPlainly at hf
    refine r_iload_n X dX2_nodsPlainly_0 1 rfl ?_
    refine r_iconst X dX2_nodsPlainly_1 ci_5 ?_
    refine r_aload_n X dX2_nodsPlainly_2 0 rfl isr_ref ?_
    refine r_get (i := t0) (v := .int (σ t0 2)) X in_X2_nodsPlainly_2 rfl 2 (by decide) (kd_in hk0 (by decide)) (EE_2 _ hk0) rfl (mem_ix 1 rfl) dX2_nodsPlainly_3 ?_
    refine r_imul X dX2_nodsPlainly_6 ?_
    refine r_icmp_lt (tgt := 14) X dX2_nodsPlainly_7 (by decide) (fun h2 => ?_) (fun h2 => ?_)
    · replace hf := okt h2 hf
      refine r_iconst X dX2_nodsPlainly_14 ci_0 ?_
      exact r_zret X rfl hR (by decide) (ok0 hf) dX2_nodsPlainly_15
    · replace hf := okf h2 hf
      refine r_iconst X dX2_nodsPlainly_10 ci_1 ?_
      refine r_goto (tgt := 15) X dX2_nodsPlainly_11 (by decide) ?_
      exact r_zret X rfl hR (by decide) (ok0 hf) dX2_nodsPlainly_15
theorem md_X2_nodsPlainly : MD yX2_nodsPlainly wsX2_nodsPlainly cX2_nodsPlainly 2 1 (some .boolean) := ⟨⟨_, rfl⟩, by decide +kernel, by decide +kernel, by decide⟩
theorem c_X2_nodsPlainly (l : Launch) (G : GX)  (t0 : Nat) (a1 : Int32) (hk0 : kd t0 = 2) (σ : MM) (h : (f_X2_nodsPlainly t0 a1 σ).isSome = true) : CTi l G yX2_nodsPlainly wsX2_nodsPlainly 3 [.ref (G.1 t0), .int a1] σ (f_X2_nodsPlainly t0 a1 σ) :=
  CTi_of md_X2_nodsPlainly (Nat.le_of_ble_eq_true rfl) (fun K X hR => e_X2_nodsPlainly X hR t0 a1 hk0 σ (ok_is h))
-- X2_nodsStrictly
theorem in_X2_nodsStrictly_2 : ∀ w ∈ u_ws RX2 TX2 4, w ∈ wsX2_nodsStrictly := fun _ h => List.mem_cons_of_mem _ (List.mem_append_right _ h)
def f_X2_nodsStrictly (t0 : Nat) (a1 : Int32) (σ : MM) : Option (Int32 × MM) :=
  bd (f_X2_nodsPlainly t0 a1 σ) (fun r6 σ7 => if r6 = 0 then some ((0 : Int32), σ7) else if (a1 - a1 / (3 : Int32) * (3 : Int32)) = ((σ7 t0 2) - (σ7 t0 2) / (3 : Int32) * (3 : Int32)) then some ((1 : Int32), σ7) else some ((0 : Int32), σ7))
set_option maxRecDepth 100000 in
set_option maxHeartbeats 4000000 in
theorem e_X2_nodsStrictly {l : Launch} {G : GX} {K : KX} (X : FX G K cX2_nodsStrictly RX2 (some .boolean) wsX2_nodsStrictly 2) {Φ : Int32 → MM → Prop} (hR : Ri G K Φ) (t0 : Nat) (a1 : Int32) (hk0 : kd t0 = 2) (σ : MM) (hf : Ok Φ (f_X2_nodsStrictly t0 a1 σ)) : V l G 4 K 2 0 [(0, .ref (G.1 t0)), (1, .int a1)] [] σ := by
    unfold f_X2_nodsStrictly at hf
    refine r_aload_n X dX2_nodsStrictly_0 0 rfl isr_ref ?_
    refine r_iload_n X dX2_nodsStrictly_1 1 rfl ?_
    refine r_callVi (rest := []) X (c_X2_nodsPlainly l G t0 a1 hk0 σ (oks hf)) md_X2_nodsPlainly gX2_nodsStrictly_X2_nodsPlainly (by decide) rfl rfl (kd_in hk0 (by decide)) (EE_2 _ hk0) rfl rfl (Nat.le_of_ble_eq_true rfl) dX2_nodsStrictly_2 (fun r6 σ7 e8 => ?_)
    replace hf := okn e8 hf
    refine r_if_eq (tgt := 24) X dX2_nodsStrictly_5 (by decide) (fun h9 => ?_) (fun h9 => ?_)
    · replace hf := okt h9 hf
      refine r_iconst X dX2_nodsStrictly_24 ci_0 ?_
      exact r_zret X rfl hR (by decide) (ok0 hf) dX2_nodsStrictly_25
    · replace hf := okf h9 hf
      refine r_iload_n X dX2_nodsStrictly_8 1 rfl ?_
      refine r_iconst X dX2_nodsStrictly_9 ci_3 ?_
      refine r_irem X dX2_nodsStrictly_10 (by decide) ?_
      refine r_aload_n X dX2_nodsStrictly_11 0 rfl isr_ref ?_
      refine r_get (i := t0) (v := .int (σ7 t0 2)) X in_X2_nodsStrictly_2 rfl 2 (by decide) (kd_in hk0 (by decide)) (EE_2 _ hk0) rfl (mem_ix 1 rfl) dX2_nodsStrictly_12 ?_
      refine r_iconst X dX2_nodsStrictly_15 ci_3 ?_
      refine r_irem X dX2_nodsStrictly_16 (by decide) ?_
      refine r_icmp_ne (tgt := 24) X dX2_nodsStrictly_17 (by decide) (fun h10 => ?_) (fun h10 => ?_)
      · replace hf := okf h10 hf
        refine r_iconst X dX2_nodsStrictly_24 ci_0 ?_
        exact r_zret X rfl hR (by decide) (ok0 hf) dX2_nodsStrictly_25
      · replace hf := okt h10 hf
        refine r_iconst X dX2_nodsStrictly_20 ci_1 ?_
        refine r_goto (tgt := 25) X dX2_nodsStrictly_21 (by decide) ?_
        exact r_zret X rfl hR (by decide) (ok0 hf) dX2_nodsStrictly_25
theorem md_X2_nodsStrictly : MD yX2_nodsStrictly wsX2_nodsStrictly cX2_nodsStrictly 2 1 (some .boolean) := ⟨⟨_, rfl⟩, by decide +kernel, by decide +kernel, by decide⟩
theorem c_X2_nodsStrictly (l : Launch) (G : GX)  (t0 : Nat) (a1 : Int32) (hk0 : kd t0 = 2) (σ : MM) (h : (f_X2_nodsStrictly t0 a1 σ).isSome = true) : CTi l G yX2_nodsStrictly wsX2_nodsStrictly 4 [.ref (G.1 t0), .int a1] σ (f_X2_nodsStrictly t0 a1 σ) :=
  CTi_of md_X2_nodsStrictly (Nat.le_of_ble_eq_true rfl) (fun K X hR => e_X2_nodsStrictly X hR t0 a1 hk0 σ (ok_is h))
-- X2_nodsMildly
theorem in_X2_nodsMildly_2 : ∀ w ∈ u_ws RX2 TX2 4, w ∈ wsX2_nodsMildly := fun _ h => List.mem_cons_of_mem _ (List.mem_append_right _ h)
def f_X2_nodsMildly (t0 : Nat) (a1 : Int32) (σ : MM) : Option (Int32 × MM) :=
  bd (f_X2_nodsPlainly t0 a1 σ) (fun r6 σ7 => if r6 = 0 then if (a1 - a1 / (10 : Int32) * (10 : Int32)) = (σ7 t0 2) then some ((1 : Int32), σ7) else some ((0 : Int32), σ7) else some ((1 : Int32), σ7))
set_option maxRecDepth 100000 in
set_option maxHeartbeats 4000000 in
theorem e_X2_nodsMildly {l : Launch} {G : GX} {K : KX} (X : FX G K cX2_nodsMildly RX2 (some .boolean) wsX2_nodsMildly 2) {Φ : Int32 → MM → Prop} (hR : Ri G K Φ) (t0 : Nat) (a1 : Int32) (hk0 : kd t0 = 2) (σ : MM) (hf : Ok Φ (f_X2_nodsMildly t0 a1 σ)) : V l G 4 K 2 0 [(0, .ref (G.1 t0)), (1, .int a1)] [] σ := by
    unfold f_X2_nodsMildly at hf
    refine r_aload_n X dX2_nodsMildly_0 0 rfl isr_ref ?_
    refine r_iload_n X dX2_nodsMildly_1 1 rfl ?_
    refine r_callVi (rest := []) X (c_X2_nodsPlainly l G t0 a1 hk0 σ (oks hf)) md_X2_nodsPlainly gX2_nodsMildly_X2_nodsPlainly (by decide) rfl rfl (kd_in hk0 (by decide)) (EE_2 _ hk0) rfl rfl (Nat.le_of_ble_eq_true rfl) dX2_nodsMildly_2 (fun r6 σ7 e8 => ?_)
    replace hf := okn e8 hf
    refine r_if_ne (tgt := 19) X dX2_nodsMildly_5 (by decide) (fun h9 => ?_) (fun h9 => ?_)
    · replace hf := okf h9 hf
      refine r_iconst X dX2_nodsMildly_19 ci_1 ?_
      refine r_goto (tgt := 24) X dX2_nodsMildly_20 (by decide) ?_
      exact r_zret X rfl hR (by decide) (ok0 hf) dX2_nodsMildly_24
    · replace hf := okt h9 hf
      refine r_iload_n X dX2_nodsMildly_8 1 rfl ?_
      refine r_bipush X dX2_nodsMildly_9 cb_10 ?_
      refine r_irem X dX2_nodsMildly_11 (by decide) ?_
      refine r_aload_n X dX2_nodsMildly_12 0 rfl isr_ref ?_
      refine r_get (i := t0) (v := .int (σ7 t0 2)) X in_X2_nodsMildly_2 rfl 2 (by decide) (kd_in hk0 (by decide)) (EE_2 _ hk0) rfl (mem_ix 1 rfl) dX2_nodsMildly_13 ?_
      refine r_icmp_ne (tgt := 23) X dX2_nodsMildly_16 (by decide) (fun h10 => ?_) (fun h10 => ?_)
      · replace hf := okf h10 hf
        refine r_iconst X dX2_nodsMildly_23 ci_0 ?_
        exact r_zret X rfl hR (by decide) (ok0 hf) dX2_nodsMildly_24
      · replace hf := okt h10 hf
        refine r_iconst X dX2_nodsMildly_19 ci_1 ?_
        refine r_goto (tgt := 24) X dX2_nodsMildly_20 (by decide) ?_
        exact r_zret X rfl hR (by decide) (ok0 hf) dX2_nodsMildly_24
theorem md_X2_nodsMildly : MD yX2_nodsMildly wsX2_nodsMildly cX2_nodsMildly 2 1 (some .boolean) := ⟨⟨_, rfl⟩, by decide +kernel, by decide +kernel, by decide⟩
theorem c_X2_nodsMildly (l : Launch) (G : GX)  (t0 : Nat) (a1 : Int32) (hk0 : kd t0 = 2) (σ : MM) (h : (f_X2_nodsMildly t0 a1 σ).isSome = true) : CTi l G yX2_nodsMildly wsX2_nodsMildly 4 [.ref (G.1 t0), .int a1] σ (f_X2_nodsMildly t0 a1 σ) :=
  CTi_of md_X2_nodsMildly (Nat.le_of_ble_eq_true rfl) (fun K X hR => e_X2_nodsMildly X hR t0 a1 hk0 σ (ok_is h))
-- X2_nods
theorem in_X2_nods_2 : ∀ w ∈ u_ws RX2 TX2 4, w ∈ wsX2_nods := fun _ h => List.mem_cons_of_mem _ (List.mem_append_right _ h)
def f_X2_nods (t0 : Nat) (a1 : Int32) (a2 : Int32) (σ : MM) : Option (Int32 × MM) :=
  if (σ t0 1) = (1 : Int32) then bd (f_X2_nodsStrictly t0 a1 σ) (fun r38 σ39 => if r38 = 0 ∨ r38 = 1 then some (r38, σ39) else none) else if (σ t0 1) = (2 : Int32) then bd (f_X2_nodsMildly t0 a1 σ) (fun r42 σ43 => if r42 = 0 ∨ r42 = 1 then some (r42, σ43) else none) else if (σ t0 1) = (3 : Int32) then if a1 = ((7 : Int32) * (σ t0 2)) then some ((1 : Int32), σ) else some ((0 : Int32), σ) else if (σ t0 1) = (4 : Int32) then bd (f_X2_nodsStrictly t0 a1 σ) (fun r47 σ48 => if r47 = 0 then some ((0 : Int32), σ48) else if (a2 - a2 / (24 : Int32) * (24 : Int32)) < (12 : Int32) then some ((0 : Int32), σ48) else some ((1 : Int32), σ48)) else if (σ t0 1) = (5 : Int32) then bd (f_X2_nodsMildly t0 a1 σ) (fun r52 σ53 => if r52 = 0 then some ((0 : Int32), σ53) else if ((90 : Int32) - (σ53 t0 0)) ≤ a1 then some ((0 : Int32), σ53) else some ((1 : Int32), σ53)) else if (σ t0 1) = (6 : Int32) then bd (f_X2_nodsPlainly t0 a1 σ) (fun r57 σ58 => if r57 = 0 then some ((0 : Int32), σ58) else if ((σ58 t0 3) - (σ58 t0 3) / (2 : Int32) * (2 : Int32)) = 0 then some ((1 : Int32), σ58) else some ((0 : Int32), σ58)) else bd (f_X2_nodsPlainly t0 a1 σ) (fun r62 σ63 => if r62 = 0 ∨ r62 = 1 then some (r62, σ63) else none)
set_option maxRecDepth 100000 in
set_option maxHeartbeats 4000000 in
theorem e_X2_nods {l : Launch} {G : GX} {K : KX} (X : FX G K cX2_nods RX2 (some .boolean) wsX2_nods 3) {Φ : Int32 → MM → Prop} (hR : Ri G K Φ) (t0 : Nat) (a1 : Int32) (a2 : Int32) (hk0 : kd t0 = 2) (σ : MM) (hf : Ok Φ (f_X2_nods t0 a1 a2 σ)) : V l G 5 K 3 0 [(0, .ref (G.1 t0)), (1, .int a1), (2, .int a2)] [] σ := by
    unfold f_X2_nods at hf
    refine r_aload_n X dX2_nods_0 0 rfl isr_ref ?_
    refine r_get (i := t0) (v := .int (σ t0 1)) X in_X2_nods_2 rfl 1 (by decide) (kd_in hk0 (by decide)) (EE_2 _ hk0) rfl (mem_ix 1 rfl) dX2_nods_1 ?_
    by_cases h32 : (σ t0 1) = (1 : Int32)
    · replace hf := okt h32 hf
      refine r_table (off := 40) (tgt := 44) X [(1, 40), (2, 46), (3, 52), (4, 69), (5, 92), (6, 117)] 6 dX2_nods_4 (by decide) (by decide +kernel) (by decide +kernel) (by rw [h32]; rfl) (by decide) ?_
      refine r_aload_n X dX2_nods_44 0 rfl isr_ref ?_
      refine r_iload_n X dX2_nods_45 1 rfl ?_
      refine r_callVi (rest := []) X (c_X2_nodsStrictly l G t0 a1 hk0 σ (oks hf)) md_X2_nodsStrictly gX2_nods_X2_nodsStrictly (by decide) rfl rfl (kd_in hk0 (by decide)) (EE_2 _ hk0) rfl rfl (Nat.le_of_ble_eq_true rfl) dX2_nods_46 (fun r38 σ39 e40 => ?_)
      replace hf := okn e40 hf
      obtain ⟨g41, hf⟩ := okp hf
      exact r_zret X rfl hR g41 (ok0 hf) dX2_nods_49
    replace hf := okf h32 hf
    by_cases h33 : (σ t0 1) = (2 : Int32)
    · replace hf := okt h33 hf
      refine r_table (off := 46) (tgt := 50) X [(1, 40), (2, 46), (3, 52), (4, 69), (5, 92), (6, 117)] 6 dX2_nods_4 (by decide) (by decide +kernel) (by decide +kernel) (by rw [h33]; rfl) (by decide) ?_
      refine r_aload_n X dX2_nods_50 0 rfl isr_ref ?_
      refine r_iload_n X dX2_nods_51 1 rfl ?_
      refine r_callVi (rest := []) X (c_X2_nodsMildly l G t0 a1 hk0 σ (oks hf)) md_X2_nodsMildly gX2_nods_X2_nodsMildly (by decide) rfl rfl (kd_in hk0 (by decide)) (EE_2 _ hk0) rfl rfl (Nat.le_of_ble_eq_true rfl) dX2_nods_52 (fun r42 σ43 e44 => ?_)
      replace hf := okn e44 hf
      obtain ⟨g45, hf⟩ := okp hf
      exact r_zret X rfl hR g45 (ok0 hf) dX2_nods_55
    replace hf := okf h33 hf
    by_cases h34 : (σ t0 1) = (3 : Int32)
    · replace hf := okt h34 hf
      refine r_table (off := 52) (tgt := 56) X [(1, 40), (2, 46), (3, 52), (4, 69), (5, 92), (6, 117)] 6 dX2_nods_4 (by decide) (by decide +kernel) (by decide +kernel) (by rw [h34]; rfl) (by decide) ?_
      refine r_iload_n X dX2_nods_56 1 rfl ?_
      refine r_bipush X dX2_nods_57 cb_7 ?_
      refine r_aload_n X dX2_nods_59 0 rfl isr_ref ?_
      refine r_get (i := t0) (v := .int (σ t0 2)) X in_X2_nods_2 rfl 2 (by decide) (kd_in hk0 (by decide)) (EE_2 _ hk0) rfl (mem_ix 2 rfl) dX2_nods_60 ?_
      refine r_imul X dX2_nods_63 ?_
      refine r_icmp_ne (tgt := 71) X dX2_nods_64 (by decide) (fun h46 => ?_) (fun h46 => ?_)
      · replace hf := okf h46 hf
        refine r_iconst X dX2_nods_71 ci_0 ?_
        exact r_zret X rfl hR (by decide) (ok0 hf) dX2_nods_72
      · replace hf := okt h46 hf
        refine r_iconst X dX2_nods_67 ci_1 ?_
        refine r_goto (tgt := 72) X dX2_nods_68 (by decide) ?_
        exact r_zret X rfl hR (by decide) (ok0 hf) dX2_nods_72
    replace hf := okf h34 hf
    by_cases h35 : (σ t0 1) = (4 : Int32)
    · replace hf := okt h35 hf
      refine r_table (off := 69) (tgt := 73) X [(1, 40), (2, 46), (3, 52), (4, 69), (5, 92), (6, 117)] 6 dX2_nods_4 (by decide) (by decide +kernel) (by decide +kernel) (by rw [h35]; rfl) (by decide) ?_
      refine r_aload_n X dX2_nods_73 0 rfl isr_ref ?_
      refine r_iload_n X dX2_nods_74 1 rfl ?_
      refine r_callVi (rest := []) X (c_X2_nodsStrictly l G t0 a1 hk0 σ (oks hf)) md_X2_nodsStrictly gX2_nods_X2_nodsStrictly (by decide) rfl rfl (kd_in hk0 (by decide)) (EE_2 _ hk0) rfl rfl (Nat.le_of_ble_eq_true rfl) dX2_nods_75 (fun r47 σ48 e49 => ?_)
      replace hf := okn e49 hf
      refine r_if_eq (tgt := 94) X dX2_nods_78 (by decide) (fun h50 => ?_) (fun h50 => ?_)
      · replace hf := okt h50 hf
        refine r_iconst X dX2_nods_94 ci_0 ?_
        exact r_zret X rfl hR (by decide) (ok0 hf) dX2_nods_95
      · replace hf := okf h50 hf
        refine r_iload_n X dX2_nods_81 2 rfl ?_
        refine r_bipush X dX2_nods_82 cb_24 ?_
        refine r_irem X dX2_nods_84 (by decide) ?_
        refine r_bipush X dX2_nods_85 cb_12 ?_
        refine r_icmp_lt (tgt := 94) X dX2_nods_87 (by decide) (fun h51 => ?_) (fun h51 => ?_)
        · replace hf := okt h51 hf
          refine r_iconst X dX2_nods_94 ci_0 ?_
          exact r_zret X rfl hR (by decide) (ok0 hf) dX2_nods_95
        · replace hf := okf h51 hf
          refine r_iconst X dX2_nods_90 ci_1 ?_
          refine r_goto (tgt := 95) X dX2_nods_91 (by decide) ?_
          exact r_zret X rfl hR (by decide) (ok0 hf) dX2_nods_95
    replace hf := okf h35 hf
    by_cases h36 : (σ t0 1) = (5 : Int32)
    · replace hf := okt h36 hf
      refine r_table (off := 92) (tgt := 96) X [(1, 40), (2, 46), (3, 52), (4, 69), (5, 92), (6, 117)] 6 dX2_nods_4 (by decide) (by decide +kernel) (by decide +kernel) (by rw [h36]; rfl) (by decide) ?_
      refine r_aload_n X dX2_nods_96 0 rfl isr_ref ?_
      refine r_iload_n X dX2_nods_97 1 rfl ?_
      refine r_callVi (rest := []) X (c_X2_nodsMildly l G t0 a1 hk0 σ (oks hf)) md_X2_nodsMildly gX2_nods_X2_nodsMildly (by decide) rfl rfl (kd_in hk0 (by decide)) (EE_2 _ hk0) rfl rfl (Nat.le_of_ble_eq_true rfl) dX2_nods_98 (fun r52 σ53 e54 => ?_)
      replace hf := okn e54 hf
      refine r_if_eq (tgt := 119) X dX2_nods_101 (by decide) (fun h55 => ?_) (fun h55 => ?_)
      · replace hf := okt h55 hf
        refine r_iconst X dX2_nods_119 ci_0 ?_
        exact r_zret X rfl hR (by decide) (ok0 hf) dX2_nods_120
      · replace hf := okf h55 hf
        refine r_iload_n X dX2_nods_104 1 rfl ?_
        refine r_bipush X dX2_nods_105 cb_90 ?_
        refine r_aload_n X dX2_nods_107 0 rfl isr_ref ?_
        refine r_get (i := t0) (v := .int (σ53 t0 0)) X in_X2_nods_2 rfl 0 (by decide) (kd_in hk0 (by decide)) (EE_2 _ hk0) rfl (mem_ix 3 rfl) dX2_nods_108 ?_
        refine r_isub X dX2_nods_111 ?_
        refine r_icmp_ge (tgt := 119) X dX2_nods_112 (by decide) (fun h56 => ?_) (fun h56 => ?_)
        · replace hf := okt h56 hf
          refine r_iconst X dX2_nods_119 ci_0 ?_
          exact r_zret X rfl hR (by decide) (ok0 hf) dX2_nods_120
        · replace hf := okf h56 hf
          refine r_iconst X dX2_nods_115 ci_1 ?_
          refine r_goto (tgt := 120) X dX2_nods_116 (by decide) ?_
          exact r_zret X rfl hR (by decide) (ok0 hf) dX2_nods_120
    replace hf := okf h36 hf
    by_cases h37 : (σ t0 1) = (6 : Int32)
    · replace hf := okt h37 hf
      refine r_table (off := 117) (tgt := 121) X [(1, 40), (2, 46), (3, 52), (4, 69), (5, 92), (6, 117)] 6 dX2_nods_4 (by decide) (by decide +kernel) (by decide +kernel) (by rw [h37]; rfl) (by decide) ?_
      refine r_aload_n X dX2_nods_121 0 rfl isr_ref ?_
      refine r_iload_n X dX2_nods_122 1 rfl ?_
      refine r_callVi (rest := []) X (c_X2_nodsPlainly l G t0 a1 hk0 σ (oks hf)) md_X2_nodsPlainly gX2_nods_X2_nodsPlainly (by decide) rfl rfl (kd_in hk0 (by decide)) (EE_2 _ hk0) rfl rfl (Nat.le_of_ble_eq_true rfl) dX2_nods_123 (fun r57 σ58 e59 => ?_)
      replace hf := okn e59 hf
      refine r_if_eq (tgt := 142) X dX2_nods_126 (by decide) (fun h60 => ?_) (fun h60 => ?_)
      · replace hf := okt h60 hf
        refine r_iconst X dX2_nods_142 ci_0 ?_
        exact r_zret X rfl hR (by decide) (ok0 hf) dX2_nods_143
      · replace hf := okf h60 hf
        refine r_aload_n X dX2_nods_129 0 rfl isr_ref ?_
        refine r_get (i := t0) (v := .int (σ58 t0 3)) X in_X2_nods_2 rfl 3 (by decide) (kd_in hk0 (by decide)) (EE_2 _ hk0) rfl (mem_ix 4 rfl) dX2_nods_130 ?_
        refine r_iconst X dX2_nods_133 ci_2 ?_
        refine r_irem X dX2_nods_134 (by decide) ?_
        refine r_if_ne (tgt := 142) X dX2_nods_135 (by decide) (fun h61 => ?_) (fun h61 => ?_)
        · replace hf := okf h61 hf
          refine r_iconst X dX2_nods_142 ci_0 ?_
          exact r_zret X rfl hR (by decide) (ok0 hf) dX2_nods_143
        · replace hf := okt h61 hf
          refine r_iconst X dX2_nods_138 ci_1 ?_
          refine r_goto (tgt := 143) X dX2_nods_139 (by decide) ?_
          exact r_zret X rfl hR (by decide) (ok0 hf) dX2_nods_143
    replace hf := okf h37 hf
    refine r_table (off := 140) (tgt := 144) X [(1, 40), (2, 46), (3, 52), (4, 69), (5, 92), (6, 117)] 6 dX2_nods_4 (by decide) (by decide +kernel) (by decide +kernel) (lk_n h32 (by decide) (lk_n h33 (by decide) (lk_n h34 (by decide) (lk_n h35 (by decide) (lk_n h36 (by decide) (lk_n h37 (by decide) rfl)))))) (by decide) ?_
    refine r_aload_n X dX2_nods_144 0 rfl isr_ref ?_
    refine r_iload_n X dX2_nods_145 1 rfl ?_
    refine r_callVi (rest := []) X (c_X2_nodsPlainly l G t0 a1 hk0 σ (oks hf)) md_X2_nodsPlainly gX2_nods_X2_nodsPlainly (by decide) rfl rfl (kd_in hk0 (by decide)) (EE_2 _ hk0) rfl rfl (Nat.le_of_ble_eq_true rfl) dX2_nods_146 (fun r62 σ63 e64 => ?_)
    replace hf := okn e64 hf
    obtain ⟨g65, hf⟩ := okp hf
    exact r_zret X rfl hR g65 (ok0 hf) dX2_nods_149
theorem md_X2_nods : MD yX2_nods wsX2_nods cX2_nods 3 2 (some .boolean) := ⟨⟨_, rfl⟩, by decide +kernel, by decide +kernel, by decide⟩
theorem c_X2_nods (l : Launch) (G : GX)  (t0 : Nat) (a1 : Int32) (a2 : Int32) (hk0 : kd t0 = 2) (σ : MM) (h : (f_X2_nods t0 a1 a2 σ).isSome = true) : CTi l G yX2_nods wsX2_nods 5 [.ref (G.1 t0), .int a1, .int a2] σ (f_X2_nods t0 a1 a2 σ) :=
  CTi_of md_X2_nods (Nat.le_of_ble_eq_true rfl) (fun K X hR => e_X2_nods X hR t0 a1 a2 hk0 σ (ok_is h))
-- X0_isContent
theorem in_X0_isContent_0 : ∀ w ∈ u_ws RX0 TX0 12, w ∈ wsX0_isContent := fun _ h => List.mem_cons_of_mem _ (List.mem_append_left _ (List.mem_append_left _ (List.mem_append_right _ h)))
theorem in_X0_isContent_2 : ∀ w ∈ u_ws RX2 TX2 4, w ∈ wsX0_isContent := fun _ h => List.mem_cons_of_mem _ (List.mem_append_left _ (List.mem_append_right _ h))
theorem in_X0_isContent_6 : ∀ w ∈ u_ws RX6 TX6 3, w ∈ wsX0_isContent := fun _ h => List.mem_cons_of_mem _ (List.mem_append_right _ h)
def f_X0_isContent (t0 : Nat) (t1 : Nat) (a2 : Int32) (σ : MM) : Option (Int32 × MM) :=
  bd (f_X2_nods t1 a2 (σ t0 10) σ) (fun r9 σ10 => if r9 = 0 then some ((0 : Int32), σ10) else bd (f_X0_gives t0 (0 : Int32) a2 (σ10 t1 0) (σ10 t1 2) σ10) (fun r13 σ14 => if r13 = (1 : Int32) then some ((1 : Int32), σ14) else some ((0 : Int32), σ14)))
set_option maxRecDepth 100000 in
set_option maxHeartbeats 4000000 in
theorem e_X0_isContent {l : Launch} {G : GX} {K : KX} (X : FX G K cX0_isContent RX0 (some .boolean) wsX0_isContent 3) {Φ : Int32 → MM → Prop} (hR : Ri G K Φ) (t0 : Nat) (t1 : Nat) (a2 : Int32) (hk0 : kd t0 = 0) (hk1 : kd t1 = 2) (σ : MM) (hf : Ok Φ (f_X0_isContent t0 t1 a2 σ)) : V l G 6 K 3 0 [(0, .ref (G.1 t0)), (1, .ref (G.1 t1)), (2, .int a2)] [] σ := by
    unfold f_X0_isContent at hf
    refine r_aload_n X dX0_isContent_0 1 rfl isr_ref ?_
    refine r_iload_n X dX0_isContent_1 2 rfl ?_
    refine r_aload_n X dX0_isContent_2 0 rfl isr_ref ?_
    refine r_get (i := t0) (v := .int (σ t0 10)) X in_X0_isContent_0 rfl 10 (by decide) (kd_in hk0 (by decide)) (EE_0 _ hk0) rfl (mem_ix 1 rfl) dX0_isContent_3 ?_
    refine r_callVi (rest := []) X (c_X2_nods l G t1 a2 (σ t0 10) hk1 σ (oks hf)) md_X2_nods gX0_isContent_X2_nods (by decide) rfl rfl (kd_in hk1 (by decide)) (EE_2 _ hk1) rfl rfl (Nat.le_of_ble_eq_true rfl) dX0_isContent_6 (fun r9 σ10 e11 => ?_)
    replace hf := okn e11 hf
    refine r_if_eq (tgt := 34) X dX0_isContent_9 (by decide) (fun h12 => ?_) (fun h12 => ?_)
    · replace hf := okt h12 hf
      refine r_iconst X dX0_isContent_34 ci_0 ?_
      exact r_zret X rfl hR (by decide) (ok0 hf) dX0_isContent_35
    · replace hf := okf h12 hf
      refine r_aload_n X dX0_isContent_12 0 rfl isr_ref ?_
      refine r_iconst X dX0_isContent_13 ci_0 ?_
      refine r_iload_n X dX0_isContent_14 2 rfl ?_
      refine r_aload_n X dX0_isContent_15 1 rfl isr_ref ?_
      refine r_get (i := t1) (v := .int (σ10 t1 0)) X in_X0_isContent_2 rfl 0 (by decide) (kd_in hk1 (by decide)) (EE_2 _ hk1) rfl (mem_ix 2 rfl) dX0_isContent_16 ?_
      refine r_aload_n X dX0_isContent_19 1 rfl isr_ref ?_
      refine r_get (i := t1) (v := .int (σ10 t1 2)) X in_X0_isContent_2 rfl 2 (by decide) (kd_in hk1 (by decide)) (EE_2 _ hk1) rfl (mem_ix 3 rfl) dX0_isContent_20 ?_
      refine r_callVi (rest := []) X (c_X0_gives l G t0 (0 : Int32) a2 (σ10 t1 0) (σ10 t1 2) hk0 σ10 (oks hf)) md_X0_gives gX0_isContent_X0_gives (by decide) rfl rfl (kd_in hk0 (by decide)) (EE_0 _ hk0) rfl rfl (Nat.le_of_ble_eq_true rfl) dX0_isContent_23 (fun r13 σ14 e15 => ?_)
      replace hf := okn e15 hf
      refine r_iconst X dX0_isContent_26 ci_1 ?_
      refine r_icmp_ne (tgt := 34) X dX0_isContent_27 (by decide) (fun h16 => ?_) (fun h16 => ?_)
      · replace hf := okf h16 hf
        refine r_iconst X dX0_isContent_34 ci_0 ?_
        exact r_zret X rfl hR (by decide) (ok0 hf) dX0_isContent_35
      · replace hf := okt h16 hf
        refine r_iconst X dX0_isContent_30 ci_1 ?_
        refine r_goto (tgt := 35) X dX0_isContent_31 (by decide) ?_
        exact r_zret X rfl hR (by decide) (ok0 hf) dX0_isContent_35
theorem md_X0_isContent : MD yX0_isContent wsX0_isContent cX0_isContent 3 2 (some .boolean) := ⟨⟨_, rfl⟩, by decide +kernel, by decide +kernel, by decide⟩
theorem c_X0_isContent (l : Launch) (G : GX)  (t0 : Nat) (t1 : Nat) (a2 : Int32) (hk0 : kd t0 = 0) (hk1 : kd t1 = 2) (σ : MM) (h : (f_X0_isContent t0 t1 a2 σ).isSome = true) : CTi l G yX0_isContent wsX0_isContent 6 [.ref (G.1 t0), .ref (G.1 t1), .int a2] σ (f_X0_isContent t0 t1 a2 σ) :=
  CTi_of md_X0_isContent (Nat.le_of_ble_eq_true rfl) (fun K X hR => e_X0_isContent X hR t0 t1 a2 hk0 hk1 σ (ok_is h))
-- X2_wants
theorem in_X2_wants_2 : ∀ w ∈ u_ws RX2 TX2 4, w ∈ wsX2_wants := fun _ h => List.mem_cons_of_mem _ (List.mem_append_right _ h)
def f_X2_wants (t0 : Nat) (σ : MM) : Option (Int32 × MM) :=
  lt ((10 : Int32) + ((σ t0 3) - (σ t0 3) / (10 : Int32) * (10 : Int32))) (fun y9 => if (σ t0 1) = (1 : Int32) then some ((y9 + (σ t0 2)), σ) else if (σ t0 1) = (2 : Int32) then some ((y9 / (2 : Int32)), σ) else if (σ t0 1) = (3 : Int32) then some ((y9 * (2 : Int32)), σ) else if (σ t0 1) = (4 : Int32) then some (((y9 + (σ t0 2)) + (σ t0 0)), σ) else if (σ t0 1) = (5 : Int32) then some (((y9 / (2 : Int32)) - (1 : Int32)), σ) else if (σ t0 1) = (6 : Int32) then some ((0 : Int32), σ) else some (y9, σ))
set_option maxRecDepth 100000 in
set_option maxHeartbeats 4000000 in
theorem e_X2_wants {l : Launch} {G : GX} {K : KX} (X : FX G K cX2_wants RX2 (some .int) wsX2_wants 2) {Φ : Int32 → MM → Prop} (hR : Ri G K Φ) (t0 : Nat) (hk0 : kd t0 = 2) (σ : MM) (hf : Ok Φ (f_X2_wants t0 σ)) : V l G 3 K 2 0 [(0, .ref (G.1 t0))] [] σ := by
    unfold f_X2_wants at hf
    refine r_bipush X dX2_wants_0 cb_10 ?_
    refine r_aload_n X dX2_wants_2 0 rfl isr_ref ?_
    refine r_get (i := t0) (v := .int (σ t0 3)) X in_X2_wants_2 rfl 3 (by decide) (kd_in hk0 (by decide)) (EE_2 _ hk0) rfl (mem_ix 1 rfl) dX2_wants_3 ?_
    refine r_bipush X dX2_wants_6 cb_10 ?_
    refine r_irem X dX2_wants_8 (by decide) ?_
    refine r_iadd X dX2_wants_9 ?_
    obtain ⟨y9, e10, hf⟩ := okl hf
    refine r_topi e10 ?_
    refine r_istore_n X dX2_wants_10 (i := 1) rfl (by decide) (lv' := [(1, .int y9), (0, .ref (G.1 t0))]) rfl ?_
    refine r_aload_n X dX2_wants_11 1 rfl isr_ref ?_
    refine r_get (i := t0) (v := .int (σ t0 1)) X in_X2_wants_2 rfl 1 (by decide) (kd_in hk0 (by decide)) (EE_2 _ hk0) rfl (mem_ix 2 rfl) dX2_wants_12 ?_
    by_cases h11 : (σ t0 1) = (1 : Int32)
    · replace hf := okt h11 hf
      refine r_table (off := 37) (tgt := 52) X [(1, 37), (2, 44), (3, 48), (4, 52), (5, 64), (6, 70)] 6 dX2_wants_15 (by decide) (by decide +kernel) (by decide +kernel) (by rw [h11]; rfl) (by decide) ?_
      refine r_iload_n X dX2_wants_52 0 rfl ?_
      refine r_aload_n X dX2_wants_53 1 rfl isr_ref ?_
      refine r_get (i := t0) (v := .int (σ t0 2)) X in_X2_wants_2 rfl 2 (by decide) (kd_in hk0 (by decide)) (EE_2 _ hk0) rfl (mem_ix 3 rfl) dX2_wants_54 ?_
      refine r_iadd X dX2_wants_57 ?_
      exact r_iret X rfl hR (ok0 hf) dX2_wants_58
    replace hf := okf h11 hf
    by_cases h12 : (σ t0 1) = (2 : Int32)
    · replace hf := okt h12 hf
      refine r_table (off := 44) (tgt := 59) X [(1, 37), (2, 44), (3, 48), (4, 52), (5, 64), (6, 70)] 6 dX2_wants_15 (by decide) (by decide +kernel) (by decide +kernel) (by rw [h12]; rfl) (by decide) ?_
      refine r_iload_n X dX2_wants_59 0 rfl ?_
      refine r_iconst X dX2_wants_60 ci_2 ?_
      refine r_idiv X dX2_wants_61 (by decide) ?_
      exact r_iret X rfl hR (ok0 hf) dX2_wants_62
    replace hf := okf h12 hf
    by_cases h13 : (σ t0 1) = (3 : Int32)
    · replace hf := okt h13 hf
      refine r_table (off := 48) (tgt := 63) X [(1, 37), (2, 44), (3, 48), (4, 52), (5, 64), (6, 70)] 6 dX2_wants_15 (by decide) (by decide +kernel) (by decide +kernel) (by rw [h13]; rfl) (by decide) ?_
      refine r_iload_n X dX2_wants_63 0 rfl ?_
      refine r_iconst X dX2_wants_64 ci_2 ?_
      refine r_imul X dX2_wants_65 ?_
      exact r_iret X rfl hR (ok0 hf) dX2_wants_66
    replace hf := okf h13 hf
    by_cases h14 : (σ t0 1) = (4 : Int32)
    · replace hf := okt h14 hf
      refine r_table (off := 52) (tgt := 67) X [(1, 37), (2, 44), (3, 48), (4, 52), (5, 64), (6, 70)] 6 dX2_wants_15 (by decide) (by decide +kernel) (by decide +kernel) (by rw [h14]; rfl) (by decide) ?_
      refine r_iload_n X dX2_wants_67 0 rfl ?_
      refine r_aload_n X dX2_wants_68 1 rfl isr_ref ?_
      refine r_get (i := t0) (v := .int (σ t0 2)) X in_X2_wants_2 rfl 2 (by decide) (kd_in hk0 (by decide)) (EE_2 _ hk0) rfl (mem_ix 3 rfl) dX2_wants_69 ?_
      refine r_iadd X dX2_wants_72 ?_
      refine r_aload_n X dX2_wants_73 1 rfl isr_ref ?_
      refine r_get (i := t0) (v := .int (σ t0 0)) X in_X2_wants_2 rfl 0 (by decide) (kd_in hk0 (by decide)) (EE_2 _ hk0) rfl (mem_ix 4 rfl) dX2_wants_74 ?_
      refine r_iadd X dX2_wants_77 ?_
      exact r_iret X rfl hR (ok0 hf) dX2_wants_78
    replace hf := okf h14 hf
    by_cases h15 : (σ t0 1) = (5 : Int32)
    · replace hf := okt h15 hf
      refine r_table (off := 64) (tgt := 79) X [(1, 37), (2, 44), (3, 48), (4, 52), (5, 64), (6, 70)] 6 dX2_wants_15 (by decide) (by decide +kernel) (by decide +kernel) (by rw [h15]; rfl) (by decide) ?_
      refine r_iload_n X dX2_wants_79 0 rfl ?_
      refine r_iconst X dX2_wants_80 ci_2 ?_
      refine r_idiv X dX2_wants_81 (by decide) ?_
      refine r_iconst X dX2_wants_82 ci_1 ?_
      refine r_isub X dX2_wants_83 ?_
      exact r_iret X rfl hR (ok0 hf) dX2_wants_84
    replace hf := okf h15 hf
    by_cases h16 : (σ t0 1) = (6 : Int32)
    · replace hf := okt h16 hf
      refine r_table (off := 70) (tgt := 85) X [(1, 37), (2, 44), (3, 48), (4, 52), (5, 64), (6, 70)] 6 dX2_wants_15 (by decide) (by decide +kernel) (by decide +kernel) (by rw [h16]; rfl) (by decide) ?_
      refine r_iconst X dX2_wants_85 ci_0 ?_
      exact r_iret X rfl hR (ok0 hf) dX2_wants_86
    replace hf := okf h16 hf
    refine r_table (off := 72) (tgt := 87) X [(1, 37), (2, 44), (3, 48), (4, 52), (5, 64), (6, 70)] 6 dX2_wants_15 (by decide) (by decide +kernel) (by decide +kernel) (lk_n h11 (by decide) (lk_n h12 (by decide) (lk_n h13 (by decide) (lk_n h14 (by decide) (lk_n h15 (by decide) (lk_n h16 (by decide) rfl)))))) (by decide) ?_
    refine r_iload_n X dX2_wants_87 0 rfl ?_
    exact r_iret X rfl hR (ok0 hf) dX2_wants_88
theorem md_X2_wants : MD yX2_wants wsX2_wants cX2_wants 2 0 (some .int) := ⟨⟨_, rfl⟩, by decide +kernel, by decide +kernel, by decide⟩
theorem c_X2_wants (l : Launch) (G : GX)  (t0 : Nat) (hk0 : kd t0 = 2) (σ : MM) (h : (f_X2_wants t0 σ).isSome = true) : CTi l G yX2_wants wsX2_wants 3 [.ref (G.1 t0)] σ (f_X2_wants t0 σ) :=
  CTi_of md_X2_wants (Nat.le_of_ble_eq_true rfl) (fun K X hR => e_X2_wants X hR t0 hk0 σ (ok_is h))
-- X0_bribeOf
theorem in_X0_bribeOf_2 : ∀ w ∈ u_ws RX2 TX2 4, w ∈ wsX0_bribeOf := fun _ h => List.mem_cons_of_mem _ (List.mem_append_left _ (List.mem_append_left _ (List.mem_append_right _ h)))
theorem in_X0_bribeOf_0 : ∀ w ∈ u_ws RX0 TX0 12, w ∈ wsX0_bribeOf := fun _ h => List.mem_cons_of_mem _ (List.mem_append_left _ (List.mem_append_right _ h))
theorem in_X0_bribeOf_6 : ∀ w ∈ u_ws RX6 TX6 3, w ∈ wsX0_bribeOf := fun _ h => List.mem_cons_of_mem _ (List.mem_append_right _ h)
def f_X0_bribeOf (t0 : Nat) (t1 : Nat) (σ : MM) : Option (Int32 × MM) :=
  bd (f_X2_wants t1 σ) (fun r7 σ8 => bd (f_X0_gives t0 (1 : Int32) r7 (σ8 t1 0) (σ8 t1 1) σ8) (fun r10 σ11 => some (r10, σ11)))
set_option maxRecDepth 100000 in
set_option maxHeartbeats 4000000 in
theorem e_X0_bribeOf {l : Launch} {G : GX} {K : KX} (X : FX G K cX0_bribeOf RX0 (some .int) wsX0_bribeOf 2) {Φ : Int32 → MM → Prop} (hR : Ri G K Φ) (t0 : Nat) (t1 : Nat) (hk0 : kd t0 = 0) (hk1 : kd t1 = 2) (σ : MM) (hf : Ok Φ (f_X0_bribeOf t0 t1 σ)) : V l G 6 K 2 0 [(0, .ref (G.1 t0)), (1, .ref (G.1 t1))] [] σ := by
    unfold f_X0_bribeOf at hf
    refine r_aload_n X dX0_bribeOf_0 0 rfl isr_ref ?_
    refine r_iconst X dX0_bribeOf_1 ci_1 ?_
    refine r_aload_n X dX0_bribeOf_2 1 rfl isr_ref ?_
    refine r_callVi (rest := [.int (1 : Int32), .ref (G.1 t0)]) X (c_X2_wants l G t1 hk1 σ (oks hf)) md_X2_wants gX0_bribeOf_X2_wants (by decide) rfl rfl (kd_in hk1 (by decide)) (EE_2 _ hk1) rfl rfl (Nat.le_of_ble_eq_true rfl) dX0_bribeOf_3 (fun r7 σ8 e9 => ?_)
    replace hf := okn e9 hf
    refine r_aload_n X dX0_bribeOf_6 1 rfl isr_ref ?_
    refine r_get (i := t1) (v := .int (σ8 t1 0)) X in_X0_bribeOf_2 rfl 0 (by decide) (kd_in hk1 (by decide)) (EE_2 _ hk1) rfl (mem_ix 1 rfl) dX0_bribeOf_7 ?_
    refine r_aload_n X dX0_bribeOf_10 1 rfl isr_ref ?_
    refine r_get (i := t1) (v := .int (σ8 t1 1)) X in_X0_bribeOf_2 rfl 1 (by decide) (kd_in hk1 (by decide)) (EE_2 _ hk1) rfl (mem_ix 2 rfl) dX0_bribeOf_11 ?_
    refine r_callVi (rest := []) X (c_X0_gives l G t0 (1 : Int32) r7 (σ8 t1 0) (σ8 t1 1) hk0 σ8 (oks hf)) md_X0_gives gX0_bribeOf_X0_gives (by decide) rfl rfl (kd_in hk0 (by decide)) (EE_0 _ hk0) rfl rfl (Nat.le_of_ble_eq_true rfl) dX0_bribeOf_14 (fun r10 σ11 e12 => ?_)
    replace hf := okn e12 hf
    exact r_iret X rfl hR (ok0 hf) dX0_bribeOf_17
theorem md_X0_bribeOf : MD yX0_bribeOf wsX0_bribeOf cX0_bribeOf 2 1 (some .int) := ⟨⟨_, rfl⟩, by decide +kernel, by decide +kernel, by decide⟩
theorem c_X0_bribeOf (l : Launch) (G : GX)  (t0 : Nat) (t1 : Nat) (hk0 : kd t0 = 0) (hk1 : kd t1 = 2) (σ : MM) (h : (f_X0_bribeOf t0 t1 σ).isSome = true) : CTi l G yX0_bribeOf wsX0_bribeOf 6 [.ref (G.1 t0), .ref (G.1 t1)] σ (f_X0_bribeOf t0 t1 σ) :=
  CTi_of md_X0_bribeOf (Nat.le_of_ble_eq_true rfl) (fun K X hR => e_X0_bribeOf X hR t0 t1 hk0 hk1 σ (ok_is h))
-- X0_contentWords
theorem in_X0_contentWords_0 : ∀ w ∈ u_ws RX0 TX0 12, w ∈ wsX0_contentWords := fun _ h => List.mem_cons_of_mem _ (List.mem_append_left _ (List.mem_append_left _ (List.mem_append_right _ h)))
theorem in_X0_contentWords_2 : ∀ w ∈ u_ws RX2 TX2 4, w ∈ wsX0_contentWords := fun _ h => List.mem_cons_of_mem _ (List.mem_append_left _ (List.mem_append_right _ h))
theorem in_X0_contentWords_6 : ∀ w ∈ u_ws RX6 TX6 3, w ∈ wsX0_contentWords := fun _ h => List.mem_cons_of_mem _ (List.mem_append_right _ h)
def u_X0_contentWords_4 (k4 : Nat → Nat → Int32 → Int32 → MM → Option (Int32 × MM)) (t0 : Nat) (t1 : Nat) (v2 : Int32) (v3 : Int32) (σ : MM) : Option (Int32 × MM) :=
  if (100 : Int32) ≤ v3 then some (v2, σ) else bd (f_X0_isContent t0 t1 v3 σ) (fun r7 σ8 => if r7 = 0 then k4 t0 t1 v2 (v3 + (1 : Int32)) σ8 else k4 t0 t1 (v2 + (1 : Int32)) (v3 + (1 : Int32)) σ8)
def l_X0_contentWords_4 (t0 : Nat) (t1 : Nat) (v2 : Int32) (v3 : Int32) (σ : MM) : Option (Int32 × MM) :=
  itr (fun _ _ _ _ _ => none) (u_X0_contentWords_4) FU t0 t1 v2 v3 σ
def f_X0_contentWords (t0 : Nat) (t1 : Nat) (σ : MM) : Option (Int32 × MM) :=
  l_X0_contentWords_4 t0 t1 (0 : Int32) (0 : Int32) σ
set_option maxRecDepth 100000 in
set_option maxHeartbeats 4000000 in
theorem t_X0_contentWords_4 {l : Launch} {G : GX} {K : KX} (X : FX G K cX0_contentWords RX0 (some .int) wsX0_contentWords 4) {Φ : Int32 → MM → Prop} (hR : Ri G K Φ) (k4 : Nat → Nat → Int32 → Int32 → MM → Option (Int32 × MM)) (hk4c : ∀ (t0 : Nat) (t1 : Nat) (v2 : Int32) (v3 : Int32) (hk0 : kd t0 = 0) (hk1 : kd t1 = 2) (σ : MM), Ok Φ (k4 t0 t1 v2 v3 σ) → V l G 7 K 4 4 [(0, .ref (G.1 t0)), (1, .ref (G.1 t1)), (2, .int v2), (3, .int v3)] [] σ) (t0 : Nat) (t1 : Nat) (v2 : Int32) (v3 : Int32) (hk0 : kd t0 = 0) (hk1 : kd t1 = 2) (σ : MM) (hf : Ok Φ (u_X0_contentWords_4 k4 t0 t1 v2 v3 σ)) : V l G 7 K 4 4 [(0, .ref (G.1 t0)), (1, .ref (G.1 t1)), (2, .int v2), (3, .int v3)] [] σ := by
    unfold u_X0_contentWords_4 at hf
    refine r_iload_n X dX0_contentWords_4 3 rfl ?_
    refine r_bipush X dX0_contentWords_5 cb_100 ?_
    refine r_icmp_ge (tgt := 28) X dX0_contentWords_7 (by decide) (fun h6 => ?_) (fun h6 => ?_)
    · replace hf := okt h6 hf
      refine r_iload_n X dX0_contentWords_28 2 rfl ?_
      exact r_iret X rfl hR (ok0 hf) dX0_contentWords_29
    · replace hf := okf h6 hf
      refine r_aload_n X dX0_contentWords_10 0 rfl isr_ref ?_
      refine r_aload_n X dX0_contentWords_11 1 rfl isr_ref ?_
      refine r_iload_n X dX0_contentWords_12 3 rfl ?_
      refine r_callVi (rest := []) X (c_X0_isContent l G t0 t1 v3 hk0 hk1 σ (oks hf)) md_X0_isContent gX0_contentWords_X0_isContent (by decide) rfl rfl (kd_in hk0 (by decide)) (EE_0 _ hk0) rfl rfl (Nat.le_of_ble_eq_true rfl) dX0_contentWords_13 (fun r7 σ8 e9 => ?_)
      replace hf := okn e9 hf
      refine r_if_eq (tgt := 22) X dX0_contentWords_16 (by decide) (fun h10 => ?_) (fun h10 => ?_)
      · replace hf := okt h10 hf
        refine r_iinc (v := (v3 + (1 : Int32))) X dX0_contentWords_22 3 rfl (congrArg _ ci_1) (by decide) (lv' := [(3, .int (v3 + (1 : Int32))), (0, .ref (G.1 t0)), (1, .ref (G.1 t1)), (2, .int v2)]) rfl ?_
        refine r_goto (tgt := 4) X dX0_contentWords_25 (by decide) ?_
        refine r_sub [1, 2, 3, 0] rfl ?_
        exact hk4c t0 t1 v2 (v3 + (1 : Int32)) hk0 hk1 σ8 hf
      · replace hf := okf h10 hf
        refine r_iinc (v := (v2 + (1 : Int32))) X dX0_contentWords_19 2 rfl (congrArg _ ci_1) (by decide) (lv' := [(2, .int (v2 + (1 : Int32))), (0, .ref (G.1 t0)), (1, .ref (G.1 t1)), (3, .int v3)]) rfl ?_
        refine r_iinc (v := (v3 + (1 : Int32))) X dX0_contentWords_22 3 rfl (congrArg _ ci_1) (by decide) (lv' := [(3, .int (v3 + (1 : Int32))), (2, .int (v2 + (1 : Int32))), (0, .ref (G.1 t0)), (1, .ref (G.1 t1))]) rfl ?_
        refine r_goto (tgt := 4) X dX0_contentWords_25 (by decide) ?_
        refine r_sub [2, 3, 1, 0] rfl ?_
        exact hk4c t0 t1 (v2 + (1 : Int32)) (v3 + (1 : Int32)) hk0 hk1 σ8 hf
theorem tl_X0_contentWords_4 {l : Launch} {G : GX} {K : KX} (X : FX G K cX0_contentWords RX0 (some .int) wsX0_contentWords 4) {Φ : Int32 → MM → Prop} (hR : Ri G K Φ) : ∀ (m : Nat) (t0 : Nat) (t1 : Nat) (v2 : Int32) (v3 : Int32) (hk0 : kd t0 = 0) (hk1 : kd t1 = 2) (σ : MM), Ok Φ (itr (fun _ _ _ _ _ => none) (u_X0_contentWords_4) m t0 t1 v2 v3 σ) → V l G 7 K 4 4 [(0, .ref (G.1 t0)), (1, .ref (G.1 t1)), (2, .int v2), (3, .int v3)] [] σ := by
  intro m
  induction m with
  | zero => intro t0 t1 v2 v3 hk0 hk1 σ hf; exact (okx hf).elim
  | succ m ih => intro t0 t1 v2 v3 hk0 hk1 σ hf; exact t_X0_contentWords_4 X hR _ ih t0 t1 v2 v3 hk0 hk1 σ hf
set_option maxRecDepth 100000 in
set_option maxHeartbeats 4000000 in
theorem e_X0_contentWords {l : Launch} {G : GX} {K : KX} (X : FX G K cX0_contentWords RX0 (some .int) wsX0_contentWords 4) {Φ : Int32 → MM → Prop} (hR : Ri G K Φ) (t0 : Nat) (t1 : Nat) (hk0 : kd t0 = 0) (hk1 : kd t1 = 2) (σ : MM) (hf : Ok Φ (f_X0_contentWords t0 t1 σ)) : V l G 7 K 4 0 [(0, .ref (G.1 t0)), (1, .ref (G.1 t1))] [] σ := by
    unfold f_X0_contentWords at hf
    refine r_iconst X dX0_contentWords_0 ci_0 ?_
    refine r_istore_n X dX0_contentWords_1 (i := 2) rfl (by decide) (lv' := [(2, .int (0 : Int32)), (0, .ref (G.1 t0)), (1, .ref (G.1 t1))]) rfl ?_
    refine r_iconst X dX0_contentWords_2 ci_0 ?_
    refine r_istore_n X dX0_contentWords_3 (i := 3) rfl (by decide) (lv' := [(3, .int (0 : Int32)), (2, .int (0 : Int32)), (0, .ref (G.1 t0)), (1, .ref (G.1 t1))]) rfl ?_
    refine r_sub [2, 3, 1, 0] rfl ?_
    exact tl_X0_contentWords_4 X hR FU t0 t1 (0 : Int32) (0 : Int32) hk0 hk1 σ hf
theorem md_X0_contentWords : MD yX0_contentWords wsX0_contentWords cX0_contentWords 4 1 (some .int) := ⟨⟨_, rfl⟩, by decide +kernel, by decide +kernel, by decide⟩
theorem c_X0_contentWords (l : Launch) (G : GX)  (t0 : Nat) (t1 : Nat) (hk0 : kd t0 = 0) (hk1 : kd t1 = 2) (σ : MM) (h : (f_X0_contentWords t0 t1 σ).isSome = true) : CTi l G yX0_contentWords wsX0_contentWords 7 [.ref (G.1 t0), .ref (G.1 t1)] σ (f_X0_contentWords t0 t1 σ) :=
  CTi_of md_X0_contentWords (Nat.le_of_ble_eq_true rfl) (fun K X hR => e_X0_contentWords X hR t0 t1 hk0 hk1 σ (ok_is h))
-- X0_leastContent
theorem in_X0_leastContent_0 : ∀ w ∈ u_ws RX0 TX0 12, w ∈ wsX0_leastContent := fun _ h => List.mem_cons_of_mem _ (List.mem_append_left _ (List.mem_append_left _ (List.mem_append_right _ h)))
theorem in_X0_leastContent_2 : ∀ w ∈ u_ws RX2 TX2 4, w ∈ wsX0_leastContent := fun _ h => List.mem_cons_of_mem _ (List.mem_append_left _ (List.mem_append_right _ h))
theorem in_X0_leastContent_6 : ∀ w ∈ u_ws RX6 TX6 3, w ∈ wsX0_leastContent := fun _ h => List.mem_cons_of_mem _ (List.mem_append_right _ h)
def u_X0_leastContent_2 (k2 : Nat → Nat → Int32 → MM → Option (Int32 × MM)) (t0 : Nat) (t1 : Nat) (v2 : Int32) (σ : MM) : Option (Int32 × MM) :=
  if (100 : Int32) ≤ v2 then some ((-1 : Int32), σ) else bd (f_X0_isContent t0 t1 v2 σ) (fun r7 σ8 => if r7 = 0 then k2 t0 t1 (v2 + (1 : Int32)) σ8 else some (v2, σ8))
def l_X0_leastContent_2 (t0 : Nat) (t1 : Nat) (v2 : Int32) (σ : MM) : Option (Int32 × MM) :=
  itr (fun _ _ _ _ => none) (u_X0_leastContent_2) FU t0 t1 v2 σ
def f_X0_leastContent (t0 : Nat) (t1 : Nat) (σ : MM) : Option (Int32 × MM) :=
  l_X0_leastContent_2 t0 t1 (0 : Int32) σ
set_option maxRecDepth 100000 in
set_option maxHeartbeats 4000000 in
theorem t_X0_leastContent_2 {l : Launch} {G : GX} {K : KX} (X : FX G K cX0_leastContent RX0 (some .int) wsX0_leastContent 3) {Φ : Int32 → MM → Prop} (hR : Ri G K Φ) (k2 : Nat → Nat → Int32 → MM → Option (Int32 × MM)) (hk2c : ∀ (t0 : Nat) (t1 : Nat) (v2 : Int32) (hk0 : kd t0 = 0) (hk1 : kd t1 = 2) (σ : MM), Ok Φ (k2 t0 t1 v2 σ) → V l G 7 K 3 2 [(0, .ref (G.1 t0)), (1, .ref (G.1 t1)), (2, .int v2)] [] σ) (t0 : Nat) (t1 : Nat) (v2 : Int32) (hk0 : kd t0 = 0) (hk1 : kd t1 = 2) (σ : MM) (hf : Ok Φ (u_X0_leastContent_2 k2 t0 t1 v2 σ)) : V l G 7 K 3 2 [(0, .ref (G.1 t0)), (1, .ref (G.1 t1)), (2, .int v2)] [] σ := by
    unfold u_X0_leastContent_2 at hf
    refine r_iload_n X dX0_leastContent_2 2 rfl ?_
    refine r_bipush X dX0_leastContent_3 cb_100 ?_
    refine r_icmp_ge (tgt := 25) X dX0_leastContent_5 (by decide) (fun h6 => ?_) (fun h6 => ?_)
    · replace hf := okt h6 hf
      refine r_iconst X dX0_leastContent_25 ci_m1 ?_
      exact r_iret X rfl hR (ok0 hf) dX0_leastContent_26
    · replace hf := okf h6 hf
      refine r_aload_n X dX0_leastContent_8 0 rfl isr_ref ?_
      refine r_aload_n X dX0_leastContent_9 1 rfl isr_ref ?_
      refine r_iload_n X dX0_leastContent_10 2 rfl ?_
      refine r_callVi (rest := []) X (c_X0_isContent l G t0 t1 v2 hk0 hk1 σ (oks hf)) md_X0_isContent gX0_leastContent_X0_isContent (by decide) rfl rfl (kd_in hk0 (by decide)) (EE_0 _ hk0) rfl rfl (Nat.le_of_ble_eq_true rfl) dX0_leastContent_11 (fun r7 σ8 e9 => ?_)
      replace hf := okn e9 hf
      refine r_if_eq (tgt := 19) X dX0_leastContent_14 (by decide) (fun h10 => ?_) (fun h10 => ?_)
      · replace hf := okt h10 hf
        refine r_iinc (v := (v2 + (1 : Int32))) X dX0_leastContent_19 2 rfl (congrArg _ ci_1) (by decide) (lv' := [(2, .int (v2 + (1 : Int32))), (0, .ref (G.1 t0)), (1, .ref (G.1 t1))]) rfl ?_
        refine r_goto (tgt := 2) X dX0_leastContent_22 (by decide) ?_
        refine r_sub [1, 2, 0] rfl ?_
        exact hk2c t0 t1 (v2 + (1 : Int32)) hk0 hk1 σ8 hf
      · replace hf := okf h10 hf
        refine r_iload_n X dX0_leastContent_17 2 rfl ?_
        exact r_iret X rfl hR (ok0 hf) dX0_leastContent_18
theorem tl_X0_leastContent_2 {l : Launch} {G : GX} {K : KX} (X : FX G K cX0_leastContent RX0 (some .int) wsX0_leastContent 3) {Φ : Int32 → MM → Prop} (hR : Ri G K Φ) : ∀ (m : Nat) (t0 : Nat) (t1 : Nat) (v2 : Int32) (hk0 : kd t0 = 0) (hk1 : kd t1 = 2) (σ : MM), Ok Φ (itr (fun _ _ _ _ => none) (u_X0_leastContent_2) m t0 t1 v2 σ) → V l G 7 K 3 2 [(0, .ref (G.1 t0)), (1, .ref (G.1 t1)), (2, .int v2)] [] σ := by
  intro m
  induction m with
  | zero => intro t0 t1 v2 hk0 hk1 σ hf; exact (okx hf).elim
  | succ m ih => intro t0 t1 v2 hk0 hk1 σ hf; exact t_X0_leastContent_2 X hR _ ih t0 t1 v2 hk0 hk1 σ hf
set_option maxRecDepth 100000 in
set_option maxHeartbeats 4000000 in
theorem e_X0_leastContent {l : Launch} {G : GX} {K : KX} (X : FX G K cX0_leastContent RX0 (some .int) wsX0_leastContent 3) {Φ : Int32 → MM → Prop} (hR : Ri G K Φ) (t0 : Nat) (t1 : Nat) (hk0 : kd t0 = 0) (hk1 : kd t1 = 2) (σ : MM) (hf : Ok Φ (f_X0_leastContent t0 t1 σ)) : V l G 7 K 3 0 [(0, .ref (G.1 t0)), (1, .ref (G.1 t1))] [] σ := by
    unfold f_X0_leastContent at hf
    refine r_iconst X dX0_leastContent_0 ci_0 ?_
    refine r_istore_n X dX0_leastContent_1 (i := 2) rfl (by decide) (lv' := [(2, .int (0 : Int32)), (0, .ref (G.1 t0)), (1, .ref (G.1 t1))]) rfl ?_
    refine r_sub [1, 2, 0] rfl ?_
    exact tl_X0_leastContent_2 X hR FU t0 t1 (0 : Int32) hk0 hk1 σ hf
theorem md_X0_leastContent : MD yX0_leastContent wsX0_leastContent cX0_leastContent 3 1 (some .int) := ⟨⟨_, rfl⟩, by decide +kernel, by decide +kernel, by decide⟩
theorem c_X0_leastContent (l : Launch) (G : GX)  (t0 : Nat) (t1 : Nat) (hk0 : kd t0 = 0) (hk1 : kd t1 = 2) (σ : MM) (h : (f_X0_leastContent t0 t1 σ).isSome = true) : CTi l G yX0_leastContent wsX0_leastContent 7 [.ref (G.1 t0), .ref (G.1 t1)] σ (f_X0_leastContent t0 t1 σ) :=
  CTi_of md_X0_leastContent (Nat.le_of_ble_eq_true rfl) (fun K X hR => e_X0_leastContent X hR t0 t1 hk0 hk1 σ (ok_is h))
-- X0_hear
theorem in_X0_hear_3 : ∀ w ∈ u_ws RX3 TX3 4, w ∈ wsX0_hear := fun _ h => List.mem_cons_of_mem _ (List.mem_append_left _ (List.mem_append_left _ (List.mem_append_left _ (List.mem_append_right _ h))))
theorem in_X0_hear_2 : ∀ w ∈ u_ws RX2 TX2 4, w ∈ wsX0_hear := fun _ h => List.mem_cons_of_mem _ (List.mem_append_left _ (List.mem_append_left _ (List.mem_append_right _ h)))
theorem in_X0_hear_0 : ∀ w ∈ u_ws RX0 TX0 12, w ∈ wsX0_hear := fun _ h => List.mem_cons_of_mem _ (List.mem_append_left _ (List.mem_append_right _ h))
theorem in_X0_hear_6 : ∀ w ∈ u_ws RX6 TX6 3, w ∈ wsX0_hear := fun _ h => List.mem_cons_of_mem _ (List.mem_append_right _ h)
def u_X0_hear_49 (t1 : Nat) (v4 : Int32) (σ : MM) : Option (Int32 × MM) :=
  lt (mu σ t1 1 ((σ t1 1) - (1 : Int32))) (fun σ34 => if v4 = 0 then lt (mu σ34 t1 0 (if (0 : Int32) < ((σ34 t1 0) - (2 : Int32)) then ((σ34 t1 0) - (2 : Int32)) else (0 : Int32))) (fun σ37 => lt (mu σ37 t1 3 (if ((σ37 t1 3) + (1 : Int32)) < (9999 : Int32) then ((σ37 t1 3) + (1 : Int32)) else (9999 : Int32))) (fun σ39 => if v4 = 0 ∨ v4 = 1 then some (v4, σ39) else none)) else lt (mu σ34 t1 0 ((σ34 t1 0) + (1 : Int32))) (fun σ42 => if v4 = 0 ∨ v4 = 1 then some (v4, σ42) else none))
def u_X0_hear_27 (t1 : Nat) (o3 : Option Nat) (vs0 : Int32) (σ : MM) : Option (Int32 × MM) :=
  onO o3 (u_X0_hear_49 t1 vs0 σ) (fun i32 => lt (mu σ i32 3 (if ((σ i32 3) + (1 : Int32)) < (9999 : Int32) then ((σ i32 3) + (1 : Int32)) else (9999 : Int32))) (fun σ45 => u_X0_hear_49 t1 vs0 σ45))
def f_X0_hear (t0 : Nat) (t1 : Nat) (a2 : Int32) (σ : MM) : Option (Int32 × MM) :=
  bd (f_X0_judgeOn t0 (σ t1 0) σ) (fun r27 σ28 => onO r27 (u_X0_hear_27 t1 none (0 : Int32) σ28) (fun i30 => if kd i30 = 2 then bd (f_X0_isContent t0 i30 a2 σ28) (fun r47 σ48 => if r47 = 0 then u_X0_hear_27 t1 (some i30) (0 : Int32) σ48 else u_X0_hear_27 t1 (some i30) (1 : Int32) σ48) else none))
set_option maxRecDepth 100000 in
set_option maxHeartbeats 4000000 in
theorem t_X0_hear_49 {l : Launch} {G : GX} {K : KX} (X : FX G K cX0_hear RX0 (some .boolean) wsX0_hear 5) {Φ : Int32 → MM → Prop} (hR : Ri G K Φ) (t1 : Nat) (v4 : Int32) (hk1 : kd t1 = 3) (σ : MM) (hf : Ok Φ (u_X0_hear_49 t1 v4 σ)) : V l G 7 K 5 49 [(1, .ref (G.1 t1)), (4, .int v4)] [] σ := by
    unfold u_X0_hear_49 at hf
    refine r_aload_n X dX0_hear_49 0 rfl isr_ref ?_
    refine r_dup X dX0_hear_50 rfl ?_
    refine r_get (i := t1) (v := .int (σ t1 1)) X in_X0_hear_3 rfl 1 (by decide) (kd_in hk1 (by decide)) (EE_3 _ hk1) rfl (mem_ix 7 rfl) dX0_hear_51 ?_
    refine r_iconst X dX0_hear_54 ci_1 ?_
    refine r_isub X dX0_hear_55 ?_
    obtain ⟨σ34, e35, hf⟩ := okl hf
    refine r_put (i := t1) (f := upd (σ t1) 1 ((σ t1 1) - (1 : Int32))) X in_X0_hear_3 tyX3 tyX3_ok nmX3 rfl 1 (by decide) (kd_in hk1 (by decide)) (EE_3 _ hk1) (EU_3_1 _ _ hk1) rfl (mem_ix 7 rfl) rfl rfl rfl rfl dX0_hear_56 ?_
    refine r_sg e35 ?_
    refine r_iload X dX0_hear_59 1 rfl ?_
    refine r_if_eq (tgt := 77) X dX0_hear_61 (by decide) (fun h36 => ?_) (fun h36 => ?_)
    · replace hf := okt h36 hf
      refine r_aload_n X dX0_hear_77 0 rfl isr_ref ?_
      refine r_iconst X dX0_hear_78 ci_0 ?_
      refine r_aload_n X dX0_hear_79 0 rfl isr_ref ?_
      refine r_get (i := t1) (v := .int (σ34 t1 0)) X in_X0_hear_3 rfl 0 (by decide) (kd_in hk1 (by decide)) (EE_3 _ hk1) rfl (mem_ix 1 rfl) dX0_hear_80 ?_
      refine r_iconst X dX0_hear_83 ci_2 ?_
      refine r_isub X dX0_hear_84 ?_
      refine r_mmax X (mem_ix 8 rfl) (mem_ix 9 rfl) (mem_ix 5 rfl) (mem_ix 10 rfl) (Nat.le_of_ble_eq_true rfl) (by decide) dX0_hear_85 ?_
      obtain ⟨σ37, e38, hf⟩ := okl hf
      refine r_put (i := t1) (f := upd (σ34 t1) 0 (if (0 : Int32) < ((σ34 t1 0) - (2 : Int32)) then ((σ34 t1 0) - (2 : Int32)) else (0 : Int32))) X in_X0_hear_3 tyX3 tyX3_ok nmX3 rfl 0 (by decide) (kd_in hk1 (by decide)) (EE_3 _ hk1) (EU_3_0 _ _ hk1) rfl (mem_ix 1 rfl) rfl rfl rfl rfl dX0_hear_88 ?_
      refine r_sg e38 ?_
      refine r_aload_n X dX0_hear_91 0 rfl isr_ref ?_
      refine r_sipush X dX0_hear_92 cs_9999 ?_
      refine r_aload_n X dX0_hear_95 0 rfl isr_ref ?_
      refine r_get (i := t1) (v := .int (σ37 t1 3)) X in_X0_hear_3 rfl 3 (by decide) (kd_in hk1 (by decide)) (EE_3 _ hk1) rfl (mem_ix 11 rfl) dX0_hear_96 ?_
      refine r_iconst X dX0_hear_99 ci_1 ?_
      refine r_iadd X dX0_hear_100 ?_
      refine r_mmin X (mem_ix 3 rfl) (mem_ix 4 rfl) (mem_ix 5 rfl) (mem_ix 6 rfl) (Nat.le_of_ble_eq_true rfl) (by decide) dX0_hear_101 ?_
      obtain ⟨σ39, e40, hf⟩ := okl hf
      refine r_put (i := t1) (f := upd (σ37 t1) 3 (if ((σ37 t1 3) + (1 : Int32)) < (9999 : Int32) then ((σ37 t1 3) + (1 : Int32)) else (9999 : Int32))) X in_X0_hear_3 tyX3 tyX3_ok nmX3 rfl 3 (by decide) (kd_in hk1 (by decide)) (EE_3 _ hk1) (EU_3_3 _ _ hk1) rfl (mem_ix 11 rfl) rfl rfl rfl rfl dX0_hear_104 ?_
      refine r_sg e40 ?_
      refine r_iload X dX0_hear_107 1 rfl ?_
      obtain ⟨g41, hf⟩ := okp hf
      exact r_zret X rfl hR g41 (ok0 hf) dX0_hear_109
    · replace hf := okf h36 hf
      refine r_aload_n X dX0_hear_64 0 rfl isr_ref ?_
      refine r_dup X dX0_hear_65 rfl ?_
      refine r_get (i := t1) (v := .int (σ34 t1 0)) X in_X0_hear_3 rfl 0 (by decide) (kd_in hk1 (by decide)) (EE_3 _ hk1) rfl (mem_ix 1 rfl) dX0_hear_66 ?_
      refine r_iconst X dX0_hear_69 ci_1 ?_
      refine r_iadd X dX0_hear_70 ?_
      obtain ⟨σ42, e43, hf⟩ := okl hf
      refine r_put (i := t1) (f := upd (σ34 t1) 0 ((σ34 t1 0) + (1 : Int32))) X in_X0_hear_3 tyX3 tyX3_ok nmX3 rfl 0 (by decide) (kd_in hk1 (by decide)) (EE_3 _ hk1) (EU_3_0 _ _ hk1) rfl (mem_ix 1 rfl) rfl rfl rfl rfl dX0_hear_71 ?_
      refine r_sg e43 ?_
      refine r_goto (tgt := 107) X dX0_hear_74 (by decide) ?_
      refine r_iload X dX0_hear_107 1 rfl ?_
      obtain ⟨g44, hf⟩ := okp hf
      exact r_zret X rfl hR g44 (ok0 hf) dX0_hear_109
set_option maxRecDepth 100000 in
set_option maxHeartbeats 4000000 in
theorem t_X0_hear_27 {l : Launch} {G : GX} {K : KX} (X : FX G K cX0_hear RX0 (some .boolean) wsX0_hear 5) {Φ : Int32 → MM → Prop} (hR : Ri G K Φ) (t1 : Nat) (o3 : Option Nat) (vs0 : Int32) (hk1 : kd t1 = 3) (hk3 : ∀ i, o3 = some i → kd i = 2) (σ : MM) (hf : Ok Φ (u_X0_hear_27 t1 o3 vs0 σ)) : V l G 7 K 5 27 [(1, .ref (G.1 t1)), (3, va_re G.1 o3)] [.int vs0] σ := by
    unfold u_X0_hear_27 at hf
    rcases o3 with _ | i32
    · replace hf := okz hf
      refine r_istore X dX0_hear_27 (by decide) (lv' := [(4, .int vs0), (1, .ref (G.1 t1)), (3, .null)]) rfl ?_
      refine r_aload_n X dX0_hear_29 2 rfl isr_null ?_
      refine r_ifnullN (tgt := 49) X dX0_hear_30 (by decide) ?_
      refine r_sub [1, 0] rfl ?_
      exact t_X0_hear_49 X hR t1 vs0 hk1 σ hf
    · replace hf := oky hf
      have hi33 := hk3 i32 rfl
      refine r_istore X dX0_hear_27 (by decide) (lv' := [(4, .int vs0), (1, .ref (G.1 t1)), (3, .ref (G.1 i32))]) rfl ?_
      refine r_aload_n X dX0_hear_29 2 rfl isr_ref ?_
      refine r_ifnull X dX0_hear_30 ?_
      refine r_aload_n X dX0_hear_33 2 rfl isr_ref ?_
      refine r_sipush X dX0_hear_34 cs_9999 ?_
      refine r_aload_n X dX0_hear_37 2 rfl isr_ref ?_
      refine r_get (i := i32) (v := .int (σ i32 3)) X in_X0_hear_2 rfl 3 (by decide) (kd_in hi33 (by decide)) (EE_2 _ hi33) rfl (mem_ix 2 rfl) dX0_hear_38 ?_
      refine r_iconst X dX0_hear_41 ci_1 ?_
      refine r_iadd X dX0_hear_42 ?_
      refine r_mmin X (mem_ix 3 rfl) (mem_ix 4 rfl) (mem_ix 5 rfl) (mem_ix 6 rfl) (Nat.le_of_ble_eq_true rfl) (by decide) dX0_hear_43 ?_
      obtain ⟨σ45, e46, hf⟩ := okl hf
      refine r_put (i := i32) (f := upd (σ i32) 3 (if ((σ i32 3) + (1 : Int32)) < (9999 : Int32) then ((σ i32 3) + (1 : Int32)) else (9999 : Int32))) X in_X0_hear_2 tyX2 tyX2_ok nmX2 rfl 3 (by decide) (kd_in hi33 (by decide)) (EE_2 _ hi33) (EU_2_3 _ _ hi33) rfl (mem_ix 2 rfl) rfl rfl rfl rfl dX0_hear_46 ?_
      refine r_sg e46 ?_
      refine r_sub [1, 0] rfl ?_
      exact t_X0_hear_49 X hR t1 vs0 hk1 σ45 hf
set_option maxRecDepth 100000 in
set_option maxHeartbeats 4000000 in
theorem e_X0_hear {l : Launch} {G : GX} {K : KX} (X : FX G K cX0_hear RX0 (some .boolean) wsX0_hear 5) {Φ : Int32 → MM → Prop} (hR : Ri G K Φ) (t0 : Nat) (t1 : Nat) (a2 : Int32) (hk0 : kd t0 = 0) (hk1 : kd t1 = 3) (σ : MM) (hf : Ok Φ (f_X0_hear t0 t1 a2 σ)) : V l G 7 K 5 0 [(0, .ref (G.1 t0)), (1, .ref (G.1 t1)), (2, .int a2)] [] σ := by
    unfold f_X0_hear at hf
    refine r_aload_n X dX0_hear_0 0 rfl isr_ref ?_
    refine r_aload_n X dX0_hear_1 1 rfl isr_ref ?_
    refine r_get (i := t1) (v := .int (σ t1 0)) X in_X0_hear_3 rfl 0 (by decide) (kd_in hk1 (by decide)) (EE_3 _ hk1) rfl (mem_ix 1 rfl) dX0_hear_2 ?_
    refine r_callVq (rest := []) X (c_X0_judgeOn l G t0 (σ t1 0) hk0 σ (oks hf)) md_X0_judgeOn gX0_hear_X0_judgeOn (by decide) rfl rfl (kd_in hk0 (by decide)) (EE_0 _ hk0) rfl rfl (Nat.le_of_ble_eq_true rfl) dX0_hear_5 (fun r27 σ28 e29 => ?_)
    replace hf := okn e29 hf
    rcases r27 with _ | i30
    · replace hf := okz hf
      refine r_astore_n X dX0_hear_8 (i := 3) rfl (by decide) isr_null (lv' := [(3, .null), (0, .ref (G.1 t0)), (1, .ref (G.1 t1)), (2, .int a2)]) rfl ?_
      refine r_aload_n X dX0_hear_9 0 rfl isr_null ?_
      refine r_ifnullN (tgt := 26) X dX0_hear_10 (by decide) ?_
      refine r_iconst X dX0_hear_26 ci_0 ?_
      refine r_sub [2, 0] rfl ?_
      exact t_X0_hear_27 X hR t1 none (0 : Int32) hk1 (fun _ q => by cases q) σ28 hf
    · replace hf := oky hf
      obtain ⟨hi31, hf⟩ := okp hf
      refine r_astore_n X dX0_hear_8 (i := 3) rfl (by decide) isr_ref (lv' := [(3, .ref (G.1 i30)), (0, .ref (G.1 t0)), (1, .ref (G.1 t1)), (2, .int a2)]) rfl ?_
      refine r_aload_n X dX0_hear_9 0 rfl isr_ref ?_
      refine r_ifnull X dX0_hear_10 ?_
      refine r_aload_n X dX0_hear_13 1 rfl isr_ref ?_
      refine r_aload_n X dX0_hear_14 0 rfl isr_ref ?_
      refine r_iload_n X dX0_hear_15 3 rfl ?_
      refine r_callVi (rest := []) X (c_X0_isContent l G t0 i30 a2 hk0 hi31 σ28 (oks hf)) md_X0_isContent gX0_hear_X0_isContent (by decide) rfl rfl (kd_in hk0 (by decide)) (EE_0 _ hk0) rfl rfl (Nat.le_of_ble_eq_true rfl) dX0_hear_16 (fun r47 σ48 e49 => ?_)
      replace hf := okn e49 hf
      refine r_if_eq (tgt := 26) X dX0_hear_19 (by decide) (fun h50 => ?_) (fun h50 => ?_)
      · replace hf := okt h50 hf
        refine r_iconst X dX0_hear_26 ci_0 ?_
        refine r_sub [2, 0] rfl ?_
        exact t_X0_hear_27 X hR t1 (some i30) (0 : Int32) hk1 (kso hi31) σ48 hf
      · replace hf := okf h50 hf
        refine r_iconst X dX0_hear_22 ci_1 ?_
        refine r_goto (tgt := 27) X dX0_hear_23 (by decide) ?_
        refine r_sub [2, 0] rfl ?_
        exact t_X0_hear_27 X hR t1 (some i30) (1 : Int32) hk1 (kso hi31) σ48 hf
theorem md_X0_hear : MD yX0_hear wsX0_hear cX0_hear 5 2 (some .boolean) := ⟨⟨_, rfl⟩, by decide +kernel, by decide +kernel, by decide⟩
theorem c_X0_hear (l : Launch) (G : GX)  (t0 : Nat) (t1 : Nat) (a2 : Int32) (hk0 : kd t0 = 0) (hk1 : kd t1 = 3) (σ : MM) (h : (f_X0_hear t0 t1 a2 σ).isSome = true) : CTi l G yX0_hear wsX0_hear 7 [.ref (G.1 t0), .ref (G.1 t1), .int a2] σ (f_X0_hear t0 t1 a2 σ) :=
  CTi_of md_X0_hear (Nat.le_of_ble_eq_true rfl) (fun K X hR => e_X0_hear X hR t0 t1 a2 hk0 hk1 σ (ok_is h))
-- X0_passHour
theorem in_X0_passHour_0 : ∀ w ∈ u_ws RX0 TX0 12, w ∈ wsX0_passHour := fun _ h => List.mem_cons_of_mem _ (List.mem_append_left _ (List.mem_append_right _ h))
theorem in_X0_passHour_3 : ∀ w ∈ u_ws RX3 TX3 4, w ∈ wsX0_passHour := fun _ h => List.mem_cons_of_mem _ (List.mem_append_right _ h)
def u_X0_passHour_57 (t0 : Nat) (σ : MM) : Option (Unit × MM) :=
  lt (mu σ t0 10 ((σ t0 10) + (1 : Int32))) (fun σ10 => some ((), σ10))
def u_X0_passHour_2 (k2 : Nat → Int32 → MM → Option (Unit × MM)) (t0 : Nat) (v1 : Int32) (σ : MM) : Option (Unit × MM) :=
  if (σ t0 3) ≤ v1 then u_X0_passHour_57 t0 σ else if (5 : Int32) ≤ v1 then u_X0_passHour_57 t0 σ else if v1 < 0 ∨ 5 ≤ v1.toNatClampNeg then none else if ((σ ((t0 + 2) + 29 + v1.toNatClampNeg) 0) - (σ ((t0 + 2) + 29 + v1.toNatClampNeg) 0) / (5 : Int32) * (5 : Int32)) = 0 then lt (mu σ ((t0 + 2) + 29 + v1.toNatClampNeg) 1 (if ((σ ((t0 + 2) + 29 + v1.toNatClampNeg) 1) + (1 : Int32)) < (999 : Int32) then ((σ ((t0 + 2) + 29 + v1.toNatClampNeg) 1) + (1 : Int32)) else (999 : Int32))) (fun σ15 => k2 t0 (v1 + (1 : Int32)) σ15) else k2 t0 (v1 + (1 : Int32)) σ
def l_X0_passHour_2 (t0 : Nat) (v1 : Int32) (σ : MM) : Option (Unit × MM) :=
  itr (fun _ _ _ => none) (u_X0_passHour_2) FU t0 v1 σ
def f_X0_passHour (t0 : Nat) (σ : MM) : Option (Unit × MM) :=
  l_X0_passHour_2 t0 (0 : Int32) σ
set_option maxRecDepth 100000 in
set_option maxHeartbeats 4000000 in
theorem t_X0_passHour_57 {l : Launch} {G : GX} {K : KX} (X : FX G K cX0_passHour RX0 (none) wsX0_passHour 3) {Φ : Unit → MM → Prop} (hR : Rv G K Φ) (t0 : Nat) (hk0 : kd t0 = 0) (σ : MM) (hf : Ok Φ (u_X0_passHour_57 t0 σ)) : V l G 3 K 3 57 [(0, .ref (G.1 t0))] [] σ := by
    unfold u_X0_passHour_57 at hf
    refine r_aload_n X dX0_passHour_57 0 rfl isr_ref ?_
    refine r_dup X dX0_passHour_58 rfl ?_
    refine r_get (i := t0) (v := .int (σ t0 10)) X in_X0_passHour_0 rfl 10 (by decide) (kd_in hk0 (by decide)) (EE_0 _ hk0) rfl (mem_ix 9 rfl) dX0_passHour_59 ?_
    refine r_iconst X dX0_passHour_62 ci_1 ?_
    refine r_iadd X dX0_passHour_63 ?_
    obtain ⟨σ10, e11, hf⟩ := okl hf
    refine r_put (i := t0) (f := upd (σ t0) 10 ((σ t0 10) + (1 : Int32))) X in_X0_passHour_0 tyX0 tyX0_ok nmX0 rfl 10 (by decide) (kd_in hk0 (by decide)) (EE_0 _ hk0) (EU_0_10 _ _ hk0) rfl (mem_ix 9 rfl) rfl rfl rfl rfl dX0_passHour_64 ?_
    refine r_sg e11 ?_
    exact r_vret X rfl hR (ok0 hf) dX0_passHour_67
set_option maxRecDepth 100000 in
set_option maxHeartbeats 4000000 in
theorem t_X0_passHour_2 {l : Launch} {G : GX} {K : KX} (X : FX G K cX0_passHour RX0 (none) wsX0_passHour 3) {Φ : Unit → MM → Prop} (hR : Rv G K Φ) (k2 : Nat → Int32 → MM → Option (Unit × MM)) (hk2c : ∀ (t0 : Nat) (v1 : Int32) (hk0 : kd t0 = 0) (σ : MM), Ok Φ (k2 t0 v1 σ) → V l G 3 K 3 2 [(0, .ref (G.1 t0)), (1, .int v1)] [] σ) (t0 : Nat) (v1 : Int32) (hk0 : kd t0 = 0) (σ : MM) (hf : Ok Φ (u_X0_passHour_2 k2 t0 v1 σ)) : V l G 3 K 3 2 [(0, .ref (G.1 t0)), (1, .int v1)] [] σ := by
    unfold u_X0_passHour_2 at hf
    refine r_iload_n X dX0_passHour_2 1 rfl ?_
    refine r_aload_n X dX0_passHour_3 0 rfl isr_ref ?_
    refine r_get (i := t0) (v := .int (σ t0 3)) X in_X0_passHour_0 rfl 3 (by decide) (kd_in hk0 (by decide)) (EE_0 _ hk0) rfl (mem_ix 1 rfl) dX0_passHour_4 ?_
    refine r_icmp_ge (tgt := 57) X dX0_passHour_7 (by decide) (fun h9 => ?_) (fun h9 => ?_)
    · replace hf := okt h9 hf
      refine r_sub [0] rfl ?_
      exact t_X0_passHour_57 X hR t0 hk0 σ hf
    · replace hf := okf h9 hf
      refine r_iload_n X dX0_passHour_10 1 rfl ?_
      refine r_aload_n X dX0_passHour_11 0 rfl isr_ref ?_
      refine r_get (i := t0) (v := .ref (G.1 (t0 + 2))) X in_X0_passHour_0 rfl 2 (by decide) (kd_in hk0 (by decide)) (EE_0 _ hk0) rfl (mem_ix 2 rfl) dX0_passHour_12 ?_
      refine r_alen (i := (t0 + 2)) (t := 2) (v := (5 : Int32)) X (kd_in (kf_0_2 hk0) (by decide)) (EE_31 _ (kf_0_2 hk0)) rfl (by decide) dX0_passHour_15 ?_
      refine r_icmp_ge (tgt := 57) X dX0_passHour_16 (by decide) (fun h12 => ?_) (fun h12 => ?_)
      · replace hf := okt h12 hf
        refine r_sub [0] rfl ?_
        exact t_X0_passHour_57 X hR t0 hk0 σ hf
      · replace hf := okf h12 hf
        refine r_aload_n X dX0_passHour_19 0 rfl isr_ref ?_
        refine r_get (i := t0) (v := .ref (G.1 (t0 + 2))) X in_X0_passHour_0 rfl 2 (by decide) (kd_in hk0 (by decide)) (EE_0 _ hk0) rfl (mem_ix 2 rfl) dX0_passHour_20 ?_
        refine r_iload_n X dX0_passHour_23 1 rfl ?_
        obtain ⟨g13, hf⟩ := okg hf
        refine r_aald (i := (t0 + 2)) (t := 2) (d := 29) (jn := v1.toNatClampNeg) X (kd_in (kf_0_2 hk0) (by decide)) (EE_31 _ (kf_0_2 hk0)) rfl rfl g13 dX0_passHour_24 ?_
        refine r_astore_n X dX0_passHour_25 (i := 2) rfl (by decide) isr_ref (lv' := [(2, .ref (G.1 ((t0 + 2) + 29 + v1.toNatClampNeg))), (0, .ref (G.1 t0)), (1, .int v1)]) rfl ?_
        refine r_aload_n X dX0_passHour_26 0 rfl isr_ref ?_
        refine r_get (i := ((t0 + 2) + 29 + v1.toNatClampNeg)) (v := .int (σ ((t0 + 2) + 29 + v1.toNatClampNeg) 0)) X in_X0_passHour_3 rfl 0 (by decide) (kd_in (ke_31 (kf_0_2 hk0) (inr_lt g13)) (by decide)) (EE_3 _ (ke_31 (kf_0_2 hk0) (inr_lt g13))) rfl (mem_ix 3 rfl) dX0_passHour_27 ?_
        refine r_iconst X dX0_passHour_30 ci_5 ?_
        refine r_irem X dX0_passHour_31 (by decide) ?_
        refine r_if_ne (tgt := 51) X dX0_passHour_32 (by decide) (fun h14 => ?_) (fun h14 => ?_)
        · replace hf := okf h14 hf
          refine r_iinc (v := (v1 + (1 : Int32))) X dX0_passHour_51 2 rfl (congrArg _ ci_1) (by decide) (lv' := [(1, .int (v1 + (1 : Int32))), (2, .ref (G.1 ((t0 + 2) + 29 + v1.toNatClampNeg))), (0, .ref (G.1 t0))]) rfl ?_
          refine r_goto (tgt := 2) X dX0_passHour_54 (by decide) ?_
          refine r_sub [2, 0] rfl ?_
          exact hk2c t0 (v1 + (1 : Int32)) hk0 σ hf
        · replace hf := okt h14 hf
          refine r_aload_n X dX0_passHour_35 0 rfl isr_ref ?_
          refine r_sipush X dX0_passHour_36 cs_999 ?_
          refine r_aload_n X dX0_passHour_39 0 rfl isr_ref ?_
          refine r_get (i := ((t0 + 2) + 29 + v1.toNatClampNeg)) (v := .int (σ ((t0 + 2) + 29 + v1.toNatClampNeg) 1)) X in_X0_passHour_3 rfl 1 (by decide) (kd_in (ke_31 (kf_0_2 hk0) (inr_lt g13)) (by decide)) (EE_3 _ (ke_31 (kf_0_2 hk0) (inr_lt g13))) rfl (mem_ix 4 rfl) dX0_passHour_40 ?_
          refine r_iconst X dX0_passHour_43 ci_1 ?_
          refine r_iadd X dX0_passHour_44 ?_
          refine r_mmin X (mem_ix 5 rfl) (mem_ix 6 rfl) (mem_ix 7 rfl) (mem_ix 8 rfl) (Nat.le_of_ble_eq_true rfl) (by decide) dX0_passHour_45 ?_
          obtain ⟨σ15, e16, hf⟩ := okl hf
          refine r_put (i := ((t0 + 2) + 29 + v1.toNatClampNeg)) (f := upd (σ ((t0 + 2) + 29 + v1.toNatClampNeg)) 1 (if ((σ ((t0 + 2) + 29 + v1.toNatClampNeg) 1) + (1 : Int32)) < (999 : Int32) then ((σ ((t0 + 2) + 29 + v1.toNatClampNeg) 1) + (1 : Int32)) else (999 : Int32))) X in_X0_passHour_3 tyX3 tyX3_ok nmX3 rfl 1 (by decide) (kd_in (ke_31 (kf_0_2 hk0) (inr_lt g13)) (by decide)) (EE_3 _ (ke_31 (kf_0_2 hk0) (inr_lt g13))) (EU_3_1 _ _ (ke_31 (kf_0_2 hk0) (inr_lt g13))) rfl (mem_ix 4 rfl) rfl rfl rfl rfl dX0_passHour_48 ?_
          refine r_sg e16 ?_
          refine r_iinc (v := (v1 + (1 : Int32))) X dX0_passHour_51 2 rfl (congrArg _ ci_1) (by decide) (lv' := [(1, .int (v1 + (1 : Int32))), (2, .ref (G.1 ((t0 + 2) + 29 + v1.toNatClampNeg))), (0, .ref (G.1 t0))]) rfl ?_
          refine r_goto (tgt := 2) X dX0_passHour_54 (by decide) ?_
          refine r_sub [2, 0] rfl ?_
          exact hk2c t0 (v1 + (1 : Int32)) hk0 σ15 hf
theorem tl_X0_passHour_2 {l : Launch} {G : GX} {K : KX} (X : FX G K cX0_passHour RX0 (none) wsX0_passHour 3) {Φ : Unit → MM → Prop} (hR : Rv G K Φ) : ∀ (m : Nat) (t0 : Nat) (v1 : Int32) (hk0 : kd t0 = 0) (σ : MM), Ok Φ (itr (fun _ _ _ => none) (u_X0_passHour_2) m t0 v1 σ) → V l G 3 K 3 2 [(0, .ref (G.1 t0)), (1, .int v1)] [] σ := by
  intro m
  induction m with
  | zero => intro t0 v1 hk0 σ hf; exact (okx hf).elim
  | succ m ih => intro t0 v1 hk0 σ hf; exact t_X0_passHour_2 X hR _ ih t0 v1 hk0 σ hf
set_option maxRecDepth 100000 in
set_option maxHeartbeats 4000000 in
theorem e_X0_passHour {l : Launch} {G : GX} {K : KX} (X : FX G K cX0_passHour RX0 (none) wsX0_passHour 3) {Φ : Unit → MM → Prop} (hR : Rv G K Φ) (t0 : Nat) (hk0 : kd t0 = 0) (σ : MM) (hf : Ok Φ (f_X0_passHour t0 σ)) : V l G 3 K 3 0 [(0, .ref (G.1 t0))] [] σ := by
    unfold f_X0_passHour at hf
    refine r_iconst X dX0_passHour_0 ci_0 ?_
    refine r_istore_n X dX0_passHour_1 (i := 1) rfl (by decide) (lv' := [(1, .int (0 : Int32)), (0, .ref (G.1 t0))]) rfl ?_
    refine r_sub [1, 0] rfl ?_
    exact tl_X0_passHour_2 X hR FU t0 (0 : Int32) hk0 σ hf
theorem md_X0_passHour : MD yX0_passHour wsX0_passHour cX0_passHour 3 0 (none) := ⟨⟨_, rfl⟩, by decide +kernel, by decide +kernel, by decide⟩
theorem c_X0_passHour (l : Launch) (G : GX)  (t0 : Nat) (hk0 : kd t0 = 0) (σ : MM) (h : (f_X0_passHour t0 σ).isSome = true) : CTv l G yX0_passHour wsX0_passHour 3 [.ref (G.1 t0)] σ (f_X0_passHour t0 σ) :=
  CTv_of md_X0_passHour (Nat.le_of_ble_eq_true rfl) (fun K X hR => e_X0_passHour X hR t0 hk0 σ (ok_is h))
-- X0_draw
theorem in_X0_draw_0 : ∀ w ∈ u_ws RX0 TX0 12, w ∈ wsX0_draw := fun _ h => List.mem_cons_of_mem _ (List.mem_append_right _ h)
def f_X0_draw (t0 : Nat) (σ : MM) : Option (Int32 × MM) :=
  lt (mu σ t0 11 (((σ t0 11) * (1103515245 : Int32)) + (12345 : Int32))) (fun σ3 => some ((((σ3 t0 11).toUInt32 >>> ((8 : Int32).toUInt32 &&& Int32.toUInt32 31)).toInt32), σ3))
set_option maxRecDepth 100000 in
set_option maxHeartbeats 4000000 in
theorem e_X0_draw {l : Launch} {G : GX} {K : KX} (X : FX G K cX0_draw RX0 (some .int) wsX0_draw 1) {Φ : Int32 → MM → Prop} (hR : Ri G K Φ) (t0 : Nat) (hk0 : kd t0 = 0) (σ : MM) (hf : Ok Φ (f_X0_draw t0 σ)) : V l G 3 K 1 0 [(0, .ref (G.1 t0))] [] σ := by
    unfold f_X0_draw at hf
    refine r_aload_n X dX0_draw_0 0 rfl isr_ref ?_
    refine r_aload_n X dX0_draw_1 0 rfl isr_ref ?_
    refine r_get (i := t0) (v := .int (σ t0 11)) X in_X0_draw_0 rfl 11 (by decide) (kd_in hk0 (by decide)) (EE_0 _ hk0) rfl (mem_ix 1 rfl) dX0_draw_2 ?_
    refine r_ldc (v := (1103515245 : Int32)) X (mem_ix 2 rfl) dX0_draw_5 ?_
    refine r_imul X dX0_draw_7 ?_
    refine r_sipush X dX0_draw_8 cs_12345 ?_
    refine r_iadd X dX0_draw_11 ?_
    obtain ⟨σ3, e4, hf⟩ := okl hf
    refine r_put (i := t0) (f := upd (σ t0) 11 (((σ t0 11) * (1103515245 : Int32)) + (12345 : Int32))) X in_X0_draw_0 tyX0 tyX0_ok nmX0 rfl 11 (by decide) (kd_in hk0 (by decide)) (EE_0 _ hk0) (EU_0_11 _ _ hk0) rfl (mem_ix 1 rfl) rfl rfl rfl rfl dX0_draw_12 ?_
    refine r_sg e4 ?_
    refine r_aload_n X dX0_draw_15 0 rfl isr_ref ?_
    refine r_get (i := t0) (v := .int (σ3 t0 11)) X in_X0_draw_0 rfl 11 (by decide) (kd_in hk0 (by decide)) (EE_0 _ hk0) rfl (mem_ix 1 rfl) dX0_draw_16 ?_
    refine r_bipush X dX0_draw_19 cb_8 ?_
    refine r_iushr X dX0_draw_21 ?_
    exact r_iret X rfl hR (ok0 hf) dX0_draw_22
theorem md_X0_draw : MD yX0_draw wsX0_draw cX0_draw 1 0 (some .int) := ⟨⟨_, rfl⟩, by decide +kernel, by decide +kernel, by decide⟩
theorem c_X0_draw (l : Launch) (G : GX)  (t0 : Nat) (hk0 : kd t0 = 0) (σ : MM) (h : (f_X0_draw t0 σ).isSome = true) : CTi l G yX0_draw wsX0_draw 3 [.ref (G.1 t0)] σ (f_X0_draw t0 σ) :=
  CTi_of md_X0_draw (Nat.le_of_ble_eq_true rfl) (fun K X hR => e_X0_draw X hR t0 hk0 σ (ok_is h))
-- X0_passHourByDraws
theorem in_X0_passHourByDraws_0 : ∀ w ∈ u_ws RX0 TX0 12, w ∈ wsX0_passHourByDraws := fun _ h => List.mem_cons_of_mem _ (List.mem_append_left _ (List.mem_append_left _ (List.mem_append_left _ (List.mem_append_right _ h))))
theorem in_X0_passHourByDraws_3 : ∀ w ∈ u_ws RX3 TX3 4, w ∈ wsX0_passHourByDraws := fun _ h => List.mem_cons_of_mem _ (List.mem_append_left _ (List.mem_append_left _ (List.mem_append_right _ h)))
theorem in_X0_passHourByDraws_2 : ∀ w ∈ u_ws RX2 TX2 4, w ∈ wsX0_passHourByDraws := fun _ h => List.mem_cons_of_mem _ (List.mem_append_left _ (List.mem_append_right _ h))
theorem in_X0_passHourByDraws_6 : ∀ w ∈ u_ws RX6 TX6 3, w ∈ wsX0_passHourByDraws := fun _ h => List.mem_cons_of_mem _ (List.mem_append_right _ h)
def u_X0_passHourByDraws_60 (t0 : Nat) (v1 : Int32) (σ : MM) : Option (Int32 × MM) :=
  bd (f_X0_passHour t0 σ) (fun r19 σ20 => some (v1, σ20))
def u_X0_passHourByDraws_4 (k4 : Nat → Int32 → Int32 → MM → Option (Int32 × MM)) (t0 : Nat) (v1 : Int32) (v2 : Int32) (σ : MM) : Option (Int32 × MM) :=
  if (σ t0 3) ≤ v2 then u_X0_passHourByDraws_60 t0 v1 σ else if (5 : Int32) ≤ v2 then u_X0_passHourByDraws_60 t0 v1 σ else if v2 < 0 ∨ 5 ≤ v2.toNatClampNeg then none else bd (f_X0_canGo t0 ((t0 + 2) + 29 + v2.toNatClampNeg) σ) (fun r24 σ25 => if r24 = 0 then k4 t0 v1 (v2 + (1 : Int32)) σ25 else bd (f_X0_draw t0 σ25) (fun r28 σ29 => bd (f_X0_hear t0 ((t0 + 2) + 29 + v2.toNatClampNeg) (r28 - r28 / (100 : Int32) * (100 : Int32)) σ29) (fun r31 σ32 => if r31 = 0 then k4 t0 (v1 + (1 : Int32)) (v2 + (1 : Int32)) σ32 else k4 t0 v1 (v2 + (1 : Int32)) σ32)))
def l_X0_passHourByDraws_4 (t0 : Nat) (v1 : Int32) (v2 : Int32) (σ : MM) : Option (Int32 × MM) :=
  itr (fun _ _ _ _ => none) (u_X0_passHourByDraws_4) FU t0 v1 v2 σ
def f_X0_passHourByDraws (t0 : Nat) (σ : MM) : Option (Int32 × MM) :=
  l_X0_passHourByDraws_4 t0 (0 : Int32) (0 : Int32) σ
set_option maxRecDepth 100000 in
set_option maxHeartbeats 4000000 in
theorem t_X0_passHourByDraws_60 {l : Launch} {G : GX} {K : KX} (X : FX G K cX0_passHourByDraws RX0 (some .int) wsX0_passHourByDraws 4) {Φ : Int32 → MM → Prop} (hR : Ri G K Φ) (t0 : Nat) (v1 : Int32) (hk0 : kd t0 = 0) (σ : MM) (hf : Ok Φ (u_X0_passHourByDraws_60 t0 v1 σ)) : V l G 8 K 4 60 [(0, .ref (G.1 t0)), (1, .int v1)] [] σ := by
    unfold u_X0_passHourByDraws_60 at hf
    refine r_aload_n X dX0_passHourByDraws_60 0 rfl isr_ref ?_
    refine r_callVv (rest := []) X (c_X0_passHour l G t0 hk0 σ (oks hf)) md_X0_passHour gX0_passHourByDraws_X0_passHour (by decide) rfl rfl (kd_in hk0 (by decide)) (EE_0 _ hk0) rfl rfl (Nat.le_of_ble_eq_true rfl) dX0_passHourByDraws_61 (fun r19 σ20 e21 => ?_)
    replace hf := okn e21 hf
    refine r_iload_n X dX0_passHourByDraws_64 1 rfl ?_
    exact r_iret X rfl hR (ok0 hf) dX0_passHourByDraws_65
set_option maxRecDepth 100000 in
set_option maxHeartbeats 4000000 in
theorem t_X0_passHourByDraws_4 {l : Launch} {G : GX} {K : KX} (X : FX G K cX0_passHourByDraws RX0 (some .int) wsX0_passHourByDraws 4) {Φ : Int32 → MM → Prop} (hR : Ri G K Φ) (k4 : Nat → Int32 → Int32 → MM → Option (Int32 × MM)) (hk4c : ∀ (t0 : Nat) (v1 : Int32) (v2 : Int32) (hk0 : kd t0 = 0) (σ : MM), Ok Φ (k4 t0 v1 v2 σ) → V l G 8 K 4 4 [(0, .ref (G.1 t0)), (1, .int v1), (2, .int v2)] [] σ) (t0 : Nat) (v1 : Int32) (v2 : Int32) (hk0 : kd t0 = 0) (σ : MM) (hf : Ok Φ (u_X0_passHourByDraws_4 k4 t0 v1 v2 σ)) : V l G 8 K 4 4 [(0, .ref (G.1 t0)), (1, .int v1), (2, .int v2)] [] σ := by
    unfold u_X0_passHourByDraws_4 at hf
    refine r_iload_n X dX0_passHourByDraws_4 2 rfl ?_
    refine r_aload_n X dX0_passHourByDraws_5 0 rfl isr_ref ?_
    refine r_get (i := t0) (v := .int (σ t0 3)) X in_X0_passHourByDraws_0 rfl 3 (by decide) (kd_in hk0 (by decide)) (EE_0 _ hk0) rfl (mem_ix 1 rfl) dX0_passHourByDraws_6 ?_
    refine r_icmp_ge (tgt := 60) X dX0_passHourByDraws_9 (by decide) (fun h18 => ?_) (fun h18 => ?_)
    · replace hf := okt h18 hf
      refine r_sub [0, 1] rfl ?_
      exact t_X0_passHourByDraws_60 X hR t0 v1 hk0 σ hf
    · replace hf := okf h18 hf
      refine r_iload_n X dX0_passHourByDraws_12 2 rfl ?_
      refine r_aload_n X dX0_passHourByDraws_13 0 rfl isr_ref ?_
      refine r_get (i := t0) (v := .ref (G.1 (t0 + 2))) X in_X0_passHourByDraws_0 rfl 2 (by decide) (kd_in hk0 (by decide)) (EE_0 _ hk0) rfl (mem_ix 2 rfl) dX0_passHourByDraws_14 ?_
      refine r_alen (i := (t0 + 2)) (t := 2) (v := (5 : Int32)) X (kd_in (kf_0_2 hk0) (by decide)) (EE_31 _ (kf_0_2 hk0)) rfl (by decide) dX0_passHourByDraws_17 ?_
      refine r_icmp_ge (tgt := 60) X dX0_passHourByDraws_18 (by decide) (fun h22 => ?_) (fun h22 => ?_)
      · replace hf := okt h22 hf
        refine r_sub [0, 1] rfl ?_
        exact t_X0_passHourByDraws_60 X hR t0 v1 hk0 σ hf
      · replace hf := okf h22 hf
        refine r_aload_n X dX0_passHourByDraws_21 0 rfl isr_ref ?_
        refine r_get (i := t0) (v := .ref (G.1 (t0 + 2))) X in_X0_passHourByDraws_0 rfl 2 (by decide) (kd_in hk0 (by decide)) (EE_0 _ hk0) rfl (mem_ix 2 rfl) dX0_passHourByDraws_22 ?_
        refine r_iload_n X dX0_passHourByDraws_25 2 rfl ?_
        obtain ⟨g23, hf⟩ := okg hf
        refine r_aald (i := (t0 + 2)) (t := 2) (d := 29) (jn := v2.toNatClampNeg) X (kd_in (kf_0_2 hk0) (by decide)) (EE_31 _ (kf_0_2 hk0)) rfl rfl g23 dX0_passHourByDraws_26 ?_
        refine r_astore_n X dX0_passHourByDraws_27 (i := 3) rfl (by decide) isr_ref (lv' := [(3, .ref (G.1 ((t0 + 2) + 29 + v2.toNatClampNeg))), (0, .ref (G.1 t0)), (1, .int v1), (2, .int v2)]) rfl ?_
        refine r_aload_n X dX0_passHourByDraws_28 1 rfl isr_ref ?_
        refine r_aload_n X dX0_passHourByDraws_29 0 rfl isr_ref ?_
        refine r_callVi (rest := []) X (c_X0_canGo l G t0 ((t0 + 2) + 29 + v2.toNatClampNeg) hk0 (ke_31 (kf_0_2 hk0) (inr_lt g23)) σ (oks hf)) md_X0_canGo gX0_passHourByDraws_X0_canGo (by decide) rfl rfl (kd_in hk0 (by decide)) (EE_0 _ hk0) rfl rfl (Nat.le_of_ble_eq_true rfl) dX0_passHourByDraws_30 (fun r24 σ25 e26 => ?_)
        replace hf := okn e26 hf
        refine r_if_eq (tgt := 54) X dX0_passHourByDraws_33 (by decide) (fun h27 => ?_) (fun h27 => ?_)
        · replace hf := okt h27 hf
          refine r_iinc (v := (v2 + (1 : Int32))) X dX0_passHourByDraws_54 3 rfl (congrArg _ ci_1) (by decide) (lv' := [(2, .int (v2 + (1 : Int32))), (3, .ref (G.1 ((t0 + 2) + 29 + v2.toNatClampNeg))), (0, .ref (G.1 t0)), (1, .int v1)]) rfl ?_
          refine r_goto (tgt := 4) X dX0_passHourByDraws_57 (by decide) ?_
          refine r_sub [2, 3, 0] rfl ?_
          exact hk4c t0 v1 (v2 + (1 : Int32)) hk0 σ25 hf
        · replace hf := okf h27 hf
          refine r_aload_n X dX0_passHourByDraws_36 1 rfl isr_ref ?_
          refine r_aload_n X dX0_passHourByDraws_37 0 rfl isr_ref ?_
          refine r_aload_n X dX0_passHourByDraws_38 1 rfl isr_ref ?_
          refine r_callVi (rest := [.ref (G.1 ((t0 + 2) + 29 + v2.toNatClampNeg)), .ref (G.1 t0)]) X (c_X0_draw l G t0 hk0 σ25 (oks hf)) md_X0_draw gX0_passHourByDraws_X0_draw (by decide) rfl rfl (kd_in hk0 (by decide)) (EE_0 _ hk0) rfl rfl (Nat.le_of_ble_eq_true rfl) dX0_passHourByDraws_39 (fun r28 σ29 e30 => ?_)
          replace hf := okn e30 hf
          refine r_bipush X dX0_passHourByDraws_42 cb_100 ?_
          refine r_irem X dX0_passHourByDraws_44 (by decide) ?_
          refine r_callVi (rest := []) X (c_X0_hear l G t0 ((t0 + 2) + 29 + v2.toNatClampNeg) (r28 - r28 / (100 : Int32) * (100 : Int32)) hk0 (ke_31 (kf_0_2 hk0) (inr_lt g23)) σ29 (oks hf)) md_X0_hear gX0_passHourByDraws_X0_hear (by decide) rfl rfl (kd_in hk0 (by decide)) (EE_0 _ hk0) rfl rfl (Nat.le_of_ble_eq_true rfl) dX0_passHourByDraws_45 (fun r31 σ32 e33 => ?_)
          replace hf := okn e33 hf
          refine r_if_ne (tgt := 54) X dX0_passHourByDraws_48 (by decide) (fun h34 => ?_) (fun h34 => ?_)
          · replace hf := okf h34 hf
            refine r_iinc (v := (v2 + (1 : Int32))) X dX0_passHourByDraws_54 3 rfl (congrArg _ ci_1) (by decide) (lv' := [(2, .int (v2 + (1 : Int32))), (3, .ref (G.1 ((t0 + 2) + 29 + v2.toNatClampNeg))), (0, .ref (G.1 t0)), (1, .int v1)]) rfl ?_
            refine r_goto (tgt := 4) X dX0_passHourByDraws_57 (by decide) ?_
            refine r_sub [2, 3, 0] rfl ?_
            exact hk4c t0 v1 (v2 + (1 : Int32)) hk0 σ32 hf
          · replace hf := okt h34 hf
            refine r_iinc (v := (v1 + (1 : Int32))) X dX0_passHourByDraws_51 2 rfl (congrArg _ ci_1) (by decide) (lv' := [(1, .int (v1 + (1 : Int32))), (3, .ref (G.1 ((t0 + 2) + 29 + v2.toNatClampNeg))), (0, .ref (G.1 t0)), (2, .int v2)]) rfl ?_
            refine r_iinc (v := (v2 + (1 : Int32))) X dX0_passHourByDraws_54 3 rfl (congrArg _ ci_1) (by decide) (lv' := [(2, .int (v2 + (1 : Int32))), (1, .int (v1 + (1 : Int32))), (3, .ref (G.1 ((t0 + 2) + 29 + v2.toNatClampNeg))), (0, .ref (G.1 t0))]) rfl ?_
            refine r_goto (tgt := 4) X dX0_passHourByDraws_57 (by decide) ?_
            refine r_sub [3, 1, 0] rfl ?_
            exact hk4c t0 (v1 + (1 : Int32)) (v2 + (1 : Int32)) hk0 σ32 hf
theorem tl_X0_passHourByDraws_4 {l : Launch} {G : GX} {K : KX} (X : FX G K cX0_passHourByDraws RX0 (some .int) wsX0_passHourByDraws 4) {Φ : Int32 → MM → Prop} (hR : Ri G K Φ) : ∀ (m : Nat) (t0 : Nat) (v1 : Int32) (v2 : Int32) (hk0 : kd t0 = 0) (σ : MM), Ok Φ (itr (fun _ _ _ _ => none) (u_X0_passHourByDraws_4) m t0 v1 v2 σ) → V l G 8 K 4 4 [(0, .ref (G.1 t0)), (1, .int v1), (2, .int v2)] [] σ := by
  intro m
  induction m with
  | zero => intro t0 v1 v2 hk0 σ hf; exact (okx hf).elim
  | succ m ih => intro t0 v1 v2 hk0 σ hf; exact t_X0_passHourByDraws_4 X hR _ ih t0 v1 v2 hk0 σ hf
set_option maxRecDepth 100000 in
set_option maxHeartbeats 4000000 in
theorem e_X0_passHourByDraws {l : Launch} {G : GX} {K : KX} (X : FX G K cX0_passHourByDraws RX0 (some .int) wsX0_passHourByDraws 4) {Φ : Int32 → MM → Prop} (hR : Ri G K Φ) (t0 : Nat) (hk0 : kd t0 = 0) (σ : MM) (hf : Ok Φ (f_X0_passHourByDraws t0 σ)) : V l G 8 K 4 0 [(0, .ref (G.1 t0))] [] σ := by
    unfold f_X0_passHourByDraws at hf
    refine r_iconst X dX0_passHourByDraws_0 ci_0 ?_
    refine r_istore_n X dX0_passHourByDraws_1 (i := 1) rfl (by decide) (lv' := [(1, .int (0 : Int32)), (0, .ref (G.1 t0))]) rfl ?_
    refine r_iconst X dX0_passHourByDraws_2 ci_0 ?_
    refine r_istore_n X dX0_passHourByDraws_3 (i := 2) rfl (by decide) (lv' := [(2, .int (0 : Int32)), (1, .int (0 : Int32)), (0, .ref (G.1 t0))]) rfl ?_
    refine r_sub [2, 1, 0] rfl ?_
    exact tl_X0_passHourByDraws_4 X hR FU t0 (0 : Int32) (0 : Int32) hk0 σ hf
theorem md_X0_passHourByDraws : MD yX0_passHourByDraws wsX0_passHourByDraws cX0_passHourByDraws 4 0 (some .int) := ⟨⟨_, rfl⟩, by decide +kernel, by decide +kernel, by decide⟩
theorem c_X0_passHourByDraws (l : Launch) (G : GX)  (t0 : Nat) (hk0 : kd t0 = 0) (σ : MM) (h : (f_X0_passHourByDraws t0 σ).isSome = true) : CTi l G yX0_passHourByDraws wsX0_passHourByDraws 8 [.ref (G.1 t0)] σ (f_X0_passHourByDraws t0 σ) :=
  CTi_of md_X0_passHourByDraws (Nat.le_of_ble_eq_true rfl) (fun K X hR => e_X0_passHourByDraws X hR t0 hk0 σ (ok_is h))
-- X1_contentFrom
theorem in_X1_contentFrom_0 : ∀ w ∈ u_ws RX0 TX0 12, w ∈ wsX1_contentFrom := fun _ h => List.mem_cons_of_mem _ (List.mem_append_left _ (List.mem_append_left _ (List.mem_append_right _ h)))
theorem in_X1_contentFrom_2 : ∀ w ∈ u_ws RX2 TX2 4, w ∈ wsX1_contentFrom := fun _ h => List.mem_cons_of_mem _ (List.mem_append_left _ (List.mem_append_right _ h))
theorem in_X1_contentFrom_6 : ∀ w ∈ u_ws RX6 TX6 3, w ∈ wsX1_contentFrom := fun _ h => List.mem_cons_of_mem _ (List.mem_append_right _ h)
def u_X1_contentFrom_5 (k5 : Nat → Int32 → Int32 → Int32 → MM → Option (Int32 × MM)) (t0 : Nat) (v2 : Int32) (v3 : Int32) (v4 : Int32) (σ : MM) : Option (Int32 × MM) :=
  if (σ t0 1) ≤ v4 then some (v3, σ) else bd (f_X0_judgeOn t0 v4 σ) (fun r12 σ13 => onO r12 (k5 t0 v2 v3 (v4 + (1 : Int32)) σ13) (fun i15 => if kd i15 = 2 then bd (f_X0_isContent t0 i15 v2 σ13) (fun r17 σ18 => if r17 = 0 then k5 t0 v2 v3 (v4 + (1 : Int32)) σ18 else k5 t0 v2 (v3 ||| ((1 : Int32) <<< (v4 &&& 31))) (v4 + (1 : Int32)) σ18) else none))
def l_X1_contentFrom_5 (t0 : Nat) (v2 : Int32) (v3 : Int32) (v4 : Int32) (σ : MM) : Option (Int32 × MM) :=
  itr (fun _ _ _ _ _ => none) (u_X1_contentFrom_5) FU t0 v2 v3 v4 σ
def f_X1_contentFrom (t0 : Nat) (a1 : Int32) (a2 : Int32) (σ : MM) : Option (Int32 × MM) :=
  l_X1_contentFrom_5 t0 a2 (0 : Int32) a1 σ
set_option maxRecDepth 100000 in
set_option maxHeartbeats 4000000 in
theorem t_X1_contentFrom_5 {l : Launch} {G : GX} {K : KX} (X : FX G K cX1_contentFrom RX1 (some .int) wsX1_contentFrom 6) {Φ : Int32 → MM → Prop} (hR : Ri G K Φ) (k5 : Nat → Int32 → Int32 → Int32 → MM → Option (Int32 × MM)) (hk5c : ∀ (t0 : Nat) (v2 : Int32) (v3 : Int32) (v4 : Int32) (hk0 : kd t0 = 0) (σ : MM), Ok Φ (k5 t0 v2 v3 v4 σ) → V l G 7 K 6 5 [(0, .ref (G.1 t0)), (2, .int v2), (3, .int v3), (4, .int v4)] [] σ) (t0 : Nat) (v2 : Int32) (v3 : Int32) (v4 : Int32) (hk0 : kd t0 = 0) (σ : MM) (hf : Ok Φ (u_X1_contentFrom_5 k5 t0 v2 v3 v4 σ)) : V l G 7 K 6 5 [(0, .ref (G.1 t0)), (2, .int v2), (3, .int v3), (4, .int v4)] [] σ := by
    unfold u_X1_contentFrom_5 at hf
    refine r_iload X dX1_contentFrom_5 3 rfl ?_
    refine r_aload_n X dX1_contentFrom_7 0 rfl isr_ref ?_
    refine r_get (i := t0) (v := .int (σ t0 1)) X in_X1_contentFrom_0 rfl 1 (by decide) (kd_in hk0 (by decide)) (EE_0 _ hk0) rfl (mem_ix 1 rfl) dX1_contentFrom_8 ?_
    refine r_icmp_ge (tgt := 50) X dX1_contentFrom_11 (by decide) (fun h11 => ?_) (fun h11 => ?_)
    · replace hf := okt h11 hf
      refine r_iload_n X dX1_contentFrom_50 2 rfl ?_
      exact r_iret X rfl hR (ok0 hf) dX1_contentFrom_51
    · replace hf := okf h11 hf
      refine r_aload_n X dX1_contentFrom_14 0 rfl isr_ref ?_
      refine r_iload X dX1_contentFrom_15 3 rfl ?_
      refine r_callVq (rest := []) X (c_X0_judgeOn l G t0 v4 hk0 σ (oks hf)) md_X0_judgeOn gX1_contentFrom_X0_judgeOn (by decide) rfl rfl (kd_in hk0 (by decide)) (EE_0 _ hk0) rfl rfl (Nat.le_of_ble_eq_true rfl) dX1_contentFrom_17 (fun r12 σ13 e14 => ?_)
      replace hf := okn e14 hf
      rcases r12 with _ | i15
      · replace hf := okz hf
        refine r_astore X dX1_contentFrom_20 (by decide) isr_null (lv' := [(5, .null), (0, .ref (G.1 t0)), (2, .int v2), (3, .int v3), (4, .int v4)]) rfl ?_
        refine r_aload X dX1_contentFrom_22 0 rfl isr_null ?_
        refine r_ifnullN (tgt := 44) X dX1_contentFrom_24 (by decide) ?_
        refine r_iinc (v := (v4 + (1 : Int32))) X dX1_contentFrom_44 4 rfl (congrArg _ ci_1) (by decide) (lv' := [(4, .int (v4 + (1 : Int32))), (5, .null), (0, .ref (G.1 t0)), (2, .int v2), (3, .int v3)]) rfl ?_
        refine r_goto (tgt := 5) X dX1_contentFrom_47 (by decide) ?_
        refine r_sub [2, 3, 4, 0] rfl ?_
        exact hk5c t0 v2 v3 (v4 + (1 : Int32)) hk0 σ13 hf
      · replace hf := oky hf
        obtain ⟨hi16, hf⟩ := okp hf
        refine r_astore X dX1_contentFrom_20 (by decide) isr_ref (lv' := [(5, .ref (G.1 i15)), (0, .ref (G.1 t0)), (2, .int v2), (3, .int v3), (4, .int v4)]) rfl ?_
        refine r_aload X dX1_contentFrom_22 0 rfl isr_ref ?_
        refine r_ifnull X dX1_contentFrom_24 ?_
        refine r_aload_n X dX1_contentFrom_27 1 rfl isr_ref ?_
        refine r_aload X dX1_contentFrom_28 0 rfl isr_ref ?_
        refine r_iload_n X dX1_contentFrom_30 2 rfl ?_
        refine r_callVi (rest := []) X (c_X0_isContent l G t0 i15 v2 hk0 hi16 σ13 (oks hf)) md_X0_isContent gX1_contentFrom_X0_isContent (by decide) rfl rfl (kd_in hk0 (by decide)) (EE_0 _ hk0) rfl rfl (Nat.le_of_ble_eq_true rfl) dX1_contentFrom_31 (fun r17 σ18 e19 => ?_)
        replace hf := okn e19 hf
        refine r_if_eq (tgt := 44) X dX1_contentFrom_34 (by decide) (fun h20 => ?_) (fun h20 => ?_)
        · replace hf := okt h20 hf
          refine r_iinc (v := (v4 + (1 : Int32))) X dX1_contentFrom_44 4 rfl (congrArg _ ci_1) (by decide) (lv' := [(4, .int (v4 + (1 : Int32))), (5, .ref (G.1 i15)), (0, .ref (G.1 t0)), (2, .int v2), (3, .int v3)]) rfl ?_
          refine r_goto (tgt := 5) X dX1_contentFrom_47 (by decide) ?_
          refine r_sub [2, 3, 4, 0] rfl ?_
          exact hk5c t0 v2 v3 (v4 + (1 : Int32)) hk0 σ18 hf
        · replace hf := okf h20 hf
          refine r_iload_n X dX1_contentFrom_37 3 rfl ?_
          refine r_iconst X dX1_contentFrom_38 ci_1 ?_
          refine r_iload X dX1_contentFrom_39 4 rfl ?_
          refine r_ishl X dX1_contentFrom_41 ?_
          refine r_ior X dX1_contentFrom_42 ?_
          refine r_istore_n X dX1_contentFrom_43 (i := 3) rfl (by decide) (lv' := [(3, .int (v3 ||| ((1 : Int32) <<< (v4 &&& 31)))), (5, .ref (G.1 i15)), (0, .ref (G.1 t0)), (2, .int v2), (4, .int v4)]) rfl ?_
          refine r_iinc (v := (v4 + (1 : Int32))) X dX1_contentFrom_44 4 rfl (congrArg _ ci_1) (by decide) (lv' := [(4, .int (v4 + (1 : Int32))), (3, .int (v3 ||| ((1 : Int32) <<< (v4 &&& 31)))), (5, .ref (G.1 i15)), (0, .ref (G.1 t0)), (2, .int v2)]) rfl ?_
          refine r_goto (tgt := 5) X dX1_contentFrom_47 (by decide) ?_
          refine r_sub [3, 4, 1, 0] rfl ?_
          exact hk5c t0 v2 (v3 ||| ((1 : Int32) <<< (v4 &&& 31))) (v4 + (1 : Int32)) hk0 σ18 hf
theorem tl_X1_contentFrom_5 {l : Launch} {G : GX} {K : KX} (X : FX G K cX1_contentFrom RX1 (some .int) wsX1_contentFrom 6) {Φ : Int32 → MM → Prop} (hR : Ri G K Φ) : ∀ (m : Nat) (t0 : Nat) (v2 : Int32) (v3 : Int32) (v4 : Int32) (hk0 : kd t0 = 0) (σ : MM), Ok Φ (itr (fun _ _ _ _ _ => none) (u_X1_contentFrom_5) m t0 v2 v3 v4 σ) → V l G 7 K 6 5 [(0, .ref (G.1 t0)), (2, .int v2), (3, .int v3), (4, .int v4)] [] σ := by
  intro m
  induction m with
  | zero => intro t0 v2 v3 v4 hk0 σ hf; exact (okx hf).elim
  | succ m ih => intro t0 v2 v3 v4 hk0 σ hf; exact t_X1_contentFrom_5 X hR _ ih t0 v2 v3 v4 hk0 σ hf
set_option maxRecDepth 100000 in
set_option maxHeartbeats 4000000 in
theorem e_X1_contentFrom {l : Launch} {G : GX} {K : KX} (X : FX G K cX1_contentFrom RX1 (some .int) wsX1_contentFrom 6) {Φ : Int32 → MM → Prop} (hR : Ri G K Φ) (t0 : Nat) (a1 : Int32) (a2 : Int32) (hk0 : kd t0 = 0) (σ : MM) (hf : Ok Φ (f_X1_contentFrom t0 a1 a2 σ)) : V l G 7 K 6 0 [(0, .ref (G.1 t0)), (1, .int a1), (2, .int a2)] [] σ := by
    unfold f_X1_contentFrom at hf
    refine r_iconst X dX1_contentFrom_0 ci_0 ?_
    refine r_istore_n X dX1_contentFrom_1 (i := 3) rfl (by decide) (lv' := [(3, .int (0 : Int32)), (0, .ref (G.1 t0)), (1, .int a1), (2, .int a2)]) rfl ?_
    refine r_iload_n X dX1_contentFrom_2 2 rfl ?_
    refine r_istore X dX1_contentFrom_3 (by decide) (lv' := [(4, .int a1), (3, .int (0 : Int32)), (0, .ref (G.1 t0)), (1, .int a1), (2, .int a2)]) rfl ?_
    refine r_sub [2, 4, 1, 0] rfl ?_
    exact tl_X1_contentFrom_5 X hR FU t0 a2 (0 : Int32) a1 hk0 σ hf
theorem md_X1_contentFrom : MD yX1_contentFrom wsX1_contentFrom cX1_contentFrom 6 3 (some .int) := ⟨⟨_, rfl⟩, by decide +kernel, by decide +kernel, by decide⟩
theorem c_X1_contentFrom (l : Launch) (G : GX)  (t0 : Nat) (a1 : Int32) (a2 : Int32) (hk0 : kd t0 = 0) (σ : MM) (h : (f_X1_contentFrom t0 a1 a2 σ).isSome = true) : CTi l G yX1_contentFrom wsX1_contentFrom 7 [.ref (G.1 t0), .int a1, .int a2] σ (f_X1_contentFrom t0 a1 a2 σ) :=
  CTi_of md_X1_contentFrom (Nat.le_of_ble_eq_true rfl) (fun K X hR => e_X1_contentFrom X hR t0 a1 a2 hk0 σ (ok_is h))

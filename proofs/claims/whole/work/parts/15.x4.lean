-- X8_become
theorem in_X8_become_8 : ∀ w ∈ u_ws RX8 TX8 9, w ∈ wsX8_become := fun _ h => List.mem_cons_of_mem _ (List.mem_append_left _ (List.mem_append_left _ (List.mem_append_right _ h)))
theorem in_X8_become_2 : ∀ w ∈ u_ws RX2 TX2 4, w ∈ wsX8_become := fun _ h => List.mem_cons_of_mem _ (List.mem_append_left _ (List.mem_append_right _ h))
theorem in_X8_become_0 : ∀ w ∈ u_ws RX0 TX0 12, w ∈ wsX8_become := fun _ h => List.mem_cons_of_mem _ (List.mem_append_right _ h)
def u_X8_become_23  (σ : MM) : Option (Int32 × MM) :=
  bd (f_X8_error (-1000000001 : Int32) σ) (fun r22 σ23 => some (r22, σ23))
def f_X8_become (a1 : Int32) (a2 : Int32) (σ : MM) : Option (Int32 × MM) :=
  bd (f_X0_judgeOn 0 a1 σ) (fun r17 σ18 => onO r17 (u_X8_become_23 σ18) (fun i20 => if kd i20 = 2 then bd (f_X8_within a2 (0 : Int32) (69 : Int32) σ18) (fun r25 σ26 => if r25 = 0 then u_X8_become_23 σ26 else lt (mu σ26 i20 1 (a2 / (10 : Int32))) (fun σ29 => lt (mu σ29 i20 2 (a2 - a2 / (10 : Int32) * (10 : Int32))) (fun σ31 => some ((σ26 i20 1), σ31)))) else none))
set_option maxRecDepth 100000 in
set_option maxHeartbeats 4000000 in
theorem t_X8_become_23 {l : Launch} {G : GX} {K : KX} (X : FX G K cX8_become RX8 (some .int) wsX8_become 5) {Φ : Int32 → MM → Prop} (hR : Ri G K Φ)  (σ : MM) (hf : Ok Φ (u_X8_become_23  σ)) : V l G 5 K 5 23 [(0, .ref (G.1 108))] [] σ := by
    unfold u_X8_become_23 at hf
    refine r_aload_n X dX8_become_23 0 rfl isr_ref ?_
    refine r_ldc (v := (-1000000001 : Int32)) X (mem_ix 2 rfl) dX8_become_24 ?_
    refine r_callVi (rest := []) X (c_X8_error l G (-1000000001 : Int32) σ (oks hf)) md_X8_error gX8_become_X8_error (by decide) rfl rfl (kd_in kc_108 (by decide)) (EE_8 _ kc_108) rfl rfl (Nat.le_of_ble_eq_true rfl) dX8_become_26 (fun r22 σ23 e24 => ?_)
    replace hf := okn e24 hf
    exact r_iret X rfl hR (ok0 hf) dX8_become_29
set_option maxRecDepth 100000 in
set_option maxHeartbeats 4000000 in
theorem e_X8_become {l : Launch} {G : GX} {K : KX} (X : FX G K cX8_become RX8 (some .int) wsX8_become 5) {Φ : Int32 → MM → Prop} (hR : Ri G K Φ) (a1 : Int32) (a2 : Int32) (σ : MM) (hf : Ok Φ (f_X8_become a1 a2 σ)) : V l G 5 K 5 0 [(0, .ref (G.1 108)), (1, .int a1), (2, .int a2)] [] σ := by
    unfold f_X8_become at hf
    refine r_aload_n X dX8_become_0 0 rfl isr_ref ?_
    refine r_get (i := 108) (v := .ref (G.1 0)) X in_X8_become_8 rfl 0 (by decide) (kd_in kc_108 (by decide)) (EE_8 _ kc_108) rfl (mem_ix 1 rfl) dX8_become_1 ?_
    refine r_iload_n X dX8_become_4 1 rfl ?_
    refine r_callVq (rest := []) X (c_X0_judgeOn l G 0 a1 kc_0 σ (oks hf)) md_X0_judgeOn gX8_become_X0_judgeOn (by decide) rfl rfl (kd_in kc_0 (by decide)) (EE_0 _ kc_0) rfl rfl (Nat.le_of_ble_eq_true rfl) dX8_become_5 (fun r17 σ18 e19 => ?_)
    replace hf := okn e19 hf
    rcases r17 with _ | i20
    · replace hf := okz hf
      refine r_astore_n X dX8_become_8 (i := 3) rfl (by decide) isr_null (lv' := [(3, .null), (0, .ref (G.1 108)), (1, .int a1), (2, .int a2)]) rfl ?_
      refine r_aload_n X dX8_become_9 0 rfl isr_null ?_
      refine r_ifnullN (tgt := 23) X dX8_become_10 (by decide) ?_
      refine r_sub [1] rfl ?_
      exact t_X8_become_23 X hR σ18 hf
    · replace hf := oky hf
      obtain ⟨hi21, hf⟩ := okp hf
      refine r_astore_n X dX8_become_8 (i := 3) rfl (by decide) isr_ref (lv' := [(3, .ref (G.1 i20)), (0, .ref (G.1 108)), (1, .int a1), (2, .int a2)]) rfl ?_
      refine r_aload_n X dX8_become_9 0 rfl isr_ref ?_
      refine r_ifnull X dX8_become_10 ?_
      refine r_iload_n X dX8_become_13 3 rfl ?_
      refine r_iconst X dX8_become_14 ci_0 ?_
      refine r_bipush X dX8_become_15 cb_69 ?_
      refine r_callSi (rest := []) X (c_X8_within l G a2 (0 : Int32) (69 : Int32) σ18 (oks hf)) md_X8_within gX8_become_X8_within (by decide) rfl rfl (Nat.le_of_ble_eq_true rfl) dX8_become_17 (fun r25 σ26 e27 => ?_)
      replace hf := okn e27 hf
      refine r_if_ne (tgt := 30) X dX8_become_20 (by decide) (fun h28 => ?_) (fun h28 => ?_)
      · replace hf := okf h28 hf
        refine r_aload_n X dX8_become_30 0 rfl isr_ref ?_
        refine r_get (i := i20) (v := .int (σ26 i20 1)) X in_X8_become_2 rfl 1 (by decide) (kd_in hi21 (by decide)) (EE_2 _ hi21) rfl (mem_ix 3 rfl) dX8_become_31 ?_
        refine r_istore X dX8_become_34 (by decide) (lv' := [(4, .int (σ26 i20 1)), (3, .ref (G.1 i20)), (0, .ref (G.1 108)), (1, .int a1), (2, .int a2)]) rfl ?_
        refine r_aload_n X dX8_become_36 1 rfl isr_ref ?_
        refine r_iload_n X dX8_become_37 4 rfl ?_
        refine r_bipush X dX8_become_38 cb_10 ?_
        refine r_idiv X dX8_become_40 (by decide) ?_
        obtain ⟨σ29, e30, hf⟩ := okl hf
        refine r_put (i := i20) (f := upd (σ26 i20) 1 (a2 / (10 : Int32))) X in_X8_become_2 tyX2 tyX2_ok nmX2 rfl 1 (by decide) (kd_in hi21 (by decide)) (EE_2 _ hi21) (EU_2_1 _ _ hi21) rfl (mem_ix 3 rfl) rfl rfl rfl rfl dX8_become_41 ?_
        refine r_sg e30 ?_
        refine r_aload_n X dX8_become_44 1 rfl isr_ref ?_
        refine r_iload_n X dX8_become_45 4 rfl ?_
        refine r_bipush X dX8_become_46 cb_10 ?_
        refine r_irem X dX8_become_48 (by decide) ?_
        obtain ⟨σ31, e32, hf⟩ := okl hf
        refine r_put (i := i20) (f := upd (σ29 i20) 2 (a2 - a2 / (10 : Int32) * (10 : Int32))) X in_X8_become_2 tyX2 tyX2_ok nmX2 rfl 2 (by decide) (kd_in hi21 (by decide)) (EE_2 _ hi21) (EU_2_2 _ _ hi21) rfl (mem_ix 4 rfl) rfl rfl rfl rfl dX8_become_49 ?_
        refine r_sg e32 ?_
        refine r_iload X dX8_become_52 0 rfl ?_
        exact r_iret X rfl hR (ok0 hf) dX8_become_54
      · replace hf := okt h28 hf
        refine r_sub [1] rfl ?_
        exact t_X8_become_23 X hR σ26 hf
theorem md_X8_become : MD yX8_become wsX8_become cX8_become 5 2 (some .int) := ⟨⟨_, rfl⟩, by decide +kernel, by decide +kernel, by decide⟩
theorem c_X8_become (l : Launch) (G : GX)  (a1 : Int32) (a2 : Int32) (σ : MM) (h : (f_X8_become a1 a2 σ).isSome = true) : CTi l G yX8_become wsX8_become 5 [.ref (G.1 108), .int a1, .int a2] σ (f_X8_become a1 a2 σ) :=
  CTi_of md_X8_become (Nat.le_of_ble_eq_true rfl) (fun K X hR => e_X8_become X hR a1 a2 σ (ok_is h))
-- X8_isUnder
def u_X8_isUnder_26 (v1 : Int32) (v2 : Int32) (σ : MM) : Option (Int32 × MM) :=
  if v2 = v1 then some ((1 : Int32), σ) else some ((0 : Int32), σ)
def u_X8_isUnder_4 (k4 : Int32 → Int32 → Int32 → MM → Option (Int32 × MM)) (v1 : Int32) (v2 : Int32) (v3 : Int32) (σ : MM) : Option (Int32 × MM) :=
  if (7 : Int32) ≤ v3 then u_X8_isUnder_26 v1 v2 σ else if v2 = v1 then u_X8_isUnder_26 v1 v2 σ else bd (f_X8_kindAbove v2 σ) (fun r10 σ11 => k4 v1 r10 (v3 + (1 : Int32)) σ11)
def l_X8_isUnder_4 (v1 : Int32) (v2 : Int32) (v3 : Int32) (σ : MM) : Option (Int32 × MM) :=
  itr (fun _ _ _ _ => none) (u_X8_isUnder_4) FU v1 v2 v3 σ
def f_X8_isUnder (a0 : Int32) (a1 : Int32) (σ : MM) : Option (Int32 × MM) :=
  l_X8_isUnder_4 a1 a0 (0 : Int32) σ
set_option maxRecDepth 100000 in
set_option maxHeartbeats 4000000 in
theorem t_X8_isUnder_26 {l : Launch} {G : GX} {K : KX} (X : FX G K cX8_isUnder RX8 (some .boolean) wsX8_isUnder 4) {Φ : Int32 → MM → Prop} (hR : Ri G K Φ) (v1 : Int32) (v2 : Int32) (σ : MM) (hf : Ok Φ (u_X8_isUnder_26 v1 v2 σ)) : V l G 4 K 4 26 [(1, .int v1), (2, .int v2)] [] σ := by
    unfold u_X8_isUnder_26 at hf
    refine r_iload_n X dX8_isUnder_26 1 rfl ?_
    refine r_iload_n X dX8_isUnder_27 0 rfl ?_
    refine r_icmp_ne (tgt := 35) X dX8_isUnder_28 (by decide) (fun h8 => ?_) (fun h8 => ?_)
    · replace hf := okf h8 hf
      refine r_iconst X dX8_isUnder_35 ci_0 ?_
      exact r_zret X rfl hR (by decide) (ok0 hf) dX8_isUnder_36
    · replace hf := okt h8 hf
      refine r_iconst X dX8_isUnder_31 ci_1 ?_
      refine r_goto (tgt := 36) X dX8_isUnder_32 (by decide) ?_
      exact r_zret X rfl hR (by decide) (ok0 hf) dX8_isUnder_36
set_option maxRecDepth 100000 in
set_option maxHeartbeats 4000000 in
theorem t_X8_isUnder_4 {l : Launch} {G : GX} {K : KX} (X : FX G K cX8_isUnder RX8 (some .boolean) wsX8_isUnder 4) {Φ : Int32 → MM → Prop} (hR : Ri G K Φ) (k4 : Int32 → Int32 → Int32 → MM → Option (Int32 × MM)) (hk4c : ∀ (v1 : Int32) (v2 : Int32) (v3 : Int32) (σ : MM), Ok Φ (k4 v1 v2 v3 σ) → V l G 4 K 4 4 [(1, .int v1), (2, .int v2), (3, .int v3)] [] σ) (v1 : Int32) (v2 : Int32) (v3 : Int32) (σ : MM) (hf : Ok Φ (u_X8_isUnder_4 k4 v1 v2 v3 σ)) : V l G 4 K 4 4 [(1, .int v1), (2, .int v2), (3, .int v3)] [] σ := by
    unfold u_X8_isUnder_4 at hf
    refine r_iload_n X dX8_isUnder_4 2 rfl ?_
    refine r_bipush X dX8_isUnder_5 cb_7 ?_
    refine r_icmp_ge (tgt := 26) X dX8_isUnder_7 (by decide) (fun h7 => ?_) (fun h7 => ?_)
    · replace hf := okt h7 hf
      refine r_sub [0, 1] rfl ?_
      exact t_X8_isUnder_26 X hR v1 v2 σ hf
    · replace hf := okf h7 hf
      refine r_iload_n X dX8_isUnder_10 1 rfl ?_
      refine r_iload_n X dX8_isUnder_11 0 rfl ?_
      refine r_icmp_eq (tgt := 26) X dX8_isUnder_12 (by decide) (fun h9 => ?_) (fun h9 => ?_)
      · replace hf := okt h9 hf
        refine r_sub [0, 1] rfl ?_
        exact t_X8_isUnder_26 X hR v1 v2 σ hf
      · replace hf := okf h9 hf
        refine r_iload_n X dX8_isUnder_15 1 rfl ?_
        refine r_callSi (rest := []) X (c_X8_kindAbove l G v2 σ (oks hf)) md_X8_kindAbove gX8_isUnder_X8_kindAbove (by decide) rfl rfl (Nat.le_of_ble_eq_true rfl) dX8_isUnder_16 (fun r10 σ11 e12 => ?_)
        replace hf := okn e12 hf
        refine r_istore_n X dX8_isUnder_19 (i := 2) rfl (by decide) (lv' := [(2, .int r10), (1, .int v1), (3, .int v3)]) rfl ?_
        refine r_iinc (v := (v3 + (1 : Int32))) X dX8_isUnder_20 2 rfl (congrArg _ ci_1) (by decide) (lv' := [(3, .int (v3 + (1 : Int32))), (2, .int r10), (1, .int v1)]) rfl ?_
        refine r_goto (tgt := 4) X dX8_isUnder_23 (by decide) ?_
        refine r_sub [2, 1, 0] rfl ?_
        exact hk4c v1 r10 (v3 + (1 : Int32)) σ11 hf
theorem tl_X8_isUnder_4 {l : Launch} {G : GX} {K : KX} (X : FX G K cX8_isUnder RX8 (some .boolean) wsX8_isUnder 4) {Φ : Int32 → MM → Prop} (hR : Ri G K Φ) : ∀ (m : Nat) (v1 : Int32) (v2 : Int32) (v3 : Int32) (σ : MM), Ok Φ (itr (fun _ _ _ _ => none) (u_X8_isUnder_4) m v1 v2 v3 σ) → V l G 4 K 4 4 [(1, .int v1), (2, .int v2), (3, .int v3)] [] σ := by
  intro m
  induction m with
  | zero => intro v1 v2 v3 σ hf; exact (okx hf).elim
  | succ m ih => intro v1 v2 v3 σ hf; exact t_X8_isUnder_4 X hR _ ih v1 v2 v3 σ hf
set_option maxRecDepth 100000 in
set_option maxHeartbeats 4000000 in
theorem e_X8_isUnder {l : Launch} {G : GX} {K : KX} (X : FX G K cX8_isUnder RX8 (some .boolean) wsX8_isUnder 4) {Φ : Int32 → MM → Prop} (hR : Ri G K Φ) (a0 : Int32) (a1 : Int32) (σ : MM) (hf : Ok Φ (f_X8_isUnder a0 a1 σ)) : V l G 4 K 4 0 [(0, .int a0), (1, .int a1)] [] σ := by
    unfold f_X8_isUnder at hf
    refine r_iload_n X dX8_isUnder_0 0 rfl ?_
    refine r_istore_n X dX8_isUnder_1 (i := 2) rfl (by decide) (lv' := [(2, .int a0), (0, .int a0), (1, .int a1)]) rfl ?_
    refine r_iconst X dX8_isUnder_2 ci_0 ?_
    refine r_istore_n X dX8_isUnder_3 (i := 3) rfl (by decide) (lv' := [(3, .int (0 : Int32)), (2, .int a0), (0, .int a0), (1, .int a1)]) rfl ?_
    refine r_sub [3, 1, 0] rfl ?_
    exact tl_X8_isUnder_4 X hR FU a1 a0 (0 : Int32) σ hf
theorem md_X8_isUnder : MD yX8_isUnder wsX8_isUnder cX8_isUnder 4 2 (some .boolean) := ⟨⟨_, rfl⟩, by decide +kernel, by decide +kernel, by decide⟩
theorem c_X8_isUnder (l : Launch) (G : GX)  (a0 : Int32) (a1 : Int32) (σ : MM) (h : (f_X8_isUnder a0 a1 σ).isSome = true) : CTi l G yX8_isUnder wsX8_isUnder 4 [.int a0, .int a1] σ (f_X8_isUnder a0 a1 σ) :=
  CTi_of md_X8_isUnder (Nat.le_of_ble_eq_true rfl) (fun K X hR => e_X8_isUnder X hR a0 a1 σ (ok_is h))
-- X8_as
theorem in_X8_as_8 : ∀ w ∈ u_ws RX8 TX8 9, w ∈ wsX8_as := fun _ h => List.mem_cons_of_mem _ (List.mem_append_left _ (List.mem_append_left _ (List.mem_append_right _ h)))
theorem in_X8_as_2 : ∀ w ∈ u_ws RX2 TX2 4, w ∈ wsX8_as := fun _ h => List.mem_cons_of_mem _ (List.mem_append_left _ (List.mem_append_right _ h))
theorem in_X8_as_0 : ∀ w ∈ u_ws RX0 TX0 12, w ∈ wsX8_as := fun _ h => List.mem_cons_of_mem _ (List.mem_append_right _ h)
def u_X8_as_23  (σ : MM) : Option (Int32 × MM) :=
  bd (f_X8_error (-1000000001 : Int32) σ) (fun r25 σ26 => some (r25, σ26))
def f_X8_as (a1 : Int32) (a2 : Int32) (σ : MM) : Option (Int32 × MM) :=
  bd (f_X0_judgeOn 0 a1 σ) (fun r20 σ21 => onO r20 (u_X8_as_23 σ21) (fun i23 => if kd i23 = 2 then bd (f_X8_within a2 (0 : Int32) (6 : Int32) σ21) (fun r28 σ29 => if r28 = 0 then u_X8_as_23 σ29 else bd (f_X8_isUnder (σ29 i23 1) a2 σ29) (fun r32 σ33 => if r32 = 0 then bd (f_X8_error (-1000000005 : Int32) σ33) (fun r36 σ37 => some (r36, σ37)) else some ((σ33 i23 2), σ33))) else none))
set_option maxRecDepth 100000 in
set_option maxHeartbeats 4000000 in
theorem t_X8_as_23 {l : Launch} {G : GX} {K : KX} (X : FX G K cX8_as RX8 (some .int) wsX8_as 4) {Φ : Int32 → MM → Prop} (hR : Ri G K Φ)  (σ : MM) (hf : Ok Φ (u_X8_as_23  σ)) : V l G 5 K 4 23 [(0, .ref (G.1 108))] [] σ := by
    unfold u_X8_as_23 at hf
    refine r_aload_n X dX8_as_23 0 rfl isr_ref ?_
    refine r_ldc (v := (-1000000001 : Int32)) X (mem_ix 2 rfl) dX8_as_24 ?_
    refine r_callVi (rest := []) X (c_X8_error l G (-1000000001 : Int32) σ (oks hf)) md_X8_error gX8_as_X8_error (by decide) rfl rfl (kd_in kc_108 (by decide)) (EE_8 _ kc_108) rfl rfl (Nat.le_of_ble_eq_true rfl) dX8_as_26 (fun r25 σ26 e27 => ?_)
    replace hf := okn e27 hf
    exact r_iret X rfl hR (ok0 hf) dX8_as_29
set_option maxRecDepth 100000 in
set_option maxHeartbeats 4000000 in
theorem e_X8_as {l : Launch} {G : GX} {K : KX} (X : FX G K cX8_as RX8 (some .int) wsX8_as 4) {Φ : Int32 → MM → Prop} (hR : Ri G K Φ) (a1 : Int32) (a2 : Int32) (σ : MM) (hf : Ok Φ (f_X8_as a1 a2 σ)) : V l G 5 K 4 0 [(0, .ref (G.1 108)), (1, .int a1), (2, .int a2)] [] σ := by
    unfold f_X8_as at hf
    refine r_aload_n X dX8_as_0 0 rfl isr_ref ?_
    refine r_get (i := 108) (v := .ref (G.1 0)) X in_X8_as_8 rfl 0 (by decide) (kd_in kc_108 (by decide)) (EE_8 _ kc_108) rfl (mem_ix 1 rfl) dX8_as_1 ?_
    refine r_iload_n X dX8_as_4 1 rfl ?_
    refine r_callVq (rest := []) X (c_X0_judgeOn l G 0 a1 kc_0 σ (oks hf)) md_X0_judgeOn gX8_as_X0_judgeOn (by decide) rfl rfl (kd_in kc_0 (by decide)) (EE_0 _ kc_0) rfl rfl (Nat.le_of_ble_eq_true rfl) dX8_as_5 (fun r20 σ21 e22 => ?_)
    replace hf := okn e22 hf
    rcases r20 with _ | i23
    · replace hf := okz hf
      refine r_astore_n X dX8_as_8 (i := 3) rfl (by decide) isr_null (lv' := [(3, .null), (0, .ref (G.1 108)), (1, .int a1), (2, .int a2)]) rfl ?_
      refine r_aload_n X dX8_as_9 0 rfl isr_null ?_
      refine r_ifnullN (tgt := 23) X dX8_as_10 (by decide) ?_
      refine r_sub [1] rfl ?_
      exact t_X8_as_23 X hR σ21 hf
    · replace hf := oky hf
      obtain ⟨hi24, hf⟩ := okp hf
      refine r_astore_n X dX8_as_8 (i := 3) rfl (by decide) isr_ref (lv' := [(3, .ref (G.1 i23)), (0, .ref (G.1 108)), (1, .int a1), (2, .int a2)]) rfl ?_
      refine r_aload_n X dX8_as_9 0 rfl isr_ref ?_
      refine r_ifnull X dX8_as_10 ?_
      refine r_iload_n X dX8_as_13 3 rfl ?_
      refine r_iconst X dX8_as_14 ci_0 ?_
      refine r_bipush X dX8_as_15 cb_6 ?_
      refine r_callSi (rest := []) X (c_X8_within l G a2 (0 : Int32) (6 : Int32) σ21 (oks hf)) md_X8_within gX8_as_X8_within (by decide) rfl rfl (Nat.le_of_ble_eq_true rfl) dX8_as_17 (fun r28 σ29 e30 => ?_)
      replace hf := okn e30 hf
      refine r_if_ne (tgt := 30) X dX8_as_20 (by decide) (fun h31 => ?_) (fun h31 => ?_)
      · replace hf := okf h31 hf
        refine r_aload_n X dX8_as_30 0 rfl isr_ref ?_
        refine r_get (i := i23) (v := .int (σ29 i23 1)) X in_X8_as_2 rfl 1 (by decide) (kd_in hi24 (by decide)) (EE_2 _ hi24) rfl (mem_ix 3 rfl) dX8_as_31 ?_
        refine r_iload_n X dX8_as_34 3 rfl ?_
        refine r_callSi (rest := []) X (c_X8_isUnder l G (σ29 i23 1) a2 σ29 (oks hf)) md_X8_isUnder gX8_as_X8_isUnder (by decide) rfl rfl (Nat.le_of_ble_eq_true rfl) dX8_as_35 (fun r32 σ33 e34 => ?_)
        replace hf := okn e34 hf
        refine r_if_eq (tgt := 48) X dX8_as_38 (by decide) (fun h35 => ?_) (fun h35 => ?_)
        · replace hf := okt h35 hf
          refine r_aload_n X dX8_as_48 1 rfl isr_ref ?_
          refine r_ldc (v := (-1000000005 : Int32)) X (mem_ix 5 rfl) dX8_as_49 ?_
          refine r_callVi (rest := []) X (c_X8_error l G (-1000000005 : Int32) σ33 (oks hf)) md_X8_error gX8_as_X8_error (by decide) rfl rfl (kd_in kc_108 (by decide)) (EE_8 _ kc_108) rfl rfl (Nat.le_of_ble_eq_true rfl) dX8_as_51 (fun r36 σ37 e38 => ?_)
          replace hf := okn e38 hf
          exact r_iret X rfl hR (ok0 hf) dX8_as_54
        · replace hf := okf h35 hf
          refine r_aload_n X dX8_as_41 0 rfl isr_ref ?_
          refine r_get (i := i23) (v := .int (σ33 i23 2)) X in_X8_as_2 rfl 2 (by decide) (kd_in hi24 (by decide)) (EE_2 _ hi24) rfl (mem_ix 4 rfl) dX8_as_42 ?_
          refine r_goto (tgt := 54) X dX8_as_45 (by decide) ?_
          exact r_iret X rfl hR (ok0 hf) dX8_as_54
      · replace hf := okt h31 hf
        refine r_sub [1] rfl ?_
        exact t_X8_as_23 X hR σ29 hf
theorem md_X8_as : MD yX8_as wsX8_as cX8_as 4 2 (some .int) := ⟨⟨_, rfl⟩, by decide +kernel, by decide +kernel, by decide⟩
theorem c_X8_as (l : Launch) (G : GX)  (a1 : Int32) (a2 : Int32) (σ : MM) (h : (f_X8_as a1 a2 σ).isSome = true) : CTi l G yX8_as wsX8_as 5 [.ref (G.1 108), .int a1, .int a2] σ (f_X8_as a1 a2 σ) :=
  CTi_of md_X8_as (Nat.le_of_ble_eq_true rfl) (fun K X hR => e_X8_as X hR a1 a2 σ (ok_is h))
-- X8_person
theorem in_X8_person_8 : ∀ w ∈ u_ws RX8 TX8 9, w ∈ wsX8_person := fun _ h => List.mem_cons_of_mem _ (List.mem_append_left _ (List.mem_append_left _ (List.mem_append_right _ h)))
theorem in_X8_person_0 : ∀ w ∈ u_ws RX0 TX0 12, w ∈ wsX8_person := fun _ h => List.mem_cons_of_mem _ (List.mem_append_left _ (List.mem_append_right _ h))
theorem in_X8_person_3 : ∀ w ∈ u_ws RX3 TX3 4, w ∈ wsX8_person := fun _ h => List.mem_cons_of_mem _ (List.mem_append_right _ h)
def f_X8_person (a1 : Int32) (σ : MM) : Option (Int32 × MM) :=
  bd (f_X8_within a1 (0 : Int32) (999 : Int32) σ) (fun r15 σ16 => if r15 = 0 then bd (f_X8_error (-1000000001 : Int32) σ16) (fun r26 σ27 => some (r26, σ27)) else if (σ16 0 3) < (5 : Int32) then bd (f_X0_addPerson 0 a1 σ16) (fun r20 σ21 => some (r20, σ21)) else bd (f_X8_error (-1000000004 : Int32) σ16) (fun r23 σ24 => some (r23, σ24)))
set_option maxRecDepth 100000 in
set_option maxHeartbeats 4000000 in
theorem e_X8_person {l : Launch} {G : GX} {K : KX} (X : FX G K cX8_person RX8 (some .int) wsX8_person 2) {Φ : Int32 → MM → Prop} (hR : Ri G K Φ) (a1 : Int32) (σ : MM) (hf : Ok Φ (f_X8_person a1 σ)) : V l G 5 K 2 0 [(0, .ref (G.1 108)), (1, .int a1)] [] σ := by
    unfold f_X8_person at hf
    refine r_iload_n X dX8_person_0 1 rfl ?_
    refine r_iconst X dX8_person_1 ci_0 ?_
    refine r_sipush X dX8_person_2 cs_999 ?_
    refine r_callSi (rest := []) X (c_X8_within l G a1 (0 : Int32) (999 : Int32) σ (oks hf)) md_X8_within gX8_person_X8_within (by decide) rfl rfl (Nat.le_of_ble_eq_true rfl) dX8_person_5 (fun r15 σ16 e17 => ?_)
    replace hf := okn e17 hf
    refine r_if_ne (tgt := 18) X dX8_person_8 (by decide) (fun h18 => ?_) (fun h18 => ?_)
    · replace hf := okf h18 hf
      refine r_aload_n X dX8_person_18 0 rfl isr_ref ?_
      refine r_get (i := 108) (v := .ref (G.1 0)) X in_X8_person_8 rfl 0 (by decide) (kd_in kc_108 (by decide)) (EE_8 _ kc_108) rfl (mem_ix 2 rfl) dX8_person_19 ?_
      refine r_get (i := 0) (v := .int (σ16 0 3)) X in_X8_person_0 rfl 3 (by decide) (kd_in kc_0 (by decide)) (EE_0 _ kc_0) rfl (mem_ix 3 rfl) dX8_person_22 ?_
      refine r_iconst X dX8_person_25 ci_5 ?_
      refine r_icmp_lt (tgt := 36) X dX8_person_26 (by decide) (fun h19 => ?_) (fun h19 => ?_)
      · replace hf := okt h19 hf
        refine r_aload_n X dX8_person_36 0 rfl isr_ref ?_
        refine r_get (i := 108) (v := .ref (G.1 0)) X in_X8_person_8 rfl 0 (by decide) (kd_in kc_108 (by decide)) (EE_8 _ kc_108) rfl (mem_ix 2 rfl) dX8_person_37 ?_
        refine r_iload_n X dX8_person_40 1 rfl ?_
        refine r_callVi (rest := []) X (c_X0_addPerson l G 0 a1 kc_0 σ16 (oks hf)) md_X0_addPerson gX8_person_X0_addPerson (by decide) rfl rfl (kd_in kc_0 (by decide)) (EE_0 _ kc_0) rfl rfl (Nat.le_of_ble_eq_true rfl) dX8_person_41 (fun r20 σ21 e22 => ?_)
        replace hf := okn e22 hf
        exact r_iret X rfl hR (ok0 hf) dX8_person_44
      · replace hf := okf h19 hf
        refine r_aload_n X dX8_person_29 0 rfl isr_ref ?_
        refine r_ldc (v := (-1000000004 : Int32)) X (mem_ix 4 rfl) dX8_person_30 ?_
        refine r_callVi (rest := []) X (c_X8_error l G (-1000000004 : Int32) σ16 (oks hf)) md_X8_error gX8_person_X8_error (by decide) rfl rfl (kd_in kc_108 (by decide)) (EE_8 _ kc_108) rfl rfl (Nat.le_of_ble_eq_true rfl) dX8_person_32 (fun r23 σ24 e25 => ?_)
        replace hf := okn e25 hf
        exact r_iret X rfl hR (ok0 hf) dX8_person_35
    · replace hf := okt h18 hf
      refine r_aload_n X dX8_person_11 0 rfl isr_ref ?_
      refine r_ldc (v := (-1000000001 : Int32)) X (mem_ix 1 rfl) dX8_person_12 ?_
      refine r_callVi (rest := []) X (c_X8_error l G (-1000000001 : Int32) σ16 (oks hf)) md_X8_error gX8_person_X8_error (by decide) rfl rfl (kd_in kc_108 (by decide)) (EE_8 _ kc_108) rfl rfl (Nat.le_of_ble_eq_true rfl) dX8_person_14 (fun r26 σ27 e28 => ?_)
      replace hf := okn e28 hf
      exact r_iret X rfl hR (ok0 hf) dX8_person_17
theorem md_X8_person : MD yX8_person wsX8_person cX8_person 2 1 (some .int) := ⟨⟨_, rfl⟩, by decide +kernel, by decide +kernel, by decide⟩
theorem c_X8_person (l : Launch) (G : GX)  (a1 : Int32) (σ : MM) (h : (f_X8_person a1 σ).isSome = true) : CTi l G yX8_person wsX8_person 5 [.ref (G.1 108), .int a1] σ (f_X8_person a1 σ) :=
  CTi_of md_X8_person (Nat.le_of_ble_eq_true rfl) (fun K X hR => e_X8_person X hR a1 σ (ok_is h))
-- X8_personIs
theorem in_X8_personIs_8 : ∀ w ∈ u_ws RX8 TX8 9, w ∈ wsX8_personIs := fun _ h => List.mem_cons_of_mem _ (List.mem_append_left _ (List.mem_append_left _ (List.mem_append_right _ h)))
theorem in_X8_personIs_3 : ∀ w ∈ u_ws RX3 TX3 4, w ∈ wsX8_personIs := fun _ h => List.mem_cons_of_mem _ (List.mem_append_left _ (List.mem_append_right _ h))
theorem in_X8_personIs_0 : ∀ w ∈ u_ws RX0 TX0 12, w ∈ wsX8_personIs := fun _ h => List.mem_cons_of_mem _ (List.mem_append_right _ h)
def u_X8_personIs_22  (σ : MM) : Option (Int32 × MM) :=
  bd (f_X8_error (-1000000001 : Int32) σ) (fun r26 σ27 => some (r26, σ27))
def f_X8_personIs (a1 : Int32) (a2 : Int32) (σ : MM) : Option (Int32 × MM) :=
  bd (f_X0_personOf 0 a1 σ) (fun r21 σ22 => onO r21 (u_X8_personIs_22 σ22) (fun i24 => if kd i24 = 3 then bd (f_X8_within a2 (0 : Int32) (4 : Int32) σ22) (fun r29 σ30 => if r29 = 0 then u_X8_personIs_22 σ30 else if a2 = (0 : Int32) then some ((σ30 i24 0), σ30) else if a2 = (1 : Int32) then some ((σ30 i24 1), σ30) else if a2 = (2 : Int32) then some ((σ30 i24 2), σ30) else if a2 = (3 : Int32) then some ((σ30 i24 3), σ30) else bd (f_X0_isUp 0 i24 σ30) (fun r37 σ38 => if r37 = 0 then some ((0 : Int32), σ38) else some ((1 : Int32), σ38))) else none))
set_option maxRecDepth 100000 in
set_option maxHeartbeats 4000000 in
theorem t_X8_personIs_22 {l : Launch} {G : GX} {K : KX} (X : FX G K cX8_personIs RX8 (some .int) wsX8_personIs 4) {Φ : Int32 → MM → Prop} (hR : Ri G K Φ)  (σ : MM) (hf : Ok Φ (u_X8_personIs_22  σ)) : V l G 5 K 4 22 [(0, .ref (G.1 108))] [] σ := by
    unfold u_X8_personIs_22 at hf
    refine r_aload_n X dX8_personIs_22 0 rfl isr_ref ?_
    refine r_ldc (v := (-1000000001 : Int32)) X (mem_ix 2 rfl) dX8_personIs_23 ?_
    refine r_callVi (rest := []) X (c_X8_error l G (-1000000001 : Int32) σ (oks hf)) md_X8_error gX8_personIs_X8_error (by decide) rfl rfl (kd_in kc_108 (by decide)) (EE_8 _ kc_108) rfl rfl (Nat.le_of_ble_eq_true rfl) dX8_personIs_25 (fun r26 σ27 e28 => ?_)
    replace hf := okn e28 hf
    exact r_iret X rfl hR (ok0 hf) dX8_personIs_28
set_option maxRecDepth 100000 in
set_option maxHeartbeats 4000000 in
theorem e_X8_personIs {l : Launch} {G : GX} {K : KX} (X : FX G K cX8_personIs RX8 (some .int) wsX8_personIs 4) {Φ : Int32 → MM → Prop} (hR : Ri G K Φ) (a1 : Int32) (a2 : Int32) (σ : MM) (hf : Ok Φ (f_X8_personIs a1 a2 σ)) : V l G 5 K 4 0 [(0, .ref (G.1 108)), (1, .int a1), (2, .int a2)] [] σ := by
    unfold f_X8_personIs at hf
    refine r_aload_n X dX8_personIs_0 0 rfl isr_ref ?_
    refine r_get (i := 108) (v := .ref (G.1 0)) X in_X8_personIs_8 rfl 0 (by decide) (kd_in kc_108 (by decide)) (EE_8 _ kc_108) rfl (mem_ix 1 rfl) dX8_personIs_1 ?_
    refine r_iload_n X dX8_personIs_4 1 rfl ?_
    refine r_callVq (rest := []) X (c_X0_personOf l G 0 a1 kc_0 σ (oks hf)) md_X0_personOf gX8_personIs_X0_personOf (by decide) rfl rfl (kd_in kc_0 (by decide)) (EE_0 _ kc_0) rfl rfl (Nat.le_of_ble_eq_true rfl) dX8_personIs_5 (fun r21 σ22 e23 => ?_)
    replace hf := okn e23 hf
    rcases r21 with _ | i24
    · replace hf := okz hf
      refine r_astore_n X dX8_personIs_8 (i := 3) rfl (by decide) isr_null (lv' := [(3, .null), (0, .ref (G.1 108)), (1, .int a1), (2, .int a2)]) rfl ?_
      refine r_aload_n X dX8_personIs_9 0 rfl isr_null ?_
      refine r_ifnullN (tgt := 22) X dX8_personIs_10 (by decide) ?_
      refine r_sub [1] rfl ?_
      exact t_X8_personIs_22 X hR σ22 hf
    · replace hf := oky hf
      obtain ⟨hi25, hf⟩ := okp hf
      refine r_astore_n X dX8_personIs_8 (i := 3) rfl (by decide) isr_ref (lv' := [(3, .ref (G.1 i24)), (0, .ref (G.1 108)), (1, .int a1), (2, .int a2)]) rfl ?_
      refine r_aload_n X dX8_personIs_9 0 rfl isr_ref ?_
      refine r_ifnull X dX8_personIs_10 ?_
      refine r_iload_n X dX8_personIs_13 3 rfl ?_
      refine r_iconst X dX8_personIs_14 ci_0 ?_
      refine r_iconst X dX8_personIs_15 ci_4 ?_
      refine r_callSi (rest := []) X (c_X8_within l G a2 (0 : Int32) (4 : Int32) σ22 (oks hf)) md_X8_within gX8_personIs_X8_within (by decide) rfl rfl (Nat.le_of_ble_eq_true rfl) dX8_personIs_16 (fun r29 σ30 e31 => ?_)
      replace hf := okn e31 hf
      refine r_if_ne (tgt := 29) X dX8_personIs_19 (by decide) (fun h32 => ?_) (fun h32 => ?_)
      · replace hf := okf h32 hf
        refine r_iload_n X dX8_personIs_29 3 rfl ?_
        by_cases h33 : a2 = (0 : Int32)
        · replace hf := okt h33 hf
          refine r_table (off := 30) (tgt := 60) X [(0, 30), (1, 35), (2, 40), (3, 45)] 4 dX8_personIs_30 (by decide) (by decide +kernel) (by decide +kernel) (by rw [h33]; rfl) (by decide) ?_
          refine r_aload_n X dX8_personIs_60 0 rfl isr_ref ?_
          refine r_get (i := i24) (v := .int (σ30 i24 0)) X in_X8_personIs_3 rfl 0 (by decide) (kd_in hi25 (by decide)) (EE_3 _ hi25) rfl (mem_ix 3 rfl) dX8_personIs_61 ?_
          exact r_iret X rfl hR (ok0 hf) dX8_personIs_64
        replace hf := okf h33 hf
        by_cases h34 : a2 = (1 : Int32)
        · replace hf := okt h34 hf
          refine r_table (off := 35) (tgt := 65) X [(0, 30), (1, 35), (2, 40), (3, 45)] 4 dX8_personIs_30 (by decide) (by decide +kernel) (by decide +kernel) (by rw [h34]; rfl) (by decide) ?_
          refine r_aload_n X dX8_personIs_65 0 rfl isr_ref ?_
          refine r_get (i := i24) (v := .int (σ30 i24 1)) X in_X8_personIs_3 rfl 1 (by decide) (kd_in hi25 (by decide)) (EE_3 _ hi25) rfl (mem_ix 4 rfl) dX8_personIs_66 ?_
          exact r_iret X rfl hR (ok0 hf) dX8_personIs_69
        replace hf := okf h34 hf
        by_cases h35 : a2 = (2 : Int32)
        · replace hf := okt h35 hf
          refine r_table (off := 40) (tgt := 70) X [(0, 30), (1, 35), (2, 40), (3, 45)] 4 dX8_personIs_30 (by decide) (by decide +kernel) (by decide +kernel) (by rw [h35]; rfl) (by decide) ?_
          refine r_aload_n X dX8_personIs_70 0 rfl isr_ref ?_
          refine r_get (i := i24) (v := .int (σ30 i24 2)) X in_X8_personIs_3 rfl 2 (by decide) (kd_in hi25 (by decide)) (EE_3 _ hi25) rfl (mem_ix 5 rfl) dX8_personIs_71 ?_
          exact r_iret X rfl hR (ok0 hf) dX8_personIs_74
        replace hf := okf h35 hf
        by_cases h36 : a2 = (3 : Int32)
        · replace hf := okt h36 hf
          refine r_table (off := 45) (tgt := 75) X [(0, 30), (1, 35), (2, 40), (3, 45)] 4 dX8_personIs_30 (by decide) (by decide +kernel) (by decide +kernel) (by rw [h36]; rfl) (by decide) ?_
          refine r_aload_n X dX8_personIs_75 0 rfl isr_ref ?_
          refine r_get (i := i24) (v := .int (σ30 i24 3)) X in_X8_personIs_3 rfl 3 (by decide) (kd_in hi25 (by decide)) (EE_3 _ hi25) rfl (mem_ix 6 rfl) dX8_personIs_76 ?_
          exact r_iret X rfl hR (ok0 hf) dX8_personIs_79
        replace hf := okf h36 hf
        refine r_table (off := 50) (tgt := 80) X [(0, 30), (1, 35), (2, 40), (3, 45)] 4 dX8_personIs_30 (by decide) (by decide +kernel) (by decide +kernel) (lk_n h33 (by decide) (lk_n h34 (by decide) (lk_n h35 (by decide) (lk_n h36 (by decide) rfl)))) (by decide) ?_
        refine r_aload_n X dX8_personIs_80 1 rfl isr_ref ?_
        refine r_get (i := 108) (v := .ref (G.1 0)) X in_X8_personIs_8 rfl 0 (by decide) (kd_in kc_108 (by decide)) (EE_8 _ kc_108) rfl (mem_ix 1 rfl) dX8_personIs_81 ?_
        refine r_aload_n X dX8_personIs_84 0 rfl isr_ref ?_
        refine r_callVi (rest := []) X (c_X0_isUp l G 0 i24 kc_0 hi25 σ30 (oks hf)) md_X0_isUp gX8_personIs_X0_isUp (by decide) rfl rfl (kd_in kc_0 (by decide)) (EE_0 _ kc_0) rfl rfl (Nat.le_of_ble_eq_true rfl) dX8_personIs_85 (fun r37 σ38 e39 => ?_)
        replace hf := okn e39 hf
        refine r_if_eq (tgt := 95) X dX8_personIs_88 (by decide) (fun h40 => ?_) (fun h40 => ?_)
        · replace hf := okt h40 hf
          refine r_iconst X dX8_personIs_95 ci_0 ?_
          exact r_iret X rfl hR (ok0 hf) dX8_personIs_96
        · replace hf := okf h40 hf
          refine r_iconst X dX8_personIs_91 ci_1 ?_
          refine r_goto (tgt := 96) X dX8_personIs_92 (by decide) ?_
          exact r_iret X rfl hR (ok0 hf) dX8_personIs_96
      · replace hf := okt h32 hf
        refine r_sub [1] rfl ?_
        exact t_X8_personIs_22 X hR σ30 hf
theorem md_X8_personIs : MD yX8_personIs wsX8_personIs cX8_personIs 4 2 (some .int) := ⟨⟨_, rfl⟩, by decide +kernel, by decide +kernel, by decide⟩
theorem c_X8_personIs (l : Launch) (G : GX)  (a1 : Int32) (a2 : Int32) (σ : MM) (h : (f_X8_personIs a1 a2 σ).isSome = true) : CTi l G yX8_personIs wsX8_personIs 5 [.ref (G.1 108), .int a1, .int a2] σ (f_X8_personIs a1 a2 σ) :=
  CTi_of md_X8_personIs (Nat.le_of_ble_eq_true rfl) (fun K X hR => e_X8_personIs X hR a1 a2 σ (ok_is h))
-- X8_rests
theorem in_X8_rests_8 : ∀ w ∈ u_ws RX8 TX8 9, w ∈ wsX8_rests := fun _ h => List.mem_cons_of_mem _ (List.mem_append_left _ (List.mem_append_left _ (List.mem_append_right _ h)))
theorem in_X8_rests_3 : ∀ w ∈ u_ws RX3 TX3 4, w ∈ wsX8_rests := fun _ h => List.mem_cons_of_mem _ (List.mem_append_left _ (List.mem_append_right _ h))
theorem in_X8_rests_0 : ∀ w ∈ u_ws RX0 TX0 12, w ∈ wsX8_rests := fun _ h => List.mem_cons_of_mem _ (List.mem_append_right _ h)
def u_X8_rests_24  (σ : MM) : Option (Int32 × MM) :=
  bd (f_X8_error (-1000000001 : Int32) σ) (fun r20 σ21 => some (r20, σ21))
def f_X8_rests (a1 : Int32) (a2 : Int32) (σ : MM) : Option (Int32 × MM) :=
  bd (f_X0_personOf 0 a1 σ) (fun r15 σ16 => onO r15 (u_X8_rests_24 σ16) (fun i18 => if kd i18 = 3 then bd (f_X8_within a2 (0 : Int32) (999 : Int32) σ16) (fun r23 σ24 => if r23 = 0 then u_X8_rests_24 σ24 else lt (mu σ24 i18 1 a2) (fun σ27 => some ((σ24 i18 1), σ27))) else none))
set_option maxRecDepth 100000 in
set_option maxHeartbeats 4000000 in
theorem t_X8_rests_24 {l : Launch} {G : GX} {K : KX} (X : FX G K cX8_rests RX8 (some .int) wsX8_rests 5) {Φ : Int32 → MM → Prop} (hR : Ri G K Φ)  (σ : MM) (hf : Ok Φ (u_X8_rests_24  σ)) : V l G 5 K 5 24 [(0, .ref (G.1 108))] [] σ := by
    unfold u_X8_rests_24 at hf
    refine r_aload_n X dX8_rests_24 0 rfl isr_ref ?_
    refine r_ldc (v := (-1000000001 : Int32)) X (mem_ix 2 rfl) dX8_rests_25 ?_
    refine r_callVi (rest := []) X (c_X8_error l G (-1000000001 : Int32) σ (oks hf)) md_X8_error gX8_rests_X8_error (by decide) rfl rfl (kd_in kc_108 (by decide)) (EE_8 _ kc_108) rfl rfl (Nat.le_of_ble_eq_true rfl) dX8_rests_27 (fun r20 σ21 e22 => ?_)
    replace hf := okn e22 hf
    exact r_iret X rfl hR (ok0 hf) dX8_rests_30
set_option maxRecDepth 100000 in
set_option maxHeartbeats 4000000 in
theorem e_X8_rests {l : Launch} {G : GX} {K : KX} (X : FX G K cX8_rests RX8 (some .int) wsX8_rests 5) {Φ : Int32 → MM → Prop} (hR : Ri G K Φ) (a1 : Int32) (a2 : Int32) (σ : MM) (hf : Ok Φ (f_X8_rests a1 a2 σ)) : V l G 5 K 5 0 [(0, .ref (G.1 108)), (1, .int a1), (2, .int a2)] [] σ := by
    unfold f_X8_rests at hf
    refine r_aload_n X dX8_rests_0 0 rfl isr_ref ?_
    refine r_get (i := 108) (v := .ref (G.1 0)) X in_X8_rests_8 rfl 0 (by decide) (kd_in kc_108 (by decide)) (EE_8 _ kc_108) rfl (mem_ix 1 rfl) dX8_rests_1 ?_
    refine r_iload_n X dX8_rests_4 1 rfl ?_
    refine r_callVq (rest := []) X (c_X0_personOf l G 0 a1 kc_0 σ (oks hf)) md_X0_personOf gX8_rests_X0_personOf (by decide) rfl rfl (kd_in kc_0 (by decide)) (EE_0 _ kc_0) rfl rfl (Nat.le_of_ble_eq_true rfl) dX8_rests_5 (fun r15 σ16 e17 => ?_)
    replace hf := okn e17 hf
    rcases r15 with _ | i18
    · replace hf := okz hf
      refine r_astore_n X dX8_rests_8 (i := 3) rfl (by decide) isr_null (lv' := [(3, .null), (0, .ref (G.1 108)), (1, .int a1), (2, .int a2)]) rfl ?_
      refine r_aload_n X dX8_rests_9 0 rfl isr_null ?_
      refine r_ifnullN (tgt := 24) X dX8_rests_10 (by decide) ?_
      refine r_sub [1] rfl ?_
      exact t_X8_rests_24 X hR σ16 hf
    · replace hf := oky hf
      obtain ⟨hi19, hf⟩ := okp hf
      refine r_astore_n X dX8_rests_8 (i := 3) rfl (by decide) isr_ref (lv' := [(3, .ref (G.1 i18)), (0, .ref (G.1 108)), (1, .int a1), (2, .int a2)]) rfl ?_
      refine r_aload_n X dX8_rests_9 0 rfl isr_ref ?_
      refine r_ifnull X dX8_rests_10 ?_
      refine r_iload_n X dX8_rests_13 3 rfl ?_
      refine r_iconst X dX8_rests_14 ci_0 ?_
      refine r_sipush X dX8_rests_15 cs_999 ?_
      refine r_callSi (rest := []) X (c_X8_within l G a2 (0 : Int32) (999 : Int32) σ16 (oks hf)) md_X8_within gX8_rests_X8_within (by decide) rfl rfl (Nat.le_of_ble_eq_true rfl) dX8_rests_18 (fun r23 σ24 e25 => ?_)
      replace hf := okn e25 hf
      refine r_if_ne (tgt := 31) X dX8_rests_21 (by decide) (fun h26 => ?_) (fun h26 => ?_)
      · replace hf := okf h26 hf
        refine r_aload_n X dX8_rests_31 0 rfl isr_ref ?_
        refine r_get (i := i18) (v := .int (σ24 i18 1)) X in_X8_rests_3 rfl 1 (by decide) (kd_in hi19 (by decide)) (EE_3 _ hi19) rfl (mem_ix 3 rfl) dX8_rests_32 ?_
        refine r_istore X dX8_rests_35 (by decide) (lv' := [(4, .int (σ24 i18 1)), (3, .ref (G.1 i18)), (0, .ref (G.1 108)), (1, .int a1), (2, .int a2)]) rfl ?_
        refine r_aload_n X dX8_rests_37 1 rfl isr_ref ?_
        refine r_iload_n X dX8_rests_38 4 rfl ?_
        obtain ⟨σ27, e28, hf⟩ := okl hf
        refine r_put (i := i18) (f := upd (σ24 i18) 1 a2) X in_X8_rests_3 tyX3 tyX3_ok nmX3 rfl 1 (by decide) (kd_in hi19 (by decide)) (EE_3 _ hi19) (EU_3_1 _ _ hi19) rfl (mem_ix 3 rfl) rfl rfl rfl rfl dX8_rests_39 ?_
        refine r_sg e28 ?_
        refine r_iload X dX8_rests_42 0 rfl ?_
        exact r_iret X rfl hR (ok0 hf) dX8_rests_44
      · replace hf := okt h26 hf
        refine r_sub [1] rfl ?_
        exact t_X8_rests_24 X hR σ24 hf
theorem md_X8_rests : MD yX8_rests wsX8_rests cX8_rests 5 2 (some .int) := ⟨⟨_, rfl⟩, by decide +kernel, by decide +kernel, by decide⟩
theorem c_X8_rests (l : Launch) (G : GX)  (a1 : Int32) (a2 : Int32) (σ : MM) (h : (f_X8_rests a1 a2 σ).isSome = true) : CTi l G yX8_rests wsX8_rests 5 [.ref (G.1 108), .int a1, .int a2] σ (f_X8_rests a1 a2 σ) :=
  CTi_of md_X8_rests (Nat.le_of_ble_eq_true rfl) (fun K X hR => e_X8_rests X hR a1 a2 σ (ok_is h))
-- X8_carry
theorem in_X8_carry_8 : ∀ w ∈ u_ws RX8 TX8 9, w ∈ wsX8_carry := fun _ h => List.mem_cons_of_mem _ (List.mem_append_left _ (List.mem_append_left _ (List.mem_append_right _ h)))
theorem in_X8_carry_0 : ∀ w ∈ u_ws RX0 TX0 12, w ∈ wsX8_carry := fun _ h => List.mem_cons_of_mem _ (List.mem_append_left _ (List.mem_append_right _ h))
theorem in_X8_carry_3 : ∀ w ∈ u_ws RX3 TX3 4, w ∈ wsX8_carry := fun _ h => List.mem_cons_of_mem _ (List.mem_append_right _ h)
def u_X8_carry_28  (σ : MM) : Option (Int32 × MM) :=
  bd (f_X8_error (-1000000001 : Int32) σ) (fun r20 σ21 => some (r20, σ21))
def f_X8_carry (a1 : Int32) (a2 : Int32) (σ : MM) : Option (Int32 × MM) :=
  bd (f_X0_personOf 0 a1 σ) (fun r15 σ16 => onO r15 (u_X8_carry_28 σ16) (fun i18 => if kd i18 = 3 then bd (f_X8_within a2 (0 : Int32) (σ16 0 1) σ16) (fun r23 σ24 => if r23 = 0 then u_X8_carry_28 σ24 else lt (mu σ24 i18 0 a2) (fun σ27 => some ((σ24 i18 0), σ27))) else none))
set_option maxRecDepth 100000 in
set_option maxHeartbeats 4000000 in
theorem t_X8_carry_28 {l : Launch} {G : GX} {K : KX} (X : FX G K cX8_carry RX8 (some .int) wsX8_carry 5) {Φ : Int32 → MM → Prop} (hR : Ri G K Φ)  (σ : MM) (hf : Ok Φ (u_X8_carry_28  σ)) : V l G 5 K 5 28 [(0, .ref (G.1 108))] [] σ := by
    unfold u_X8_carry_28 at hf
    refine r_aload_n X dX8_carry_28 0 rfl isr_ref ?_
    refine r_ldc (v := (-1000000001 : Int32)) X (mem_ix 3 rfl) dX8_carry_29 ?_
    refine r_callVi (rest := []) X (c_X8_error l G (-1000000001 : Int32) σ (oks hf)) md_X8_error gX8_carry_X8_error (by decide) rfl rfl (kd_in kc_108 (by decide)) (EE_8 _ kc_108) rfl rfl (Nat.le_of_ble_eq_true rfl) dX8_carry_31 (fun r20 σ21 e22 => ?_)
    replace hf := okn e22 hf
    exact r_iret X rfl hR (ok0 hf) dX8_carry_34
set_option maxRecDepth 100000 in
set_option maxHeartbeats 4000000 in
theorem e_X8_carry {l : Launch} {G : GX} {K : KX} (X : FX G K cX8_carry RX8 (some .int) wsX8_carry 5) {Φ : Int32 → MM → Prop} (hR : Ri G K Φ) (a1 : Int32) (a2 : Int32) (σ : MM) (hf : Ok Φ (f_X8_carry a1 a2 σ)) : V l G 5 K 5 0 [(0, .ref (G.1 108)), (1, .int a1), (2, .int a2)] [] σ := by
    unfold f_X8_carry at hf
    refine r_aload_n X dX8_carry_0 0 rfl isr_ref ?_
    refine r_get (i := 108) (v := .ref (G.1 0)) X in_X8_carry_8 rfl 0 (by decide) (kd_in kc_108 (by decide)) (EE_8 _ kc_108) rfl (mem_ix 1 rfl) dX8_carry_1 ?_
    refine r_iload_n X dX8_carry_4 1 rfl ?_
    refine r_callVq (rest := []) X (c_X0_personOf l G 0 a1 kc_0 σ (oks hf)) md_X0_personOf gX8_carry_X0_personOf (by decide) rfl rfl (kd_in kc_0 (by decide)) (EE_0 _ kc_0) rfl rfl (Nat.le_of_ble_eq_true rfl) dX8_carry_5 (fun r15 σ16 e17 => ?_)
    replace hf := okn e17 hf
    rcases r15 with _ | i18
    · replace hf := okz hf
      refine r_astore_n X dX8_carry_8 (i := 3) rfl (by decide) isr_null (lv' := [(3, .null), (0, .ref (G.1 108)), (1, .int a1), (2, .int a2)]) rfl ?_
      refine r_aload_n X dX8_carry_9 0 rfl isr_null ?_
      refine r_ifnullN (tgt := 28) X dX8_carry_10 (by decide) ?_
      refine r_sub [1] rfl ?_
      exact t_X8_carry_28 X hR σ16 hf
    · replace hf := oky hf
      obtain ⟨hi19, hf⟩ := okp hf
      refine r_astore_n X dX8_carry_8 (i := 3) rfl (by decide) isr_ref (lv' := [(3, .ref (G.1 i18)), (0, .ref (G.1 108)), (1, .int a1), (2, .int a2)]) rfl ?_
      refine r_aload_n X dX8_carry_9 0 rfl isr_ref ?_
      refine r_ifnull X dX8_carry_10 ?_
      refine r_iload_n X dX8_carry_13 3 rfl ?_
      refine r_iconst X dX8_carry_14 ci_0 ?_
      refine r_aload_n X dX8_carry_15 1 rfl isr_ref ?_
      refine r_get (i := 108) (v := .ref (G.1 0)) X in_X8_carry_8 rfl 0 (by decide) (kd_in kc_108 (by decide)) (EE_8 _ kc_108) rfl (mem_ix 1 rfl) dX8_carry_16 ?_
      refine r_get (i := 0) (v := .int (σ16 0 1)) X in_X8_carry_0 rfl 1 (by decide) (kd_in kc_0 (by decide)) (EE_0 _ kc_0) rfl (mem_ix 2 rfl) dX8_carry_19 ?_
      refine r_callSi (rest := []) X (c_X8_within l G a2 (0 : Int32) (σ16 0 1) σ16 (oks hf)) md_X8_within gX8_carry_X8_within (by decide) rfl rfl (Nat.le_of_ble_eq_true rfl) dX8_carry_22 (fun r23 σ24 e25 => ?_)
      replace hf := okn e25 hf
      refine r_if_ne (tgt := 35) X dX8_carry_25 (by decide) (fun h26 => ?_) (fun h26 => ?_)
      · replace hf := okf h26 hf
        refine r_aload_n X dX8_carry_35 0 rfl isr_ref ?_
        refine r_get (i := i18) (v := .int (σ24 i18 0)) X in_X8_carry_3 rfl 0 (by decide) (kd_in hi19 (by decide)) (EE_3 _ hi19) rfl (mem_ix 4 rfl) dX8_carry_36 ?_
        refine r_istore X dX8_carry_39 (by decide) (lv' := [(4, .int (σ24 i18 0)), (3, .ref (G.1 i18)), (0, .ref (G.1 108)), (1, .int a1), (2, .int a2)]) rfl ?_
        refine r_aload_n X dX8_carry_41 1 rfl isr_ref ?_
        refine r_iload_n X dX8_carry_42 4 rfl ?_
        obtain ⟨σ27, e28, hf⟩ := okl hf
        refine r_put (i := i18) (f := upd (σ24 i18) 0 a2) X in_X8_carry_3 tyX3 tyX3_ok nmX3 rfl 0 (by decide) (kd_in hi19 (by decide)) (EE_3 _ hi19) (EU_3_0 _ _ hi19) rfl (mem_ix 4 rfl) rfl rfl rfl rfl dX8_carry_43 ?_
        refine r_sg e28 ?_
        refine r_iload X dX8_carry_46 0 rfl ?_
        exact r_iret X rfl hR (ok0 hf) dX8_carry_48
      · replace hf := okt h26 hf
        refine r_sub [1] rfl ?_
        exact t_X8_carry_28 X hR σ24 hf
theorem md_X8_carry : MD yX8_carry wsX8_carry cX8_carry 5 2 (some .int) := ⟨⟨_, rfl⟩, by decide +kernel, by decide +kernel, by decide⟩
theorem c_X8_carry (l : Launch) (G : GX)  (a1 : Int32) (a2 : Int32) (σ : MM) (h : (f_X8_carry a1 a2 σ).isSome = true) : CTi l G yX8_carry wsX8_carry 5 [.ref (G.1 108), .int a1, .int a2] σ (f_X8_carry a1 a2 σ) :=
  CTi_of md_X8_carry (Nat.le_of_ble_eq_true rfl) (fun K X hR => e_X8_carry X hR a1 a2 σ (ok_is h))
-- X8_content
theorem in_X8_content_8 : ∀ w ∈ u_ws RX8 TX8 9, w ∈ wsX8_content := fun _ h => List.mem_cons_of_mem _ (List.mem_append_left _ (List.mem_append_left _ (List.mem_append_left _ (List.mem_append_right _ h))))
theorem in_X8_content_0 : ∀ w ∈ u_ws RX0 TX0 12, w ∈ wsX8_content := fun _ h => List.mem_cons_of_mem _ (List.mem_append_left _ (List.mem_append_left _ (List.mem_append_right _ h)))
theorem in_X8_content_2 : ∀ w ∈ u_ws RX2 TX2 4, w ∈ wsX8_content := fun _ h => List.mem_cons_of_mem _ (List.mem_append_left _ (List.mem_append_right _ h))
theorem in_X8_content_6 : ∀ w ∈ u_ws RX6 TX6 3, w ∈ wsX8_content := fun _ h => List.mem_cons_of_mem _ (List.mem_append_right _ h)
def u_X8_content_20  (σ : MM) : Option (Int32 × MM) :=
  bd (f_X8_error (-1000000001 : Int32) σ) (fun r22 σ23 => some (r22, σ23))
def f_X8_content (a1 : Int32) (a2 : Int32) (σ : MM) : Option (Int32 × MM) :=
  bd (f_X0_judgeOn 0 a1 σ) (fun r17 σ18 => onO r17 (u_X8_content_20 σ18) (fun i20 => if kd i20 = 2 then bd (f_X8_isWord a2 σ18) (fun r25 σ26 => if r25 = 0 then u_X8_content_20 σ26 else bd (f_X0_isContent 0 i20 a2 σ26) (fun r29 σ30 => if r29 = 0 then some ((0 : Int32), σ30) else some ((1 : Int32), σ30))) else none))
set_option maxRecDepth 100000 in
set_option maxHeartbeats 4000000 in
theorem t_X8_content_20 {l : Launch} {G : GX} {K : KX} (X : FX G K cX8_content RX8 (some .int) wsX8_content 4) {Φ : Int32 → MM → Prop} (hR : Ri G K Φ)  (σ : MM) (hf : Ok Φ (u_X8_content_20  σ)) : V l G 7 K 4 20 [(0, .ref (G.1 108))] [] σ := by
    unfold u_X8_content_20 at hf
    refine r_aload_n X dX8_content_20 0 rfl isr_ref ?_
    refine r_ldc (v := (-1000000001 : Int32)) X (mem_ix 2 rfl) dX8_content_21 ?_
    refine r_callVi (rest := []) X (c_X8_error l G (-1000000001 : Int32) σ (oks hf)) md_X8_error gX8_content_X8_error (by decide) rfl rfl (kd_in kc_108 (by decide)) (EE_8 _ kc_108) rfl rfl (Nat.le_of_ble_eq_true rfl) dX8_content_23 (fun r22 σ23 e24 => ?_)
    replace hf := okn e24 hf
    exact r_iret X rfl hR (ok0 hf) dX8_content_26
set_option maxRecDepth 100000 in
set_option maxHeartbeats 4000000 in
theorem e_X8_content {l : Launch} {G : GX} {K : KX} (X : FX G K cX8_content RX8 (some .int) wsX8_content 4) {Φ : Int32 → MM → Prop} (hR : Ri G K Φ) (a1 : Int32) (a2 : Int32) (σ : MM) (hf : Ok Φ (f_X8_content a1 a2 σ)) : V l G 7 K 4 0 [(0, .ref (G.1 108)), (1, .int a1), (2, .int a2)] [] σ := by
    unfold f_X8_content at hf
    refine r_aload_n X dX8_content_0 0 rfl isr_ref ?_
    refine r_get (i := 108) (v := .ref (G.1 0)) X in_X8_content_8 rfl 0 (by decide) (kd_in kc_108 (by decide)) (EE_8 _ kc_108) rfl (mem_ix 1 rfl) dX8_content_1 ?_
    refine r_iload_n X dX8_content_4 1 rfl ?_
    refine r_callVq (rest := []) X (c_X0_judgeOn l G 0 a1 kc_0 σ (oks hf)) md_X0_judgeOn gX8_content_X0_judgeOn (by decide) rfl rfl (kd_in kc_0 (by decide)) (EE_0 _ kc_0) rfl rfl (Nat.le_of_ble_eq_true rfl) dX8_content_5 (fun r17 σ18 e19 => ?_)
    replace hf := okn e19 hf
    rcases r17 with _ | i20
    · replace hf := okz hf
      refine r_astore_n X dX8_content_8 (i := 3) rfl (by decide) isr_null (lv' := [(3, .null), (0, .ref (G.1 108)), (1, .int a1), (2, .int a2)]) rfl ?_
      refine r_aload_n X dX8_content_9 0 rfl isr_null ?_
      refine r_ifnullN (tgt := 20) X dX8_content_10 (by decide) ?_
      refine r_sub [1] rfl ?_
      exact t_X8_content_20 X hR σ18 hf
    · replace hf := oky hf
      obtain ⟨hi21, hf⟩ := okp hf
      refine r_astore_n X dX8_content_8 (i := 3) rfl (by decide) isr_ref (lv' := [(3, .ref (G.1 i20)), (0, .ref (G.1 108)), (1, .int a1), (2, .int a2)]) rfl ?_
      refine r_aload_n X dX8_content_9 0 rfl isr_ref ?_
      refine r_ifnull X dX8_content_10 ?_
      refine r_iload_n X dX8_content_13 3 rfl ?_
      refine r_callSi (rest := []) X (c_X8_isWord l G a2 σ18 (oks hf)) md_X8_isWord gX8_content_X8_isWord (by decide) rfl rfl (Nat.le_of_ble_eq_true rfl) dX8_content_14 (fun r25 σ26 e27 => ?_)
      replace hf := okn e27 hf
      refine r_if_ne (tgt := 27) X dX8_content_17 (by decide) (fun h28 => ?_) (fun h28 => ?_)
      · replace hf := okf h28 hf
        refine r_aload_n X dX8_content_27 1 rfl isr_ref ?_
        refine r_get (i := 108) (v := .ref (G.1 0)) X in_X8_content_8 rfl 0 (by decide) (kd_in kc_108 (by decide)) (EE_8 _ kc_108) rfl (mem_ix 1 rfl) dX8_content_28 ?_
        refine r_aload_n X dX8_content_31 0 rfl isr_ref ?_
        refine r_iload_n X dX8_content_32 3 rfl ?_
        refine r_callVi (rest := []) X (c_X0_isContent l G 0 i20 a2 kc_0 hi21 σ26 (oks hf)) md_X0_isContent gX8_content_X0_isContent (by decide) rfl rfl (kd_in kc_0 (by decide)) (EE_0 _ kc_0) rfl rfl (Nat.le_of_ble_eq_true rfl) dX8_content_33 (fun r29 σ30 e31 => ?_)
        replace hf := okn e31 hf
        refine r_if_eq (tgt := 43) X dX8_content_36 (by decide) (fun h32 => ?_) (fun h32 => ?_)
        · replace hf := okt h32 hf
          refine r_iconst X dX8_content_43 ci_0 ?_
          exact r_iret X rfl hR (ok0 hf) dX8_content_44
        · replace hf := okf h32 hf
          refine r_iconst X dX8_content_39 ci_1 ?_
          refine r_goto (tgt := 44) X dX8_content_40 (by decide) ?_
          exact r_iret X rfl hR (ok0 hf) dX8_content_44
      · replace hf := okt h28 hf
        refine r_sub [1] rfl ?_
        exact t_X8_content_20 X hR σ26 hf
theorem md_X8_content : MD yX8_content wsX8_content cX8_content 4 2 (some .int) := ⟨⟨_, rfl⟩, by decide +kernel, by decide +kernel, by decide⟩
theorem c_X8_content (l : Launch) (G : GX)  (a1 : Int32) (a2 : Int32) (σ : MM) (h : (f_X8_content a1 a2 σ).isSome = true) : CTi l G yX8_content wsX8_content 7 [.ref (G.1 108), .int a1, .int a2] σ (f_X8_content a1 a2 σ) :=
  CTi_of md_X8_content (Nat.le_of_ble_eq_true rfl) (fun K X hR => e_X8_content X hR a1 a2 σ (ok_is h))
-- X8_say
theorem in_X8_say_8 : ∀ w ∈ u_ws RX8 TX8 9, w ∈ wsX8_say := fun _ h => List.mem_cons_of_mem _ (List.mem_append_left _ (List.mem_append_left _ (List.mem_append_left _ (List.mem_append_left _ (List.mem_append_right _ h)))))
theorem in_X8_say_3 : ∀ w ∈ u_ws RX3 TX3 4, w ∈ wsX8_say := fun _ h => List.mem_cons_of_mem _ (List.mem_append_left _ (List.mem_append_left _ (List.mem_append_left _ (List.mem_append_right _ h))))
theorem in_X8_say_0 : ∀ w ∈ u_ws RX0 TX0 12, w ∈ wsX8_say := fun _ h => List.mem_cons_of_mem _ (List.mem_append_left _ (List.mem_append_left _ (List.mem_append_right _ h)))
theorem in_X8_say_2 : ∀ w ∈ u_ws RX2 TX2 4, w ∈ wsX8_say := fun _ h => List.mem_cons_of_mem _ (List.mem_append_left _ (List.mem_append_right _ h))
theorem in_X8_say_6 : ∀ w ∈ u_ws RX6 TX6 3, w ∈ wsX8_say := fun _ h => List.mem_cons_of_mem _ (List.mem_append_right _ h)
def u_X8_say_20  (σ : MM) : Option (Int32 × MM) :=
  bd (f_X8_error (-1000000001 : Int32) σ) (fun r28 σ29 => some (r28, σ29))
def f_X8_say (a1 : Int32) (a2 : Int32) (σ : MM) : Option (Int32 × MM) :=
  bd (f_X0_personOf 0 a1 σ) (fun r23 σ24 => onO r23 (u_X8_say_20 σ24) (fun i26 => if kd i26 = 3 then bd (f_X8_isWord a2 σ24) (fun r31 σ32 => if r31 = 0 then u_X8_say_20 σ32 else bd (f_X0_canGo 0 i26 σ32) (fun r35 σ36 => if r35 = 0 then bd (f_X8_error (-1000000003 : Int32) σ36) (fun r42 σ43 => some (r42, σ43)) else bd (f_X0_hear 0 i26 a2 σ36) (fun r39 σ40 => some ((σ40 i26 0), σ40)))) else none))
set_option maxRecDepth 100000 in
set_option maxHeartbeats 4000000 in
theorem t_X8_say_20 {l : Launch} {G : GX} {K : KX} (X : FX G K cX8_say RX8 (some .int) wsX8_say 4) {Φ : Int32 → MM → Prop} (hR : Ri G K Φ)  (σ : MM) (hf : Ok Φ (u_X8_say_20  σ)) : V l G 8 K 4 20 [(0, .ref (G.1 108))] [] σ := by
    unfold u_X8_say_20 at hf
    refine r_aload_n X dX8_say_20 0 rfl isr_ref ?_
    refine r_ldc (v := (-1000000001 : Int32)) X (mem_ix 2 rfl) dX8_say_21 ?_
    refine r_callVi (rest := []) X (c_X8_error l G (-1000000001 : Int32) σ (oks hf)) md_X8_error gX8_say_X8_error (by decide) rfl rfl (kd_in kc_108 (by decide)) (EE_8 _ kc_108) rfl rfl (Nat.le_of_ble_eq_true rfl) dX8_say_23 (fun r28 σ29 e30 => ?_)
    replace hf := okn e30 hf
    exact r_iret X rfl hR (ok0 hf) dX8_say_26
set_option maxRecDepth 100000 in
set_option maxHeartbeats 4000000 in
theorem e_X8_say {l : Launch} {G : GX} {K : KX} (X : FX G K cX8_say RX8 (some .int) wsX8_say 4) {Φ : Int32 → MM → Prop} (hR : Ri G K Φ) (a1 : Int32) (a2 : Int32) (σ : MM) (hf : Ok Φ (f_X8_say a1 a2 σ)) : V l G 8 K 4 0 [(0, .ref (G.1 108)), (1, .int a1), (2, .int a2)] [] σ := by
    unfold f_X8_say at hf
    refine r_aload_n X dX8_say_0 0 rfl isr_ref ?_
    refine r_get (i := 108) (v := .ref (G.1 0)) X in_X8_say_8 rfl 0 (by decide) (kd_in kc_108 (by decide)) (EE_8 _ kc_108) rfl (mem_ix 1 rfl) dX8_say_1 ?_
    refine r_iload_n X dX8_say_4 1 rfl ?_
    refine r_callVq (rest := []) X (c_X0_personOf l G 0 a1 kc_0 σ (oks hf)) md_X0_personOf gX8_say_X0_personOf (by decide) rfl rfl (kd_in kc_0 (by decide)) (EE_0 _ kc_0) rfl rfl (Nat.le_of_ble_eq_true rfl) dX8_say_5 (fun r23 σ24 e25 => ?_)
    replace hf := okn e25 hf
    rcases r23 with _ | i26
    · replace hf := okz hf
      refine r_astore_n X dX8_say_8 (i := 3) rfl (by decide) isr_null (lv' := [(3, .null), (0, .ref (G.1 108)), (1, .int a1), (2, .int a2)]) rfl ?_
      refine r_aload_n X dX8_say_9 0 rfl isr_null ?_
      refine r_ifnullN (tgt := 20) X dX8_say_10 (by decide) ?_
      refine r_sub [1] rfl ?_
      exact t_X8_say_20 X hR σ24 hf
    · replace hf := oky hf
      obtain ⟨hi27, hf⟩ := okp hf
      refine r_astore_n X dX8_say_8 (i := 3) rfl (by decide) isr_ref (lv' := [(3, .ref (G.1 i26)), (0, .ref (G.1 108)), (1, .int a1), (2, .int a2)]) rfl ?_
      refine r_aload_n X dX8_say_9 0 rfl isr_ref ?_
      refine r_ifnull X dX8_say_10 ?_
      refine r_iload_n X dX8_say_13 3 rfl ?_
      refine r_callSi (rest := []) X (c_X8_isWord l G a2 σ24 (oks hf)) md_X8_isWord gX8_say_X8_isWord (by decide) rfl rfl (Nat.le_of_ble_eq_true rfl) dX8_say_14 (fun r31 σ32 e33 => ?_)
      replace hf := okn e33 hf
      refine r_if_ne (tgt := 27) X dX8_say_17 (by decide) (fun h34 => ?_) (fun h34 => ?_)
      · replace hf := okf h34 hf
        refine r_aload_n X dX8_say_27 1 rfl isr_ref ?_
        refine r_get (i := 108) (v := .ref (G.1 0)) X in_X8_say_8 rfl 0 (by decide) (kd_in kc_108 (by decide)) (EE_8 _ kc_108) rfl (mem_ix 1 rfl) dX8_say_28 ?_
        refine r_aload_n X dX8_say_31 0 rfl isr_ref ?_
        refine r_callVi (rest := []) X (c_X0_canGo l G 0 i26 kc_0 hi27 σ32 (oks hf)) md_X0_canGo gX8_say_X0_canGo (by decide) rfl rfl (kd_in kc_0 (by decide)) (EE_0 _ kc_0) rfl rfl (Nat.le_of_ble_eq_true rfl) dX8_say_32 (fun r35 σ36 e37 => ?_)
        replace hf := okn e37 hf
        refine r_if_ne (tgt := 45) X dX8_say_35 (by decide) (fun h38 => ?_) (fun h38 => ?_)
        · replace hf := okf h38 hf
          refine r_aload_n X dX8_say_45 1 rfl isr_ref ?_
          refine r_get (i := 108) (v := .ref (G.1 0)) X in_X8_say_8 rfl 0 (by decide) (kd_in kc_108 (by decide)) (EE_8 _ kc_108) rfl (mem_ix 1 rfl) dX8_say_46 ?_
          refine r_aload_n X dX8_say_49 0 rfl isr_ref ?_
          refine r_iload_n X dX8_say_50 3 rfl ?_
          refine r_callVi (rest := []) X (c_X0_hear l G 0 i26 a2 kc_0 hi27 σ36 (oks hf)) md_X0_hear gX8_say_X0_hear (by decide) rfl rfl (kd_in kc_0 (by decide)) (EE_0 _ kc_0) rfl rfl (Nat.le_of_ble_eq_true rfl) dX8_say_51 (fun r39 σ40 e41 => ?_)
          replace hf := okn e41 hf
          refine r_pop X dX8_say_54 rfl ?_
          refine r_aload_n X dX8_say_55 0 rfl isr_ref ?_
          refine r_get (i := i26) (v := .int (σ40 i26 0)) X in_X8_say_3 rfl 0 (by decide) (kd_in hi27 (by decide)) (EE_3 _ hi27) rfl (mem_ix 4 rfl) dX8_say_56 ?_
          exact r_iret X rfl hR (ok0 hf) dX8_say_59
        · replace hf := okt h38 hf
          refine r_aload_n X dX8_say_38 1 rfl isr_ref ?_
          refine r_ldc (v := (-1000000003 : Int32)) X (mem_ix 3 rfl) dX8_say_39 ?_
          refine r_callVi (rest := []) X (c_X8_error l G (-1000000003 : Int32) σ36 (oks hf)) md_X8_error gX8_say_X8_error (by decide) rfl rfl (kd_in kc_108 (by decide)) (EE_8 _ kc_108) rfl rfl (Nat.le_of_ble_eq_true rfl) dX8_say_41 (fun r42 σ43 e44 => ?_)
          replace hf := okn e44 hf
          exact r_iret X rfl hR (ok0 hf) dX8_say_44
      · replace hf := okt h34 hf
        refine r_sub [1] rfl ?_
        exact t_X8_say_20 X hR σ32 hf
theorem md_X8_say : MD yX8_say wsX8_say cX8_say 4 2 (some .int) := ⟨⟨_, rfl⟩, by decide +kernel, by decide +kernel, by decide⟩
theorem c_X8_say (l : Launch) (G : GX)  (a1 : Int32) (a2 : Int32) (σ : MM) (h : (f_X8_say a1 a2 σ).isSome = true) : CTi l G yX8_say wsX8_say 8 [.ref (G.1 108), .int a1, .int a2] σ (f_X8_say a1 a2 σ) :=
  CTi_of md_X8_say (Nat.le_of_ble_eq_true rfl) (fun K X hR => e_X8_say X hR a1 a2 σ (ok_is h))
-- X8_bribe
theorem in_X8_bribe_8 : ∀ w ∈ u_ws RX8 TX8 9, w ∈ wsX8_bribe := fun _ h => List.mem_cons_of_mem _ (List.mem_append_left _ (List.mem_append_left _ (List.mem_append_left _ (List.mem_append_left _ (List.mem_append_right _ h)))))
theorem in_X8_bribe_3 : ∀ w ∈ u_ws RX3 TX3 4, w ∈ wsX8_bribe := fun _ h => List.mem_cons_of_mem _ (List.mem_append_left _ (List.mem_append_left _ (List.mem_append_left _ (List.mem_append_right _ h))))
theorem in_X8_bribe_0 : ∀ w ∈ u_ws RX0 TX0 12, w ∈ wsX8_bribe := fun _ h => List.mem_cons_of_mem _ (List.mem_append_left _ (List.mem_append_left _ (List.mem_append_right _ h)))
theorem in_X8_bribe_2 : ∀ w ∈ u_ws RX2 TX2 4, w ∈ wsX8_bribe := fun _ h => List.mem_cons_of_mem _ (List.mem_append_left _ (List.mem_append_right _ h))
theorem in_X8_bribe_6 : ∀ w ∈ u_ws RX6 TX6 3, w ∈ wsX8_bribe := fun _ h => List.mem_cons_of_mem _ (List.mem_append_right _ h)
def u_X8_bribe_47  (σ : MM) : Option (Int32 × MM) :=
  bd (f_X8_error (-1000000003 : Int32) σ) (fun r43 σ44 => some (r43, σ44))
def f_X8_bribe (a1 : Int32) (σ : MM) : Option (Int32 × MM) :=
  bd (f_X0_personOf 0 a1 σ) (fun r30 σ31 => onO r30 (bd (f_X8_error (-1000000001 : Int32) σ31) (fun r35 σ36 => some (r35, σ36))) (fun i33 => if kd i33 = 3 then bd (f_X0_judgeOn 0 (σ31 i33 0) σ31) (fun r38 σ39 => onO r38 (u_X8_bribe_47 σ39) (fun i41 => if kd i41 = 2 then bd (f_X0_canGo 0 i33 σ39) (fun r46 σ47 => if r46 = 0 then u_X8_bribe_47 σ47 else bd (f_X0_bribeOf 0 i41 σ47) (fun r50 σ51 => lt (mu σ51 i33 2 (if ((σ51 i33 2) + r50) < (99999 : Int32) then ((σ51 i33 2) + r50) else (99999 : Int32))) (fun σ53 => lt (mu σ53 i33 1 ((σ53 i33 1) - (1 : Int32))) (fun σ55 => lt (mu σ55 i33 0 ((σ55 i33 0) + (1 : Int32))) (fun σ57 => some (r50, σ57)))))) else none)) else none))
set_option maxRecDepth 100000 in
set_option maxHeartbeats 4000000 in
theorem t_X8_bribe_47 {l : Launch} {G : GX} {K : KX} (X : FX G K cX8_bribe RX8 (some .int) wsX8_bribe 5) {Φ : Int32 → MM → Prop} (hR : Ri G K Φ)  (σ : MM) (hf : Ok Φ (u_X8_bribe_47  σ)) : V l G 7 K 5 47 [(0, .ref (G.1 108))] [] σ := by
    unfold u_X8_bribe_47 at hf
    refine r_aload_n X dX8_bribe_47 0 rfl isr_ref ?_
    refine r_ldc (v := (-1000000003 : Int32)) X (mem_ix 4 rfl) dX8_bribe_48 ?_
    refine r_callVi (rest := []) X (c_X8_error l G (-1000000003 : Int32) σ (oks hf)) md_X8_error gX8_bribe_X8_error (by decide) rfl rfl (kd_in kc_108 (by decide)) (EE_8 _ kc_108) rfl rfl (Nat.le_of_ble_eq_true rfl) dX8_bribe_50 (fun r43 σ44 e45 => ?_)
    replace hf := okn e45 hf
    exact r_iret X rfl hR (ok0 hf) dX8_bribe_53
set_option maxRecDepth 100000 in
set_option maxHeartbeats 4000000 in
theorem e_X8_bribe {l : Launch} {G : GX} {K : KX} (X : FX G K cX8_bribe RX8 (some .int) wsX8_bribe 5) {Φ : Int32 → MM → Prop} (hR : Ri G K Φ) (a1 : Int32) (σ : MM) (hf : Ok Φ (f_X8_bribe a1 σ)) : V l G 7 K 5 0 [(0, .ref (G.1 108)), (1, .int a1)] [] σ := by
    unfold f_X8_bribe at hf
    refine r_aload_n X dX8_bribe_0 0 rfl isr_ref ?_
    refine r_get (i := 108) (v := .ref (G.1 0)) X in_X8_bribe_8 rfl 0 (by decide) (kd_in kc_108 (by decide)) (EE_8 _ kc_108) rfl (mem_ix 1 rfl) dX8_bribe_1 ?_
    refine r_iload_n X dX8_bribe_4 1 rfl ?_
    refine r_callVq (rest := []) X (c_X0_personOf l G 0 a1 kc_0 σ (oks hf)) md_X0_personOf gX8_bribe_X0_personOf (by decide) rfl rfl (kd_in kc_0 (by decide)) (EE_0 _ kc_0) rfl rfl (Nat.le_of_ble_eq_true rfl) dX8_bribe_5 (fun r30 σ31 e32 => ?_)
    replace hf := okn e32 hf
    rcases r30 with _ | i33
    · replace hf := okz hf
      refine r_astore_n X dX8_bribe_8 (i := 2) rfl (by decide) isr_null (lv' := [(2, .null), (0, .ref (G.1 108)), (1, .int a1)]) rfl ?_
      refine r_aload_n X dX8_bribe_9 0 rfl isr_null ?_
      refine r_ifnonnullN X dX8_bribe_10 ?_
      refine r_aload_n X dX8_bribe_13 1 rfl isr_ref ?_
      refine r_ldc (v := (-1000000001 : Int32)) X (mem_ix 2 rfl) dX8_bribe_14 ?_
      refine r_callVi (rest := []) X (c_X8_error l G (-1000000001 : Int32) σ31 (oks hf)) md_X8_error gX8_bribe_X8_error (by decide) rfl rfl (kd_in kc_108 (by decide)) (EE_8 _ kc_108) rfl rfl (Nat.le_of_ble_eq_true rfl) dX8_bribe_16 (fun r35 σ36 e37 => ?_)
      replace hf := okn e37 hf
      exact r_iret X rfl hR (ok0 hf) dX8_bribe_19
    · replace hf := oky hf
      obtain ⟨hi34, hf⟩ := okp hf
      refine r_astore_n X dX8_bribe_8 (i := 2) rfl (by decide) isr_ref (lv' := [(2, .ref (G.1 i33)), (0, .ref (G.1 108)), (1, .int a1)]) rfl ?_
      refine r_aload_n X dX8_bribe_9 0 rfl isr_ref ?_
      refine r_ifnonnull (tgt := 20) X dX8_bribe_10 (by decide) ?_
      refine r_aload_n X dX8_bribe_20 1 rfl isr_ref ?_
      refine r_get (i := 108) (v := .ref (G.1 0)) X in_X8_bribe_8 rfl 0 (by decide) (kd_in kc_108 (by decide)) (EE_8 _ kc_108) rfl (mem_ix 1 rfl) dX8_bribe_21 ?_
      refine r_aload_n X dX8_bribe_24 0 rfl isr_ref ?_
      refine r_get (i := i33) (v := .int (σ31 i33 0)) X in_X8_bribe_3 rfl 0 (by decide) (kd_in hi34 (by decide)) (EE_3 _ hi34) rfl (mem_ix 3 rfl) dX8_bribe_25 ?_
      refine r_callVq (rest := []) X (c_X0_judgeOn l G 0 (σ31 i33 0) kc_0 σ31 (oks hf)) md_X0_judgeOn gX8_bribe_X0_judgeOn (by decide) rfl rfl (kd_in kc_0 (by decide)) (EE_0 _ kc_0) rfl rfl (Nat.le_of_ble_eq_true rfl) dX8_bribe_28 (fun r38 σ39 e40 => ?_)
      replace hf := okn e40 hf
      rcases r38 with _ | i41
      · replace hf := okz hf
        refine r_astore_n X dX8_bribe_31 (i := 3) rfl (by decide) isr_null (lv' := [(3, .null), (2, .ref (G.1 i33)), (0, .ref (G.1 108)), (1, .int a1)]) rfl ?_
        refine r_aload_n X dX8_bribe_32 0 rfl isr_null ?_
        refine r_ifnullN (tgt := 47) X dX8_bribe_33 (by decide) ?_
        refine r_sub [2] rfl ?_
        exact t_X8_bribe_47 X hR σ39 hf
      · replace hf := oky hf
        obtain ⟨hi42, hf⟩ := okp hf
        refine r_astore_n X dX8_bribe_31 (i := 3) rfl (by decide) isr_ref (lv' := [(3, .ref (G.1 i41)), (2, .ref (G.1 i33)), (0, .ref (G.1 108)), (1, .int a1)]) rfl ?_
        refine r_aload_n X dX8_bribe_32 0 rfl isr_ref ?_
        refine r_ifnull X dX8_bribe_33 ?_
        refine r_aload_n X dX8_bribe_36 2 rfl isr_ref ?_
        refine r_get (i := 108) (v := .ref (G.1 0)) X in_X8_bribe_8 rfl 0 (by decide) (kd_in kc_108 (by decide)) (EE_8 _ kc_108) rfl (mem_ix 1 rfl) dX8_bribe_37 ?_
        refine r_aload_n X dX8_bribe_40 1 rfl isr_ref ?_
        refine r_callVi (rest := []) X (c_X0_canGo l G 0 i33 kc_0 hi34 σ39 (oks hf)) md_X0_canGo gX8_bribe_X0_canGo (by decide) rfl rfl (kd_in kc_0 (by decide)) (EE_0 _ kc_0) rfl rfl (Nat.le_of_ble_eq_true rfl) dX8_bribe_41 (fun r46 σ47 e48 => ?_)
        replace hf := okn e48 hf
        refine r_if_ne (tgt := 54) X dX8_bribe_44 (by decide) (fun h49 => ?_) (fun h49 => ?_)
        · replace hf := okf h49 hf
          refine r_aload_n X dX8_bribe_54 2 rfl isr_ref ?_
          refine r_get (i := 108) (v := .ref (G.1 0)) X in_X8_bribe_8 rfl 0 (by decide) (kd_in kc_108 (by decide)) (EE_8 _ kc_108) rfl (mem_ix 1 rfl) dX8_bribe_55 ?_
          refine r_aload_n X dX8_bribe_58 0 rfl isr_ref ?_
          refine r_callVi (rest := []) X (c_X0_bribeOf l G 0 i41 kc_0 hi42 σ47 (oks hf)) md_X0_bribeOf gX8_bribe_X0_bribeOf (by decide) rfl rfl (kd_in kc_0 (by decide)) (EE_0 _ kc_0) rfl rfl (Nat.le_of_ble_eq_true rfl) dX8_bribe_59 (fun r50 σ51 e52 => ?_)
          replace hf := okn e52 hf
          refine r_istore X dX8_bribe_62 (by decide) (lv' := [(4, .int r50), (3, .ref (G.1 i41)), (2, .ref (G.1 i33)), (0, .ref (G.1 108)), (1, .int a1)]) rfl ?_
          refine r_aload_n X dX8_bribe_64 2 rfl isr_ref ?_
          refine r_ldc (v := (99999 : Int32)) X (mem_ix 5 rfl) dX8_bribe_65 ?_
          refine r_aload_n X dX8_bribe_67 2 rfl isr_ref ?_
          refine r_get (i := i33) (v := .int (σ51 i33 2)) X in_X8_bribe_3 rfl 2 (by decide) (kd_in hi34 (by decide)) (EE_3 _ hi34) rfl (mem_ix 6 rfl) dX8_bribe_68 ?_
          refine r_iload X dX8_bribe_71 0 rfl ?_
          refine r_iadd X dX8_bribe_73 ?_
          refine r_mmin X (mem_ix 7 rfl) (mem_ix 8 rfl) (mem_ix 9 rfl) (mem_ix 10 rfl) (Nat.le_of_ble_eq_true rfl) (by decide) dX8_bribe_74 ?_
          obtain ⟨σ53, e54, hf⟩ := okl hf
          refine r_put (i := i33) (f := upd (σ51 i33) 2 (if ((σ51 i33 2) + r50) < (99999 : Int32) then ((σ51 i33 2) + r50) else (99999 : Int32))) X in_X8_bribe_3 tyX3 tyX3_ok nmX3 rfl 2 (by decide) (kd_in hi34 (by decide)) (EE_3 _ hi34) (EU_3_2 _ _ hi34) rfl (mem_ix 6 rfl) rfl rfl rfl rfl dX8_bribe_77 ?_
          refine r_sg e54 ?_
          refine r_aload_n X dX8_bribe_80 2 rfl isr_ref ?_
          refine r_dup X dX8_bribe_81 rfl ?_
          refine r_get (i := i33) (v := .int (σ53 i33 1)) X in_X8_bribe_3 rfl 1 (by decide) (kd_in hi34 (by decide)) (EE_3 _ hi34) rfl (mem_ix 11 rfl) dX8_bribe_82 ?_
          refine r_iconst X dX8_bribe_85 ci_1 ?_
          refine r_isub X dX8_bribe_86 ?_
          obtain ⟨σ55, e56, hf⟩ := okl hf
          refine r_put (i := i33) (f := upd (σ53 i33) 1 ((σ53 i33 1) - (1 : Int32))) X in_X8_bribe_3 tyX3 tyX3_ok nmX3 rfl 1 (by decide) (kd_in hi34 (by decide)) (EE_3 _ hi34) (EU_3_1 _ _ hi34) rfl (mem_ix 11 rfl) rfl rfl rfl rfl dX8_bribe_87 ?_
          refine r_sg e56 ?_
          refine r_aload_n X dX8_bribe_90 2 rfl isr_ref ?_
          refine r_dup X dX8_bribe_91 rfl ?_
          refine r_get (i := i33) (v := .int (σ55 i33 0)) X in_X8_bribe_3 rfl 0 (by decide) (kd_in hi34 (by decide)) (EE_3 _ hi34) rfl (mem_ix 3 rfl) dX8_bribe_92 ?_
          refine r_iconst X dX8_bribe_95 ci_1 ?_
          refine r_iadd X dX8_bribe_96 ?_
          obtain ⟨σ57, e58, hf⟩ := okl hf
          refine r_put (i := i33) (f := upd (σ55 i33) 0 ((σ55 i33 0) + (1 : Int32))) X in_X8_bribe_3 tyX3 tyX3_ok nmX3 rfl 0 (by decide) (kd_in hi34 (by decide)) (EE_3 _ hi34) (EU_3_0 _ _ hi34) rfl (mem_ix 3 rfl) rfl rfl rfl rfl dX8_bribe_97 ?_
          refine r_sg e58 ?_
          refine r_iload X dX8_bribe_100 0 rfl ?_
          exact r_iret X rfl hR (ok0 hf) dX8_bribe_102
        · replace hf := okt h49 hf
          refine r_sub [2] rfl ?_
          exact t_X8_bribe_47 X hR σ47 hf
theorem md_X8_bribe : MD yX8_bribe wsX8_bribe cX8_bribe 5 1 (some .int) := ⟨⟨_, rfl⟩, by decide +kernel, by decide +kernel, by decide⟩
theorem c_X8_bribe (l : Launch) (G : GX)  (a1 : Int32) (σ : MM) (h : (f_X8_bribe a1 σ).isSome = true) : CTi l G yX8_bribe wsX8_bribe 7 [.ref (G.1 108), .int a1] σ (f_X8_bribe a1 σ) :=
  CTi_of md_X8_bribe (Nat.le_of_ble_eq_true rfl) (fun K X hR => e_X8_bribe X hR a1 σ (ok_is h))
-- X8_feed
theorem in_X8_feed_8 : ∀ w ∈ u_ws RX8 TX8 9, w ∈ wsX8_feed := fun _ h => List.mem_cons_of_mem _ (List.mem_append_left _ (List.mem_append_right _ h))
theorem in_X8_feed_0 : ∀ w ∈ u_ws RX0 TX0 12, w ∈ wsX8_feed := fun _ h => List.mem_cons_of_mem _ (List.mem_append_right _ h)
def u_X8_feed_41 (k41 : Int64 → Int32 → Int32 → MM → Option (Int32 × MM)) (v1 : Int64) (v3 : Int32) (v4 : Int32) (σ : MM) : Option (Int32 × MM) :=
  if v3 ≤ v4 then some ((σ 0 7), σ) else if (60 : Int32) ≤ (σ 0 7) then some ((σ 0 7), σ) else if (σ 0 7) < 0 ∨ 60 ≤ (σ 0 7).toNatClampNeg then none else lt (mu σ 9 ((σ 0 7).toNatClampNeg) ((((v1.toUInt64 >>> (((8 : Int32) * v4).toInt64.toUInt64 &&& Int64.toUInt64 63)).toInt64).toInt32) &&& (255 : Int32))) (fun σ27 => lt (mu σ27 0 7 ((σ27 0 7) + (1 : Int32))) (fun σ29 => k41 v1 v3 (v4 + (1 : Int32)) σ29))
def l_X8_feed_41 (v1 : Int64) (v3 : Int32) (v4 : Int32) (σ : MM) : Option (Int32 × MM) :=
  itr (fun _ _ _ _ => none) (u_X8_feed_41) FU v1 v3 v4 σ
def f_X8_feed (a1 : Int64) (a3 : Int32) (σ : MM) : Option (Int32 × MM) :=
  bd (f_X8_within a3 (1 : Int32) (8 : Int32) σ) (fun r19 σ20 => if r19 = 0 then bd (f_X8_error (-1000000001 : Int32) σ20) (fun r34 σ35 => some (r34, σ35)) else if (σ20 0 7) ≤ ((60 : Int32) - a3) then l_X8_feed_41 a1 a3 (0 : Int32) σ20 else bd (f_X8_error (-1000000004 : Int32) σ20) (fun r31 σ32 => some (r31, σ32)))
set_option maxRecDepth 100000 in
set_option maxHeartbeats 4000000 in
theorem t_X8_feed_41 {l : Launch} {G : GX} {K : KX} (X : FX G K cX8_feed RX8 (some .int) wsX8_feed 5) {Φ : Int32 → MM → Prop} (hR : Ri G K Φ) (k41 : Int64 → Int32 → Int32 → MM → Option (Int32 × MM)) (hk41c : ∀ (v1 : Int64) (v3 : Int32) (v4 : Int32) (σ : MM), Ok Φ (k41 v1 v3 v4 σ) → V l G 5 K 5 41 [(0, .ref (G.1 108)), (1, .long v1), (3, .int v3), (4, .int v4)] [] σ) (v1 : Int64) (v3 : Int32) (v4 : Int32) (σ : MM) (hf : Ok Φ (u_X8_feed_41 k41 v1 v3 v4 σ)) : V l G 5 K 5 41 [(0, .ref (G.1 108)), (1, .long v1), (3, .int v3), (4, .int v4)] [] σ := by
    unfold u_X8_feed_41 at hf
    refine r_iload X dX8_feed_41 3 rfl ?_
    refine r_iload_n X dX8_feed_43 2 rfl ?_
    refine r_icmp_ge (tgt := 111) X dX8_feed_44 (by decide) (fun h24 => ?_) (fun h24 => ?_)
    · replace hf := okt h24 hf
      refine r_aload_n X dX8_feed_111 0 rfl isr_ref ?_
      refine r_get (i := 108) (v := .ref (G.1 0)) X in_X8_feed_8 rfl 0 (by decide) (kd_in kc_108 (by decide)) (EE_8 _ kc_108) rfl (mem_ix 2 rfl) dX8_feed_112 ?_
      refine r_get (i := 0) (v := .int (σ 0 7)) X in_X8_feed_0 rfl 7 (by decide) (kd_in kc_0 (by decide)) (EE_0 _ kc_0) rfl (mem_ix 3 rfl) dX8_feed_115 ?_
      exact r_iret X rfl hR (ok0 hf) dX8_feed_118
    · replace hf := okf h24 hf
      refine r_aload_n X dX8_feed_47 0 rfl isr_ref ?_
      refine r_get (i := 108) (v := .ref (G.1 0)) X in_X8_feed_8 rfl 0 (by decide) (kd_in kc_108 (by decide)) (EE_8 _ kc_108) rfl (mem_ix 2 rfl) dX8_feed_48 ?_
      refine r_get (i := 0) (v := .int (σ 0 7)) X in_X8_feed_0 rfl 7 (by decide) (kd_in kc_0 (by decide)) (EE_0 _ kc_0) rfl (mem_ix 3 rfl) dX8_feed_51 ?_
      refine r_aload_n X dX8_feed_54 0 rfl isr_ref ?_
      refine r_get (i := 108) (v := .ref (G.1 0)) X in_X8_feed_8 rfl 0 (by decide) (kd_in kc_108 (by decide)) (EE_8 _ kc_108) rfl (mem_ix 2 rfl) dX8_feed_55 ?_
      refine r_get (i := 0) (v := .ref (G.1 9)) X in_X8_feed_0 rfl 6 (by decide) (kd_in kc_0 (by decide)) (EE_0 _ kc_0) rfl (mem_ix 5 rfl) dX8_feed_58 ?_
      refine r_alen (i := 9) (t := 0) (v := (60 : Int32)) X (kd_in kc_9 (by decide)) (EE_20 _ kc_9) rfl (by decide) dX8_feed_61 ?_
      refine r_icmp_ge (tgt := 111) X dX8_feed_62 (by decide) (fun h25 => ?_) (fun h25 => ?_)
      · replace hf := okt h25 hf
        refine r_aload_n X dX8_feed_111 0 rfl isr_ref ?_
        refine r_get (i := 108) (v := .ref (G.1 0)) X in_X8_feed_8 rfl 0 (by decide) (kd_in kc_108 (by decide)) (EE_8 _ kc_108) rfl (mem_ix 2 rfl) dX8_feed_112 ?_
        refine r_get (i := 0) (v := .int (σ 0 7)) X in_X8_feed_0 rfl 7 (by decide) (kd_in kc_0 (by decide)) (EE_0 _ kc_0) rfl (mem_ix 3 rfl) dX8_feed_115 ?_
        exact r_iret X rfl hR (ok0 hf) dX8_feed_118
      · replace hf := okf h25 hf
        refine r_aload_n X dX8_feed_65 0 rfl isr_ref ?_
        refine r_get (i := 108) (v := .ref (G.1 0)) X in_X8_feed_8 rfl 0 (by decide) (kd_in kc_108 (by decide)) (EE_8 _ kc_108) rfl (mem_ix 2 rfl) dX8_feed_66 ?_
        refine r_get (i := 0) (v := .ref (G.1 9)) X in_X8_feed_0 rfl 6 (by decide) (kd_in kc_0 (by decide)) (EE_0 _ kc_0) rfl (mem_ix 5 rfl) dX8_feed_69 ?_
        refine r_aload_n X dX8_feed_72 0 rfl isr_ref ?_
        refine r_get (i := 108) (v := .ref (G.1 0)) X in_X8_feed_8 rfl 0 (by decide) (kd_in kc_108 (by decide)) (EE_8 _ kc_108) rfl (mem_ix 2 rfl) dX8_feed_73 ?_
        refine r_get (i := 0) (v := .int (σ 0 7)) X in_X8_feed_0 rfl 7 (by decide) (kd_in kc_0 (by decide)) (EE_0 _ kc_0) rfl (mem_ix 3 rfl) dX8_feed_76 ?_
        refine r_lload_n X dX8_feed_79 1 rfl ?_
        refine r_bipush X dX8_feed_80 cb_8 ?_
        refine r_iload X dX8_feed_82 3 rfl ?_
        refine r_imul X dX8_feed_84 ?_
        refine r_lushr X dX8_feed_85 ?_
        refine r_l2i X dX8_feed_86 ?_
        refine r_sipush X dX8_feed_87 cs_255 ?_
        refine r_iand X dX8_feed_90 ?_
        obtain ⟨g26, hf⟩ := okg hf
        obtain ⟨σ27, e28, hf⟩ := okl hf
        refine r_iast (i := 9) (jn := (σ 0 7).toNatClampNeg) X (kd_in kc_9 (by decide)) (fun _ => EE_20 _ kc_9) rfl g26 dX8_feed_91 ?_
        refine r_sg e28 ?_
        refine r_aload_n X dX8_feed_92 0 rfl isr_ref ?_
        refine r_get (i := 108) (v := .ref (G.1 0)) X in_X8_feed_8 rfl 0 (by decide) (kd_in kc_108 (by decide)) (EE_8 _ kc_108) rfl (mem_ix 2 rfl) dX8_feed_93 ?_
        refine r_dup X dX8_feed_96 rfl ?_
        refine r_get (i := 0) (v := .int (σ27 0 7)) X in_X8_feed_0 rfl 7 (by decide) (kd_in kc_0 (by decide)) (EE_0 _ kc_0) rfl (mem_ix 3 rfl) dX8_feed_97 ?_
        refine r_iconst X dX8_feed_100 ci_1 ?_
        refine r_iadd X dX8_feed_101 ?_
        obtain ⟨σ29, e30, hf⟩ := okl hf
        refine r_put (i := 0) (f := upd (σ27 0) 7 ((σ27 0 7) + (1 : Int32))) X in_X8_feed_0 tyX0 tyX0_ok nmX0 rfl 7 (by decide) (kd_in kc_0 (by decide)) (EE_0 _ kc_0) (EU_0_7 _ _ kc_0) rfl (mem_ix 3 rfl) rfl rfl rfl rfl dX8_feed_102 ?_
        refine r_sg e30 ?_
        refine r_iinc (v := (v4 + (1 : Int32))) X dX8_feed_105 3 rfl (congrArg _ ci_1) (by decide) (lv' := [(4, .int (v4 + (1 : Int32))), (0, .ref (G.1 108)), (1, .long v1), (3, .int v3)]) rfl ?_
        refine r_goto (tgt := 41) X dX8_feed_108 (by decide) ?_
        refine r_sub [1, 2, 3, 0] rfl ?_
        exact hk41c v1 v3 (v4 + (1 : Int32)) σ29 hf
theorem tl_X8_feed_41 {l : Launch} {G : GX} {K : KX} (X : FX G K cX8_feed RX8 (some .int) wsX8_feed 5) {Φ : Int32 → MM → Prop} (hR : Ri G K Φ) : ∀ (m : Nat) (v1 : Int64) (v3 : Int32) (v4 : Int32) (σ : MM), Ok Φ (itr (fun _ _ _ _ => none) (u_X8_feed_41) m v1 v3 v4 σ) → V l G 5 K 5 41 [(0, .ref (G.1 108)), (1, .long v1), (3, .int v3), (4, .int v4)] [] σ := by
  intro m
  induction m with
  | zero => intro v1 v3 v4 σ hf; exact (okx hf).elim
  | succ m ih => intro v1 v3 v4 σ hf; exact t_X8_feed_41 X hR _ ih v1 v3 v4 σ hf
set_option maxRecDepth 100000 in
set_option maxHeartbeats 4000000 in
theorem e_X8_feed {l : Launch} {G : GX} {K : KX} (X : FX G K cX8_feed RX8 (some .int) wsX8_feed 5) {Φ : Int32 → MM → Prop} (hR : Ri G K Φ) (a1 : Int64) (a3 : Int32) (σ : MM) (hf : Ok Φ (f_X8_feed a1 a3 σ)) : V l G 5 K 5 0 [(0, .ref (G.1 108)), (1, .long a1), (3, .int a3)] [] σ := by
    unfold f_X8_feed at hf
    refine r_iload_n X dX8_feed_0 2 rfl ?_
    refine r_iconst X dX8_feed_1 ci_1 ?_
    refine r_bipush X dX8_feed_2 cb_8 ?_
    refine r_callSi (rest := []) X (c_X8_within l G a3 (1 : Int32) (8 : Int32) σ (oks hf)) md_X8_within gX8_feed_X8_within (by decide) rfl rfl (Nat.le_of_ble_eq_true rfl) dX8_feed_4 (fun r19 σ20 e21 => ?_)
    replace hf := okn e21 hf
    refine r_if_ne (tgt := 17) X dX8_feed_7 (by decide) (fun h22 => ?_) (fun h22 => ?_)
    · replace hf := okf h22 hf
      refine r_aload_n X dX8_feed_17 0 rfl isr_ref ?_
      refine r_get (i := 108) (v := .ref (G.1 0)) X in_X8_feed_8 rfl 0 (by decide) (kd_in kc_108 (by decide)) (EE_8 _ kc_108) rfl (mem_ix 2 rfl) dX8_feed_18 ?_
      refine r_get (i := 0) (v := .int (σ20 0 7)) X in_X8_feed_0 rfl 7 (by decide) (kd_in kc_0 (by decide)) (EE_0 _ kc_0) rfl (mem_ix 3 rfl) dX8_feed_21 ?_
      refine r_bipush X dX8_feed_24 cb_60 ?_
      refine r_iload_n X dX8_feed_26 2 rfl ?_
      refine r_isub X dX8_feed_27 ?_
      refine r_icmp_le (tgt := 38) X dX8_feed_28 (by decide) (fun h23 => ?_) (fun h23 => ?_)
      · replace hf := okt h23 hf
        refine r_iconst X dX8_feed_38 ci_0 ?_
        refine r_istore X dX8_feed_39 (by decide) (lv' := [(4, .int (0 : Int32)), (0, .ref (G.1 108)), (1, .long a1), (3, .int a3)]) rfl ?_
        refine r_sub [1, 2, 3, 0] rfl ?_
        exact tl_X8_feed_41 X hR FU a1 a3 (0 : Int32) σ20 hf
      · replace hf := okf h23 hf
        refine r_aload_n X dX8_feed_31 0 rfl isr_ref ?_
        refine r_ldc (v := (-1000000004 : Int32)) X (mem_ix 4 rfl) dX8_feed_32 ?_
        refine r_callVi (rest := []) X (c_X8_error l G (-1000000004 : Int32) σ20 (oks hf)) md_X8_error gX8_feed_X8_error (by decide) rfl rfl (kd_in kc_108 (by decide)) (EE_8 _ kc_108) rfl rfl (Nat.le_of_ble_eq_true rfl) dX8_feed_34 (fun r31 σ32 e33 => ?_)
        replace hf := okn e33 hf
        exact r_iret X rfl hR (ok0 hf) dX8_feed_37
    · replace hf := okt h22 hf
      refine r_aload_n X dX8_feed_10 0 rfl isr_ref ?_
      refine r_ldc (v := (-1000000001 : Int32)) X (mem_ix 1 rfl) dX8_feed_11 ?_
      refine r_callVi (rest := []) X (c_X8_error l G (-1000000001 : Int32) σ20 (oks hf)) md_X8_error gX8_feed_X8_error (by decide) rfl rfl (kd_in kc_108 (by decide)) (EE_8 _ kc_108) rfl rfl (Nat.le_of_ble_eq_true rfl) dX8_feed_13 (fun r34 σ35 e36 => ?_)
      replace hf := okn e36 hf
      exact r_iret X rfl hR (ok0 hf) dX8_feed_16
theorem md_X8_feed : MD yX8_feed wsX8_feed cX8_feed 5 2 (some .int) := ⟨⟨_, rfl⟩, by decide +kernel, by decide +kernel, by decide⟩
theorem c_X8_feed (l : Launch) (G : GX)  (a1 : Int64) (a3 : Int32) (σ : MM) (h : (f_X8_feed a1 a3 σ).isSome = true) : CTi l G yX8_feed wsX8_feed 5 [.ref (G.1 108), .long a1, .int a3] σ (f_X8_feed a1 a3 σ) :=
  CTi_of md_X8_feed (Nat.le_of_ble_eq_true rfl) (fun K X hR => e_X8_feed X hR a1 a3 σ (ok_is h))
-- X8_text
theorem in_X8_text_8 : ∀ w ∈ u_ws RX8 TX8 9, w ∈ wsX8_text := fun _ h => List.mem_cons_of_mem _ (List.mem_append_left _ (List.mem_append_left _ (List.mem_append_left _ (List.mem_append_right _ h))))
theorem in_X8_text_0 : ∀ w ∈ u_ws RX0 TX0 12, w ∈ wsX8_text := fun _ h => List.mem_cons_of_mem _ (List.mem_append_left _ (List.mem_append_left _ (List.mem_append_right _ h)))
theorem in_X8_text_4 : ∀ w ∈ u_ws RX4 TX4 5, w ∈ wsX8_text := fun _ h => List.mem_cons_of_mem _ (List.mem_append_left _ (List.mem_append_right _ h))
theorem in_X8_text_6 : ∀ w ∈ u_ws RX6 TX6 3, w ∈ wsX8_text := fun _ h => List.mem_cons_of_mem _ (List.mem_append_right _ h)
def u_X8_text_42 (t2 : Nat) (vs0 : Int32) (vs1 : Int32) (σ : MM) : Option (Int32 × MM) :=
  bd (f_X4_read vs1 vs0 σ) (fun r28 σ29 => lt (mu σ29 0 7 (0 : Int32)) (fun σ31 => if r28 = 0 then some (((-10 : Int32) - (σ31 109 1)), σ31) else bd (f_X6_copyFrom t2 110 σ31) (fun r34 σ35 => some ((1 : Int32), σ35))))
def f_X8_text (a1 : Int32) (σ : MM) : Option (Int32 × MM) :=
  bd (f_X0_textOf 0 a1 σ) (fun r19 σ20 => onO r19 (bd (f_X8_error (-1000000001 : Int32) σ20) (fun r24 σ25 => some (r24, σ25))) (fun i22 => if kd i22 = 6 then if a1 = 0 then u_X8_text_42 i22 (0 : Int32) (σ20 0 7) σ20 else u_X8_text_42 i22 (1 : Int32) (σ20 0 7) σ20 else none))
set_option maxRecDepth 100000 in
set_option maxHeartbeats 4000000 in
theorem t_X8_text_42 {l : Launch} {G : GX} {K : KX} (X : FX G K cX8_text RX8 (some .int) wsX8_text 4) {Φ : Int32 → MM → Prop} (hR : Ri G K Φ) (t2 : Nat) (vs0 : Int32) (vs1 : Int32) (hk2 : kd t2 = 6) (σ : MM) (hf : Ok Φ (u_X8_text_42 t2 vs0 vs1 σ)) : V l G 158 K 4 42 [(0, .ref (G.1 108)), (2, .ref (G.1 t2))] [.ref (G.2.2.2 (2 + vs0.toNatClampNeg)), .int vs1, .ref (G.1 109)] σ := by
    unfold u_X8_text_42 at hf
    refine r_callVi (rest := []) X (c_X4_read l G vs1 vs0 σ (oks hf)) md_X4_read gX8_text_X4_read (by decide) rfl rfl (kd_in kc_109 (by decide)) (EE_4 _ kc_109) rfl rfl (Nat.le_of_ble_eq_true rfl) dX8_text_42 (fun r28 σ29 e30 => ?_)
    replace hf := okn e30 hf
    refine r_istore_n X dX8_text_45 (i := 3) rfl (by decide) (lv' := [(3, .int r28), (0, .ref (G.1 108)), (2, .ref (G.1 t2))]) rfl ?_
    refine r_aload_n X dX8_text_46 1 rfl isr_ref ?_
    refine r_get (i := 108) (v := .ref (G.1 0)) X in_X8_text_8 rfl 0 (by decide) (kd_in kc_108 (by decide)) (EE_8 _ kc_108) rfl (mem_ix 1 rfl) dX8_text_47 ?_
    refine r_iconst X dX8_text_50 ci_0 ?_
    obtain ⟨σ31, e32, hf⟩ := okl hf
    refine r_put (i := 0) (f := upd (σ29 0) 7 (0 : Int32)) X in_X8_text_0 tyX0 tyX0_ok nmX0 rfl 7 (by decide) (kd_in kc_0 (by decide)) (EE_0 _ kc_0) (EU_0_7 _ _ kc_0) rfl (mem_ix 4 rfl) rfl rfl rfl rfl dX8_text_51 ?_
    refine r_sg e32 ?_
    refine r_iload_n X dX8_text_54 0 rfl ?_
    refine r_if_ne (tgt := 69) X dX8_text_55 (by decide) (fun h33 => ?_) (fun h33 => ?_)
    · replace hf := okf h33 hf
      refine r_aload_n X dX8_text_69 2 rfl isr_ref ?_
      refine r_aload_n X dX8_text_70 1 rfl isr_ref ?_
      refine r_get (i := 108) (v := .ref (G.1 109)) X in_X8_text_8 rfl 3 (by decide) (kd_in kc_108 (by decide)) (EE_8 _ kc_108) rfl (mem_ix 3 rfl) dX8_text_71 ?_
      refine r_get (i := 109) (v := .ref (G.1 110)) X in_X8_text_4 rfl 0 (by decide) (kd_in kc_109 (by decide)) (EE_4 _ kc_109) rfl (mem_ix 6 rfl) dX8_text_74 ?_
      refine r_callVv (rest := []) X (c_X6_copyFrom l G t2 110 hk2 kc_110 σ31 (oks hf)) md_X6_copyFrom gX8_text_X6_copyFrom (by decide) rfl rfl (kd_in hk2 (by decide)) (EE_6 _ hk2) rfl rfl (Nat.le_of_ble_eq_true rfl) dX8_text_77 (fun r34 σ35 e36 => ?_)
      replace hf := okn e36 hf
      refine r_iconst X dX8_text_80 ci_1 ?_
      exact r_iret X rfl hR (ok0 hf) dX8_text_81
    · replace hf := okt h33 hf
      refine r_bipush X dX8_text_58 cb_m10 ?_
      refine r_aload_n X dX8_text_60 1 rfl isr_ref ?_
      refine r_get (i := 108) (v := .ref (G.1 109)) X in_X8_text_8 rfl 3 (by decide) (kd_in kc_108 (by decide)) (EE_8 _ kc_108) rfl (mem_ix 3 rfl) dX8_text_61 ?_
      refine r_get (i := 109) (v := .int (σ31 109 1)) X in_X8_text_4 rfl 1 (by decide) (kd_in kc_109 (by decide)) (EE_4 _ kc_109) rfl (mem_ix 5 rfl) dX8_text_64 ?_
      refine r_isub X dX8_text_67 ?_
      exact r_iret X rfl hR (ok0 hf) dX8_text_68
set_option maxRecDepth 100000 in
set_option maxHeartbeats 4000000 in
theorem e_X8_text {l : Launch} {G : GX} {K : KX} (X : FX G K cX8_text RX8 (some .int) wsX8_text 4) {Φ : Int32 → MM → Prop} (hR : Ri G K Φ) (a1 : Int32) (σ : MM) (hf : Ok Φ (f_X8_text a1 σ)) : V l G 158 K 4 0 [(0, .ref (G.1 108)), (1, .int a1)] [] σ := by
    unfold f_X8_text at hf
    refine r_aload_n X dX8_text_0 0 rfl isr_ref ?_
    refine r_get (i := 108) (v := .ref (G.1 0)) X in_X8_text_8 rfl 0 (by decide) (kd_in kc_108 (by decide)) (EE_8 _ kc_108) rfl (mem_ix 1 rfl) dX8_text_1 ?_
    refine r_iload_n X dX8_text_4 1 rfl ?_
    refine r_callVq (rest := []) X (c_X0_textOf l G 0 a1 kc_0 σ (oks hf)) md_X0_textOf gX8_text_X0_textOf (by decide) rfl rfl (kd_in kc_0 (by decide)) (EE_0 _ kc_0) rfl rfl (Nat.le_of_ble_eq_true rfl) dX8_text_5 (fun r19 σ20 e21 => ?_)
    replace hf := okn e21 hf
    rcases r19 with _ | i22
    · replace hf := okz hf
      refine r_astore_n X dX8_text_8 (i := 2) rfl (by decide) isr_null (lv' := [(2, .null), (0, .ref (G.1 108)), (1, .int a1)]) rfl ?_
      refine r_aload_n X dX8_text_9 0 rfl isr_null ?_
      refine r_ifnonnullN X dX8_text_10 ?_
      refine r_aload_n X dX8_text_13 1 rfl isr_ref ?_
      refine r_ldc (v := (-1000000001 : Int32)) X (mem_ix 2 rfl) dX8_text_14 ?_
      refine r_callVi (rest := []) X (c_X8_error l G (-1000000001 : Int32) σ20 (oks hf)) md_X8_error gX8_text_X8_error (by decide) rfl rfl (kd_in kc_108 (by decide)) (EE_8 _ kc_108) rfl rfl (Nat.le_of_ble_eq_true rfl) dX8_text_16 (fun r24 σ25 e26 => ?_)
      replace hf := okn e26 hf
      exact r_iret X rfl hR (ok0 hf) dX8_text_19
    · replace hf := oky hf
      obtain ⟨hi23, hf⟩ := okp hf
      refine r_astore_n X dX8_text_8 (i := 2) rfl (by decide) isr_ref (lv' := [(2, .ref (G.1 i22)), (0, .ref (G.1 108)), (1, .int a1)]) rfl ?_
      refine r_aload_n X dX8_text_9 0 rfl isr_ref ?_
      refine r_ifnonnull (tgt := 20) X dX8_text_10 (by decide) ?_
      refine r_aload_n X dX8_text_20 1 rfl isr_ref ?_
      refine r_get (i := 108) (v := .ref (G.1 109)) X in_X8_text_8 rfl 3 (by decide) (kd_in kc_108 (by decide)) (EE_8 _ kc_108) rfl (mem_ix 3 rfl) dX8_text_21 ?_
      refine r_aload_n X dX8_text_24 1 rfl isr_ref ?_
      refine r_get (i := 108) (v := .ref (G.1 0)) X in_X8_text_8 rfl 0 (by decide) (kd_in kc_108 (by decide)) (EE_8 _ kc_108) rfl (mem_ix 1 rfl) dX8_text_25 ?_
      refine r_get (i := 0) (v := .int (σ20 0 7)) X in_X8_text_0 rfl 7 (by decide) (kd_in kc_0 (by decide)) (EE_0 _ kc_0) rfl (mem_ix 4 rfl) dX8_text_28 ?_
      refine r_iload_n X dX8_text_31 2 rfl ?_
      refine r_if_ne (tgt := 40) X dX8_text_32 (by decide) (fun h27 => ?_) (fun h27 => ?_)
      · replace hf := okf h27 hf
        refine r_lds1 X rfl dX8_text_40 ?_
        refine r_sub [1, 0] rfl ?_
        exact t_X8_text_42 X hR i22 (1 : Int32) (σ20 0 7) hi23 σ20 hf
      · replace hf := okt h27 hf
        refine r_lds0 X rfl dX8_text_35 ?_
        refine r_goto (tgt := 42) X dX8_text_37 (by decide) ?_
        refine r_sub [1, 0] rfl ?_
        exact t_X8_text_42 X hR i22 (0 : Int32) (σ20 0 7) hi23 σ20 hf
theorem md_X8_text : MD yX8_text wsX8_text cX8_text 4 1 (some .int) := ⟨⟨_, rfl⟩, by decide +kernel, by decide +kernel, by decide⟩
theorem c_X8_text (l : Launch) (G : GX)  (a1 : Int32) (σ : MM) (h : (f_X8_text a1 σ).isSome = true) : CTi l G yX8_text wsX8_text 158 [.ref (G.1 108), .int a1] σ (f_X8_text a1 σ) :=
  CTi_of md_X8_text (Nat.le_of_ble_eq_true rfl) (fun K X hR => e_X8_text X hR a1 σ (ok_is h))
-- X8_untell
theorem in_X8_untell_8 : ∀ w ∈ u_ws RX8 TX8 9, w ∈ wsX8_untell := fun _ h => List.mem_cons_of_mem _ (List.mem_append_left _ (List.mem_append_left _ (List.mem_append_right _ h)))
theorem in_X8_untell_0 : ∀ w ∈ u_ws RX0 TX0 12, w ∈ wsX8_untell := fun _ h => List.mem_cons_of_mem _ (List.mem_append_left _ (List.mem_append_right _ h))
theorem in_X8_untell_6 : ∀ w ∈ u_ws RX6 TX6 3, w ∈ wsX8_untell := fun _ h => List.mem_cons_of_mem _ (List.mem_append_right _ h)
def u_X8_untell_32 (t2 : Nat) (vs0 : Int32) (σ : MM) : Option (Int32 × MM) :=
  bd (f_X6_clear t2 σ) (fun r28 σ29 => some (vs0, σ29))
def f_X8_untell (a1 : Int32) (σ : MM) : Option (Int32 × MM) :=
  bd (f_X0_textOf 0 a1 σ) (fun r16 σ17 => onO r16 (bd (f_X8_error (-1000000001 : Int32) σ17) (fun r21 σ22 => some (r21, σ22))) (fun i19 => if kd i19 = 6 then bd (f_X6_isThere i19 σ17) (fun r24 σ25 => if r24 = 0 then u_X8_untell_32 i19 (0 : Int32) σ25 else u_X8_untell_32 i19 (1 : Int32) σ25) else none))
set_option maxRecDepth 100000 in
set_option maxHeartbeats 4000000 in
theorem t_X8_untell_32 {l : Launch} {G : GX} {K : KX} (X : FX G K cX8_untell RX8 (some .int) wsX8_untell 4) {Φ : Int32 → MM → Prop} (hR : Ri G K Φ) (t2 : Nat) (vs0 : Int32) (hk2 : kd t2 = 6) (σ : MM) (hf : Ok Φ (u_X8_untell_32 t2 vs0 σ)) : V l G 5 K 4 32 [(2, .ref (G.1 t2))] [.int vs0] σ := by
    unfold u_X8_untell_32 at hf
    refine r_istore_n X dX8_untell_32 (i := 3) rfl (by decide) (lv' := [(3, .int vs0), (2, .ref (G.1 t2))]) rfl ?_
    refine r_aload_n X dX8_untell_33 1 rfl isr_ref ?_
    refine r_callVv (rest := []) X (c_X6_clear l G t2 hk2 σ (oks hf)) md_X6_clear gX8_untell_X6_clear (by decide) rfl rfl (kd_in hk2 (by decide)) (EE_6 _ hk2) rfl rfl (Nat.le_of_ble_eq_true rfl) dX8_untell_34 (fun r28 σ29 e30 => ?_)
    replace hf := okn e30 hf
    refine r_iload_n X dX8_untell_37 0 rfl ?_
    exact r_iret X rfl hR (ok0 hf) dX8_untell_38
set_option maxRecDepth 100000 in
set_option maxHeartbeats 4000000 in
theorem e_X8_untell {l : Launch} {G : GX} {K : KX} (X : FX G K cX8_untell RX8 (some .int) wsX8_untell 4) {Φ : Int32 → MM → Prop} (hR : Ri G K Φ) (a1 : Int32) (σ : MM) (hf : Ok Φ (f_X8_untell a1 σ)) : V l G 5 K 4 0 [(0, .ref (G.1 108)), (1, .int a1)] [] σ := by
    unfold f_X8_untell at hf
    refine r_aload_n X dX8_untell_0 0 rfl isr_ref ?_
    refine r_get (i := 108) (v := .ref (G.1 0)) X in_X8_untell_8 rfl 0 (by decide) (kd_in kc_108 (by decide)) (EE_8 _ kc_108) rfl (mem_ix 1 rfl) dX8_untell_1 ?_
    refine r_iload_n X dX8_untell_4 1 rfl ?_
    refine r_callVq (rest := []) X (c_X0_textOf l G 0 a1 kc_0 σ (oks hf)) md_X0_textOf gX8_untell_X0_textOf (by decide) rfl rfl (kd_in kc_0 (by decide)) (EE_0 _ kc_0) rfl rfl (Nat.le_of_ble_eq_true rfl) dX8_untell_5 (fun r16 σ17 e18 => ?_)
    replace hf := okn e18 hf
    rcases r16 with _ | i19
    · replace hf := okz hf
      refine r_astore_n X dX8_untell_8 (i := 2) rfl (by decide) isr_null (lv' := [(2, .null), (0, .ref (G.1 108)), (1, .int a1)]) rfl ?_
      refine r_aload_n X dX8_untell_9 0 rfl isr_null ?_
      refine r_ifnonnullN X dX8_untell_10 ?_
      refine r_aload_n X dX8_untell_13 1 rfl isr_ref ?_
      refine r_ldc (v := (-1000000001 : Int32)) X (mem_ix 2 rfl) dX8_untell_14 ?_
      refine r_callVi (rest := []) X (c_X8_error l G (-1000000001 : Int32) σ17 (oks hf)) md_X8_error gX8_untell_X8_error (by decide) rfl rfl (kd_in kc_108 (by decide)) (EE_8 _ kc_108) rfl rfl (Nat.le_of_ble_eq_true rfl) dX8_untell_16 (fun r21 σ22 e23 => ?_)
      replace hf := okn e23 hf
      exact r_iret X rfl hR (ok0 hf) dX8_untell_19
    · replace hf := oky hf
      obtain ⟨hi20, hf⟩ := okp hf
      refine r_astore_n X dX8_untell_8 (i := 2) rfl (by decide) isr_ref (lv' := [(2, .ref (G.1 i19)), (0, .ref (G.1 108)), (1, .int a1)]) rfl ?_
      refine r_aload_n X dX8_untell_9 0 rfl isr_ref ?_
      refine r_ifnonnull (tgt := 20) X dX8_untell_10 (by decide) ?_
      refine r_aload_n X dX8_untell_20 0 rfl isr_ref ?_
      refine r_callVi (rest := []) X (c_X6_isThere l G i19 hi20 σ17 (oks hf)) md_X6_isThere gX8_untell_X6_isThere (by decide) rfl rfl (kd_in hi20 (by decide)) (EE_6 _ hi20) rfl rfl (Nat.le_of_ble_eq_true rfl) dX8_untell_21 (fun r24 σ25 e26 => ?_)
      replace hf := okn e26 hf
      refine r_if_eq (tgt := 31) X dX8_untell_24 (by decide) (fun h27 => ?_) (fun h27 => ?_)
      · replace hf := okt h27 hf
        refine r_iconst X dX8_untell_31 ci_0 ?_
        refine r_sub [0] rfl ?_
        exact t_X8_untell_32 X hR i19 (0 : Int32) hi20 σ25 hf
      · replace hf := okf h27 hf
        refine r_iconst X dX8_untell_27 ci_1 ?_
        refine r_goto (tgt := 32) X dX8_untell_28 (by decide) ?_
        refine r_sub [0] rfl ?_
        exact t_X8_untell_32 X hR i19 (1 : Int32) hi20 σ25 hf
theorem md_X8_untell : MD yX8_untell wsX8_untell cX8_untell 4 1 (some .int) := ⟨⟨_, rfl⟩, by decide +kernel, by decide +kernel, by decide⟩
theorem c_X8_untell (l : Launch) (G : GX)  (a1 : Int32) (σ : MM) (h : (f_X8_untell a1 σ).isSome = true) : CTi l G yX8_untell wsX8_untell 5 [.ref (G.1 108), .int a1] σ (f_X8_untell a1 σ) :=
  CTi_of md_X8_untell (Nat.le_of_ble_eq_true rfl) (fun K X hR => e_X8_untell X hR a1 σ (ok_is h))
-- X8_law
theorem in_X8_law_8 : ∀ w ∈ u_ws RX8 TX8 9, w ∈ wsX8_law := fun _ h => List.mem_cons_of_mem _ (List.mem_append_left _ (List.mem_append_left _ (List.mem_append_right _ h)))
theorem in_X8_law_0 : ∀ w ∈ u_ws RX0 TX0 12, w ∈ wsX8_law := fun _ h => List.mem_cons_of_mem _ (List.mem_append_left _ (List.mem_append_right _ h))
theorem in_X8_law_6 : ∀ w ∈ u_ws RX6 TX6 3, w ∈ wsX8_law := fun _ h => List.mem_cons_of_mem _ (List.mem_append_right _ h)
def f_X8_law (a1 : Int32) (a2 : Int32) (a3 : Int32) (a4 : Int32) (σ : MM) : Option (Int32 × MM) :=
  bd (f_X8_within a1 (0 : Int32) (1 : Int32) σ) (fun r11 σ12 => if r11 = 0 then bd (f_X8_error (-1000000001 : Int32) σ12) (fun r18 σ19 => some (r18, σ19)) else bd (f_X0_gives 0 a1 a2 a3 a4 σ12) (fun r15 σ16 => some (r15, σ16)))
set_option maxRecDepth 100000 in
set_option maxHeartbeats 4000000 in
theorem e_X8_law {l : Launch} {G : GX} {K : KX} (X : FX G K cX8_law RX8 (some .int) wsX8_law 5) {Φ : Int32 → MM → Prop} (hR : Ri G K Φ) (a1 : Int32) (a2 : Int32) (a3 : Int32) (a4 : Int32) (σ : MM) (hf : Ok Φ (f_X8_law a1 a2 a3 a4 σ)) : V l G 6 K 5 0 [(0, .ref (G.1 108)), (1, .int a1), (2, .int a2), (3, .int a3), (4, .int a4)] [] σ := by
    unfold f_X8_law at hf
    refine r_iload_n X dX8_law_0 1 rfl ?_
    refine r_iconst X dX8_law_1 ci_0 ?_
    refine r_iconst X dX8_law_2 ci_1 ?_
    refine r_callSi (rest := []) X (c_X8_within l G a1 (0 : Int32) (1 : Int32) σ (oks hf)) md_X8_within gX8_law_X8_within (by decide) rfl rfl (Nat.le_of_ble_eq_true rfl) dX8_law_3 (fun r11 σ12 e13 => ?_)
    replace hf := okn e13 hf
    refine r_if_ne (tgt := 16) X dX8_law_6 (by decide) (fun h14 => ?_) (fun h14 => ?_)
    · replace hf := okf h14 hf
      refine r_aload_n X dX8_law_16 0 rfl isr_ref ?_
      refine r_get (i := 108) (v := .ref (G.1 0)) X in_X8_law_8 rfl 0 (by decide) (kd_in kc_108 (by decide)) (EE_8 _ kc_108) rfl (mem_ix 2 rfl) dX8_law_17 ?_
      refine r_iload_n X dX8_law_20 1 rfl ?_
      refine r_iload_n X dX8_law_21 2 rfl ?_
      refine r_iload_n X dX8_law_22 3 rfl ?_
      refine r_iload X dX8_law_23 4 rfl ?_
      refine r_callVi (rest := []) X (c_X0_gives l G 0 a1 a2 a3 a4 kc_0 σ12 (oks hf)) md_X0_gives gX8_law_X0_gives (by decide) rfl rfl (kd_in kc_0 (by decide)) (EE_0 _ kc_0) rfl rfl (Nat.le_of_ble_eq_true rfl) dX8_law_25 (fun r15 σ16 e17 => ?_)
      replace hf := okn e17 hf
      exact r_iret X rfl hR (ok0 hf) dX8_law_28
    · replace hf := okt h14 hf
      refine r_aload_n X dX8_law_9 0 rfl isr_ref ?_
      refine r_ldc (v := (-1000000001 : Int32)) X (mem_ix 1 rfl) dX8_law_10 ?_
      refine r_callVi (rest := []) X (c_X8_error l G (-1000000001 : Int32) σ12 (oks hf)) md_X8_error gX8_law_X8_error (by decide) rfl rfl (kd_in kc_108 (by decide)) (EE_8 _ kc_108) rfl rfl (Nat.le_of_ble_eq_true rfl) dX8_law_12 (fun r18 σ19 e20 => ?_)
      replace hf := okn e20 hf
      exact r_iret X rfl hR (ok0 hf) dX8_law_15
theorem md_X8_law : MD yX8_law wsX8_law cX8_law 5 4 (some .int) := ⟨⟨_, rfl⟩, by decide +kernel, by decide +kernel, by decide⟩
theorem c_X8_law (l : Launch) (G : GX)  (a1 : Int32) (a2 : Int32) (a3 : Int32) (a4 : Int32) (σ : MM) (h : (f_X8_law a1 a2 a3 a4 σ).isSome = true) : CTi l G yX8_law wsX8_law 6 [.ref (G.1 108), .int a1, .int a2, .int a3, .int a4] σ (f_X8_law a1 a2 a3 a4 σ) :=
  CTi_of md_X8_law (Nat.le_of_ble_eq_true rfl) (fun K X hR => e_X8_law X hR a1 a2 a3 a4 σ (ok_is h))

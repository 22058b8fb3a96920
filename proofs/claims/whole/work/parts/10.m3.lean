-- X9_untell
theorem in_X9_untell_9 : ∀ w ∈ u_ws RX9 TX9 21, w ∈ wsX9_untell := fun _ h => List.mem_cons_of_mem _ (List.mem_append_right _ h)
def f_X9_untell (a1 : Int32) (σ : MM) : Option (Int32 × MM) :=
  bd (f_X9_in a1 (0 : Int32) (1 : Int32) σ) (fun r12 σ13 => if r12 = 0 then bd (f_X9_error (-1000000001 : Int32) σ13) (fun r20 σ21 => some (r20, σ21)) else bd (f_X9_becomes ((170 : Int32) + ((121 : Int32) * a1)) (0 : Int32) σ13) (fun r16 σ17 => if r16 ≤ 0 then some ((0 : Int32), σ17) else some ((1 : Int32), σ17)))
set_option maxRecDepth 100000 in
set_option maxHeartbeats 4000000 in
theorem e_X9_untell {l : Launch} {G : GX} {K : KX} (X : FX G K cX9_untell RX9 (some .int) wsX9_untell 2) {Φ : Int32 → MM → Prop} (hR : Ri G K Φ) (a1 : Int32) (σ : MM) (hf : Ok Φ (f_X9_untell a1 σ)) : V l G 4 K 2 0 [(0, .ref (G.1 129)), (1, .int a1)] [] σ := by
    unfold f_X9_untell at hf
    refine r_iload_n X dX9_untell_0 1 rfl ?_
    refine r_iconst X dX9_untell_1 ci_0 ?_
    refine r_iconst X dX9_untell_2 ci_1 ?_
    refine r_callSi (rest := []) X (c_X9_in l G a1 (0 : Int32) (1 : Int32) σ (oks hf)) md_X9_in gX9_untell_X9_in (by decide) rfl rfl (Nat.le_of_ble_eq_true rfl) dX9_untell_3 (fun r12 σ13 e14 => ?_)
    replace hf := okn e14 hf
    refine r_if_ne (tgt := 16) X dX9_untell_6 (by decide) (fun h15 => ?_) (fun h15 => ?_)
    · replace hf := okf h15 hf
      refine r_aload_n X dX9_untell_16 0 rfl isr_ref ?_
      refine r_sipush X dX9_untell_17 cs_170 ?_
      refine r_bipush X dX9_untell_20 cb_121 ?_
      refine r_iload_n X dX9_untell_22 1 rfl ?_
      refine r_imul X dX9_untell_23 ?_
      refine r_iadd X dX9_untell_24 ?_
      refine r_iconst X dX9_untell_25 ci_0 ?_
      refine r_callVi (rest := []) X (c_X9_becomes l G ((170 : Int32) + ((121 : Int32) * a1)) (0 : Int32) σ13 (oks hf)) md_X9_becomes gX9_untell_X9_becomes (by decide) rfl rfl (kd_in kc_129 (by decide)) (EE_9 _ kc_129) rfl rfl (Nat.le_of_ble_eq_true rfl) dX9_untell_26 (fun r16 σ17 e18 => ?_)
      replace hf := okn e18 hf
      refine r_if_le (tgt := 36) X dX9_untell_29 (by decide) (fun h19 => ?_) (fun h19 => ?_)
      · replace hf := okt h19 hf
        refine r_iconst X dX9_untell_36 ci_0 ?_
        exact r_iret X rfl hR (ok0 hf) dX9_untell_37
      · replace hf := okf h19 hf
        refine r_iconst X dX9_untell_32 ci_1 ?_
        refine r_goto (tgt := 37) X dX9_untell_33 (by decide) ?_
        exact r_iret X rfl hR (ok0 hf) dX9_untell_37
    · replace hf := okt h15 hf
      refine r_aload_n X dX9_untell_9 0 rfl isr_ref ?_
      refine r_ldc (v := (-1000000001 : Int32)) X (mem_ix 1 rfl) dX9_untell_10 ?_
      refine r_callVi (rest := []) X (c_X9_error l G (-1000000001 : Int32) σ13 (oks hf)) md_X9_error gX9_untell_X9_error (by decide) rfl rfl (kd_in kc_129 (by decide)) (EE_9 _ kc_129) rfl rfl (Nat.le_of_ble_eq_true rfl) dX9_untell_12 (fun r20 σ21 e22 => ?_)
      replace hf := okn e22 hf
      exact r_iret X rfl hR (ok0 hf) dX9_untell_15
theorem md_X9_untell : MD yX9_untell wsX9_untell cX9_untell 2 1 (some .int) := ⟨⟨_, rfl⟩, by decide +kernel, by decide +kernel, by decide⟩
theorem c_X9_untell (l : Launch) (G : GX)  (a1 : Int32) (σ : MM) (h : (f_X9_untell a1 σ).isSome = true) : CTi l G yX9_untell wsX9_untell 4 [.ref (G.1 129), .int a1] σ (f_X9_untell a1 σ) :=
  CTi_of md_X9_untell (Nat.le_of_ble_eq_true rfl) (fun K X hR => e_X9_untell X hR a1 σ (ok_is h))
-- X9_law
theorem in_X9_law_9 : ∀ w ∈ u_ws RX9 TX9 21, w ∈ wsX9_law := fun _ h => List.mem_cons_of_mem _ (List.mem_append_right _ h)
def f_X9_law (a1 : Int32) (a2 : Int32) (a3 : Int32) (a4 : Int32) (σ : MM) : Option (Int32 × MM) :=
  bd (f_X9_in a1 (0 : Int32) (1 : Int32) σ) (fun r11 σ12 => if r11 = 0 then bd (f_X9_error (-1000000001 : Int32) σ12) (fun r15 σ16 => some (r15, σ16)) else bd (f_X9_gives a1 a2 a3 a4 σ12) (fun r18 σ19 => some (r18, σ19)))
set_option maxRecDepth 100000 in
set_option maxHeartbeats 4000000 in
theorem e_X9_law {l : Launch} {G : GX} {K : KX} (X : FX G K cX9_law RX9 (some .int) wsX9_law 5) {Φ : Int32 → MM → Prop} (hR : Ri G K Φ) (a1 : Int32) (a2 : Int32) (a3 : Int32) (a4 : Int32) (σ : MM) (hf : Ok Φ (f_X9_law a1 a2 a3 a4 σ)) : V l G 6 K 5 0 [(0, .ref (G.1 129)), (1, .int a1), (2, .int a2), (3, .int a3), (4, .int a4)] [] σ := by
    unfold f_X9_law at hf
    refine r_iload_n X dX9_law_0 1 rfl ?_
    refine r_iconst X dX9_law_1 ci_0 ?_
    refine r_iconst X dX9_law_2 ci_1 ?_
    refine r_callSi (rest := []) X (c_X9_in l G a1 (0 : Int32) (1 : Int32) σ (oks hf)) md_X9_in gX9_law_X9_in (by decide) rfl rfl (Nat.le_of_ble_eq_true rfl) dX9_law_3 (fun r11 σ12 e13 => ?_)
    replace hf := okn e13 hf
    refine r_if_eq (tgt := 21) X dX9_law_6 (by decide) (fun h14 => ?_) (fun h14 => ?_)
    · replace hf := okt h14 hf
      refine r_aload_n X dX9_law_21 0 rfl isr_ref ?_
      refine r_ldc (v := (-1000000001 : Int32)) X (mem_ix 1 rfl) dX9_law_22 ?_
      refine r_callVi (rest := []) X (c_X9_error l G (-1000000001 : Int32) σ12 (oks hf)) md_X9_error gX9_law_X9_error (by decide) rfl rfl (kd_in kc_129 (by decide)) (EE_9 _ kc_129) rfl rfl (Nat.le_of_ble_eq_true rfl) dX9_law_24 (fun r15 σ16 e17 => ?_)
      replace hf := okn e17 hf
      exact r_iret X rfl hR (ok0 hf) dX9_law_27
    · replace hf := okf h14 hf
      refine r_aload_n X dX9_law_9 0 rfl isr_ref ?_
      refine r_iload_n X dX9_law_10 1 rfl ?_
      refine r_iload_n X dX9_law_11 2 rfl ?_
      refine r_iload_n X dX9_law_12 3 rfl ?_
      refine r_iload X dX9_law_13 4 rfl ?_
      refine r_callVi (rest := []) X (c_X9_gives l G a1 a2 a3 a4 σ12 (oks hf)) md_X9_gives gX9_law_X9_gives (by decide) rfl rfl (kd_in kc_129 (by decide)) (EE_9 _ kc_129) rfl rfl (Nat.le_of_ble_eq_true rfl) dX9_law_15 (fun r18 σ19 e20 => ?_)
      replace hf := okn e20 hf
      refine r_goto (tgt := 27) X dX9_law_18 (by decide) ?_
      exact r_iret X rfl hR (ok0 hf) dX9_law_27
theorem md_X9_law : MD yX9_law wsX9_law cX9_law 5 4 (some .int) := ⟨⟨_, rfl⟩, by decide +kernel, by decide +kernel, by decide⟩
theorem c_X9_law (l : Launch) (G : GX)  (a1 : Int32) (a2 : Int32) (a3 : Int32) (a4 : Int32) (σ : MM) (h : (f_X9_law a1 a2 a3 a4 σ).isSome = true) : CTi l G yX9_law wsX9_law 6 [.ref (G.1 129), .int a1, .int a2, .int a3, .int a4] σ (f_X9_law a1 a2 a3 a4 σ) :=
  CTi_of md_X9_law (Nat.le_of_ble_eq_true rfl) (fun K X hR => e_X9_law X hR a1 a2 a3 a4 σ (ok_is h))
-- X9_goes
theorem in_X9_goes_9 : ∀ w ∈ u_ws RX9 TX9 21, w ∈ wsX9_goes := fun _ h => List.mem_cons_of_mem _ (List.mem_append_right _ h)
def u_X9_goes_28 (k2 : Int32 → MM → Option (Unit × MM)) (v1 : Int32) (vs0 : Int32) (σ : MM) : Option (Unit × MM) :=
  bd (f_X9_about v1 (1 : Int32) σ) (fun r24 σ25 => bd (f_X9_held (r24 + vs0) (0 : Int32) (999 : Int32) σ25) (fun r27 σ28 => bd (f_X9_lets v1 (1 : Int32) r27 σ28) (fun r30 σ31 => k2 (v1 + (1 : Int32)) σ31)))
def u_X9_goes_2 (k2 : Int32 → MM → Option (Unit × MM)) (v1 : Int32) (σ : MM) : Option (Unit × MM) :=
  if (σ 130 3) ≤ v1 then lt (mu σ 130 0 ((σ 130 0) + (1 : Int32))) (fun σ18 => some ((), σ18)) else bd (f_X9_about v1 (0 : Int32) σ) (fun r20 σ21 => if (r20 - r20 / (5 : Int32) * (5 : Int32)) = 0 then u_X9_goes_28 k2 v1 (1 : Int32) σ21 else u_X9_goes_28 k2 v1 (0 : Int32) σ21)
def l_X9_goes_2 (v1 : Int32) (σ : MM) : Option (Unit × MM) :=
  itr (fun _ _ => none) (u_X9_goes_2) FU v1 σ
def f_X9_goes  (σ : MM) : Option (Unit × MM) :=
  l_X9_goes_2 (0 : Int32) σ
set_option maxRecDepth 100000 in
set_option maxHeartbeats 4000000 in
theorem t_X9_goes_28 {l : Launch} {G : GX} {K : KX} (X : FX G K cX9_goes RX9 (none) wsX9_goes 3) {Φ : Unit → MM → Prop} (hR : Rv G K Φ) (k2 : Int32 → MM → Option (Unit × MM)) (hk2c : ∀ (v1 : Int32) (σ : MM), Ok Φ (k2 v1 σ) → V l G 4 K 3 2 [(0, .ref (G.1 129)), (1, .int v1)] [] σ) (v1 : Int32) (vs0 : Int32) (σ : MM) (hf : Ok Φ (u_X9_goes_28 k2 v1 vs0 σ)) : V l G 4 K 3 28 [(0, .ref (G.1 129)), (1, .int v1)] [.int vs0] σ := by
    unfold u_X9_goes_28 at hf
    refine r_istore_n X dX9_goes_28 (i := 2) rfl (by decide) (lv' := [(2, .int vs0), (0, .ref (G.1 129)), (1, .int v1)]) rfl ?_
    refine r_aload_n X dX9_goes_29 1 rfl isr_ref ?_
    refine r_iload_n X dX9_goes_30 2 rfl ?_
    refine r_iconst X dX9_goes_31 ci_1 ?_
    refine r_aload_n X dX9_goes_32 1 rfl isr_ref ?_
    refine r_iload_n X dX9_goes_33 2 rfl ?_
    refine r_iconst X dX9_goes_34 ci_1 ?_
    refine r_callVi (rest := [.int (1 : Int32), .int v1, .ref (G.1 129)]) X (c_X9_about l G v1 (1 : Int32) σ (oks hf)) md_X9_about gX9_goes_X9_about (by decide) rfl rfl (kd_in kc_129 (by decide)) (EE_9 _ kc_129) rfl rfl (Nat.le_of_ble_eq_true rfl) dX9_goes_35 (fun r24 σ25 e26 => ?_)
    replace hf := okn e26 hf
    refine r_iload_n X dX9_goes_38 0 rfl ?_
    refine r_iadd X dX9_goes_39 ?_
    refine r_iconst X dX9_goes_40 ci_0 ?_
    refine r_sipush X dX9_goes_41 cs_999 ?_
    refine r_callSi (rest := [.int (1 : Int32), .int v1, .ref (G.1 129)]) X (c_X9_held l G (r24 + vs0) (0 : Int32) (999 : Int32) σ25 (oks hf)) md_X9_held gX9_goes_X9_held (by decide) rfl rfl (Nat.le_of_ble_eq_true rfl) dX9_goes_44 (fun r27 σ28 e29 => ?_)
    replace hf := okn e29 hf
    refine r_callVv (rest := []) X (c_X9_lets l G v1 (1 : Int32) r27 σ28 (oks hf)) md_X9_lets gX9_goes_X9_lets (by decide) rfl rfl (kd_in kc_129 (by decide)) (EE_9 _ kc_129) rfl rfl (Nat.le_of_ble_eq_true rfl) dX9_goes_47 (fun r30 σ31 e32 => ?_)
    replace hf := okn e32 hf
    refine r_iinc (v := (v1 + (1 : Int32))) X dX9_goes_50 2 rfl (congrArg _ ci_1) (by decide) (lv' := [(1, .int (v1 + (1 : Int32))), (2, .int vs0), (0, .ref (G.1 129))]) rfl ?_
    refine r_goto (tgt := 2) X dX9_goes_53 (by decide) ?_
    refine r_sub [2, 0] rfl ?_
    exact hk2c (v1 + (1 : Int32)) σ31 hf
set_option maxRecDepth 100000 in
set_option maxHeartbeats 4000000 in
theorem t_X9_goes_2 {l : Launch} {G : GX} {K : KX} (X : FX G K cX9_goes RX9 (none) wsX9_goes 3) {Φ : Unit → MM → Prop} (hR : Rv G K Φ) (k2 : Int32 → MM → Option (Unit × MM)) (hk2c : ∀ (v1 : Int32) (σ : MM), Ok Φ (k2 v1 σ) → V l G 4 K 3 2 [(0, .ref (G.1 129)), (1, .int v1)] [] σ) (v1 : Int32) (σ : MM) (hf : Ok Φ (u_X9_goes_2 k2 v1 σ)) : V l G 4 K 3 2 [(0, .ref (G.1 129)), (1, .int v1)] [] σ := by
    unfold u_X9_goes_2 at hf
    refine r_iload_n X dX9_goes_2 1 rfl ?_
    refine r_aload_n X dX9_goes_3 0 rfl isr_ref ?_
    refine r_get (i := 129) (v := .ref (G.1 130)) X in_X9_goes_9 rfl 0 (by decide) (kd_in kc_129 (by decide)) (EE_9 _ kc_129) rfl (mem_ix 1 rfl) dX9_goes_4 ?_
    refine r_iconst X dX9_goes_7 ci_3 ?_
    refine r_iald (i := 130) (jn := 3) X (kd_in kc_130 (by decide)) (EE_26 _ kc_130) (by decide) (by decide) dX9_goes_8 ?_
    refine r_icmp_ge (tgt := 56) X dX9_goes_9 (by decide) (fun h17 => ?_) (fun h17 => ?_)
    · replace hf := okt h17 hf
      refine r_aload_n X dX9_goes_56 0 rfl isr_ref ?_
      refine r_get (i := 129) (v := .ref (G.1 130)) X in_X9_goes_9 rfl 0 (by decide) (kd_in kc_129 (by decide)) (EE_9 _ kc_129) rfl (mem_ix 1 rfl) dX9_goes_57 ?_
      refine r_iconst X dX9_goes_60 ci_0 ?_
      refine r_dup2 X dX9_goes_61 rfl rfl ?_
      refine r_iald (i := 130) (jn := 0) X (kd_in kc_130 (by decide)) (EE_26 _ kc_130) (by decide) (by decide) dX9_goes_62 ?_
      refine r_iconst X dX9_goes_63 ci_1 ?_
      refine r_iadd X dX9_goes_64 ?_
      obtain ⟨σ18, e19, hf⟩ := okl hf
      refine r_iast (i := 130) (jn := 0) X (kd_in kc_130 (by decide)) (fun _ => EE_26 _ kc_130) (by decide) (by decide) dX9_goes_65 ?_
      refine r_sg e19 ?_
      exact r_vret X rfl hR (ok0 hf) dX9_goes_66
    · replace hf := okf h17 hf
      refine r_aload_n X dX9_goes_12 0 rfl isr_ref ?_
      refine r_iload_n X dX9_goes_13 1 rfl ?_
      refine r_iconst X dX9_goes_14 ci_0 ?_
      refine r_callVi (rest := []) X (c_X9_about l G v1 (0 : Int32) σ (oks hf)) md_X9_about gX9_goes_X9_about (by decide) rfl rfl (kd_in kc_129 (by decide)) (EE_9 _ kc_129) rfl rfl (Nat.le_of_ble_eq_true rfl) dX9_goes_15 (fun r20 σ21 e22 => ?_)
      replace hf := okn e22 hf
      refine r_iconst X dX9_goes_18 ci_5 ?_
      refine r_irem X dX9_goes_19 (by decide) ?_
      refine r_if_ne (tgt := 27) X dX9_goes_20 (by decide) (fun h23 => ?_) (fun h23 => ?_)
      · replace hf := okf h23 hf
        refine r_iconst X dX9_goes_27 ci_0 ?_
        exact t_X9_goes_28 X hR k2 hk2c v1 (0 : Int32) σ21 hf
      · replace hf := okt h23 hf
        refine r_iconst X dX9_goes_23 ci_1 ?_
        refine r_goto (tgt := 28) X dX9_goes_24 (by decide) ?_
        exact t_X9_goes_28 X hR k2 hk2c v1 (1 : Int32) σ21 hf
theorem tl_X9_goes_2 {l : Launch} {G : GX} {K : KX} (X : FX G K cX9_goes RX9 (none) wsX9_goes 3) {Φ : Unit → MM → Prop} (hR : Rv G K Φ) : ∀ (m : Nat) (v1 : Int32) (σ : MM), Ok Φ (itr (fun _ _ => none) (u_X9_goes_2) m v1 σ) → V l G 4 K 3 2 [(0, .ref (G.1 129)), (1, .int v1)] [] σ := by
  intro m
  induction m with
  | zero => intro v1 σ hf; exact (okx hf).elim
  | succ m ih => intro v1 σ hf; exact t_X9_goes_2 X hR _ ih v1 σ hf
set_option maxRecDepth 100000 in
set_option maxHeartbeats 4000000 in
theorem e_X9_goes {l : Launch} {G : GX} {K : KX} (X : FX G K cX9_goes RX9 (none) wsX9_goes 3) {Φ : Unit → MM → Prop} (hR : Rv G K Φ)  (σ : MM) (hf : Ok Φ (f_X9_goes  σ)) : V l G 4 K 3 0 [(0, .ref (G.1 129))] [] σ := by
    unfold f_X9_goes at hf
    refine r_iconst X dX9_goes_0 ci_0 ?_
    refine r_istore_n X dX9_goes_1 (i := 1) rfl (by decide) (lv' := [(1, .int (0 : Int32)), (0, .ref (G.1 129))]) rfl ?_
    refine r_sub [1, 0] rfl ?_
    exact tl_X9_goes_2 X hR FU (0 : Int32) σ hf
theorem md_X9_goes : MD yX9_goes wsX9_goes cX9_goes 3 0 (none) := ⟨⟨_, rfl⟩, by decide +kernel, by decide +kernel, by decide⟩
theorem c_X9_goes (l : Launch) (G : GX)   (σ : MM) (h : (f_X9_goes  σ).isSome = true) : CTv l G yX9_goes wsX9_goes 4 [.ref (G.1 129)] σ (f_X9_goes  σ) :=
  CTv_of md_X9_goes (Nat.le_of_ble_eq_true rfl) (fun K X hR => e_X9_goes X hR  σ (ok_is h))
-- X9_hours
theorem in_X9_hours_9 : ∀ w ∈ u_ws RX9 TX9 21, w ∈ wsX9_hours := fun _ h => List.mem_cons_of_mem _ (List.mem_append_right _ h)
def u_X9_hours_40 (k40 : Int32 → Int32 → MM → Option (Int32 × MM)) (v1 : Int32) (v2 : Int32) (σ : MM) : Option (Int32 × MM) :=
  if v1 ≤ v2 then some ((σ 130 0), σ) else bd (f_X9_goes σ) (fun r22 σ23 => k40 v1 (v2 + (1 : Int32)) σ23)
def l_X9_hours_40 (v1 : Int32) (v2 : Int32) (σ : MM) : Option (Int32 × MM) :=
  itr (fun _ _ _ => none) (u_X9_hours_40) FU v1 v2 σ
def f_X9_hours (a1 : Int32) (σ : MM) : Option (Int32 × MM) :=
  bd (f_X9_in a1 (1 : Int32) (48 : Int32) σ) (fun r16 σ17 => if r16 = 0 then bd (f_X9_error (-1000000001 : Int32) σ17) (fun r28 σ29 => some (r28, σ29)) else if ((σ17 130 0) + a1) ≤ (9999 : Int32) then l_X9_hours_40 a1 (0 : Int32) σ17 else bd (f_X9_error (-1000000003 : Int32) σ17) (fun r25 σ26 => some (r25, σ26)))
set_option maxRecDepth 100000 in
set_option maxHeartbeats 4000000 in
theorem t_X9_hours_40 {l : Launch} {G : GX} {K : KX} (X : FX G K cX9_hours RX9 (some .int) wsX9_hours 3) {Φ : Int32 → MM → Prop} (hR : Ri G K Φ) (k40 : Int32 → Int32 → MM → Option (Int32 × MM)) (hk40c : ∀ (v1 : Int32) (v2 : Int32) (σ : MM), Ok Φ (k40 v1 v2 σ) → V l G 5 K 3 40 [(0, .ref (G.1 129)), (1, .int v1), (2, .int v2)] [] σ) (v1 : Int32) (v2 : Int32) (σ : MM) (hf : Ok Φ (u_X9_hours_40 k40 v1 v2 σ)) : V l G 5 K 3 40 [(0, .ref (G.1 129)), (1, .int v1), (2, .int v2)] [] σ := by
    unfold u_X9_hours_40 at hf
    refine r_iload_n X dX9_hours_40 2 rfl ?_
    refine r_iload_n X dX9_hours_41 1 rfl ?_
    refine r_icmp_ge (tgt := 55) X dX9_hours_42 (by decide) (fun h21 => ?_) (fun h21 => ?_)
    · replace hf := okt h21 hf
      refine r_aload_n X dX9_hours_55 0 rfl isr_ref ?_
      refine r_get (i := 129) (v := .ref (G.1 130)) X in_X9_hours_9 rfl 0 (by decide) (kd_in kc_129 (by decide)) (EE_9 _ kc_129) rfl (mem_ix 2 rfl) dX9_hours_56 ?_
      refine r_iconst X dX9_hours_59 ci_0 ?_
      refine r_iald (i := 130) (jn := 0) X (kd_in kc_130 (by decide)) (EE_26 _ kc_130) (by decide) (by decide) dX9_hours_60 ?_
      exact r_iret X rfl hR (ok0 hf) dX9_hours_61
    · replace hf := okf h21 hf
      refine r_aload_n X dX9_hours_45 0 rfl isr_ref ?_
      refine r_callVv (rest := []) X (c_X9_goes l G σ (oks hf)) md_X9_goes gX9_hours_X9_goes (by decide) rfl rfl (kd_in kc_129 (by decide)) (EE_9 _ kc_129) rfl rfl (Nat.le_of_ble_eq_true rfl) dX9_hours_46 (fun r22 σ23 e24 => ?_)
      replace hf := okn e24 hf
      refine r_iinc (v := (v2 + (1 : Int32))) X dX9_hours_49 2 rfl (congrArg _ ci_1) (by decide) (lv' := [(2, .int (v2 + (1 : Int32))), (0, .ref (G.1 129)), (1, .int v1)]) rfl ?_
      refine r_goto (tgt := 40) X dX9_hours_52 (by decide) ?_
      refine r_sub [1, 2, 0] rfl ?_
      exact hk40c v1 (v2 + (1 : Int32)) σ23 hf
theorem tl_X9_hours_40 {l : Launch} {G : GX} {K : KX} (X : FX G K cX9_hours RX9 (some .int) wsX9_hours 3) {Φ : Int32 → MM → Prop} (hR : Ri G K Φ) : ∀ (m : Nat) (v1 : Int32) (v2 : Int32) (σ : MM), Ok Φ (itr (fun _ _ _ => none) (u_X9_hours_40) m v1 v2 σ) → V l G 5 K 3 40 [(0, .ref (G.1 129)), (1, .int v1), (2, .int v2)] [] σ := by
  intro m
  induction m with
  | zero => intro v1 v2 σ hf; exact (okx hf).elim
  | succ m ih => intro v1 v2 σ hf; exact t_X9_hours_40 X hR _ ih v1 v2 σ hf
set_option maxRecDepth 100000 in
set_option maxHeartbeats 4000000 in
theorem e_X9_hours {l : Launch} {G : GX} {K : KX} (X : FX G K cX9_hours RX9 (some .int) wsX9_hours 3) {Φ : Int32 → MM → Prop} (hR : Ri G K Φ) (a1 : Int32) (σ : MM) (hf : Ok Φ (f_X9_hours a1 σ)) : V l G 5 K 3 0 [(0, .ref (G.1 129)), (1, .int a1)] [] σ := by
    unfold f_X9_hours at hf
    refine r_iload_n X dX9_hours_0 1 rfl ?_
    refine r_iconst X dX9_hours_1 ci_1 ?_
    refine r_bipush X dX9_hours_2 cb_48 ?_
    refine r_callSi (rest := []) X (c_X9_in l G a1 (1 : Int32) (48 : Int32) σ (oks hf)) md_X9_in gX9_hours_X9_in (by decide) rfl rfl (Nat.le_of_ble_eq_true rfl) dX9_hours_4 (fun r16 σ17 e18 => ?_)
    replace hf := okn e18 hf
    refine r_if_ne (tgt := 17) X dX9_hours_7 (by decide) (fun h19 => ?_) (fun h19 => ?_)
    · replace hf := okf h19 hf
      refine r_aload_n X dX9_hours_17 0 rfl isr_ref ?_
      refine r_get (i := 129) (v := .ref (G.1 130)) X in_X9_hours_9 rfl 0 (by decide) (kd_in kc_129 (by decide)) (EE_9 _ kc_129) rfl (mem_ix 2 rfl) dX9_hours_18 ?_
      refine r_iconst X dX9_hours_21 ci_0 ?_
      refine r_iald (i := 130) (jn := 0) X (kd_in kc_130 (by decide)) (EE_26 _ kc_130) (by decide) (by decide) dX9_hours_22 ?_
      refine r_iload_n X dX9_hours_23 1 rfl ?_
      refine r_iadd X dX9_hours_24 ?_
      refine r_sipush X dX9_hours_25 cs_9999 ?_
      refine r_icmp_le (tgt := 38) X dX9_hours_28 (by decide) (fun h20 => ?_) (fun h20 => ?_)
      · replace hf := okt h20 hf
        refine r_iconst X dX9_hours_38 ci_0 ?_
        refine r_istore_n X dX9_hours_39 (i := 2) rfl (by decide) (lv' := [(2, .int (0 : Int32)), (0, .ref (G.1 129)), (1, .int a1)]) rfl ?_
        refine r_sub [1, 2, 0] rfl ?_
        exact tl_X9_hours_40 X hR FU a1 (0 : Int32) σ17 hf
      · replace hf := okf h20 hf
        refine r_aload_n X dX9_hours_31 0 rfl isr_ref ?_
        refine r_ldc (v := (-1000000003 : Int32)) X (mem_ix 3 rfl) dX9_hours_32 ?_
        refine r_callVi (rest := []) X (c_X9_error l G (-1000000003 : Int32) σ17 (oks hf)) md_X9_error gX9_hours_X9_error (by decide) rfl rfl (kd_in kc_129 (by decide)) (EE_9 _ kc_129) rfl rfl (Nat.le_of_ble_eq_true rfl) dX9_hours_34 (fun r25 σ26 e27 => ?_)
        replace hf := okn e27 hf
        exact r_iret X rfl hR (ok0 hf) dX9_hours_37
    · replace hf := okt h19 hf
      refine r_aload_n X dX9_hours_10 0 rfl isr_ref ?_
      refine r_ldc (v := (-1000000001 : Int32)) X (mem_ix 1 rfl) dX9_hours_11 ?_
      refine r_callVi (rest := []) X (c_X9_error l G (-1000000001 : Int32) σ17 (oks hf)) md_X9_error gX9_hours_X9_error (by decide) rfl rfl (kd_in kc_129 (by decide)) (EE_9 _ kc_129) rfl rfl (Nat.le_of_ble_eq_true rfl) dX9_hours_13 (fun r28 σ29 e30 => ?_)
      replace hf := okn e30 hf
      exact r_iret X rfl hR (ok0 hf) dX9_hours_16
theorem md_X9_hours : MD yX9_hours wsX9_hours cX9_hours 3 1 (some .int) := ⟨⟨_, rfl⟩, by decide +kernel, by decide +kernel, by decide⟩
theorem c_X9_hours (l : Launch) (G : GX)  (a1 : Int32) (σ : MM) (h : (f_X9_hours a1 σ).isSome = true) : CTi l G yX9_hours wsX9_hours 5 [.ref (G.1 129), .int a1] σ (f_X9_hours a1 σ) :=
  CTi_of md_X9_hours (Nat.le_of_ble_eq_true rfl) (fun K X hR => e_X9_hours X hR a1 σ (ok_is h))
-- X9_draw
theorem in_X9_draw_9 : ∀ w ∈ u_ws RX9 TX9 21, w ∈ wsX9_draw := fun _ h => List.mem_cons_of_mem _ (List.mem_append_right _ h)
def f_X9_draw  (σ : MM) : Option (Int32 × MM) :=
  lt (mu σ 130 1 (((σ 130 1) * (1103515245 : Int32)) + (12345 : Int32))) (fun σ3 => some ((((σ3 130 1).toUInt32 >>> ((8 : Int32).toUInt32 &&& Int32.toUInt32 31)).toInt32), σ3))
set_option maxRecDepth 100000 in
set_option maxHeartbeats 4000000 in
theorem e_X9_draw {l : Launch} {G : GX} {K : KX} (X : FX G K cX9_draw RX9 (some .int) wsX9_draw 1) {Φ : Int32 → MM → Prop} (hR : Ri G K Φ)  (σ : MM) (hf : Ok Φ (f_X9_draw  σ)) : V l G 3 K 1 0 [(0, .ref (G.1 129))] [] σ := by
    unfold f_X9_draw at hf
    refine r_aload_n X dX9_draw_0 0 rfl isr_ref ?_
    refine r_get (i := 129) (v := .ref (G.1 130)) X in_X9_draw_9 rfl 0 (by decide) (kd_in kc_129 (by decide)) (EE_9 _ kc_129) rfl (mem_ix 1 rfl) dX9_draw_1 ?_
    refine r_iconst X dX9_draw_4 ci_1 ?_
    refine r_aload_n X dX9_draw_5 0 rfl isr_ref ?_
    refine r_get (i := 129) (v := .ref (G.1 130)) X in_X9_draw_9 rfl 0 (by decide) (kd_in kc_129 (by decide)) (EE_9 _ kc_129) rfl (mem_ix 1 rfl) dX9_draw_6 ?_
    refine r_iconst X dX9_draw_9 ci_1 ?_
    refine r_iald (i := 130) (jn := 1) X (kd_in kc_130 (by decide)) (EE_26 _ kc_130) (by decide) (by decide) dX9_draw_10 ?_
    refine r_ldc (v := (1103515245 : Int32)) X (mem_ix 2 rfl) dX9_draw_11 ?_
    refine r_imul X dX9_draw_13 ?_
    refine r_sipush X dX9_draw_14 cs_12345 ?_
    refine r_iadd X dX9_draw_17 ?_
    obtain ⟨σ3, e4, hf⟩ := okl hf
    refine r_iast (i := 130) (jn := 1) X (kd_in kc_130 (by decide)) (fun _ => EE_26 _ kc_130) (by decide) (by decide) dX9_draw_18 ?_
    refine r_sg e4 ?_
    refine r_aload_n X dX9_draw_19 0 rfl isr_ref ?_
    refine r_get (i := 129) (v := .ref (G.1 130)) X in_X9_draw_9 rfl 0 (by decide) (kd_in kc_129 (by decide)) (EE_9 _ kc_129) rfl (mem_ix 1 rfl) dX9_draw_20 ?_
    refine r_iconst X dX9_draw_23 ci_1 ?_
    refine r_iald (i := 130) (jn := 1) X (kd_in kc_130 (by decide)) (EE_26 _ kc_130) (by decide) (by decide) dX9_draw_24 ?_
    refine r_bipush X dX9_draw_25 cb_8 ?_
    refine r_iushr X dX9_draw_27 ?_
    exact r_iret X rfl hR (ok0 hf) dX9_draw_28
theorem md_X9_draw : MD yX9_draw wsX9_draw cX9_draw 1 0 (some .int) := ⟨⟨_, rfl⟩, by decide +kernel, by decide +kernel, by decide⟩
theorem c_X9_draw (l : Launch) (G : GX)   (σ : MM) (h : (f_X9_draw  σ).isSome = true) : CTi l G yX9_draw wsX9_draw 3 [.ref (G.1 129)] σ (f_X9_draw  σ) :=
  CTi_of md_X9_draw (Nat.le_of_ble_eq_true rfl) (fun K X hR => e_X9_draw X hR  σ (ok_is h))
-- X9_drawn
theorem in_X9_drawn_9 : ∀ w ∈ u_ws RX9 TX9 21, w ∈ wsX9_drawn := fun _ h => List.mem_cons_of_mem _ (List.mem_append_right _ h)
def u_X9_drawn_4 (k4 : Int32 → Int32 → MM → Option (Int32 × MM)) (v1 : Int32) (v2 : Int32) (σ : MM) : Option (Int32 × MM) :=
  if (σ 130 3) ≤ v2 then bd (f_X9_goes σ) (fun r17 σ18 => some (v1, σ18)) else bd (f_X9_canGo v2 σ) (fun r20 σ21 => if r20 = 0 then k4 v1 (v2 + (1 : Int32)) σ21 else bd (f_X9_draw σ21) (fun r24 σ25 => bd (f_X9_says v2 (r24 - r24 / (100 : Int32) * (100 : Int32)) σ25) (fun r27 σ28 => if r27 = 0 then k4 (v1 + (0 : Int32)) (v2 + (1 : Int32)) σ28 else k4 (v1 + (1 : Int32)) (v2 + (1 : Int32)) σ28)))
def l_X9_drawn_4 (v1 : Int32) (v2 : Int32) (σ : MM) : Option (Int32 × MM) :=
  itr (fun _ _ _ => none) (u_X9_drawn_4) FU v1 v2 σ
def f_X9_drawn  (σ : MM) : Option (Int32 × MM) :=
  l_X9_drawn_4 (0 : Int32) (0 : Int32) σ
set_option maxRecDepth 100000 in
set_option maxHeartbeats 4000000 in
theorem t_X9_drawn_4 {l : Launch} {G : GX} {K : KX} (X : FX G K cX9_drawn RX9 (some .int) wsX9_drawn 3) {Φ : Int32 → MM → Prop} (hR : Ri G K Φ) (k4 : Int32 → Int32 → MM → Option (Int32 × MM)) (hk4c : ∀ (v1 : Int32) (v2 : Int32) (σ : MM), Ok Φ (k4 v1 v2 σ) → V l G 8 K 3 4 [(0, .ref (G.1 129)), (1, .int v1), (2, .int v2)] [] σ) (v1 : Int32) (v2 : Int32) (σ : MM) (hf : Ok Φ (u_X9_drawn_4 k4 v1 v2 σ)) : V l G 8 K 3 4 [(0, .ref (G.1 129)), (1, .int v1), (2, .int v2)] [] σ := by
    unfold u_X9_drawn_4 at hf
    refine r_iload_n X dX9_drawn_4 2 rfl ?_
    refine r_aload_n X dX9_drawn_5 0 rfl isr_ref ?_
    refine r_get (i := 129) (v := .ref (G.1 130)) X in_X9_drawn_9 rfl 0 (by decide) (kd_in kc_129 (by decide)) (EE_9 _ kc_129) rfl (mem_ix 1 rfl) dX9_drawn_6 ?_
    refine r_iconst X dX9_drawn_9 ci_3 ?_
    refine r_iald (i := 130) (jn := 3) X (kd_in kc_130 (by decide)) (EE_26 _ kc_130) (by decide) (by decide) dX9_drawn_10 ?_
    refine r_icmp_ge (tgt := 51) X dX9_drawn_11 (by decide) (fun h16 => ?_) (fun h16 => ?_)
    · replace hf := okt h16 hf
      refine r_aload_n X dX9_drawn_51 0 rfl isr_ref ?_
      refine r_callVv (rest := []) X (c_X9_goes l G σ (oks hf)) md_X9_goes gX9_drawn_X9_goes (by decide) rfl rfl (kd_in kc_129 (by decide)) (EE_9 _ kc_129) rfl rfl (Nat.le_of_ble_eq_true rfl) dX9_drawn_52 (fun r17 σ18 e19 => ?_)
      replace hf := okn e19 hf
      refine r_iload_n X dX9_drawn_55 1 rfl ?_
      exact r_iret X rfl hR (ok0 hf) dX9_drawn_56
    · replace hf := okf h16 hf
      refine r_aload_n X dX9_drawn_14 0 rfl isr_ref ?_
      refine r_iload_n X dX9_drawn_15 2 rfl ?_
      refine r_callVi (rest := []) X (c_X9_canGo l G v2 σ (oks hf)) md_X9_canGo gX9_drawn_X9_canGo (by decide) rfl rfl (kd_in kc_129 (by decide)) (EE_9 _ kc_129) rfl rfl (Nat.le_of_ble_eq_true rfl) dX9_drawn_16 (fun r20 σ21 e22 => ?_)
      replace hf := okn e22 hf
      refine r_if_eq (tgt := 45) X dX9_drawn_19 (by decide) (fun h23 => ?_) (fun h23 => ?_)
      · replace hf := okt h23 hf
        refine r_iinc (v := (v2 + (1 : Int32))) X dX9_drawn_45 2 rfl (congrArg _ ci_1) (by decide) (lv' := [(2, .int (v2 + (1 : Int32))), (0, .ref (G.1 129)), (1, .int v1)]) rfl ?_
        refine r_goto (tgt := 4) X dX9_drawn_48 (by decide) ?_
        refine r_sub [1, 2, 0] rfl ?_
        exact hk4c v1 (v2 + (1 : Int32)) σ21 hf
      · replace hf := okf h23 hf
        refine r_iload_n X dX9_drawn_22 1 rfl ?_
        refine r_aload_n X dX9_drawn_23 0 rfl isr_ref ?_
        refine r_iload_n X dX9_drawn_24 2 rfl ?_
        refine r_aload_n X dX9_drawn_25 0 rfl isr_ref ?_
        refine r_callVi (rest := [.int v2, .ref (G.1 129), .int v1]) X (c_X9_draw l G σ21 (oks hf)) md_X9_draw gX9_drawn_X9_draw (by decide) rfl rfl (kd_in kc_129 (by decide)) (EE_9 _ kc_129) rfl rfl (Nat.le_of_ble_eq_true rfl) dX9_drawn_26 (fun r24 σ25 e26 => ?_)
        replace hf := okn e26 hf
        refine r_bipush X dX9_drawn_29 cb_100 ?_
        refine r_irem X dX9_drawn_31 (by decide) ?_
        refine r_callVi (rest := [.int v1]) X (c_X9_says l G v2 (r24 - r24 / (100 : Int32) * (100 : Int32)) σ25 (oks hf)) md_X9_says gX9_drawn_X9_says (by decide) rfl rfl (kd_in kc_129 (by decide)) (EE_9 _ kc_129) rfl rfl (Nat.le_of_ble_eq_true rfl) dX9_drawn_32 (fun r27 σ28 e29 => ?_)
        replace hf := okn e29 hf
        refine r_if_eq (tgt := 42) X dX9_drawn_35 (by decide) (fun h30 => ?_) (fun h30 => ?_)
        · replace hf := okt h30 hf
          refine r_iconst X dX9_drawn_42 ci_0 ?_
          refine r_iadd X dX9_drawn_43 ?_
          refine r_istore_n X dX9_drawn_44 (i := 1) rfl (by decide) (lv' := [(1, .int (v1 + (0 : Int32))), (0, .ref (G.1 129)), (2, .int v2)]) rfl ?_
          refine r_iinc (v := (v2 + (1 : Int32))) X dX9_drawn_45 2 rfl (congrArg _ ci_1) (by decide) (lv' := [(2, .int (v2 + (1 : Int32))), (1, .int (v1 + (0 : Int32))), (0, .ref (G.1 129))]) rfl ?_
          refine r_goto (tgt := 4) X dX9_drawn_48 (by decide) ?_
          refine r_sub [2, 1, 0] rfl ?_
          exact hk4c (v1 + (0 : Int32)) (v2 + (1 : Int32)) σ28 hf
        · replace hf := okf h30 hf
          refine r_iconst X dX9_drawn_38 ci_1 ?_
          refine r_goto (tgt := 43) X dX9_drawn_39 (by decide) ?_
          refine r_iadd X dX9_drawn_43 ?_
          refine r_istore_n X dX9_drawn_44 (i := 1) rfl (by decide) (lv' := [(1, .int (v1 + (1 : Int32))), (0, .ref (G.1 129)), (2, .int v2)]) rfl ?_
          refine r_iinc (v := (v2 + (1 : Int32))) X dX9_drawn_45 2 rfl (congrArg _ ci_1) (by decide) (lv' := [(2, .int (v2 + (1 : Int32))), (1, .int (v1 + (1 : Int32))), (0, .ref (G.1 129))]) rfl ?_
          refine r_goto (tgt := 4) X dX9_drawn_48 (by decide) ?_
          refine r_sub [2, 1, 0] rfl ?_
          exact hk4c (v1 + (1 : Int32)) (v2 + (1 : Int32)) σ28 hf
theorem tl_X9_drawn_4 {l : Launch} {G : GX} {K : KX} (X : FX G K cX9_drawn RX9 (some .int) wsX9_drawn 3) {Φ : Int32 → MM → Prop} (hR : Ri G K Φ) : ∀ (m : Nat) (v1 : Int32) (v2 : Int32) (σ : MM), Ok Φ (itr (fun _ _ _ => none) (u_X9_drawn_4) m v1 v2 σ) → V l G 8 K 3 4 [(0, .ref (G.1 129)), (1, .int v1), (2, .int v2)] [] σ := by
  intro m
  induction m with
  | zero => intro v1 v2 σ hf; exact (okx hf).elim
  | succ m ih => intro v1 v2 σ hf; exact t_X9_drawn_4 X hR _ ih v1 v2 σ hf
set_option maxRecDepth 100000 in
set_option maxHeartbeats 4000000 in
theorem e_X9_drawn {l : Launch} {G : GX} {K : KX} (X : FX G K cX9_drawn RX9 (some .int) wsX9_drawn 3) {Φ : Int32 → MM → Prop} (hR : Ri G K Φ)  (σ : MM) (hf : Ok Φ (f_X9_drawn  σ)) : V l G 8 K 3 0 [(0, .ref (G.1 129))] [] σ := by
    unfold f_X9_drawn at hf
    refine r_iconst X dX9_drawn_0 ci_0 ?_
    refine r_istore_n X dX9_drawn_1 (i := 1) rfl (by decide) (lv' := [(1, .int (0 : Int32)), (0, .ref (G.1 129))]) rfl ?_
    refine r_iconst X dX9_drawn_2 ci_0 ?_
    refine r_istore_n X dX9_drawn_3 (i := 2) rfl (by decide) (lv' := [(2, .int (0 : Int32)), (1, .int (0 : Int32)), (0, .ref (G.1 129))]) rfl ?_
    refine r_sub [2, 1, 0] rfl ?_
    exact tl_X9_drawn_4 X hR FU (0 : Int32) (0 : Int32) σ hf
theorem md_X9_drawn : MD yX9_drawn wsX9_drawn cX9_drawn 3 0 (some .int) := ⟨⟨_, rfl⟩, by decide +kernel, by decide +kernel, by decide⟩
theorem c_X9_drawn (l : Launch) (G : GX)   (σ : MM) (h : (f_X9_drawn  σ).isSome = true) : CTi l G yX9_drawn wsX9_drawn 8 [.ref (G.1 129)] σ (f_X9_drawn  σ) :=
  CTi_of md_X9_drawn (Nat.le_of_ble_eq_true rfl) (fun K X hR => e_X9_drawn X hR  σ (ok_is h))
-- X9_loose
theorem in_X9_loose_9 : ∀ w ∈ u_ws RX9 TX9 21, w ∈ wsX9_loose := fun _ h => List.mem_cons_of_mem _ (List.mem_append_right _ h)
def u_X9_loose_42 (k42 : Int32 → Int32 → Int32 → MM → Option (Int32 × MM)) (v1 : Int32) (v2 : Int32) (v3 : Int32) (σ : MM) : Option (Int32 × MM) :=
  if v1 ≤ v3 then some (v2, σ) else bd (f_X9_drawn σ) (fun r22 σ23 => k42 v1 (v2 + r22) (v3 + (1 : Int32)) σ23)
def l_X9_loose_42 (v1 : Int32) (v2 : Int32) (v3 : Int32) (σ : MM) : Option (Int32 × MM) :=
  itr (fun _ _ _ _ => none) (u_X9_loose_42) FU v1 v2 v3 σ
def f_X9_loose (a1 : Int32) (σ : MM) : Option (Int32 × MM) :=
  bd (f_X9_in a1 (1 : Int32) (30 : Int32) σ) (fun r16 σ17 => if r16 = 0 then bd (f_X9_error (-1000000001 : Int32) σ17) (fun r28 σ29 => some (r28, σ29)) else if ((σ17 130 0) + a1) ≤ (9999 : Int32) then l_X9_loose_42 a1 (0 : Int32) (0 : Int32) σ17 else bd (f_X9_error (-1000000003 : Int32) σ17) (fun r25 σ26 => some (r25, σ26)))
set_option maxRecDepth 100000 in
set_option maxHeartbeats 4000000 in
theorem t_X9_loose_42 {l : Launch} {G : GX} {K : KX} (X : FX G K cX9_loose RX9 (some .int) wsX9_loose 4) {Φ : Int32 → MM → Prop} (hR : Ri G K Φ) (k42 : Int32 → Int32 → Int32 → MM → Option (Int32 × MM)) (hk42c : ∀ (v1 : Int32) (v2 : Int32) (v3 : Int32) (σ : MM), Ok Φ (k42 v1 v2 v3 σ) → V l G 9 K 4 42 [(0, .ref (G.1 129)), (1, .int v1), (2, .int v2), (3, .int v3)] [] σ) (v1 : Int32) (v2 : Int32) (v3 : Int32) (σ : MM) (hf : Ok Φ (u_X9_loose_42 k42 v1 v2 v3 σ)) : V l G 9 K 4 42 [(0, .ref (G.1 129)), (1, .int v1), (2, .int v2), (3, .int v3)] [] σ := by
    unfold u_X9_loose_42 at hf
    refine r_iload_n X dX9_loose_42 3 rfl ?_
    refine r_iload_n X dX9_loose_43 1 rfl ?_
    refine r_icmp_ge (tgt := 60) X dX9_loose_44 (by decide) (fun h21 => ?_) (fun h21 => ?_)
    · replace hf := okt h21 hf
      refine r_iload_n X dX9_loose_60 2 rfl ?_
      exact r_iret X rfl hR (ok0 hf) dX9_loose_61
    · replace hf := okf h21 hf
      refine r_iload_n X dX9_loose_47 2 rfl ?_
      refine r_aload_n X dX9_loose_48 0 rfl isr_ref ?_
      refine r_callVi (rest := [.int v2]) X (c_X9_drawn l G σ (oks hf)) md_X9_drawn gX9_loose_X9_drawn (by decide) rfl rfl (kd_in kc_129 (by decide)) (EE_9 _ kc_129) rfl rfl (Nat.le_of_ble_eq_true rfl) dX9_loose_49 (fun r22 σ23 e24 => ?_)
      replace hf := okn e24 hf
      refine r_iadd X dX9_loose_52 ?_
      refine r_istore_n X dX9_loose_53 (i := 2) rfl (by decide) (lv' := [(2, .int (v2 + r22)), (0, .ref (G.1 129)), (1, .int v1), (3, .int v3)]) rfl ?_
      refine r_iinc (v := (v3 + (1 : Int32))) X dX9_loose_54 3 rfl (congrArg _ ci_1) (by decide) (lv' := [(3, .int (v3 + (1 : Int32))), (2, .int (v2 + r22)), (0, .ref (G.1 129)), (1, .int v1)]) rfl ?_
      refine r_goto (tgt := 42) X dX9_loose_57 (by decide) ?_
      refine r_sub [2, 3, 1, 0] rfl ?_
      exact hk42c v1 (v2 + r22) (v3 + (1 : Int32)) σ23 hf
theorem tl_X9_loose_42 {l : Launch} {G : GX} {K : KX} (X : FX G K cX9_loose RX9 (some .int) wsX9_loose 4) {Φ : Int32 → MM → Prop} (hR : Ri G K Φ) : ∀ (m : Nat) (v1 : Int32) (v2 : Int32) (v3 : Int32) (σ : MM), Ok Φ (itr (fun _ _ _ _ => none) (u_X9_loose_42) m v1 v2 v3 σ) → V l G 9 K 4 42 [(0, .ref (G.1 129)), (1, .int v1), (2, .int v2), (3, .int v3)] [] σ := by
  intro m
  induction m with
  | zero => intro v1 v2 v3 σ hf; exact (okx hf).elim
  | succ m ih => intro v1 v2 v3 σ hf; exact t_X9_loose_42 X hR _ ih v1 v2 v3 σ hf
set_option maxRecDepth 100000 in
set_option maxHeartbeats 4000000 in
theorem e_X9_loose {l : Launch} {G : GX} {K : KX} (X : FX G K cX9_loose RX9 (some .int) wsX9_loose 4) {Φ : Int32 → MM → Prop} (hR : Ri G K Φ) (a1 : Int32) (σ : MM) (hf : Ok Φ (f_X9_loose a1 σ)) : V l G 9 K 4 0 [(0, .ref (G.1 129)), (1, .int a1)] [] σ := by
    unfold f_X9_loose at hf
    refine r_iload_n X dX9_loose_0 1 rfl ?_
    refine r_iconst X dX9_loose_1 ci_1 ?_
    refine r_bipush X dX9_loose_2 cb_30 ?_
    refine r_callSi (rest := []) X (c_X9_in l G a1 (1 : Int32) (30 : Int32) σ (oks hf)) md_X9_in gX9_loose_X9_in (by decide) rfl rfl (Nat.le_of_ble_eq_true rfl) dX9_loose_4 (fun r16 σ17 e18 => ?_)
    replace hf := okn e18 hf
    refine r_if_ne (tgt := 17) X dX9_loose_7 (by decide) (fun h19 => ?_) (fun h19 => ?_)
    · replace hf := okf h19 hf
      refine r_aload_n X dX9_loose_17 0 rfl isr_ref ?_
      refine r_get (i := 129) (v := .ref (G.1 130)) X in_X9_loose_9 rfl 0 (by decide) (kd_in kc_129 (by decide)) (EE_9 _ kc_129) rfl (mem_ix 2 rfl) dX9_loose_18 ?_
      refine r_iconst X dX9_loose_21 ci_0 ?_
      refine r_iald (i := 130) (jn := 0) X (kd_in kc_130 (by decide)) (EE_26 _ kc_130) (by decide) (by decide) dX9_loose_22 ?_
      refine r_iload_n X dX9_loose_23 1 rfl ?_
      refine r_iadd X dX9_loose_24 ?_
      refine r_sipush X dX9_loose_25 cs_9999 ?_
      refine r_icmp_le (tgt := 38) X dX9_loose_28 (by decide) (fun h20 => ?_) (fun h20 => ?_)
      · replace hf := okt h20 hf
        refine r_iconst X dX9_loose_38 ci_0 ?_
        refine r_istore_n X dX9_loose_39 (i := 2) rfl (by decide) (lv' := [(2, .int (0 : Int32)), (0, .ref (G.1 129)), (1, .int a1)]) rfl ?_
        refine r_iconst X dX9_loose_40 ci_0 ?_
        refine r_istore_n X dX9_loose_41 (i := 3) rfl (by decide) (lv' := [(3, .int (0 : Int32)), (2, .int (0 : Int32)), (0, .ref (G.1 129)), (1, .int a1)]) rfl ?_
        refine r_sub [2, 3, 1, 0] rfl ?_
        exact tl_X9_loose_42 X hR FU a1 (0 : Int32) (0 : Int32) σ17 hf
      · replace hf := okf h20 hf
        refine r_aload_n X dX9_loose_31 0 rfl isr_ref ?_
        refine r_ldc (v := (-1000000003 : Int32)) X (mem_ix 3 rfl) dX9_loose_32 ?_
        refine r_callVi (rest := []) X (c_X9_error l G (-1000000003 : Int32) σ17 (oks hf)) md_X9_error gX9_loose_X9_error (by decide) rfl rfl (kd_in kc_129 (by decide)) (EE_9 _ kc_129) rfl rfl (Nat.le_of_ble_eq_true rfl) dX9_loose_34 (fun r25 σ26 e27 => ?_)
        replace hf := okn e27 hf
        exact r_iret X rfl hR (ok0 hf) dX9_loose_37
    · replace hf := okt h19 hf
      refine r_aload_n X dX9_loose_10 0 rfl isr_ref ?_
      refine r_ldc (v := (-1000000001 : Int32)) X (mem_ix 1 rfl) dX9_loose_11 ?_
      refine r_callVi (rest := []) X (c_X9_error l G (-1000000001 : Int32) σ17 (oks hf)) md_X9_error gX9_loose_X9_error (by decide) rfl rfl (kd_in kc_129 (by decide)) (EE_9 _ kc_129) rfl rfl (Nat.le_of_ble_eq_true rfl) dX9_loose_13 (fun r28 σ29 e30 => ?_)
      replace hf := okn e30 hf
      exact r_iret X rfl hR (ok0 hf) dX9_loose_16
theorem md_X9_loose : MD yX9_loose wsX9_loose cX9_loose 4 1 (some .int) := ⟨⟨_, rfl⟩, by decide +kernel, by decide +kernel, by decide⟩
theorem c_X9_loose (l : Launch) (G : GX)  (a1 : Int32) (σ : MM) (h : (f_X9_loose a1 σ).isSome = true) : CTi l G yX9_loose wsX9_loose 9 [.ref (G.1 129), .int a1] σ (f_X9_loose a1 σ) :=
  CTi_of md_X9_loose (Nat.le_of_ble_eq_true rfl) (fun K X hR => e_X9_loose X hR a1 σ (ok_is h))
-- X9_seed
theorem in_X9_seed_9 : ∀ w ∈ u_ws RX9 TX9 21, w ∈ wsX9_seed := fun _ h => List.mem_cons_of_mem _ (List.mem_append_right _ h)
def f_X9_seed (a1 : Int32) (σ : MM) : Option (Int32 × MM) :=
  bd (f_X9_becomes (1 : Int32) a1 σ) (fun r4 σ5 => some (r4, σ5))
set_option maxRecDepth 100000 in
set_option maxHeartbeats 4000000 in
theorem e_X9_seed {l : Launch} {G : GX} {K : KX} (X : FX G K cX9_seed RX9 (some .int) wsX9_seed 2) {Φ : Int32 → MM → Prop} (hR : Ri G K Φ) (a1 : Int32) (σ : MM) (hf : Ok Φ (f_X9_seed a1 σ)) : V l G 4 K 2 0 [(0, .ref (G.1 129)), (1, .int a1)] [] σ := by
    unfold f_X9_seed at hf
    refine r_aload_n X dX9_seed_0 0 rfl isr_ref ?_
    refine r_iconst X dX9_seed_1 ci_1 ?_
    refine r_iload_n X dX9_seed_2 1 rfl ?_
    refine r_callVi (rest := []) X (c_X9_becomes l G (1 : Int32) a1 σ (oks hf)) md_X9_becomes gX9_seed_X9_becomes (by decide) rfl rfl (kd_in kc_129 (by decide)) (EE_9 _ kc_129) rfl rfl (Nat.le_of_ble_eq_true rfl) dX9_seed_3 (fun r4 σ5 e6 => ?_)
    replace hf := okn e6 hf
    exact r_iret X rfl hR (ok0 hf) dX9_seed_6
theorem md_X9_seed : MD yX9_seed wsX9_seed cX9_seed 2 1 (some .int) := ⟨⟨_, rfl⟩, by decide +kernel, by decide +kernel, by decide⟩
theorem c_X9_seed (l : Launch) (G : GX)  (a1 : Int32) (σ : MM) (h : (f_X9_seed a1 σ).isSome = true) : CTi l G yX9_seed wsX9_seed 4 [.ref (G.1 129), .int a1] σ (f_X9_seed a1 σ) :=
  CTi_of md_X9_seed (Nat.le_of_ble_eq_true rfl) (fun K X hR => e_X9_seed X hR a1 σ (ok_is h))
-- X9_wordsOf
theorem in_X9_wordsOf_9 : ∀ w ∈ u_ws RX9 TX9 21, w ∈ wsX9_wordsOf := fun _ h => List.mem_cons_of_mem _ (List.mem_append_right _ h)
def u_X9_wordsOf_4 (k4 : Int32 → Int32 → Int32 → MM → Option (Int32 × MM)) (v1 : Int32) (v2 : Int32) (v3 : Int32) (σ : MM) : Option (Int32 × MM) :=
  if (100 : Int32) ≤ v3 then some (v2, σ) else bd (f_X9_isContent v1 v3 σ) (fun r7 σ8 => if r7 = 0 then k4 v1 (v2 + (0 : Int32)) (v3 + (1 : Int32)) σ8 else k4 v1 (v2 + (1 : Int32)) (v3 + (1 : Int32)) σ8)
def l_X9_wordsOf_4 (v1 : Int32) (v2 : Int32) (v3 : Int32) (σ : MM) : Option (Int32 × MM) :=
  itr (fun _ _ _ _ => none) (u_X9_wordsOf_4) FU v1 v2 v3 σ
def f_X9_wordsOf (a1 : Int32) (σ : MM) : Option (Int32 × MM) :=
  l_X9_wordsOf_4 a1 (0 : Int32) (0 : Int32) σ
set_option maxRecDepth 100000 in
set_option maxHeartbeats 4000000 in
theorem t_X9_wordsOf_4 {l : Launch} {G : GX} {K : KX} (X : FX G K cX9_wordsOf RX9 (some .int) wsX9_wordsOf 4) {Φ : Int32 → MM → Prop} (hR : Ri G K Φ) (k4 : Int32 → Int32 → Int32 → MM → Option (Int32 × MM)) (hk4c : ∀ (v1 : Int32) (v2 : Int32) (v3 : Int32) (σ : MM), Ok Φ (k4 v1 v2 v3 σ) → V l G 7 K 4 4 [(0, .ref (G.1 129)), (1, .int v1), (2, .int v2), (3, .int v3)] [] σ) (v1 : Int32) (v2 : Int32) (v3 : Int32) (σ : MM) (hf : Ok Φ (u_X9_wordsOf_4 k4 v1 v2 v3 σ)) : V l G 7 K 4 4 [(0, .ref (G.1 129)), (1, .int v1), (2, .int v2), (3, .int v3)] [] σ := by
    unfold u_X9_wordsOf_4 at hf
    refine r_iload_n X dX9_wordsOf_4 3 rfl ?_
    refine r_bipush X dX9_wordsOf_5 cb_100 ?_
    refine r_icmp_ge (tgt := 33) X dX9_wordsOf_7 (by decide) (fun h6 => ?_) (fun h6 => ?_)
    · replace hf := okt h6 hf
      refine r_iload_n X dX9_wordsOf_33 2 rfl ?_
      exact r_iret X rfl hR (ok0 hf) dX9_wordsOf_34
    · replace hf := okf h6 hf
      refine r_iload_n X dX9_wordsOf_10 2 rfl ?_
      refine r_aload_n X dX9_wordsOf_11 0 rfl isr_ref ?_
      refine r_iload_n X dX9_wordsOf_12 1 rfl ?_
      refine r_iload_n X dX9_wordsOf_13 3 rfl ?_
      refine r_callVi (rest := [.int v2]) X (c_X9_isContent l G v1 v3 σ (oks hf)) md_X9_isContent gX9_wordsOf_X9_isContent (by decide) rfl rfl (kd_in kc_129 (by decide)) (EE_9 _ kc_129) rfl rfl (Nat.le_of_ble_eq_true rfl) dX9_wordsOf_14 (fun r7 σ8 e9 => ?_)
      replace hf := okn e9 hf
      refine r_if_eq (tgt := 24) X dX9_wordsOf_17 (by decide) (fun h10 => ?_) (fun h10 => ?_)
      · replace hf := okt h10 hf
        refine r_iconst X dX9_wordsOf_24 ci_0 ?_
        refine r_iadd X dX9_wordsOf_25 ?_
        refine r_istore_n X dX9_wordsOf_26 (i := 2) rfl (by decide) (lv' := [(2, .int (v2 + (0 : Int32))), (0, .ref (G.1 129)), (1, .int v1), (3, .int v3)]) rfl ?_
        refine r_iinc (v := (v3 + (1 : Int32))) X dX9_wordsOf_27 3 rfl (congrArg _ ci_1) (by decide) (lv' := [(3, .int (v3 + (1 : Int32))), (2, .int (v2 + (0 : Int32))), (0, .ref (G.1 129)), (1, .int v1)]) rfl ?_
        refine r_goto (tgt := 4) X dX9_wordsOf_30 (by decide) ?_
        refine r_sub [2, 3, 1, 0] rfl ?_
        exact hk4c v1 (v2 + (0 : Int32)) (v3 + (1 : Int32)) σ8 hf
      · replace hf := okf h10 hf
        refine r_iconst X dX9_wordsOf_20 ci_1 ?_
        refine r_goto (tgt := 25) X dX9_wordsOf_21 (by decide) ?_
        refine r_iadd X dX9_wordsOf_25 ?_
        refine r_istore_n X dX9_wordsOf_26 (i := 2) rfl (by decide) (lv' := [(2, .int (v2 + (1 : Int32))), (0, .ref (G.1 129)), (1, .int v1), (3, .int v3)]) rfl ?_
        refine r_iinc (v := (v3 + (1 : Int32))) X dX9_wordsOf_27 3 rfl (congrArg _ ci_1) (by decide) (lv' := [(3, .int (v3 + (1 : Int32))), (2, .int (v2 + (1 : Int32))), (0, .ref (G.1 129)), (1, .int v1)]) rfl ?_
        refine r_goto (tgt := 4) X dX9_wordsOf_30 (by decide) ?_
        refine r_sub [2, 3, 1, 0] rfl ?_
        exact hk4c v1 (v2 + (1 : Int32)) (v3 + (1 : Int32)) σ8 hf
theorem tl_X9_wordsOf_4 {l : Launch} {G : GX} {K : KX} (X : FX G K cX9_wordsOf RX9 (some .int) wsX9_wordsOf 4) {Φ : Int32 → MM → Prop} (hR : Ri G K Φ) : ∀ (m : Nat) (v1 : Int32) (v2 : Int32) (v3 : Int32) (σ : MM), Ok Φ (itr (fun _ _ _ _ => none) (u_X9_wordsOf_4) m v1 v2 v3 σ) → V l G 7 K 4 4 [(0, .ref (G.1 129)), (1, .int v1), (2, .int v2), (3, .int v3)] [] σ := by
  intro m
  induction m with
  | zero => intro v1 v2 v3 σ hf; exact (okx hf).elim
  | succ m ih => intro v1 v2 v3 σ hf; exact t_X9_wordsOf_4 X hR _ ih v1 v2 v3 σ hf
set_option maxRecDepth 100000 in
set_option maxHeartbeats 4000000 in
theorem e_X9_wordsOf {l : Launch} {G : GX} {K : KX} (X : FX G K cX9_wordsOf RX9 (some .int) wsX9_wordsOf 4) {Φ : Int32 → MM → Prop} (hR : Ri G K Φ) (a1 : Int32) (σ : MM) (hf : Ok Φ (f_X9_wordsOf a1 σ)) : V l G 7 K 4 0 [(0, .ref (G.1 129)), (1, .int a1)] [] σ := by
    unfold f_X9_wordsOf at hf
    refine r_iconst X dX9_wordsOf_0 ci_0 ?_
    refine r_istore_n X dX9_wordsOf_1 (i := 2) rfl (by decide) (lv' := [(2, .int (0 : Int32)), (0, .ref (G.1 129)), (1, .int a1)]) rfl ?_
    refine r_iconst X dX9_wordsOf_2 ci_0 ?_
    refine r_istore_n X dX9_wordsOf_3 (i := 3) rfl (by decide) (lv' := [(3, .int (0 : Int32)), (2, .int (0 : Int32)), (0, .ref (G.1 129)), (1, .int a1)]) rfl ?_
    refine r_sub [2, 3, 1, 0] rfl ?_
    exact tl_X9_wordsOf_4 X hR FU a1 (0 : Int32) (0 : Int32) σ hf
theorem md_X9_wordsOf : MD yX9_wordsOf wsX9_wordsOf cX9_wordsOf 4 1 (some .int) := ⟨⟨_, rfl⟩, by decide +kernel, by decide +kernel, by decide⟩
theorem c_X9_wordsOf (l : Launch) (G : GX)  (a1 : Int32) (σ : MM) (h : (f_X9_wordsOf a1 σ).isSome = true) : CTi l G yX9_wordsOf wsX9_wordsOf 7 [.ref (G.1 129), .int a1] σ (f_X9_wordsOf a1 σ) :=
  CTi_of md_X9_wordsOf (Nat.le_of_ble_eq_true rfl) (fun K X hR => e_X9_wordsOf X hR a1 σ (ok_is h))
-- X9_words
theorem in_X9_words_9 : ∀ w ∈ u_ws RX9 TX9 21, w ∈ wsX9_words := fun _ h => List.mem_cons_of_mem _ (List.mem_append_right _ h)
def u_X9_words_17  (σ : MM) : Option (Int32 × MM) :=
  bd (f_X9_error (-1000000001 : Int32) σ) (fun r28 σ29 => some (r28, σ29))
def u_X9_words_36 (k36 : Int32 → Int32 → MM → Option (Int32 × MM)) (v1 : Int32) (v3 : Int32) (σ : MM) : Option (Int32 × MM) :=
  if (100 : Int32) ≤ v3 then bd (f_X9_error (-1000000002 : Int32) σ) (fun r37 σ38 => some (r37, σ38)) else bd (f_X9_isContent v1 v3 σ) (fun r40 σ41 => if r40 = 0 then k36 v1 (v3 + (1 : Int32)) σ41 else some (v3, σ41))
def l_X9_words_36 (v1 : Int32) (v3 : Int32) (σ : MM) : Option (Int32 × MM) :=
  itr (fun _ _ _ => none) (u_X9_words_36) FU v1 v3 σ
def f_X9_words (a1 : Int32) (a2 : Int32) (σ : MM) : Option (Int32 × MM) :=
  bd (f_X9_isStep a1 σ) (fun r24 σ25 => if r24 = 0 then u_X9_words_17 σ25 else bd (f_X9_in a2 (0 : Int32) (1 : Int32) σ25) (fun r31 σ32 => if r31 = 0 then u_X9_words_17 σ32 else if a2 = 0 then bd (f_X9_wordsOf a1 σ32) (fun r44 σ45 => some (r44, σ45)) else l_X9_words_36 a1 (0 : Int32) σ32))
set_option maxRecDepth 100000 in
set_option maxHeartbeats 4000000 in
theorem t_X9_words_17 {l : Launch} {G : GX} {K : KX} (X : FX G K cX9_words RX9 (some .int) wsX9_words 4) {Φ : Int32 → MM → Prop} (hR : Ri G K Φ)  (σ : MM) (hf : Ok Φ (u_X9_words_17  σ)) : V l G 8 K 4 17 [(0, .ref (G.1 129))] [] σ := by
    unfold u_X9_words_17 at hf
    refine r_aload_n X dX9_words_17 0 rfl isr_ref ?_
    refine r_ldc (v := (-1000000001 : Int32)) X (mem_ix 1 rfl) dX9_words_18 ?_
    refine r_callVi (rest := []) X (c_X9_error l G (-1000000001 : Int32) σ (oks hf)) md_X9_error gX9_words_X9_error (by decide) rfl rfl (kd_in kc_129 (by decide)) (EE_9 _ kc_129) rfl rfl (Nat.le_of_ble_eq_true rfl) dX9_words_20 (fun r28 σ29 e30 => ?_)
    replace hf := okn e30 hf
    exact r_iret X rfl hR (ok0 hf) dX9_words_23
set_option maxRecDepth 100000 in
set_option maxHeartbeats 4000000 in
theorem t_X9_words_36 {l : Launch} {G : GX} {K : KX} (X : FX G K cX9_words RX9 (some .int) wsX9_words 4) {Φ : Int32 → MM → Prop} (hR : Ri G K Φ) (k36 : Int32 → Int32 → MM → Option (Int32 × MM)) (hk36c : ∀ (v1 : Int32) (v3 : Int32) (σ : MM), Ok Φ (k36 v1 v3 σ) → V l G 8 K 4 36 [(0, .ref (G.1 129)), (1, .int v1), (3, .int v3)] [] σ) (v1 : Int32) (v3 : Int32) (σ : MM) (hf : Ok Φ (u_X9_words_36 k36 v1 v3 σ)) : V l G 8 K 4 36 [(0, .ref (G.1 129)), (1, .int v1), (3, .int v3)] [] σ := by
    unfold u_X9_words_36 at hf
    refine r_iload_n X dX9_words_36 2 rfl ?_
    refine r_bipush X dX9_words_37 cb_100 ?_
    refine r_icmp_ge (tgt := 59) X dX9_words_39 (by decide) (fun h36 => ?_) (fun h36 => ?_)
    · replace hf := okt h36 hf
      refine r_aload_n X dX9_words_59 0 rfl isr_ref ?_
      refine r_ldc (v := (-1000000002 : Int32)) X (mem_ix 2 rfl) dX9_words_60 ?_
      refine r_callVi (rest := []) X (c_X9_error l G (-1000000002 : Int32) σ (oks hf)) md_X9_error gX9_words_X9_error (by decide) rfl rfl (kd_in kc_129 (by decide)) (EE_9 _ kc_129) rfl rfl (Nat.le_of_ble_eq_true rfl) dX9_words_62 (fun r37 σ38 e39 => ?_)
      replace hf := okn e39 hf
      exact r_iret X rfl hR (ok0 hf) dX9_words_65
    · replace hf := okf h36 hf
      refine r_aload_n X dX9_words_42 0 rfl isr_ref ?_
      refine r_iload_n X dX9_words_43 1 rfl ?_
      refine r_iload_n X dX9_words_44 2 rfl ?_
      refine r_callVi (rest := []) X (c_X9_isContent l G v1 v3 σ (oks hf)) md_X9_isContent gX9_words_X9_isContent (by decide) rfl rfl (kd_in kc_129 (by decide)) (EE_9 _ kc_129) rfl rfl (Nat.le_of_ble_eq_true rfl) dX9_words_45 (fun r40 σ41 e42 => ?_)
      replace hf := okn e42 hf
      refine r_if_eq (tgt := 53) X dX9_words_48 (by decide) (fun h43 => ?_) (fun h43 => ?_)
      · replace hf := okt h43 hf
        refine r_iinc (v := (v3 + (1 : Int32))) X dX9_words_53 2 rfl (congrArg _ ci_1) (by decide) (lv' := [(3, .int (v3 + (1 : Int32))), (0, .ref (G.1 129)), (1, .int v1)]) rfl ?_
        refine r_goto (tgt := 36) X dX9_words_56 (by decide) ?_
        refine r_sub [1, 2, 0] rfl ?_
        exact hk36c v1 (v3 + (1 : Int32)) σ41 hf
      · replace hf := okf h43 hf
        refine r_iload_n X dX9_words_51 2 rfl ?_
        exact r_iret X rfl hR (ok0 hf) dX9_words_52
theorem tl_X9_words_36 {l : Launch} {G : GX} {K : KX} (X : FX G K cX9_words RX9 (some .int) wsX9_words 4) {Φ : Int32 → MM → Prop} (hR : Ri G K Φ) : ∀ (m : Nat) (v1 : Int32) (v3 : Int32) (σ : MM), Ok Φ (itr (fun _ _ _ => none) (u_X9_words_36) m v1 v3 σ) → V l G 8 K 4 36 [(0, .ref (G.1 129)), (1, .int v1), (3, .int v3)] [] σ := by
  intro m
  induction m with
  | zero => intro v1 v3 σ hf; exact (okx hf).elim
  | succ m ih => intro v1 v3 σ hf; exact t_X9_words_36 X hR _ ih v1 v3 σ hf
set_option maxRecDepth 100000 in
set_option maxHeartbeats 4000000 in
theorem e_X9_words {l : Launch} {G : GX} {K : KX} (X : FX G K cX9_words RX9 (some .int) wsX9_words 4) {Φ : Int32 → MM → Prop} (hR : Ri G K Φ) (a1 : Int32) (a2 : Int32) (σ : MM) (hf : Ok Φ (f_X9_words a1 a2 σ)) : V l G 8 K 4 0 [(0, .ref (G.1 129)), (1, .int a1), (2, .int a2)] [] σ := by
    unfold f_X9_words at hf
    refine r_aload_n X dX9_words_0 0 rfl isr_ref ?_
    refine r_iload_n X dX9_words_1 1 rfl ?_
    refine r_callVi (rest := []) X (c_X9_isStep l G a1 σ (oks hf)) md_X9_isStep gX9_words_X9_isStep (by decide) rfl rfl (kd_in kc_129 (by decide)) (EE_9 _ kc_129) rfl rfl (Nat.le_of_ble_eq_true rfl) dX9_words_2 (fun r24 σ25 e26 => ?_)
    replace hf := okn e26 hf
    refine r_if_eq (tgt := 17) X dX9_words_5 (by decide) (fun h27 => ?_) (fun h27 => ?_)
    · replace hf := okt h27 hf
      refine r_sub [0] rfl ?_
      exact t_X9_words_17 X hR σ25 hf
    · replace hf := okf h27 hf
      refine r_iload_n X dX9_words_8 2 rfl ?_
      refine r_iconst X dX9_words_9 ci_0 ?_
      refine r_iconst X dX9_words_10 ci_1 ?_
      refine r_callSi (rest := []) X (c_X9_in l G a2 (0 : Int32) (1 : Int32) σ25 (oks hf)) md_X9_in gX9_words_X9_in (by decide) rfl rfl (Nat.le_of_ble_eq_true rfl) dX9_words_11 (fun r31 σ32 e33 => ?_)
      replace hf := okn e33 hf
      refine r_if_ne (tgt := 24) X dX9_words_14 (by decide) (fun h34 => ?_) (fun h34 => ?_)
      · replace hf := okf h34 hf
        refine r_iload_n X dX9_words_24 2 rfl ?_
        refine r_if_ne (tgt := 34) X dX9_words_25 (by decide) (fun h35 => ?_) (fun h35 => ?_)
        · replace hf := okf h35 hf
          refine r_iconst X dX9_words_34 ci_0 ?_
          refine r_istore_n X dX9_words_35 (i := 3) rfl (by decide) (lv' := [(3, .int (0 : Int32)), (0, .ref (G.1 129)), (1, .int a1), (2, .int a2)]) rfl ?_
          refine r_sub [1, 2, 0] rfl ?_
          exact tl_X9_words_36 X hR FU a1 (0 : Int32) σ32 hf
        · replace hf := okt h35 hf
          refine r_aload_n X dX9_words_28 0 rfl isr_ref ?_
          refine r_iload_n X dX9_words_29 1 rfl ?_
          refine r_callVi (rest := []) X (c_X9_wordsOf l G a1 σ32 (oks hf)) md_X9_wordsOf gX9_words_X9_wordsOf (by decide) rfl rfl (kd_in kc_129 (by decide)) (EE_9 _ kc_129) rfl rfl (Nat.le_of_ble_eq_true rfl) dX9_words_30 (fun r44 σ45 e46 => ?_)
          replace hf := okn e46 hf
          exact r_iret X rfl hR (ok0 hf) dX9_words_33
      · replace hf := okt h34 hf
        refine r_sub [0] rfl ?_
        exact t_X9_words_17 X hR σ32 hf
theorem md_X9_words : MD yX9_words wsX9_words cX9_words 4 2 (some .int) := ⟨⟨_, rfl⟩, by decide +kernel, by decide +kernel, by decide⟩
theorem c_X9_words (l : Launch) (G : GX)  (a1 : Int32) (a2 : Int32) (σ : MM) (h : (f_X9_words a1 a2 σ).isSome = true) : CTi l G yX9_words wsX9_words 8 [.ref (G.1 129), .int a1, .int a2] σ (f_X9_words a1 a2 σ) :=
  CTi_of md_X9_words (Nat.le_of_ble_eq_true rfl) (fun K X hR => e_X9_words X hR a1 a2 σ (ok_is h))
-- X9_areWords
theorem in_X9_areWords_9 : ∀ w ∈ u_ws RX9 TX9 21, w ∈ wsX9_areWords := fun _ h => List.mem_cons_of_mem _ (List.mem_append_right _ h)
def u_X9_areWords_4 (k4 : Int32 → Int32 → Int32 → MM → Option (Int32 × MM)) (v1 : Int32) (v2 : Int32) (v3 : Int32) (σ : MM) : Option (Int32 × MM) :=
  if v1 < 0 ∨ 4 ≤ v1.toNatClampNeg then none else if (σ 135 (v1.toNatClampNeg)) ≤ v3 then if v2 = 0 ∨ v2 = 1 then some (v2, σ) else none else if v2 = 0 then k4 v1 (0 : Int32) (v3 + (1 : Int32)) σ else if (((24 : Int32) * v1) + v3) < 0 ∨ 96 ≤ (((24 : Int32) * v1) + v3).toNatClampNeg then none else bd (f_X9_isWord (σ 136 ((((24 : Int32) * v1) + v3).toNatClampNeg)) σ) (fun r14 σ15 => if r14 = 0 then k4 v1 (0 : Int32) (v3 + (1 : Int32)) σ15 else k4 v1 (1 : Int32) (v3 + (1 : Int32)) σ15)
def l_X9_areWords_4 (v1 : Int32) (v2 : Int32) (v3 : Int32) (σ : MM) : Option (Int32 × MM) :=
  itr (fun _ _ _ _ => none) (u_X9_areWords_4) FU v1 v2 v3 σ
def f_X9_areWords (a1 : Int32) (σ : MM) : Option (Int32 × MM) :=
  l_X9_areWords_4 a1 (1 : Int32) (0 : Int32) σ
set_option maxRecDepth 100000 in
set_option maxHeartbeats 4000000 in
theorem t_X9_areWords_4 {l : Launch} {G : GX} {K : KX} (X : FX G K cX9_areWords RX9 (some .boolean) wsX9_areWords 4) {Φ : Int32 → MM → Prop} (hR : Ri G K Φ) (k4 : Int32 → Int32 → Int32 → MM → Option (Int32 × MM)) (hk4c : ∀ (v1 : Int32) (v2 : Int32) (v3 : Int32) (σ : MM), Ok Φ (k4 v1 v2 v3 σ) → V l G 5 K 4 4 [(0, .ref (G.1 129)), (1, .int v1), (2, .int v2), (3, .int v3)] [] σ) (v1 : Int32) (v2 : Int32) (v3 : Int32) (σ : MM) (hf : Ok Φ (u_X9_areWords_4 k4 v1 v2 v3 σ)) : V l G 5 K 4 4 [(0, .ref (G.1 129)), (1, .int v1), (2, .int v2), (3, .int v3)] [] σ := by
    unfold u_X9_areWords_4 at hf
    refine r_iload_n X dX9_areWords_4 3 rfl ?_
    refine r_aload_n X dX9_areWords_5 0 rfl isr_ref ?_
    refine r_get (i := 129) (v := .ref (G.1 135)) X in_X9_areWords_9 rfl 6 (by decide) (kd_in kc_129 (by decide)) (EE_9 _ kc_129) rfl (mem_ix 1 rfl) dX9_areWords_6 ?_
    refine r_iload_n X dX9_areWords_9 1 rfl ?_
    obtain ⟨g9, hf⟩ := okg hf
    refine r_iald (i := 135) (jn := v1.toNatClampNeg) X (kd_in kc_135 (by decide)) (EE_27 _ kc_135) rfl g9 dX9_areWords_10 ?_
    refine r_icmp_ge (tgt := 47) X dX9_areWords_11 (by decide) (fun h10 => ?_) (fun h10 => ?_)
    · replace hf := okt h10 hf
      refine r_iload_n X dX9_areWords_47 2 rfl ?_
      obtain ⟨g11, hf⟩ := okp hf
      exact r_zret X rfl hR g11 (ok0 hf) dX9_areWords_48
    · replace hf := okf h10 hf
      refine r_iload_n X dX9_areWords_14 2 rfl ?_
      refine r_if_eq (tgt := 39) X dX9_areWords_15 (by decide) (fun h12 => ?_) (fun h12 => ?_)
      · replace hf := okt h12 hf
        refine r_iconst X dX9_areWords_39 ci_0 ?_
        refine r_istore_n X dX9_areWords_40 (i := 2) rfl (by decide) (lv' := [(2, .int (0 : Int32)), (0, .ref (G.1 129)), (1, .int v1), (3, .int v3)]) rfl ?_
        refine r_iinc (v := (v3 + (1 : Int32))) X dX9_areWords_41 3 rfl (congrArg _ ci_1) (by decide) (lv' := [(3, .int (v3 + (1 : Int32))), (2, .int (0 : Int32)), (0, .ref (G.1 129)), (1, .int v1)]) rfl ?_
        refine r_goto (tgt := 4) X dX9_areWords_44 (by decide) ?_
        refine r_sub [2, 3, 1, 0] rfl ?_
        exact hk4c v1 (0 : Int32) (v3 + (1 : Int32)) σ hf
      · replace hf := okf h12 hf
        refine r_aload_n X dX9_areWords_18 0 rfl isr_ref ?_
        refine r_get (i := 129) (v := .ref (G.1 136)) X in_X9_areWords_9 rfl 7 (by decide) (kd_in kc_129 (by decide)) (EE_9 _ kc_129) rfl (mem_ix 2 rfl) dX9_areWords_19 ?_
        refine r_bipush X dX9_areWords_22 cb_24 ?_
        refine r_iload_n X dX9_areWords_24 1 rfl ?_
        refine r_imul X dX9_areWords_25 ?_
        refine r_iload_n X dX9_areWords_26 3 rfl ?_
        refine r_iadd X dX9_areWords_27 ?_
        obtain ⟨g13, hf⟩ := okg hf
        refine r_iald (i := 136) (jn := (((24 : Int32) * v1) + v3).toNatClampNeg) X (kd_in kc_136 (by decide)) (EE_28 _ kc_136) rfl g13 dX9_areWords_28 ?_
        refine r_callSi (rest := []) X (c_X9_isWord l G (σ 136 ((((24 : Int32) * v1) + v3).toNatClampNeg)) σ (oks hf)) md_X9_isWord gX9_areWords_X9_isWord (by decide) rfl rfl (Nat.le_of_ble_eq_true rfl) dX9_areWords_29 (fun r14 σ15 e16 => ?_)
        replace hf := okn e16 hf
        refine r_if_eq (tgt := 39) X dX9_areWords_32 (by decide) (fun h17 => ?_) (fun h17 => ?_)
        · replace hf := okt h17 hf
          refine r_iconst X dX9_areWords_39 ci_0 ?_
          refine r_istore_n X dX9_areWords_40 (i := 2) rfl (by decide) (lv' := [(2, .int (0 : Int32)), (0, .ref (G.1 129)), (1, .int v1), (3, .int v3)]) rfl ?_
          refine r_iinc (v := (v3 + (1 : Int32))) X dX9_areWords_41 3 rfl (congrArg _ ci_1) (by decide) (lv' := [(3, .int (v3 + (1 : Int32))), (2, .int (0 : Int32)), (0, .ref (G.1 129)), (1, .int v1)]) rfl ?_
          refine r_goto (tgt := 4) X dX9_areWords_44 (by decide) ?_
          refine r_sub [2, 3, 1, 0] rfl ?_
          exact hk4c v1 (0 : Int32) (v3 + (1 : Int32)) σ15 hf
        · replace hf := okf h17 hf
          refine r_iconst X dX9_areWords_35 ci_1 ?_
          refine r_goto (tgt := 40) X dX9_areWords_36 (by decide) ?_
          refine r_istore_n X dX9_areWords_40 (i := 2) rfl (by decide) (lv' := [(2, .int (1 : Int32)), (0, .ref (G.1 129)), (1, .int v1), (3, .int v3)]) rfl ?_
          refine r_iinc (v := (v3 + (1 : Int32))) X dX9_areWords_41 3 rfl (congrArg _ ci_1) (by decide) (lv' := [(3, .int (v3 + (1 : Int32))), (2, .int (1 : Int32)), (0, .ref (G.1 129)), (1, .int v1)]) rfl ?_
          refine r_goto (tgt := 4) X dX9_areWords_44 (by decide) ?_
          refine r_sub [2, 3, 1, 0] rfl ?_
          exact hk4c v1 (1 : Int32) (v3 + (1 : Int32)) σ15 hf
theorem tl_X9_areWords_4 {l : Launch} {G : GX} {K : KX} (X : FX G K cX9_areWords RX9 (some .boolean) wsX9_areWords 4) {Φ : Int32 → MM → Prop} (hR : Ri G K Φ) : ∀ (m : Nat) (v1 : Int32) (v2 : Int32) (v3 : Int32) (σ : MM), Ok Φ (itr (fun _ _ _ _ => none) (u_X9_areWords_4) m v1 v2 v3 σ) → V l G 5 K 4 4 [(0, .ref (G.1 129)), (1, .int v1), (2, .int v2), (3, .int v3)] [] σ := by
  intro m
  induction m with
  | zero => intro v1 v2 v3 σ hf; exact (okx hf).elim
  | succ m ih => intro v1 v2 v3 σ hf; exact t_X9_areWords_4 X hR _ ih v1 v2 v3 σ hf
set_option maxRecDepth 100000 in
set_option maxHeartbeats 4000000 in
theorem e_X9_areWords {l : Launch} {G : GX} {K : KX} (X : FX G K cX9_areWords RX9 (some .boolean) wsX9_areWords 4) {Φ : Int32 → MM → Prop} (hR : Ri G K Φ) (a1 : Int32) (σ : MM) (hf : Ok Φ (f_X9_areWords a1 σ)) : V l G 5 K 4 0 [(0, .ref (G.1 129)), (1, .int a1)] [] σ := by
    unfold f_X9_areWords at hf
    refine r_iconst X dX9_areWords_0 ci_1 ?_
    refine r_istore_n X dX9_areWords_1 (i := 2) rfl (by decide) (lv' := [(2, .int (1 : Int32)), (0, .ref (G.1 129)), (1, .int a1)]) rfl ?_
    refine r_iconst X dX9_areWords_2 ci_0 ?_
    refine r_istore_n X dX9_areWords_3 (i := 3) rfl (by decide) (lv' := [(3, .int (0 : Int32)), (2, .int (1 : Int32)), (0, .ref (G.1 129)), (1, .int a1)]) rfl ?_
    refine r_sub [2, 3, 1, 0] rfl ?_
    exact tl_X9_areWords_4 X hR FU a1 (1 : Int32) (0 : Int32) σ hf
theorem md_X9_areWords : MD yX9_areWords wsX9_areWords cX9_areWords 4 1 (some .boolean) := ⟨⟨_, rfl⟩, by decide +kernel, by decide +kernel, by decide⟩
theorem c_X9_areWords (l : Launch) (G : GX)  (a1 : Int32) (σ : MM) (h : (f_X9_areWords a1 σ).isSome = true) : CTi l G yX9_areWords wsX9_areWords 5 [.ref (G.1 129), .int a1] σ (f_X9_areWords a1 σ) :=
  CTi_of md_X9_areWords (Nat.le_of_ble_eq_true rfl) (fun K X hR => e_X9_areWords X hR a1 σ (ok_is h))
-- X9_isSheet
def f_X9_isSheet (a0 : Int32) (σ : MM) : Option (Int32 × MM) :=
  bd (f_X9_in a0 (0 : Int32) (3 : Int32) σ) (fun r4 σ5 => if r4 = 0 ∨ r4 = 1 then some (r4, σ5) else none)
set_option maxRecDepth 100000 in
set_option maxHeartbeats 4000000 in
theorem e_X9_isSheet {l : Launch} {G : GX} {K : KX} (X : FX G K cX9_isSheet RX9 (some .boolean) wsX9_isSheet 1) {Φ : Int32 → MM → Prop} (hR : Ri G K Φ) (a0 : Int32) (σ : MM) (hf : Ok Φ (f_X9_isSheet a0 σ)) : V l G 4 K 1 0 [(0, .int a0)] [] σ := by
    unfold f_X9_isSheet at hf
    refine r_iload_n X dX9_isSheet_0 0 rfl ?_
    refine r_iconst X dX9_isSheet_1 ci_0 ?_
    refine r_iconst X dX9_isSheet_2 ci_3 ?_
    refine r_callSi (rest := []) X (c_X9_in l G a0 (0 : Int32) (3 : Int32) σ (oks hf)) md_X9_in gX9_isSheet_X9_in (by decide) rfl rfl (Nat.le_of_ble_eq_true rfl) dX9_isSheet_3 (fun r4 σ5 e6 => ?_)
    replace hf := okn e6 hf
    obtain ⟨g7, hf⟩ := okp hf
    exact r_zret X rfl hR g7 (ok0 hf) dX9_isSheet_6
theorem md_X9_isSheet : MD yX9_isSheet wsX9_isSheet cX9_isSheet 1 1 (some .boolean) := ⟨⟨_, rfl⟩, by decide +kernel, by decide +kernel, by decide⟩
theorem c_X9_isSheet (l : Launch) (G : GX)  (a0 : Int32) (σ : MM) (h : (f_X9_isSheet a0 σ).isSome = true) : CTi l G yX9_isSheet wsX9_isSheet 4 [.int a0] σ (f_X9_isSheet a0 σ) :=
  CTi_of md_X9_isSheet (Nat.le_of_ble_eq_true rfl) (fun K X hR => e_X9_isSheet X hR a0 σ (ok_is h))
-- X9_climb
theorem in_X9_climb_9 : ∀ w ∈ u_ws RX9 TX9 21, w ∈ wsX9_climb := fun _ h => List.mem_cons_of_mem _ (List.mem_append_right _ h)
def u_X9_climb_24  (σ : MM) : Option (Int32 × MM) :=
  bd (f_X9_error (-1000000001 : Int32) σ) (fun r54 σ55 => some (r54, σ55))
def u_X9_climb_127 (v1 : Int32) (v3 : Int32) (v4 : Int32) (v5 : Int32) (σ : MM) : Option (Int32 × MM) :=
  bd (f_X9_about v1 (0 : Int32) σ) (fun r76 σ77 => bd (f_X9_putsBack σ77) (fun r79 σ80 => if v3 = 0 then some (r76, σ80) else if v3 = (1 : Int32) then some (v4, σ80) else some (v5, σ80)))
def u_X9_climb_72 (k72 : Int32 → Int32 → Int32 → Int32 → Int32 → MM → Option (Int32 × MM)) (v1 : Int32) (v2 : Int32) (v3 : Int32) (v4 : Int32) (v5 : Int32) (σ : MM) : Option (Int32 × MM) :=
  if v2 < 0 ∨ 4 ≤ v2.toNatClampNeg then none else if (σ 135 (v2.toNatClampNeg)) ≤ v4 then u_X9_climb_127 v1 v3 v4 v5 σ else bd (f_X9_canGo v1 σ) (fun r84 σ85 => if r84 = 0 then u_X9_climb_127 v1 v3 v4 v5 σ85 else if (((24 : Int32) * v2) + v4) < 0 ∨ 96 ≤ (((24 : Int32) * v2) + v4).toNatClampNeg then none else bd (f_X9_says v1 (σ85 136 ((((24 : Int32) * v2) + v4).toNatClampNeg)) σ85) (fun r89 σ90 => if r89 = 0 then k72 v1 v2 v3 (v4 + (1 : Int32)) (v5 + (0 : Int32)) σ90 else k72 v1 v2 v3 (v4 + (1 : Int32)) (v5 + (1 : Int32)) σ90))
def l_X9_climb_72 (v1 : Int32) (v2 : Int32) (v3 : Int32) (v4 : Int32) (v5 : Int32) (σ : MM) : Option (Int32 × MM) :=
  itr (fun _ _ _ _ _ _ => none) (u_X9_climb_72) FU v1 v2 v3 v4 v5 σ
def f_X9_climb (a1 : Int32) (a2 : Int32) (a3 : Int32) (σ : MM) : Option (Int32 × MM) :=
  bd (f_X9_isPerson a1 σ) (fun r50 σ51 => if r50 = 0 then u_X9_climb_24 σ51 else bd (f_X9_isSheet a2 σ51) (fun r57 σ58 => if r57 = 0 then u_X9_climb_24 σ58 else bd (f_X9_in a3 (0 : Int32) (2 : Int32) σ58) (fun r61 σ62 => if r61 = 0 then u_X9_climb_24 σ62 else if a2 < 0 ∨ 4 ≤ a2.toNatClampNeg then none else if (σ62 134 (a2.toNatClampNeg)) = 0 then bd (f_X9_error (-1000000002 : Int32) σ62) (fun r96 σ97 => some (r96, σ97)) else bd (f_X9_areWords a2 σ62) (fun r67 σ68 => if r67 = 0 then bd (f_X9_error (-1000000003 : Int32) σ68) (fun r93 σ94 => some (r93, σ94)) else bd (f_X9_thinks σ68) (fun r71 σ72 => l_X9_climb_72 a1 a2 a3 (0 : Int32) (0 : Int32) σ72)))))
set_option maxRecDepth 100000 in
set_option maxHeartbeats 4000000 in
theorem t_X9_climb_24 {l : Launch} {G : GX} {K : KX} (X : FX G K cX9_climb RX9 (some .int) wsX9_climb 7) {Φ : Int32 → MM → Prop} (hR : Ri G K Φ)  (σ : MM) (hf : Ok Φ (u_X9_climb_24  σ)) : V l G 8 K 7 24 [(0, .ref (G.1 129))] [] σ := by
    unfold u_X9_climb_24 at hf
    refine r_aload_n X dX9_climb_24 0 rfl isr_ref ?_
    refine r_ldc (v := (-1000000001 : Int32)) X (mem_ix 1 rfl) dX9_climb_25 ?_
    refine r_callVi (rest := []) X (c_X9_error l G (-1000000001 : Int32) σ (oks hf)) md_X9_error gX9_climb_X9_error (by decide) rfl rfl (kd_in kc_129 (by decide)) (EE_9 _ kc_129) rfl rfl (Nat.le_of_ble_eq_true rfl) dX9_climb_27 (fun r54 σ55 e56 => ?_)
    replace hf := okn e56 hf
    exact r_iret X rfl hR (ok0 hf) dX9_climb_30
set_option maxRecDepth 100000 in
set_option maxHeartbeats 4000000 in
theorem t_X9_climb_127 {l : Launch} {G : GX} {K : KX} (X : FX G K cX9_climb RX9 (some .int) wsX9_climb 7) {Φ : Int32 → MM → Prop} (hR : Ri G K Φ) (v1 : Int32) (v3 : Int32) (v4 : Int32) (v5 : Int32) (σ : MM) (hf : Ok Φ (u_X9_climb_127 v1 v3 v4 v5 σ)) : V l G 8 K 7 127 [(0, .ref (G.1 129)), (1, .int v1), (3, .int v3), (4, .int v4), (5, .int v5)] [] σ := by
    unfold u_X9_climb_127 at hf
    refine r_aload_n X dX9_climb_127 0 rfl isr_ref ?_
    refine r_iload_n X dX9_climb_128 1 rfl ?_
    refine r_iconst X dX9_climb_129 ci_0 ?_
    refine r_callVi (rest := []) X (c_X9_about l G v1 (0 : Int32) σ (oks hf)) md_X9_about gX9_climb_X9_about (by decide) rfl rfl (kd_in kc_129 (by decide)) (EE_9 _ kc_129) rfl rfl (Nat.le_of_ble_eq_true rfl) dX9_climb_130 (fun r76 σ77 e78 => ?_)
    replace hf := okn e78 hf
    refine r_istore X dX9_climb_133 (by decide) (lv' := [(6, .int r76), (0, .ref (G.1 129)), (1, .int v1), (3, .int v3), (4, .int v4), (5, .int v5)]) rfl ?_
    refine r_aload_n X dX9_climb_135 1 rfl isr_ref ?_
    refine r_callVv (rest := []) X (c_X9_putsBack l G σ77 (oks hf)) md_X9_putsBack gX9_climb_X9_putsBack (by decide) rfl rfl (kd_in kc_129 (by decide)) (EE_9 _ kc_129) rfl rfl (Nat.le_of_ble_eq_true rfl) dX9_climb_136 (fun r79 σ80 e81 => ?_)
    replace hf := okn e81 hf
    refine r_iload_n X dX9_climb_139 3 rfl ?_
    refine r_if_ne (tgt := 148) X dX9_climb_140 (by decide) (fun h82 => ?_) (fun h82 => ?_)
    · replace hf := okf h82 hf
      refine r_iload_n X dX9_climb_148 3 rfl ?_
      refine r_iconst X dX9_climb_149 ci_1 ?_
      refine r_icmp_ne (tgt := 158) X dX9_climb_150 (by decide) (fun h83 => ?_) (fun h83 => ?_)
      · replace hf := okf h83 hf
        refine r_iload X dX9_climb_158 5 rfl ?_
        exact r_iret X rfl hR (ok0 hf) dX9_climb_160
      · replace hf := okt h83 hf
        refine r_iload X dX9_climb_153 4 rfl ?_
        refine r_goto (tgt := 160) X dX9_climb_155 (by decide) ?_
        exact r_iret X rfl hR (ok0 hf) dX9_climb_160
    · replace hf := okt h82 hf
      refine r_iload X dX9_climb_143 0 rfl ?_
      refine r_goto (tgt := 160) X dX9_climb_145 (by decide) ?_
      exact r_iret X rfl hR (ok0 hf) dX9_climb_160
set_option maxRecDepth 100000 in
set_option maxHeartbeats 4000000 in
theorem t_X9_climb_72 {l : Launch} {G : GX} {K : KX} (X : FX G K cX9_climb RX9 (some .int) wsX9_climb 7) {Φ : Int32 → MM → Prop} (hR : Ri G K Φ) (k72 : Int32 → Int32 → Int32 → Int32 → Int32 → MM → Option (Int32 × MM)) (hk72c : ∀ (v1 : Int32) (v2 : Int32) (v3 : Int32) (v4 : Int32) (v5 : Int32) (σ : MM), Ok Φ (k72 v1 v2 v3 v4 v5 σ) → V l G 8 K 7 72 [(0, .ref (G.1 129)), (1, .int v1), (2, .int v2), (3, .int v3), (4, .int v4), (5, .int v5)] [] σ) (v1 : Int32) (v2 : Int32) (v3 : Int32) (v4 : Int32) (v5 : Int32) (σ : MM) (hf : Ok Φ (u_X9_climb_72 k72 v1 v2 v3 v4 v5 σ)) : V l G 8 K 7 72 [(0, .ref (G.1 129)), (1, .int v1), (2, .int v2), (3, .int v3), (4, .int v4), (5, .int v5)] [] σ := by
    unfold u_X9_climb_72 at hf
    refine r_iload X dX9_climb_72 4 rfl ?_
    refine r_aload_n X dX9_climb_74 0 rfl isr_ref ?_
    refine r_get (i := 129) (v := .ref (G.1 135)) X in_X9_climb_9 rfl 6 (by decide) (kd_in kc_129 (by decide)) (EE_9 _ kc_129) rfl (mem_ix 5 rfl) dX9_climb_75 ?_
    refine r_iload_n X dX9_climb_78 2 rfl ?_
    obtain ⟨g74, hf⟩ := okg hf
    refine r_iald (i := 135) (jn := v2.toNatClampNeg) X (kd_in kc_135 (by decide)) (EE_27 _ kc_135) rfl g74 dX9_climb_79 ?_
    refine r_icmp_ge (tgt := 127) X dX9_climb_80 (by decide) (fun h75 => ?_) (fun h75 => ?_)
    · replace hf := okt h75 hf
      refine r_sub [0, 1, 3, 4, 5] rfl ?_
      exact t_X9_climb_127 X hR v1 v3 v4 v5 σ hf
    · replace hf := okf h75 hf
      refine r_aload_n X dX9_climb_83 0 rfl isr_ref ?_
      refine r_iload_n X dX9_climb_84 1 rfl ?_
      refine r_callVi (rest := []) X (c_X9_canGo l G v1 σ (oks hf)) md_X9_canGo gX9_climb_X9_canGo (by decide) rfl rfl (kd_in kc_129 (by decide)) (EE_9 _ kc_129) rfl rfl (Nat.le_of_ble_eq_true rfl) dX9_climb_85 (fun r84 σ85 e86 => ?_)
      replace hf := okn e86 hf
      refine r_if_eq (tgt := 127) X dX9_climb_88 (by decide) (fun h87 => ?_) (fun h87 => ?_)
      · replace hf := okt h87 hf
        refine r_sub [0, 1, 3, 4, 5] rfl ?_
        exact t_X9_climb_127 X hR v1 v3 v4 v5 σ85 hf
      · replace hf := okf h87 hf
        refine r_iload X dX9_climb_91 5 rfl ?_
        refine r_aload_n X dX9_climb_93 0 rfl isr_ref ?_
        refine r_iload_n X dX9_climb_94 1 rfl ?_
        refine r_aload_n X dX9_climb_95 0 rfl isr_ref ?_
        refine r_get (i := 129) (v := .ref (G.1 136)) X in_X9_climb_9 rfl 7 (by decide) (kd_in kc_129 (by decide)) (EE_9 _ kc_129) rfl (mem_ix 6 rfl) dX9_climb_96 ?_
        refine r_bipush X dX9_climb_99 cb_24 ?_
        refine r_iload_n X dX9_climb_101 2 rfl ?_
        refine r_imul X dX9_climb_102 ?_
        refine r_iload X dX9_climb_103 4 rfl ?_
        refine r_iadd X dX9_climb_105 ?_
        obtain ⟨g88, hf⟩ := okg hf
        refine r_iald (i := 136) (jn := (((24 : Int32) * v2) + v4).toNatClampNeg) X (kd_in kc_136 (by decide)) (EE_28 _ kc_136) rfl g88 dX9_climb_106 ?_
        refine r_callVi (rest := [.int v5]) X (c_X9_says l G v1 (σ85 136 ((((24 : Int32) * v2) + v4).toNatClampNeg)) σ85 (oks hf)) md_X9_says gX9_climb_X9_says (by decide) rfl rfl (kd_in kc_129 (by decide)) (EE_9 _ kc_129) rfl rfl (Nat.le_of_ble_eq_true rfl) dX9_climb_107 (fun r89 σ90 e91 => ?_)
        replace hf := okn e91 hf
        refine r_if_eq (tgt := 117) X dX9_climb_110 (by decide) (fun h92 => ?_) (fun h92 => ?_)
        · replace hf := okt h92 hf
          refine r_iconst X dX9_climb_117 ci_0 ?_
          refine r_iadd X dX9_climb_118 ?_
          refine r_istore X dX9_climb_119 (by decide) (lv' := [(5, .int (v5 + (0 : Int32))), (0, .ref (G.1 129)), (1, .int v1), (2, .int v2), (3, .int v3), (4, .int v4)]) rfl ?_
          refine r_iinc (v := (v4 + (1 : Int32))) X dX9_climb_121 5 rfl (congrArg _ ci_1) (by decide) (lv' := [(4, .int (v4 + (1 : Int32))), (5, .int (v5 + (0 : Int32))), (0, .ref (G.1 129)), (1, .int v1), (2, .int v2), (3, .int v3)]) rfl ?_
          refine r_goto (tgt := 72) X dX9_climb_124 (by decide) ?_
          refine r_sub [2, 3, 4, 5, 0, 1] rfl ?_
          exact hk72c v1 v2 v3 (v4 + (1 : Int32)) (v5 + (0 : Int32)) σ90 hf
        · replace hf := okf h92 hf
          refine r_iconst X dX9_climb_113 ci_1 ?_
          refine r_goto (tgt := 118) X dX9_climb_114 (by decide) ?_
          refine r_iadd X dX9_climb_118 ?_
          refine r_istore X dX9_climb_119 (by decide) (lv' := [(5, .int (v5 + (1 : Int32))), (0, .ref (G.1 129)), (1, .int v1), (2, .int v2), (3, .int v3), (4, .int v4)]) rfl ?_
          refine r_iinc (v := (v4 + (1 : Int32))) X dX9_climb_121 5 rfl (congrArg _ ci_1) (by decide) (lv' := [(4, .int (v4 + (1 : Int32))), (5, .int (v5 + (1 : Int32))), (0, .ref (G.1 129)), (1, .int v1), (2, .int v2), (3, .int v3)]) rfl ?_
          refine r_goto (tgt := 72) X dX9_climb_124 (by decide) ?_
          refine r_sub [2, 3, 4, 5, 0, 1] rfl ?_
          exact hk72c v1 v2 v3 (v4 + (1 : Int32)) (v5 + (1 : Int32)) σ90 hf
theorem tl_X9_climb_72 {l : Launch} {G : GX} {K : KX} (X : FX G K cX9_climb RX9 (some .int) wsX9_climb 7) {Φ : Int32 → MM → Prop} (hR : Ri G K Φ) : ∀ (m : Nat) (v1 : Int32) (v2 : Int32) (v3 : Int32) (v4 : Int32) (v5 : Int32) (σ : MM), Ok Φ (itr (fun _ _ _ _ _ _ => none) (u_X9_climb_72) m v1 v2 v3 v4 v5 σ) → V l G 8 K 7 72 [(0, .ref (G.1 129)), (1, .int v1), (2, .int v2), (3, .int v3), (4, .int v4), (5, .int v5)] [] σ := by
  intro m
  induction m with
  | zero => intro v1 v2 v3 v4 v5 σ hf; exact (okx hf).elim
  | succ m ih => intro v1 v2 v3 v4 v5 σ hf; exact t_X9_climb_72 X hR _ ih v1 v2 v3 v4 v5 σ hf
set_option maxRecDepth 100000 in
set_option maxHeartbeats 4000000 in
theorem e_X9_climb {l : Launch} {G : GX} {K : KX} (X : FX G K cX9_climb RX9 (some .int) wsX9_climb 7) {Φ : Int32 → MM → Prop} (hR : Ri G K Φ) (a1 : Int32) (a2 : Int32) (a3 : Int32) (σ : MM) (hf : Ok Φ (f_X9_climb a1 a2 a3 σ)) : V l G 8 K 7 0 [(0, .ref (G.1 129)), (1, .int a1), (2, .int a2), (3, .int a3)] [] σ := by
    unfold f_X9_climb at hf
    refine r_aload_n X dX9_climb_0 0 rfl isr_ref ?_
    refine r_iload_n X dX9_climb_1 1 rfl ?_
    refine r_callVi (rest := []) X (c_X9_isPerson l G a1 σ (oks hf)) md_X9_isPerson gX9_climb_X9_isPerson (by decide) rfl rfl (kd_in kc_129 (by decide)) (EE_9 _ kc_129) rfl rfl (Nat.le_of_ble_eq_true rfl) dX9_climb_2 (fun r50 σ51 e52 => ?_)
    replace hf := okn e52 hf
    refine r_if_eq (tgt := 24) X dX9_climb_5 (by decide) (fun h53 => ?_) (fun h53 => ?_)
    · replace hf := okt h53 hf
      refine r_sub [0] rfl ?_
      exact t_X9_climb_24 X hR σ51 hf
    · replace hf := okf h53 hf
      refine r_iload_n X dX9_climb_8 2 rfl ?_
      refine r_callSi (rest := []) X (c_X9_isSheet l G a2 σ51 (oks hf)) md_X9_isSheet gX9_climb_X9_isSheet (by decide) rfl rfl (Nat.le_of_ble_eq_true rfl) dX9_climb_9 (fun r57 σ58 e59 => ?_)
      replace hf := okn e59 hf
      refine r_if_eq (tgt := 24) X dX9_climb_12 (by decide) (fun h60 => ?_) (fun h60 => ?_)
      · replace hf := okt h60 hf
        refine r_sub [0] rfl ?_
        exact t_X9_climb_24 X hR σ58 hf
      · replace hf := okf h60 hf
        refine r_iload_n X dX9_climb_15 3 rfl ?_
        refine r_iconst X dX9_climb_16 ci_0 ?_
        refine r_iconst X dX9_climb_17 ci_2 ?_
        refine r_callSi (rest := []) X (c_X9_in l G a3 (0 : Int32) (2 : Int32) σ58 (oks hf)) md_X9_in gX9_climb_X9_in (by decide) rfl rfl (Nat.le_of_ble_eq_true rfl) dX9_climb_18 (fun r61 σ62 e63 => ?_)
        replace hf := okn e63 hf
        refine r_if_ne (tgt := 31) X dX9_climb_21 (by decide) (fun h64 => ?_) (fun h64 => ?_)
        · replace hf := okf h64 hf
          refine r_aload_n X dX9_climb_31 0 rfl isr_ref ?_
          refine r_get (i := 129) (v := .ref (G.1 134)) X in_X9_climb_9 rfl 5 (by decide) (kd_in kc_129 (by decide)) (EE_9 _ kc_129) rfl (mem_ix 2 rfl) dX9_climb_32 ?_
          refine r_iload_n X dX9_climb_35 2 rfl ?_
          obtain ⟨g65, hf⟩ := okg hf
          refine r_iald (i := 134) (jn := a2.toNatClampNeg) X (kd_in kc_134 (by decide)) (EE_27 _ kc_134) rfl g65 dX9_climb_36 ?_
          refine r_if_ne (tgt := 47) X dX9_climb_37 (by decide) (fun h66 => ?_) (fun h66 => ?_)
          · replace hf := okf h66 hf
            refine r_aload_n X dX9_climb_47 0 rfl isr_ref ?_
            refine r_iload_n X dX9_climb_48 2 rfl ?_
            refine r_callVi (rest := []) X (c_X9_areWords l G a2 σ62 (oks hf)) md_X9_areWords gX9_climb_X9_areWords (by decide) rfl rfl (kd_in kc_129 (by decide)) (EE_9 _ kc_129) rfl rfl (Nat.le_of_ble_eq_true rfl) dX9_climb_49 (fun r67 σ68 e69 => ?_)
            replace hf := okn e69 hf
            refine r_if_ne (tgt := 62) X dX9_climb_52 (by decide) (fun h70 => ?_) (fun h70 => ?_)
            · replace hf := okf h70 hf
              refine r_aload_n X dX9_climb_62 0 rfl isr_ref ?_
              refine r_callVv (rest := []) X (c_X9_thinks l G σ68 (oks hf)) md_X9_thinks gX9_climb_X9_thinks (by decide) rfl rfl (kd_in kc_129 (by decide)) (EE_9 _ kc_129) rfl rfl (Nat.le_of_ble_eq_true rfl) dX9_climb_63 (fun r71 σ72 e73 => ?_)
              replace hf := okn e73 hf
              refine r_iconst X dX9_climb_66 ci_0 ?_
              refine r_istore X dX9_climb_67 (by decide) (lv' := [(4, .int (0 : Int32)), (0, .ref (G.1 129)), (1, .int a1), (2, .int a2), (3, .int a3)]) rfl ?_
              refine r_iconst X dX9_climb_69 ci_0 ?_
              refine r_istore X dX9_climb_70 (by decide) (lv' := [(5, .int (0 : Int32)), (4, .int (0 : Int32)), (0, .ref (G.1 129)), (1, .int a1), (2, .int a2), (3, .int a3)]) rfl ?_
              refine r_sub [2, 3, 4, 5, 1, 0] rfl ?_
              exact tl_X9_climb_72 X hR FU a1 a2 a3 (0 : Int32) (0 : Int32) σ72 hf
            · replace hf := okt h70 hf
              refine r_aload_n X dX9_climb_55 0 rfl isr_ref ?_
              refine r_ldc (v := (-1000000003 : Int32)) X (mem_ix 4 rfl) dX9_climb_56 ?_
              refine r_callVi (rest := []) X (c_X9_error l G (-1000000003 : Int32) σ68 (oks hf)) md_X9_error gX9_climb_X9_error (by decide) rfl rfl (kd_in kc_129 (by decide)) (EE_9 _ kc_129) rfl rfl (Nat.le_of_ble_eq_true rfl) dX9_climb_58 (fun r93 σ94 e95 => ?_)
              replace hf := okn e95 hf
              exact r_iret X rfl hR (ok0 hf) dX9_climb_61
          · replace hf := okt h66 hf
            refine r_aload_n X dX9_climb_40 0 rfl isr_ref ?_
            refine r_ldc (v := (-1000000002 : Int32)) X (mem_ix 3 rfl) dX9_climb_41 ?_
            refine r_callVi (rest := []) X (c_X9_error l G (-1000000002 : Int32) σ62 (oks hf)) md_X9_error gX9_climb_X9_error (by decide) rfl rfl (kd_in kc_129 (by decide)) (EE_9 _ kc_129) rfl rfl (Nat.le_of_ble_eq_true rfl) dX9_climb_43 (fun r96 σ97 e98 => ?_)
            replace hf := okn e98 hf
            exact r_iret X rfl hR (ok0 hf) dX9_climb_46
        · replace hf := okt h64 hf
          refine r_sub [0] rfl ?_
          exact t_X9_climb_24 X hR σ62 hf
theorem md_X9_climb : MD yX9_climb wsX9_climb cX9_climb 7 3 (some .int) := ⟨⟨_, rfl⟩, by decide +kernel, by decide +kernel, by decide⟩
theorem c_X9_climb (l : Launch) (G : GX)  (a1 : Int32) (a2 : Int32) (a3 : Int32) (σ : MM) (h : (f_X9_climb a1 a2 a3 σ).isSome = true) : CTi l G yX9_climb wsX9_climb 8 [.ref (G.1 129), .int a1, .int a2, .int a3] σ (f_X9_climb a1 a2 a3 σ) :=
  CTi_of md_X9_climb (Nat.le_of_ble_eq_true rfl) (fun K X hR => e_X9_climb X hR a1 a2 a3 σ (ok_is h))
-- X9_findWhom
theorem in_X9_findWhom_9 : ∀ w ∈ u_ws RX9 TX9 21, w ∈ wsX9_findWhom := fun _ h => List.mem_cons_of_mem _ (List.mem_append_right _ h)
def u_X9_findWhom_50 (k17 : Int32 → Int32 → Int32 → MM → Option (Unit × MM)) (v1 : Int32) (v2 : Int32) (v3 : Int32) (vs0 : Int32) (vs1 : Int32) (vs2 : Int32) (σ : MM) : Option (Unit × MM) :=
  if vs2 < 0 ∨ 100 ≤ vs2.toNatClampNeg then none else lt (mu σ 141 (vs2.toNatClampNeg) (vs1 ||| vs0)) (fun σ25 => k17 v1 v2 (v3 + (1 : Int32)) σ25)
def u_X9_findWhom_17 (k2 : Int32 → Int32 → MM → Option (Unit × MM)) (k17 : Int32 → Int32 → Int32 → MM → Option (Unit × MM)) (v1 : Int32) (v2 : Int32) (v3 : Int32) (σ : MM) : Option (Unit × MM) :=
  if (σ 130 2) ≤ v3 then k2 v1 (v2 + (1 : Int32)) σ else if v2 < 0 ∨ 100 ≤ v2.toNatClampNeg then none else bd (f_X9_isContent v3 v2 σ) (fun r20 σ21 => if r20 = 0 then u_X9_findWhom_50 k17 v1 v2 v3 (0 : Int32) (σ 141 (v2.toNatClampNeg)) v2 σ21 else u_X9_findWhom_50 k17 v1 v2 v3 ((1 : Int32) <<< (v3 &&& 31)) (σ 141 (v2.toNatClampNeg)) v2 σ21)
def l_X9_findWhom_17 (k2 : Int32 → Int32 → MM → Option (Unit × MM)) (v1 : Int32) (v2 : Int32) (v3 : Int32) (σ : MM) : Option (Unit × MM) :=
  itr (fun _ _ _ _ => none) (u_X9_findWhom_17 k2) FU v1 v2 v3 σ
def u_X9_findWhom_2 (k2 : Int32 → Int32 → MM → Option (Unit × MM)) (v1 : Int32) (v2 : Int32) (σ : MM) : Option (Unit × MM) :=
  if (100 : Int32) ≤ v2 then some ((), σ) else if v2 < 0 ∨ 100 ≤ v2.toNatClampNeg then none else lt (mu σ 141 (v2.toNatClampNeg) (0 : Int32)) (fun σ16 => l_X9_findWhom_17 k2 v1 v2 v1 σ16)
def l_X9_findWhom_2 (v1 : Int32) (v2 : Int32) (σ : MM) : Option (Unit × MM) :=
  itr (fun _ _ _ => none) (u_X9_findWhom_2) FU v1 v2 σ
def f_X9_findWhom (a1 : Int32) (σ : MM) : Option (Unit × MM) :=
  l_X9_findWhom_2 a1 (0 : Int32) σ
set_option maxRecDepth 100000 in
set_option maxHeartbeats 4000000 in
theorem t_X9_findWhom_50 {l : Launch} {G : GX} {K : KX} (X : FX G K cX9_findWhom RX9 (none) wsX9_findWhom 4) {Φ : Unit → MM → Prop} (hR : Rv G K Φ) (k17 : Int32 → Int32 → Int32 → MM → Option (Unit × MM)) (hk17c : ∀ (v1 : Int32) (v2 : Int32) (v3 : Int32) (σ : MM), Ok Φ (k17 v1 v2 v3 σ) → V l G 7 K 4 17 [(0, .ref (G.1 129)), (1, .int v1), (2, .int v2), (3, .int v3)] [] σ) (v1 : Int32) (v2 : Int32) (v3 : Int32) (vs0 : Int32) (vs1 : Int32) (vs2 : Int32) (σ : MM) (hf : Ok Φ (u_X9_findWhom_50 k17 v1 v2 v3 vs0 vs1 vs2 σ)) : V l G 7 K 4 50 [(0, .ref (G.1 129)), (1, .int v1), (2, .int v2), (3, .int v3)] [.int vs0, .int vs1, .int vs2, .ref (G.1 141)] σ := by
    unfold u_X9_findWhom_50 at hf
    refine r_ior X dX9_findWhom_50 ?_
    obtain ⟨g24, hf⟩ := okg hf
    obtain ⟨σ25, e26, hf⟩ := okl hf
    refine r_iast (i := 141) (jn := vs2.toNatClampNeg) X (kd_in kc_141 (by decide)) (fun _ => EE_23 _ kc_141) rfl g24 dX9_findWhom_51 ?_
    refine r_sg e26 ?_
    refine r_iinc (v := (v3 + (1 : Int32))) X dX9_findWhom_52 3 rfl (congrArg _ ci_1) (by decide) (lv' := [(3, .int (v3 + (1 : Int32))), (0, .ref (G.1 129)), (1, .int v1), (2, .int v2)]) rfl ?_
    refine r_goto (tgt := 17) X dX9_findWhom_55 (by decide) ?_
    refine r_sub [1, 2, 3, 0] rfl ?_
    exact hk17c v1 v2 (v3 + (1 : Int32)) σ25 hf
set_option maxRecDepth 100000 in
set_option maxHeartbeats 4000000 in
theorem t_X9_findWhom_17 {l : Launch} {G : GX} {K : KX} (X : FX G K cX9_findWhom RX9 (none) wsX9_findWhom 4) {Φ : Unit → MM → Prop} (hR : Rv G K Φ) (k2 : Int32 → Int32 → MM → Option (Unit × MM)) (hk2c : ∀ (v1 : Int32) (v2 : Int32) (σ : MM), Ok Φ (k2 v1 v2 σ) → V l G 7 K 4 2 [(0, .ref (G.1 129)), (1, .int v1), (2, .int v2)] [] σ) (k17 : Int32 → Int32 → Int32 → MM → Option (Unit × MM)) (hk17c : ∀ (v1 : Int32) (v2 : Int32) (v3 : Int32) (σ : MM), Ok Φ (k17 v1 v2 v3 σ) → V l G 7 K 4 17 [(0, .ref (G.1 129)), (1, .int v1), (2, .int v2), (3, .int v3)] [] σ) (v1 : Int32) (v2 : Int32) (v3 : Int32) (σ : MM) (hf : Ok Φ (u_X9_findWhom_17 k2 k17 v1 v2 v3 σ)) : V l G 7 K 4 17 [(0, .ref (G.1 129)), (1, .int v1), (2, .int v2), (3, .int v3)] [] σ := by
    unfold u_X9_findWhom_17 at hf
    refine r_iload_n X dX9_findWhom_17 3 rfl ?_
    refine r_aload_n X dX9_findWhom_18 0 rfl isr_ref ?_
    refine r_get (i := 129) (v := .ref (G.1 130)) X in_X9_findWhom_9 rfl 0 (by decide) (kd_in kc_129 (by decide)) (EE_9 _ kc_129) rfl (mem_ix 2 rfl) dX9_findWhom_19 ?_
    refine r_iconst X dX9_findWhom_22 ci_2 ?_
    refine r_iald (i := 130) (jn := 2) X (kd_in kc_130 (by decide)) (EE_26 _ kc_130) (by decide) (by decide) dX9_findWhom_23 ?_
    refine r_icmp_ge (tgt := 58) X dX9_findWhom_24 (by decide) (fun h18 => ?_) (fun h18 => ?_)
    · replace hf := okt h18 hf
      refine r_iinc (v := (v2 + (1 : Int32))) X dX9_findWhom_58 2 rfl (congrArg _ ci_1) (by decide) (lv' := [(2, .int (v2 + (1 : Int32))), (0, .ref (G.1 129)), (1, .int v1), (3, .int v3)]) rfl ?_
      refine r_goto (tgt := 2) X dX9_findWhom_61 (by decide) ?_
      refine r_sub [1, 2, 0] rfl ?_
      exact hk2c v1 (v2 + (1 : Int32)) σ hf
    · replace hf := okf h18 hf
      refine r_aload_n X dX9_findWhom_27 0 rfl isr_ref ?_
      refine r_get (i := 129) (v := .ref (G.1 141)) X in_X9_findWhom_9 rfl 17 (by decide) (kd_in kc_129 (by decide)) (EE_9 _ kc_129) rfl (mem_ix 1 rfl) dX9_findWhom_28 ?_
      refine r_iload_n X dX9_findWhom_31 2 rfl ?_
      refine r_dup2 X dX9_findWhom_32 rfl rfl ?_
      obtain ⟨g19, hf⟩ := okg hf
      refine r_iald (i := 141) (jn := v2.toNatClampNeg) X (kd_in kc_141 (by decide)) (EE_23 _ kc_141) rfl g19 dX9_findWhom_33 ?_
      refine r_aload_n X dX9_findWhom_34 0 rfl isr_ref ?_
      refine r_iload_n X dX9_findWhom_35 3 rfl ?_
      refine r_iload_n X dX9_findWhom_36 2 rfl ?_
      refine r_callVi (rest := [.int (σ 141 (v2.toNatClampNeg)), .int v2, .ref (G.1 141)]) X (c_X9_isContent l G v3 v2 σ (oks hf)) md_X9_isContent gX9_findWhom_X9_isContent (by decide) rfl rfl (kd_in kc_129 (by decide)) (EE_9 _ kc_129) rfl rfl (Nat.le_of_ble_eq_true rfl) dX9_findWhom_37 (fun r20 σ21 e22 => ?_)
      replace hf := okn e22 hf
      refine r_if_eq (tgt := 49) X dX9_findWhom_40 (by decide) (fun h23 => ?_) (fun h23 => ?_)
      · replace hf := okt h23 hf
        refine r_iconst X dX9_findWhom_49 ci_0 ?_
        exact t_X9_findWhom_50 X hR k17 hk17c v1 v2 v3 (0 : Int32) (σ 141 (v2.toNatClampNeg)) v2 σ21 hf
      · replace hf := okf h23 hf
        refine r_iconst X dX9_findWhom_43 ci_1 ?_
        refine r_iload_n X dX9_findWhom_44 3 rfl ?_
        refine r_ishl X dX9_findWhom_45 ?_
        refine r_goto (tgt := 50) X dX9_findWhom_46 (by decide) ?_
        exact t_X9_findWhom_50 X hR k17 hk17c v1 v2 v3 ((1 : Int32) <<< (v3 &&& 31)) (σ 141 (v2.toNatClampNeg)) v2 σ21 hf
theorem tl_X9_findWhom_17 {l : Launch} {G : GX} {K : KX} (X : FX G K cX9_findWhom RX9 (none) wsX9_findWhom 4) {Φ : Unit → MM → Prop} (hR : Rv G K Φ) (k2 : Int32 → Int32 → MM → Option (Unit × MM)) (hk2c : ∀ (v1 : Int32) (v2 : Int32) (σ : MM), Ok Φ (k2 v1 v2 σ) → V l G 7 K 4 2 [(0, .ref (G.1 129)), (1, .int v1), (2, .int v2)] [] σ) : ∀ (m : Nat) (v1 : Int32) (v2 : Int32) (v3 : Int32) (σ : MM), Ok Φ (itr (fun _ _ _ _ => none) (u_X9_findWhom_17 k2) m v1 v2 v3 σ) → V l G 7 K 4 17 [(0, .ref (G.1 129)), (1, .int v1), (2, .int v2), (3, .int v3)] [] σ := by
  intro m
  induction m with
  | zero => intro v1 v2 v3 σ hf; exact (okx hf).elim
  | succ m ih => intro v1 v2 v3 σ hf; exact t_X9_findWhom_17 X hR k2 hk2c _ ih v1 v2 v3 σ hf
set_option maxRecDepth 100000 in
set_option maxHeartbeats 4000000 in
theorem t_X9_findWhom_2 {l : Launch} {G : GX} {K : KX} (X : FX G K cX9_findWhom RX9 (none) wsX9_findWhom 4) {Φ : Unit → MM → Prop} (hR : Rv G K Φ) (k2 : Int32 → Int32 → MM → Option (Unit × MM)) (hk2c : ∀ (v1 : Int32) (v2 : Int32) (σ : MM), Ok Φ (k2 v1 v2 σ) → V l G 7 K 4 2 [(0, .ref (G.1 129)), (1, .int v1), (2, .int v2)] [] σ) (v1 : Int32) (v2 : Int32) (σ : MM) (hf : Ok Φ (u_X9_findWhom_2 k2 v1 v2 σ)) : V l G 7 K 4 2 [(0, .ref (G.1 129)), (1, .int v1), (2, .int v2)] [] σ := by
    unfold u_X9_findWhom_2 at hf
    refine r_iload_n X dX9_findWhom_2 2 rfl ?_
    refine r_bipush X dX9_findWhom_3 cb_100 ?_
    refine r_icmp_ge (tgt := 64) X dX9_findWhom_5 (by decide) (fun h14 => ?_) (fun h14 => ?_)
    · replace hf := okt h14 hf
      exact r_vret X rfl hR (ok0 hf) dX9_findWhom_64
    · replace hf := okf h14 hf
      refine r_aload_n X dX9_findWhom_8 0 rfl isr_ref ?_
      refine r_get (i := 129) (v := .ref (G.1 141)) X in_X9_findWhom_9 rfl 17 (by decide) (kd_in kc_129 (by decide)) (EE_9 _ kc_129) rfl (mem_ix 1 rfl) dX9_findWhom_9 ?_
      refine r_iload_n X dX9_findWhom_12 2 rfl ?_
      refine r_iconst X dX9_findWhom_13 ci_0 ?_
      obtain ⟨g15, hf⟩ := okg hf
      obtain ⟨σ16, e17, hf⟩ := okl hf
      refine r_iast (i := 141) (jn := v2.toNatClampNeg) X (kd_in kc_141 (by decide)) (fun _ => EE_23 _ kc_141) rfl g15 dX9_findWhom_14 ?_
      refine r_sg e17 ?_
      refine r_iload_n X dX9_findWhom_15 1 rfl ?_
      refine r_istore_n X dX9_findWhom_16 (i := 3) rfl (by decide) (lv' := [(3, .int v1), (0, .ref (G.1 129)), (1, .int v1), (2, .int v2)]) rfl ?_
      refine r_sub [1, 2, 3, 0] rfl ?_
      exact tl_X9_findWhom_17 X hR k2 hk2c FU v1 v2 v1 σ16 hf
theorem tl_X9_findWhom_2 {l : Launch} {G : GX} {K : KX} (X : FX G K cX9_findWhom RX9 (none) wsX9_findWhom 4) {Φ : Unit → MM → Prop} (hR : Rv G K Φ) : ∀ (m : Nat) (v1 : Int32) (v2 : Int32) (σ : MM), Ok Φ (itr (fun _ _ _ => none) (u_X9_findWhom_2) m v1 v2 σ) → V l G 7 K 4 2 [(0, .ref (G.1 129)), (1, .int v1), (2, .int v2)] [] σ := by
  intro m
  induction m with
  | zero => intro v1 v2 σ hf; exact (okx hf).elim
  | succ m ih => intro v1 v2 σ hf; exact t_X9_findWhom_2 X hR _ ih v1 v2 σ hf
set_option maxRecDepth 100000 in
set_option maxHeartbeats 4000000 in
theorem e_X9_findWhom {l : Launch} {G : GX} {K : KX} (X : FX G K cX9_findWhom RX9 (none) wsX9_findWhom 4) {Φ : Unit → MM → Prop} (hR : Rv G K Φ) (a1 : Int32) (σ : MM) (hf : Ok Φ (f_X9_findWhom a1 σ)) : V l G 7 K 4 0 [(0, .ref (G.1 129)), (1, .int a1)] [] σ := by
    unfold f_X9_findWhom at hf
    refine r_iconst X dX9_findWhom_0 ci_0 ?_
    refine r_istore_n X dX9_findWhom_1 (i := 2) rfl (by decide) (lv' := [(2, .int (0 : Int32)), (0, .ref (G.1 129)), (1, .int a1)]) rfl ?_
    refine r_sub [1, 2, 0] rfl ?_
    exact tl_X9_findWhom_2 X hR FU a1 (0 : Int32) σ hf
theorem md_X9_findWhom : MD yX9_findWhom wsX9_findWhom cX9_findWhom 4 1 (none) := ⟨⟨_, rfl⟩, by decide +kernel, by decide +kernel, by decide⟩
theorem c_X9_findWhom (l : Launch) (G : GX)  (a1 : Int32) (σ : MM) (h : (f_X9_findWhom a1 σ).isSome = true) : CTv l G yX9_findWhom wsX9_findWhom 7 [.ref (G.1 129), .int a1] σ (f_X9_findWhom a1 σ) :=
  CTv_of md_X9_findWhom (Nat.le_of_ble_eq_true rfl) (fun K X hR => e_X9_findWhom X hR a1 σ (ok_is h))
-- X9_wordAt
def f_X9_wordAt (a1 : Int32) (a2 : Int32) (a3 : Int32) (a4 : Int32) (a5 : Int32) (σ : MM) : Option (Int32 × MM) :=
  if 0 ≤ a2 then if a2 < a1 then if a2 = 0 then some (a3, σ) else if a2 = (1 : Int32) then some (a4, σ) else some (a5, σ) else some ((-1 : Int32), σ) else some (a1, σ)
set_option maxRecDepth 100000 in
set_option maxHeartbeats 4000000 in
theorem e_X9_wordAt {l : Launch} {G : GX} {K : KX} (X : FX G K cX9_wordAt RX9 (some .int) wsX9_wordAt 6) {Φ : Int32 → MM → Prop} (hR : Ri G K Φ) (a1 : Int32) (a2 : Int32) (a3 : Int32) (a4 : Int32) (a5 : Int32) (σ : MM) (hf : Ok Φ (f_X9_wordAt a1 a2 a3 a4 a5 σ)) : V l G 3 K 6 0 [(0, .ref (G.1 129)), (1, .int a1), (2, .int a2), (3, .int a3), (4, .int a4), (5, .int a5)] [] σ := by
    unfold f_X9_wordAt at hf
    refine r_iload_n X dX9_wordAt_0 2 rfl ?_
    refine r_if_ge (tgt := 8) X dX9_wordAt_1 (by decide) (fun h5 => ?_) (fun h5 => ?_)
    · replace hf := okt h5 hf
      refine r_iload_n X dX9_wordAt_8 2 rfl ?_
      refine r_iload_n X dX9_wordAt_9 1 rfl ?_
      refine r_icmp_lt (tgt := 17) X dX9_wordAt_10 (by decide) (fun h6 => ?_) (fun h6 => ?_)
      · replace hf := okt h6 hf
        refine r_iload_n X dX9_wordAt_17 2 rfl ?_
        refine r_if_ne (tgt := 25) X dX9_wordAt_18 (by decide) (fun h7 => ?_) (fun h7 => ?_)
        · replace hf := okf h7 hf
          refine r_iload_n X dX9_wordAt_25 2 rfl ?_
          refine r_iconst X dX9_wordAt_26 ci_1 ?_
          refine r_icmp_ne (tgt := 35) X dX9_wordAt_27 (by decide) (fun h8 => ?_) (fun h8 => ?_)
          · replace hf := okf h8 hf
            refine r_iload X dX9_wordAt_35 5 rfl ?_
            exact r_iret X rfl hR (ok0 hf) dX9_wordAt_37
          · replace hf := okt h8 hf
            refine r_iload X dX9_wordAt_30 4 rfl ?_
            refine r_goto (tgt := 37) X dX9_wordAt_32 (by decide) ?_
            exact r_iret X rfl hR (ok0 hf) dX9_wordAt_37
        · replace hf := okt h7 hf
          refine r_iload_n X dX9_wordAt_21 3 rfl ?_
          refine r_goto (tgt := 37) X dX9_wordAt_22 (by decide) ?_
          exact r_iret X rfl hR (ok0 hf) dX9_wordAt_37
      · replace hf := okf h6 hf
        refine r_iconst X dX9_wordAt_13 ci_m1 ?_
        refine r_goto (tgt := 37) X dX9_wordAt_14 (by decide) ?_
        exact r_iret X rfl hR (ok0 hf) dX9_wordAt_37
    · replace hf := okf h5 hf
      refine r_iload_n X dX9_wordAt_4 1 rfl ?_
      refine r_goto (tgt := 37) X dX9_wordAt_5 (by decide) ?_
      exact r_iret X rfl hR (ok0 hf) dX9_wordAt_37
theorem md_X9_wordAt : MD yX9_wordAt wsX9_wordAt cX9_wordAt 6 5 (some .int) := ⟨⟨_, rfl⟩, by decide +kernel, by decide +kernel, by decide⟩
theorem c_X9_wordAt (l : Launch) (G : GX)  (a1 : Int32) (a2 : Int32) (a3 : Int32) (a4 : Int32) (a5 : Int32) (σ : MM) (h : (f_X9_wordAt a1 a2 a3 a4 a5 σ).isSome = true) : CTi l G yX9_wordAt wsX9_wordAt 3 [.ref (G.1 129), .int a1, .int a2, .int a3, .int a4, .int a5] σ (f_X9_wordAt a1 a2 a3 a4 a5 σ) :=
  CTi_of md_X9_wordAt (Nat.le_of_ble_eq_true rfl) (fun K X hR => e_X9_wordAt X hR a1 a2 a3 a4 a5 σ (ok_is h))

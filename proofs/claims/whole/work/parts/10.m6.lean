-- X9_move
theorem in_X9_move_9 : ∀ w ∈ u_ws RX9 TX9 21, w ∈ wsX9_move := fun _ h => List.mem_cons_of_mem _ (List.mem_append_right _ h)
def u_X9_move_53 (k28 : Int32 → Int32 → Int32 → Int32 → Int32 → Int32 → MM → Option (Int32 × MM)) (v1 : Int32) (v2 : Int32) (v3 : Int32) (v4 : Int32) (v5 : Int32) (v7 : Int32) (vs0 : Int32) (σ : MM) : Option (Int32 × MM) :=
  if ((((24 : Int32) * v1) + v2) + vs0) < 0 ∨ 96 ≤ ((((24 : Int32) * v1) + v2) + vs0).toNatClampNeg then none else if ((((24 : Int32) * v3) + v4) + vs0) < 0 ∨ 96 ≤ ((((24 : Int32) * v3) + v4) + vs0).toNatClampNeg then none else lt (mu σ 136 (((((24 : Int32) * v3) + v4) + vs0).toNatClampNeg) (σ 136 (((((24 : Int32) * v1) + v2) + vs0).toNatClampNeg))) (fun σ22 => k28 v1 v2 v3 v4 v5 (v7 + (1 : Int32)) σ22)
def u_X9_move_28 (k28 : Int32 → Int32 → Int32 → Int32 → Int32 → Int32 → MM → Option (Int32 × MM)) (v1 : Int32) (v2 : Int32) (v3 : Int32) (v4 : Int32) (v5 : Int32) (v7 : Int32) (σ : MM) : Option (Int32 × MM) :=
  if v5 ≤ v7 then some (v5, σ) else if v4 ≤ v2 then u_X9_move_53 k28 v1 v2 v3 v4 v5 v7 v7 σ else u_X9_move_53 k28 v1 v2 v3 v4 v5 v7 ((v5 - (1 : Int32)) - v7) σ
def l_X9_move_28 (v1 : Int32) (v2 : Int32) (v3 : Int32) (v4 : Int32) (v5 : Int32) (v7 : Int32) (σ : MM) : Option (Int32 × MM) :=
  itr (fun _ _ _ _ _ _ _ => none) (u_X9_move_28) FU v1 v2 v3 v4 v5 v7 σ
def f_X9_move (a1 : Int32) (a2 : Int32) (a3 : Int32) (a4 : Int32) (a5 : Int32) (σ : MM) : Option (Int32 × MM) :=
  bd (f_X9_notMoved a1 a2 a3 a4 a5 σ) (fun r14 σ15 => if r14 = 0 then l_X9_move_28 a1 a2 a3 a4 a5 (0 : Int32) σ15 else bd (f_X9_error r14 σ15) (fun r24 σ25 => some (r24, σ25)))
set_option maxRecDepth 100000 in
set_option maxHeartbeats 4000000 in
theorem t_X9_move_53 {l : Launch} {G : GX} {K : KX} (X : FX G K cX9_move RX9 (some .int) wsX9_move 9) {Φ : Int32 → MM → Prop} (hR : Ri G K Φ) (k28 : Int32 → Int32 → Int32 → Int32 → Int32 → Int32 → MM → Option (Int32 × MM)) (hk28c : ∀ (v1 : Int32) (v2 : Int32) (v3 : Int32) (v4 : Int32) (v5 : Int32) (v7 : Int32) (σ : MM), Ok Φ (k28 v1 v2 v3 v4 v5 v7 σ) → V l G 6 K 9 28 [(0, .ref (G.1 129)), (1, .int v1), (2, .int v2), (3, .int v3), (4, .int v4), (5, .int v5), (7, .int v7)] [] σ) (v1 : Int32) (v2 : Int32) (v3 : Int32) (v4 : Int32) (v5 : Int32) (v7 : Int32) (vs0 : Int32) (σ : MM) (hf : Ok Φ (u_X9_move_53 k28 v1 v2 v3 v4 v5 v7 vs0 σ)) : V l G 6 K 9 53 [(0, .ref (G.1 129)), (1, .int v1), (2, .int v2), (3, .int v3), (4, .int v4), (5, .int v5), (7, .int v7)] [.int vs0] σ := by
    unfold u_X9_move_53 at hf
    refine r_istore X dX9_move_53 (by decide) (lv' := [(8, .int vs0), (0, .ref (G.1 129)), (1, .int v1), (2, .int v2), (3, .int v3), (4, .int v4), (5, .int v5), (7, .int v7)]) rfl ?_
    refine r_aload_n X dX9_move_55 1 rfl isr_ref ?_
    refine r_get (i := 129) (v := .ref (G.1 136)) X in_X9_move_9 rfl 7 (by decide) (kd_in kc_129 (by decide)) (EE_9 _ kc_129) rfl (mem_ix 1 rfl) dX9_move_56 ?_
    refine r_bipush X dX9_move_59 cb_24 ?_
    refine r_iload_n X dX9_move_61 4 rfl ?_
    refine r_imul X dX9_move_62 ?_
    refine r_iload X dX9_move_63 5 rfl ?_
    refine r_iadd X dX9_move_65 ?_
    refine r_iload X dX9_move_66 0 rfl ?_
    refine r_iadd X dX9_move_68 ?_
    refine r_aload_n X dX9_move_69 1 rfl isr_ref ?_
    refine r_get (i := 129) (v := .ref (G.1 136)) X in_X9_move_9 rfl 7 (by decide) (kd_in kc_129 (by decide)) (EE_9 _ kc_129) rfl (mem_ix 1 rfl) dX9_move_70 ?_
    refine r_bipush X dX9_move_73 cb_24 ?_
    refine r_iload_n X dX9_move_75 2 rfl ?_
    refine r_imul X dX9_move_76 ?_
    refine r_iload_n X dX9_move_77 3 rfl ?_
    refine r_iadd X dX9_move_78 ?_
    refine r_iload X dX9_move_79 0 rfl ?_
    refine r_iadd X dX9_move_81 ?_
    obtain ⟨g20, hf⟩ := okg hf
    refine r_iald (i := 136) (jn := ((((24 : Int32) * v1) + v2) + vs0).toNatClampNeg) X (kd_in kc_136 (by decide)) (EE_28 _ kc_136) rfl g20 dX9_move_82 ?_
    obtain ⟨g21, hf⟩ := okg hf
    obtain ⟨σ22, e23, hf⟩ := okl hf
    refine r_iast (i := 136) (jn := ((((24 : Int32) * v3) + v4) + vs0).toNatClampNeg) X (kd_in kc_136 (by decide)) (fun _ => EE_28 _ kc_136) rfl g21 dX9_move_83 ?_
    refine r_sg e23 ?_
    refine r_iinc (v := (v7 + (1 : Int32))) X dX9_move_84 7 rfl (congrArg _ ci_1) (by decide) (lv' := [(7, .int (v7 + (1 : Int32))), (8, .int vs0), (0, .ref (G.1 129)), (1, .int v1), (2, .int v2), (3, .int v3), (4, .int v4), (5, .int v5)]) rfl ?_
    refine r_goto (tgt := 28) X dX9_move_87 (by decide) ?_
    refine r_sub [2, 3, 4, 5, 6, 7, 0] rfl ?_
    exact hk28c v1 v2 v3 v4 v5 (v7 + (1 : Int32)) σ22 hf
set_option maxRecDepth 100000 in
set_option maxHeartbeats 4000000 in
theorem t_X9_move_28 {l : Launch} {G : GX} {K : KX} (X : FX G K cX9_move RX9 (some .int) wsX9_move 9) {Φ : Int32 → MM → Prop} (hR : Ri G K Φ) (k28 : Int32 → Int32 → Int32 → Int32 → Int32 → Int32 → MM → Option (Int32 × MM)) (hk28c : ∀ (v1 : Int32) (v2 : Int32) (v3 : Int32) (v4 : Int32) (v5 : Int32) (v7 : Int32) (σ : MM), Ok Φ (k28 v1 v2 v3 v4 v5 v7 σ) → V l G 6 K 9 28 [(0, .ref (G.1 129)), (1, .int v1), (2, .int v2), (3, .int v3), (4, .int v4), (5, .int v5), (7, .int v7)] [] σ) (v1 : Int32) (v2 : Int32) (v3 : Int32) (v4 : Int32) (v5 : Int32) (v7 : Int32) (σ : MM) (hf : Ok Φ (u_X9_move_28 k28 v1 v2 v3 v4 v5 v7 σ)) : V l G 6 K 9 28 [(0, .ref (G.1 129)), (1, .int v1), (2, .int v2), (3, .int v3), (4, .int v4), (5, .int v5), (7, .int v7)] [] σ := by
    unfold u_X9_move_28 at hf
    refine r_iload X dX9_move_28 6 rfl ?_
    refine r_iload X dX9_move_30 5 rfl ?_
    refine r_icmp_ge (tgt := 90) X dX9_move_32 (by decide) (fun h18 => ?_) (fun h18 => ?_)
    · replace hf := okt h18 hf
      refine r_iload X dX9_move_90 5 rfl ?_
      exact r_iret X rfl hR (ok0 hf) dX9_move_92
    · replace hf := okf h18 hf
      refine r_iload_n X dX9_move_35 2 rfl ?_
      refine r_iload X dX9_move_36 4 rfl ?_
      refine r_icmp_ge (tgt := 51) X dX9_move_38 (by decide) (fun h19 => ?_) (fun h19 => ?_)
      · replace hf := okt h19 hf
        refine r_iload X dX9_move_51 6 rfl ?_
        exact t_X9_move_53 X hR k28 hk28c v1 v2 v3 v4 v5 v7 v7 σ hf
      · replace hf := okf h19 hf
        refine r_iload X dX9_move_41 5 rfl ?_
        refine r_iconst X dX9_move_43 ci_1 ?_
        refine r_isub X dX9_move_44 ?_
        refine r_iload X dX9_move_45 6 rfl ?_
        refine r_isub X dX9_move_47 ?_
        refine r_goto (tgt := 53) X dX9_move_48 (by decide) ?_
        exact t_X9_move_53 X hR k28 hk28c v1 v2 v3 v4 v5 v7 ((v5 - (1 : Int32)) - v7) σ hf
theorem tl_X9_move_28 {l : Launch} {G : GX} {K : KX} (X : FX G K cX9_move RX9 (some .int) wsX9_move 9) {Φ : Int32 → MM → Prop} (hR : Ri G K Φ) : ∀ (m : Nat) (v1 : Int32) (v2 : Int32) (v3 : Int32) (v4 : Int32) (v5 : Int32) (v7 : Int32) (σ : MM), Ok Φ (itr (fun _ _ _ _ _ _ _ => none) (u_X9_move_28) m v1 v2 v3 v4 v5 v7 σ) → V l G 6 K 9 28 [(0, .ref (G.1 129)), (1, .int v1), (2, .int v2), (3, .int v3), (4, .int v4), (5, .int v5), (7, .int v7)] [] σ := by
  intro m
  induction m with
  | zero => intro v1 v2 v3 v4 v5 v7 σ hf; exact (okx hf).elim
  | succ m ih => intro v1 v2 v3 v4 v5 v7 σ hf; exact t_X9_move_28 X hR _ ih v1 v2 v3 v4 v5 v7 σ hf
set_option maxRecDepth 100000 in
set_option maxHeartbeats 4000000 in
theorem e_X9_move {l : Launch} {G : GX} {K : KX} (X : FX G K cX9_move RX9 (some .int) wsX9_move 9) {Φ : Int32 → MM → Prop} (hR : Ri G K Φ) (a1 : Int32) (a2 : Int32) (a3 : Int32) (a4 : Int32) (a5 : Int32) (σ : MM) (hf : Ok Φ (f_X9_move a1 a2 a3 a4 a5 σ)) : V l G 6 K 9 0 [(0, .ref (G.1 129)), (1, .int a1), (2, .int a2), (3, .int a3), (4, .int a4), (5, .int a5)] [] σ := by
    unfold f_X9_move at hf
    refine r_aload_n X dX9_move_0 0 rfl isr_ref ?_
    refine r_iload_n X dX9_move_1 1 rfl ?_
    refine r_iload_n X dX9_move_2 2 rfl ?_
    refine r_iload_n X dX9_move_3 3 rfl ?_
    refine r_iload X dX9_move_4 4 rfl ?_
    refine r_iload X dX9_move_6 5 rfl ?_
    refine r_callVi (rest := []) X (c_X9_notMoved l G a1 a2 a3 a4 a5 σ (oks hf)) md_X9_notMoved gX9_move_X9_notMoved (by decide) rfl rfl (kd_in kc_129 (by decide)) (EE_9 _ kc_129) rfl rfl (Nat.le_of_ble_eq_true rfl) dX9_move_8 (fun r14 σ15 e16 => ?_)
    replace hf := okn e16 hf
    refine r_istore X dX9_move_11 (by decide) (lv' := [(6, .int r14), (0, .ref (G.1 129)), (1, .int a1), (2, .int a2), (3, .int a3), (4, .int a4), (5, .int a5)]) rfl ?_
    refine r_iload X dX9_move_13 0 rfl ?_
    refine r_if_eq (tgt := 25) X dX9_move_15 (by decide) (fun h17 => ?_) (fun h17 => ?_)
    · replace hf := okt h17 hf
      refine r_iconst X dX9_move_25 ci_0 ?_
      refine r_istore X dX9_move_26 (by decide) (lv' := [(7, .int (0 : Int32)), (6, .int r14), (0, .ref (G.1 129)), (1, .int a1), (2, .int a2), (3, .int a3), (4, .int a4), (5, .int a5)]) rfl ?_
      refine r_sub [2, 3, 4, 5, 6, 7, 0] rfl ?_
      exact tl_X9_move_28 X hR FU a1 a2 a3 a4 a5 (0 : Int32) σ15 hf
    · replace hf := okf h17 hf
      refine r_aload_n X dX9_move_18 1 rfl isr_ref ?_
      refine r_iload X dX9_move_19 0 rfl ?_
      refine r_callVi (rest := []) X (c_X9_error l G r14 σ15 (oks hf)) md_X9_error gX9_move_X9_error (by decide) rfl rfl (kd_in kc_129 (by decide)) (EE_9 _ kc_129) rfl rfl (Nat.le_of_ble_eq_true rfl) dX9_move_21 (fun r24 σ25 e26 => ?_)
      replace hf := okn e26 hf
      exact r_iret X rfl hR (ok0 hf) dX9_move_24
theorem md_X9_move : MD yX9_move wsX9_move cX9_move 9 5 (some .int) := ⟨⟨_, rfl⟩, by decide +kernel, by decide +kernel, by decide⟩
theorem c_X9_move (l : Launch) (G : GX)  (a1 : Int32) (a2 : Int32) (a3 : Int32) (a4 : Int32) (a5 : Int32) (σ : MM) (h : (f_X9_move a1 a2 a3 a4 a5 σ).isSome = true) : CTi l G yX9_move wsX9_move 6 [.ref (G.1 129), .int a1, .int a2, .int a3, .int a4, .int a5] σ (f_X9_move a1 a2 a3 a4 a5 σ) :=
  CTi_of md_X9_move (Nat.le_of_ble_eq_true rfl) (fun K X hR => e_X9_move X hR a1 a2 a3 a4 a5 σ (ok_is h))
-- X9_carries
theorem in_X9_carries_9 : ∀ w ∈ u_ws RX9 TX9 21, w ∈ wsX9_carries := fun _ h => List.mem_cons_of_mem _ (List.mem_append_right _ h)
def u_X9_carries_18 (k18 : Int32 → Int32 → MM → Option (Int32 × MM)) (v1 : Int32) (v3 : Int32) (σ : MM) : Option (Int32 × MM) :=
  if v1 < 0 ∨ 4 ≤ v1.toNatClampNeg then none else if (σ 135 (v1.toNatClampNeg)) ≤ v3 then some (v3, σ) else if (σ 130 3) ≤ v3 then some (v3, σ) else if (((24 : Int32) * v1) + v3) < 0 ∨ 96 ≤ (((24 : Int32) * v1) + v3).toNatClampNeg then none else bd (f_X9_in (σ 136 ((((24 : Int32) * v1) + v3).toNatClampNeg)) (0 : Int32) (σ 130 2) σ) (fun r27 σ28 => if r27 = 0 then some (v3, σ28) else bd (f_X9_lets v3 (0 : Int32) (σ28 136 ((((24 : Int32) * v1) + v3).toNatClampNeg)) σ28) (fun r31 σ32 => k18 v1 (v3 + (1 : Int32)) σ32))
def l_X9_carries_18 (v1 : Int32) (v3 : Int32) (σ : MM) : Option (Int32 × MM) :=
  itr (fun _ _ _ => none) (u_X9_carries_18) FU v1 v3 σ
def f_X9_carries (a1 : Int32) (σ : MM) : Option (Int32 × MM) :=
  bd (f_X9_notThere a1 σ) (fun r19 σ20 => if r19 = 0 then l_X9_carries_18 a1 (0 : Int32) σ20 else bd (f_X9_error r19 σ20) (fun r34 σ35 => some (r34, σ35)))
set_option maxRecDepth 100000 in
set_option maxHeartbeats 4000000 in
theorem t_X9_carries_18 {l : Launch} {G : GX} {K : KX} (X : FX G K cX9_carries RX9 (some .int) wsX9_carries 4) {Φ : Int32 → MM → Prop} (hR : Ri G K Φ) (k18 : Int32 → Int32 → MM → Option (Int32 × MM)) (hk18c : ∀ (v1 : Int32) (v3 : Int32) (σ : MM), Ok Φ (k18 v1 v3 σ) → V l G 6 K 4 18 [(0, .ref (G.1 129)), (1, .int v1), (3, .int v3)] [] σ) (v1 : Int32) (v3 : Int32) (σ : MM) (hf : Ok Φ (u_X9_carries_18 k18 v1 v3 σ)) : V l G 6 K 4 18 [(0, .ref (G.1 129)), (1, .int v1), (3, .int v3)] [] σ := by
    unfold u_X9_carries_18 at hf
    refine r_iload_n X dX9_carries_18 2 rfl ?_
    refine r_aload_n X dX9_carries_19 0 rfl isr_ref ?_
    refine r_get (i := 129) (v := .ref (G.1 135)) X in_X9_carries_9 rfl 6 (by decide) (kd_in kc_129 (by decide)) (EE_9 _ kc_129) rfl (mem_ix 1 rfl) dX9_carries_20 ?_
    refine r_iload_n X dX9_carries_23 1 rfl ?_
    obtain ⟨g23, hf⟩ := okg hf
    refine r_iald (i := 135) (jn := v1.toNatClampNeg) X (kd_in kc_135 (by decide)) (EE_27 _ kc_135) rfl g23 dX9_carries_24 ?_
    refine r_icmp_ge (tgt := 85) X dX9_carries_25 (by decide) (fun h24 => ?_) (fun h24 => ?_)
    · replace hf := okt h24 hf
      refine r_iload_n X dX9_carries_85 2 rfl ?_
      exact r_iret X rfl hR (ok0 hf) dX9_carries_86
    · replace hf := okf h24 hf
      refine r_iload_n X dX9_carries_28 2 rfl ?_
      refine r_aload_n X dX9_carries_29 0 rfl isr_ref ?_
      refine r_get (i := 129) (v := .ref (G.1 130)) X in_X9_carries_9 rfl 0 (by decide) (kd_in kc_129 (by decide)) (EE_9 _ kc_129) rfl (mem_ix 2 rfl) dX9_carries_30 ?_
      refine r_iconst X dX9_carries_33 ci_3 ?_
      refine r_iald (i := 130) (jn := 3) X (kd_in kc_130 (by decide)) (EE_26 _ kc_130) (by decide) (by decide) dX9_carries_34 ?_
      refine r_icmp_ge (tgt := 85) X dX9_carries_35 (by decide) (fun h25 => ?_) (fun h25 => ?_)
      · replace hf := okt h25 hf
        refine r_iload_n X dX9_carries_85 2 rfl ?_
        exact r_iret X rfl hR (ok0 hf) dX9_carries_86
      · replace hf := okf h25 hf
        refine r_aload_n X dX9_carries_38 0 rfl isr_ref ?_
        refine r_get (i := 129) (v := .ref (G.1 136)) X in_X9_carries_9 rfl 7 (by decide) (kd_in kc_129 (by decide)) (EE_9 _ kc_129) rfl (mem_ix 3 rfl) dX9_carries_39 ?_
        refine r_bipush X dX9_carries_42 cb_24 ?_
        refine r_iload_n X dX9_carries_44 1 rfl ?_
        refine r_imul X dX9_carries_45 ?_
        refine r_iload_n X dX9_carries_46 2 rfl ?_
        refine r_iadd X dX9_carries_47 ?_
        obtain ⟨g26, hf⟩ := okg hf
        refine r_iald (i := 136) (jn := (((24 : Int32) * v1) + v3).toNatClampNeg) X (kd_in kc_136 (by decide)) (EE_28 _ kc_136) rfl g26 dX9_carries_48 ?_
        refine r_iconst X dX9_carries_49 ci_0 ?_
        refine r_aload_n X dX9_carries_50 0 rfl isr_ref ?_
        refine r_get (i := 129) (v := .ref (G.1 130)) X in_X9_carries_9 rfl 0 (by decide) (kd_in kc_129 (by decide)) (EE_9 _ kc_129) rfl (mem_ix 2 rfl) dX9_carries_51 ?_
        refine r_iconst X dX9_carries_54 ci_2 ?_
        refine r_iald (i := 130) (jn := 2) X (kd_in kc_130 (by decide)) (EE_26 _ kc_130) (by decide) (by decide) dX9_carries_55 ?_
        refine r_callSi (rest := []) X (c_X9_in l G (σ 136 ((((24 : Int32) * v1) + v3).toNatClampNeg)) (0 : Int32) (σ 130 2) σ (oks hf)) md_X9_in gX9_carries_X9_in (by decide) rfl rfl (Nat.le_of_ble_eq_true rfl) dX9_carries_56 (fun r27 σ28 e29 => ?_)
        replace hf := okn e29 hf
        refine r_if_eq (tgt := 85) X dX9_carries_59 (by decide) (fun h30 => ?_) (fun h30 => ?_)
        · replace hf := okt h30 hf
          refine r_iload_n X dX9_carries_85 2 rfl ?_
          exact r_iret X rfl hR (ok0 hf) dX9_carries_86
        · replace hf := okf h30 hf
          refine r_aload_n X dX9_carries_62 0 rfl isr_ref ?_
          refine r_iload_n X dX9_carries_63 2 rfl ?_
          refine r_iconst X dX9_carries_64 ci_0 ?_
          refine r_aload_n X dX9_carries_65 0 rfl isr_ref ?_
          refine r_get (i := 129) (v := .ref (G.1 136)) X in_X9_carries_9 rfl 7 (by decide) (kd_in kc_129 (by decide)) (EE_9 _ kc_129) rfl (mem_ix 3 rfl) dX9_carries_66 ?_
          refine r_bipush X dX9_carries_69 cb_24 ?_
          refine r_iload_n X dX9_carries_71 1 rfl ?_
          refine r_imul X dX9_carries_72 ?_
          refine r_iload_n X dX9_carries_73 2 rfl ?_
          refine r_iadd X dX9_carries_74 ?_
          refine r_iald (i := 136) (jn := (((24 : Int32) * v1) + v3).toNatClampNeg) X (kd_in kc_136 (by decide)) (EE_28 _ kc_136) rfl g26 dX9_carries_75 ?_
          refine r_callVv (rest := []) X (c_X9_lets l G v3 (0 : Int32) (σ28 136 ((((24 : Int32) * v1) + v3).toNatClampNeg)) σ28 (oks hf)) md_X9_lets gX9_carries_X9_lets (by decide) rfl rfl (kd_in kc_129 (by decide)) (EE_9 _ kc_129) rfl rfl (Nat.le_of_ble_eq_true rfl) dX9_carries_76 (fun r31 σ32 e33 => ?_)
          replace hf := okn e33 hf
          refine r_iinc (v := (v3 + (1 : Int32))) X dX9_carries_79 2 rfl (congrArg _ ci_1) (by decide) (lv' := [(3, .int (v3 + (1 : Int32))), (0, .ref (G.1 129)), (1, .int v1)]) rfl ?_
          refine r_goto (tgt := 18) X dX9_carries_82 (by decide) ?_
          refine r_sub [1, 2, 0] rfl ?_
          exact hk18c v1 (v3 + (1 : Int32)) σ32 hf
theorem tl_X9_carries_18 {l : Launch} {G : GX} {K : KX} (X : FX G K cX9_carries RX9 (some .int) wsX9_carries 4) {Φ : Int32 → MM → Prop} (hR : Ri G K Φ) : ∀ (m : Nat) (v1 : Int32) (v3 : Int32) (σ : MM), Ok Φ (itr (fun _ _ _ => none) (u_X9_carries_18) m v1 v3 σ) → V l G 6 K 4 18 [(0, .ref (G.1 129)), (1, .int v1), (3, .int v3)] [] σ := by
  intro m
  induction m with
  | zero => intro v1 v3 σ hf; exact (okx hf).elim
  | succ m ih => intro v1 v3 σ hf; exact t_X9_carries_18 X hR _ ih v1 v3 σ hf
set_option maxRecDepth 100000 in
set_option maxHeartbeats 4000000 in
theorem e_X9_carries {l : Launch} {G : GX} {K : KX} (X : FX G K cX9_carries RX9 (some .int) wsX9_carries 4) {Φ : Int32 → MM → Prop} (hR : Ri G K Φ) (a1 : Int32) (σ : MM) (hf : Ok Φ (f_X9_carries a1 σ)) : V l G 6 K 4 0 [(0, .ref (G.1 129)), (1, .int a1)] [] σ := by
    unfold f_X9_carries at hf
    refine r_aload_n X dX9_carries_0 0 rfl isr_ref ?_
    refine r_iload_n X dX9_carries_1 1 rfl ?_
    refine r_callVi (rest := []) X (c_X9_notThere l G a1 σ (oks hf)) md_X9_notThere gX9_carries_X9_notThere (by decide) rfl rfl (kd_in kc_129 (by decide)) (EE_9 _ kc_129) rfl rfl (Nat.le_of_ble_eq_true rfl) dX9_carries_2 (fun r19 σ20 e21 => ?_)
    replace hf := okn e21 hf
    refine r_istore_n X dX9_carries_5 (i := 2) rfl (by decide) (lv' := [(2, .int r19), (0, .ref (G.1 129)), (1, .int a1)]) rfl ?_
    refine r_iload_n X dX9_carries_6 0 rfl ?_
    refine r_if_eq (tgt := 16) X dX9_carries_7 (by decide) (fun h22 => ?_) (fun h22 => ?_)
    · replace hf := okt h22 hf
      refine r_iconst X dX9_carries_16 ci_0 ?_
      refine r_istore_n X dX9_carries_17 (i := 3) rfl (by decide) (lv' := [(3, .int (0 : Int32)), (2, .int r19), (0, .ref (G.1 129)), (1, .int a1)]) rfl ?_
      refine r_sub [2, 3, 0] rfl ?_
      exact tl_X9_carries_18 X hR FU a1 (0 : Int32) σ20 hf
    · replace hf := okf h22 hf
      refine r_aload_n X dX9_carries_10 1 rfl isr_ref ?_
      refine r_iload_n X dX9_carries_11 0 rfl ?_
      refine r_callVi (rest := []) X (c_X9_error l G r19 σ20 (oks hf)) md_X9_error gX9_carries_X9_error (by decide) rfl rfl (kd_in kc_129 (by decide)) (EE_9 _ kc_129) rfl rfl (Nat.le_of_ble_eq_true rfl) dX9_carries_12 (fun r34 σ35 e36 => ?_)
      replace hf := okn e36 hf
      exact r_iret X rfl hR (ok0 hf) dX9_carries_15
theorem md_X9_carries : MD yX9_carries wsX9_carries cX9_carries 4 1 (some .int) := ⟨⟨_, rfl⟩, by decide +kernel, by decide +kernel, by decide⟩
theorem c_X9_carries (l : Launch) (G : GX)  (a1 : Int32) (σ : MM) (h : (f_X9_carries a1 σ).isSome = true) : CTi l G yX9_carries wsX9_carries 6 [.ref (G.1 129), .int a1] σ (f_X9_carries a1 σ) :=
  CTi_of md_X9_carries (Nat.le_of_ble_eq_true rfl) (fun K X hR => e_X9_carries X hR a1 σ (ok_is h))
-- X9_judge
theorem in_X9_judge_9 : ∀ w ∈ u_ws RX9 TX9 21, w ∈ wsX9_judge := fun _ h => List.mem_cons_of_mem _ (List.mem_append_right _ h)
def u_X9_judge_18 (k18 : Int32 → Int32 → MM → Option (Int32 × MM)) (v1 : Int32) (v3 : Int32) (σ : MM) : Option (Int32 × MM) :=
  if v1 < 0 ∨ 4 ≤ v1.toNatClampNeg then none else if (σ 135 (v1.toNatClampNeg)) ≤ v3 then some (v3, σ) else if (σ 130 3) ≤ v3 then some (v3, σ) else if (((24 : Int32) * v1) + v3) < 0 ∨ 96 ≤ (((24 : Int32) * v1) + v3).toNatClampNeg then none else bd (f_X9_about v3 (0 : Int32) σ) (fun r24 σ25 => if (σ 136 ((((24 : Int32) * v1) + v3).toNatClampNeg)) = r24 then k18 v1 (v3 + (1 : Int32)) σ25 else some (v3, σ25))
def l_X9_judge_18 (v1 : Int32) (v3 : Int32) (σ : MM) : Option (Int32 × MM) :=
  itr (fun _ _ _ => none) (u_X9_judge_18) FU v1 v3 σ
def f_X9_judge (a1 : Int32) (σ : MM) : Option (Int32 × MM) :=
  bd (f_X9_notThere a1 σ) (fun r16 σ17 => if r16 = 0 then l_X9_judge_18 a1 (0 : Int32) σ17 else bd (f_X9_error r16 σ17) (fun r28 σ29 => some (r28, σ29)))
set_option maxRecDepth 100000 in
set_option maxHeartbeats 4000000 in
theorem t_X9_judge_18 {l : Launch} {G : GX} {K : KX} (X : FX G K cX9_judge RX9 (some .int) wsX9_judge 4) {Φ : Int32 → MM → Prop} (hR : Ri G K Φ) (k18 : Int32 → Int32 → MM → Option (Int32 × MM)) (hk18c : ∀ (v1 : Int32) (v3 : Int32) (σ : MM), Ok Φ (k18 v1 v3 σ) → V l G 6 K 4 18 [(0, .ref (G.1 129)), (1, .int v1), (3, .int v3)] [] σ) (v1 : Int32) (v3 : Int32) (σ : MM) (hf : Ok Φ (u_X9_judge_18 k18 v1 v3 σ)) : V l G 6 K 4 18 [(0, .ref (G.1 129)), (1, .int v1), (3, .int v3)] [] σ := by
    unfold u_X9_judge_18 at hf
    refine r_iload_n X dX9_judge_18 2 rfl ?_
    refine r_aload_n X dX9_judge_19 0 rfl isr_ref ?_
    refine r_get (i := 129) (v := .ref (G.1 135)) X in_X9_judge_9 rfl 6 (by decide) (kd_in kc_129 (by decide)) (EE_9 _ kc_129) rfl (mem_ix 1 rfl) dX9_judge_20 ?_
    refine r_iload_n X dX9_judge_23 1 rfl ?_
    obtain ⟨g20, hf⟩ := okg hf
    refine r_iald (i := 135) (jn := v1.toNatClampNeg) X (kd_in kc_135 (by decide)) (EE_27 _ kc_135) rfl g20 dX9_judge_24 ?_
    refine r_icmp_ge (tgt := 64) X dX9_judge_25 (by decide) (fun h21 => ?_) (fun h21 => ?_)
    · replace hf := okt h21 hf
      refine r_iload_n X dX9_judge_64 2 rfl ?_
      exact r_iret X rfl hR (ok0 hf) dX9_judge_65
    · replace hf := okf h21 hf
      refine r_iload_n X dX9_judge_28 2 rfl ?_
      refine r_aload_n X dX9_judge_29 0 rfl isr_ref ?_
      refine r_get (i := 129) (v := .ref (G.1 130)) X in_X9_judge_9 rfl 0 (by decide) (kd_in kc_129 (by decide)) (EE_9 _ kc_129) rfl (mem_ix 2 rfl) dX9_judge_30 ?_
      refine r_iconst X dX9_judge_33 ci_3 ?_
      refine r_iald (i := 130) (jn := 3) X (kd_in kc_130 (by decide)) (EE_26 _ kc_130) (by decide) (by decide) dX9_judge_34 ?_
      refine r_icmp_ge (tgt := 64) X dX9_judge_35 (by decide) (fun h22 => ?_) (fun h22 => ?_)
      · replace hf := okt h22 hf
        refine r_iload_n X dX9_judge_64 2 rfl ?_
        exact r_iret X rfl hR (ok0 hf) dX9_judge_65
      · replace hf := okf h22 hf
        refine r_aload_n X dX9_judge_38 0 rfl isr_ref ?_
        refine r_get (i := 129) (v := .ref (G.1 136)) X in_X9_judge_9 rfl 7 (by decide) (kd_in kc_129 (by decide)) (EE_9 _ kc_129) rfl (mem_ix 3 rfl) dX9_judge_39 ?_
        refine r_bipush X dX9_judge_42 cb_24 ?_
        refine r_iload_n X dX9_judge_44 1 rfl ?_
        refine r_imul X dX9_judge_45 ?_
        refine r_iload_n X dX9_judge_46 2 rfl ?_
        refine r_iadd X dX9_judge_47 ?_
        obtain ⟨g23, hf⟩ := okg hf
        refine r_iald (i := 136) (jn := (((24 : Int32) * v1) + v3).toNatClampNeg) X (kd_in kc_136 (by decide)) (EE_28 _ kc_136) rfl g23 dX9_judge_48 ?_
        refine r_aload_n X dX9_judge_49 0 rfl isr_ref ?_
        refine r_iload_n X dX9_judge_50 2 rfl ?_
        refine r_iconst X dX9_judge_51 ci_0 ?_
        refine r_callVi (rest := [.int (σ 136 ((((24 : Int32) * v1) + v3).toNatClampNeg))]) X (c_X9_about l G v3 (0 : Int32) σ (oks hf)) md_X9_about gX9_judge_X9_about (by decide) rfl rfl (kd_in kc_129 (by decide)) (EE_9 _ kc_129) rfl rfl (Nat.le_of_ble_eq_true rfl) dX9_judge_52 (fun r24 σ25 e26 => ?_)
        replace hf := okn e26 hf
        refine r_icmp_ne (tgt := 64) X dX9_judge_55 (by decide) (fun h27 => ?_) (fun h27 => ?_)
        · replace hf := okf h27 hf
          refine r_iload_n X dX9_judge_64 2 rfl ?_
          exact r_iret X rfl hR (ok0 hf) dX9_judge_65
        · replace hf := okt h27 hf
          refine r_iinc (v := (v3 + (1 : Int32))) X dX9_judge_58 2 rfl (congrArg _ ci_1) (by decide) (lv' := [(3, .int (v3 + (1 : Int32))), (0, .ref (G.1 129)), (1, .int v1)]) rfl ?_
          refine r_goto (tgt := 18) X dX9_judge_61 (by decide) ?_
          refine r_sub [1, 2, 0] rfl ?_
          exact hk18c v1 (v3 + (1 : Int32)) σ25 hf
theorem tl_X9_judge_18 {l : Launch} {G : GX} {K : KX} (X : FX G K cX9_judge RX9 (some .int) wsX9_judge 4) {Φ : Int32 → MM → Prop} (hR : Ri G K Φ) : ∀ (m : Nat) (v1 : Int32) (v3 : Int32) (σ : MM), Ok Φ (itr (fun _ _ _ => none) (u_X9_judge_18) m v1 v3 σ) → V l G 6 K 4 18 [(0, .ref (G.1 129)), (1, .int v1), (3, .int v3)] [] σ := by
  intro m
  induction m with
  | zero => intro v1 v3 σ hf; exact (okx hf).elim
  | succ m ih => intro v1 v3 σ hf; exact t_X9_judge_18 X hR _ ih v1 v3 σ hf
set_option maxRecDepth 100000 in
set_option maxHeartbeats 4000000 in
theorem e_X9_judge {l : Launch} {G : GX} {K : KX} (X : FX G K cX9_judge RX9 (some .int) wsX9_judge 4) {Φ : Int32 → MM → Prop} (hR : Ri G K Φ) (a1 : Int32) (σ : MM) (hf : Ok Φ (f_X9_judge a1 σ)) : V l G 6 K 4 0 [(0, .ref (G.1 129)), (1, .int a1)] [] σ := by
    unfold f_X9_judge at hf
    refine r_aload_n X dX9_judge_0 0 rfl isr_ref ?_
    refine r_iload_n X dX9_judge_1 1 rfl ?_
    refine r_callVi (rest := []) X (c_X9_notThere l G a1 σ (oks hf)) md_X9_notThere gX9_judge_X9_notThere (by decide) rfl rfl (kd_in kc_129 (by decide)) (EE_9 _ kc_129) rfl rfl (Nat.le_of_ble_eq_true rfl) dX9_judge_2 (fun r16 σ17 e18 => ?_)
    replace hf := okn e18 hf
    refine r_istore_n X dX9_judge_5 (i := 2) rfl (by decide) (lv' := [(2, .int r16), (0, .ref (G.1 129)), (1, .int a1)]) rfl ?_
    refine r_iload_n X dX9_judge_6 0 rfl ?_
    refine r_if_eq (tgt := 16) X dX9_judge_7 (by decide) (fun h19 => ?_) (fun h19 => ?_)
    · replace hf := okt h19 hf
      refine r_iconst X dX9_judge_16 ci_0 ?_
      refine r_istore_n X dX9_judge_17 (i := 3) rfl (by decide) (lv' := [(3, .int (0 : Int32)), (2, .int r16), (0, .ref (G.1 129)), (1, .int a1)]) rfl ?_
      refine r_sub [2, 3, 0] rfl ?_
      exact tl_X9_judge_18 X hR FU a1 (0 : Int32) σ17 hf
    · replace hf := okf h19 hf
      refine r_aload_n X dX9_judge_10 1 rfl isr_ref ?_
      refine r_iload_n X dX9_judge_11 0 rfl ?_
      refine r_callVi (rest := []) X (c_X9_error l G r16 σ17 (oks hf)) md_X9_error gX9_judge_X9_error (by decide) rfl rfl (kd_in kc_129 (by decide)) (EE_9 _ kc_129) rfl rfl (Nat.le_of_ble_eq_true rfl) dX9_judge_12 (fun r28 σ29 e30 => ?_)
      replace hf := okn e30 hf
      exact r_iret X rfl hR (ok0 hf) dX9_judge_15
theorem md_X9_judge : MD yX9_judge wsX9_judge cX9_judge 4 1 (some .int) := ⟨⟨_, rfl⟩, by decide +kernel, by decide +kernel, by decide⟩
theorem c_X9_judge (l : Launch) (G : GX)  (a1 : Int32) (σ : MM) (h : (f_X9_judge a1 σ).isSome = true) : CTi l G yX9_judge wsX9_judge 6 [.ref (G.1 129), .int a1] σ (f_X9_judge a1 σ) :=
  CTi_of md_X9_judge (Nat.le_of_ble_eq_true rfl) (fun K X hR => e_X9_judge X hR a1 σ (ok_is h))
-- X9_image
theorem in_X9_image_9 : ∀ w ∈ u_ws RX9 TX9 21, w ∈ wsX9_image := fun _ h => List.mem_cons_of_mem _ (List.mem_append_right _ h)
def f_X9_image  (σ : MM) : Option (Int32 × MM) :=
  bd (f_X9_copyAll 130 131 σ) (fun r6 σ7 => lt (mu σ7 129 3 ((σ7 129 3) + (1 : Int32))) (fun σ9 => some ((σ9 129 3), σ9)))
set_option maxRecDepth 100000 in
set_option maxHeartbeats 4000000 in
theorem e_X9_image {l : Launch} {G : GX} {K : KX} (X : FX G K cX9_image RX9 (some .int) wsX9_image 1) {Φ : Int32 → MM → Prop} (hR : Ri G K Φ)  (σ : MM) (hf : Ok Φ (f_X9_image  σ)) : V l G 4 K 1 0 [(0, .ref (G.1 129))] [] σ := by
    unfold f_X9_image at hf
    refine r_aload_n X dX9_image_0 0 rfl isr_ref ?_
    refine r_get (i := 129) (v := .ref (G.1 130)) X in_X9_image_9 rfl 0 (by decide) (kd_in kc_129 (by decide)) (EE_9 _ kc_129) rfl (mem_ix 1 rfl) dX9_image_1 ?_
    refine r_aload_n X dX9_image_4 0 rfl isr_ref ?_
    refine r_get (i := 129) (v := .ref (G.1 131)) X in_X9_image_9 rfl 1 (by decide) (kd_in kc_129 (by decide)) (EE_9 _ kc_129) rfl (mem_ix 2 rfl) dX9_image_5 ?_
    refine r_callSv (rest := []) X (c_X9_copyAll l G 130 131 kc_130 kc_131 σ (oks hf)) md_X9_copyAll gX9_image_X9_copyAll (by decide) rfl rfl (Nat.le_of_ble_eq_true rfl) dX9_image_8 (fun r6 σ7 e8 => ?_)
    replace hf := okn e8 hf
    refine r_aload_n X dX9_image_11 0 rfl isr_ref ?_
    refine r_dup X dX9_image_12 rfl ?_
    refine r_get (i := 129) (v := .int (σ7 129 3)) X in_X9_image_9 rfl 3 (by decide) (kd_in kc_129 (by decide)) (EE_9 _ kc_129) rfl (mem_ix 3 rfl) dX9_image_13 ?_
    refine r_iconst X dX9_image_16 ci_1 ?_
    refine r_iadd X dX9_image_17 ?_
    obtain ⟨σ9, e10, hf⟩ := okl hf
    refine r_put (i := 129) (f := upd (σ7 129) 3 ((σ7 129 3) + (1 : Int32))) X in_X9_image_9 tyX9 tyX9_ok nmX9 rfl 3 (by decide) (kd_in kc_129 (by decide)) (EE_9 _ kc_129) (EU_9_3 _ _ kc_129) rfl (mem_ix 3 rfl) rfl rfl rfl rfl dX9_image_18 ?_
    refine r_sg e10 ?_
    refine r_aload_n X dX9_image_21 0 rfl isr_ref ?_
    refine r_get (i := 129) (v := .int (σ9 129 3)) X in_X9_image_9 rfl 3 (by decide) (kd_in kc_129 (by decide)) (EE_9 _ kc_129) rfl (mem_ix 3 rfl) dX9_image_22 ?_
    exact r_iret X rfl hR (ok0 hf) dX9_image_25
theorem md_X9_image : MD yX9_image wsX9_image cX9_image 1 0 (some .int) := ⟨⟨_, rfl⟩, by decide +kernel, by decide +kernel, by decide⟩
theorem c_X9_image (l : Launch) (G : GX)   (σ : MM) (h : (f_X9_image  σ).isSome = true) : CTi l G yX9_image wsX9_image 4 [.ref (G.1 129)] σ (f_X9_image  σ) :=
  CTi_of md_X9_image (Nat.le_of_ble_eq_true rfl) (fun K X hR => e_X9_image X hR  σ (ok_is h))
-- X9_restore
theorem in_X9_restore_9 : ∀ w ∈ u_ws RX9 TX9 21, w ∈ wsX9_restore := fun _ h => List.mem_cons_of_mem _ (List.mem_append_right _ h)
def f_X9_restore  (σ : MM) : Option (Int32 × MM) :=
  if (σ 129 3) = 0 then bd (f_X9_error (-1000000002 : Int32) σ) (fun r12 σ13 => some (r12, σ13)) else bd (f_X9_copyAll 131 130 σ) (fun r9 σ10 => some ((σ10 130 0), σ10))
set_option maxRecDepth 100000 in
set_option maxHeartbeats 4000000 in
theorem e_X9_restore {l : Launch} {G : GX} {K : KX} (X : FX G K cX9_restore RX9 (some .int) wsX9_restore 1) {Φ : Int32 → MM → Prop} (hR : Ri G K Φ)  (σ : MM) (hf : Ok Φ (f_X9_restore  σ)) : V l G 4 K 1 0 [(0, .ref (G.1 129))] [] σ := by
    unfold f_X9_restore at hf
    refine r_aload_n X dX9_restore_0 0 rfl isr_ref ?_
    refine r_get (i := 129) (v := .int (σ 129 3)) X in_X9_restore_9 rfl 3 (by decide) (kd_in kc_129 (by decide)) (EE_9 _ kc_129) rfl (mem_ix 1 rfl) dX9_restore_1 ?_
    refine r_if_ne (tgt := 14) X dX9_restore_4 (by decide) (fun h8 => ?_) (fun h8 => ?_)
    · replace hf := okf h8 hf
      refine r_aload_n X dX9_restore_14 0 rfl isr_ref ?_
      refine r_get (i := 129) (v := .ref (G.1 131)) X in_X9_restore_9 rfl 1 (by decide) (kd_in kc_129 (by decide)) (EE_9 _ kc_129) rfl (mem_ix 3 rfl) dX9_restore_15 ?_
      refine r_aload_n X dX9_restore_18 0 rfl isr_ref ?_
      refine r_get (i := 129) (v := .ref (G.1 130)) X in_X9_restore_9 rfl 0 (by decide) (kd_in kc_129 (by decide)) (EE_9 _ kc_129) rfl (mem_ix 4 rfl) dX9_restore_19 ?_
      refine r_callSv (rest := []) X (c_X9_copyAll l G 131 130 kc_131 kc_130 σ (oks hf)) md_X9_copyAll gX9_restore_X9_copyAll (by decide) rfl rfl (Nat.le_of_ble_eq_true rfl) dX9_restore_22 (fun r9 σ10 e11 => ?_)
      replace hf := okn e11 hf
      refine r_aload_n X dX9_restore_25 0 rfl isr_ref ?_
      refine r_get (i := 129) (v := .ref (G.1 130)) X in_X9_restore_9 rfl 0 (by decide) (kd_in kc_129 (by decide)) (EE_9 _ kc_129) rfl (mem_ix 4 rfl) dX9_restore_26 ?_
      refine r_iconst X dX9_restore_29 ci_0 ?_
      refine r_iald (i := 130) (jn := 0) X (kd_in kc_130 (by decide)) (EE_26 _ kc_130) (by decide) (by decide) dX9_restore_30 ?_
      exact r_iret X rfl hR (ok0 hf) dX9_restore_31
    · replace hf := okt h8 hf
      refine r_aload_n X dX9_restore_7 0 rfl isr_ref ?_
      refine r_ldc (v := (-1000000002 : Int32)) X (mem_ix 2 rfl) dX9_restore_8 ?_
      refine r_callVi (rest := []) X (c_X9_error l G (-1000000002 : Int32) σ (oks hf)) md_X9_error gX9_restore_X9_error (by decide) rfl rfl (kd_in kc_129 (by decide)) (EE_9 _ kc_129) rfl rfl (Nat.le_of_ble_eq_true rfl) dX9_restore_10 (fun r12 σ13 e14 => ?_)
      replace hf := okn e14 hf
      exact r_iret X rfl hR (ok0 hf) dX9_restore_13
theorem md_X9_restore : MD yX9_restore wsX9_restore cX9_restore 1 0 (some .int) := ⟨⟨_, rfl⟩, by decide +kernel, by decide +kernel, by decide⟩
theorem c_X9_restore (l : Launch) (G : GX)   (σ : MM) (h : (f_X9_restore  σ).isSome = true) : CTi l G yX9_restore wsX9_restore 4 [.ref (G.1 129)] σ (f_X9_restore  σ) :=
  CTi_of md_X9_restore (Nat.le_of_ble_eq_true rfl) (fun K X hR => e_X9_restore X hR  σ (ok_is h))
-- X9_tell
theorem in_X9_tell_9 : ∀ w ∈ u_ws RX9 TX9 21, w ∈ wsX9_tell := fun _ h => List.mem_cons_of_mem _ (List.mem_append_right _ h)
def f_X9_tell (a1 : Int32) (σ : MM) : Option (Int32 × MM) :=
  if (σ 130 5) = (24 : Int32) then bd (f_X9_error (-1000000004 : Int32) σ) (fun r16 σ17 => some (r16, σ17)) else if ((146 : Int32) + (σ 130 5)) < 0 ∨ 412 ≤ ((146 : Int32) + (σ 130 5)).toNatClampNeg then none else lt (mu σ 130 (((146 : Int32) + (σ 130 5)).toNatClampNeg) a1) (fun σ12 => lt (mu σ12 130 5 ((σ12 130 5) + (1 : Int32))) (fun σ14 => some ((σ14 130 5), σ14)))
set_option maxRecDepth 100000 in
set_option maxHeartbeats 4000000 in
theorem e_X9_tell {l : Launch} {G : GX} {K : KX} (X : FX G K cX9_tell RX9 (some .int) wsX9_tell 2) {Φ : Int32 → MM → Prop} (hR : Ri G K Φ) (a1 : Int32) (σ : MM) (hf : Ok Φ (f_X9_tell a1 σ)) : V l G 4 K 2 0 [(0, .ref (G.1 129)), (1, .int a1)] [] σ := by
    unfold f_X9_tell at hf
    refine r_aload_n X dX9_tell_0 0 rfl isr_ref ?_
    refine r_get (i := 129) (v := .ref (G.1 130)) X in_X9_tell_9 rfl 0 (by decide) (kd_in kc_129 (by decide)) (EE_9 _ kc_129) rfl (mem_ix 1 rfl) dX9_tell_1 ?_
    refine r_iconst X dX9_tell_4 ci_5 ?_
    refine r_iald (i := 130) (jn := 5) X (kd_in kc_130 (by decide)) (EE_26 _ kc_130) (by decide) (by decide) dX9_tell_5 ?_
    refine r_bipush X dX9_tell_6 cb_24 ?_
    refine r_icmp_ne (tgt := 18) X dX9_tell_8 (by decide) (fun h10 => ?_) (fun h10 => ?_)
    · replace hf := okf h10 hf
      refine r_aload_n X dX9_tell_18 0 rfl isr_ref ?_
      refine r_get (i := 129) (v := .ref (G.1 130)) X in_X9_tell_9 rfl 0 (by decide) (kd_in kc_129 (by decide)) (EE_9 _ kc_129) rfl (mem_ix 1 rfl) dX9_tell_19 ?_
      refine r_sipush X dX9_tell_22 cs_146 ?_
      refine r_aload_n X dX9_tell_25 0 rfl isr_ref ?_
      refine r_get (i := 129) (v := .ref (G.1 130)) X in_X9_tell_9 rfl 0 (by decide) (kd_in kc_129 (by decide)) (EE_9 _ kc_129) rfl (mem_ix 1 rfl) dX9_tell_26 ?_
      refine r_iconst X dX9_tell_29 ci_5 ?_
      refine r_iald (i := 130) (jn := 5) X (kd_in kc_130 (by decide)) (EE_26 _ kc_130) (by decide) (by decide) dX9_tell_30 ?_
      refine r_iadd X dX9_tell_31 ?_
      refine r_iload_n X dX9_tell_32 1 rfl ?_
      obtain ⟨g11, hf⟩ := okg hf
      obtain ⟨σ12, e13, hf⟩ := okl hf
      refine r_iast (i := 130) (jn := ((146 : Int32) + (σ 130 5)).toNatClampNeg) X (kd_in kc_130 (by decide)) (fun _ => EE_26 _ kc_130) rfl g11 dX9_tell_33 ?_
      refine r_sg e13 ?_
      refine r_aload_n X dX9_tell_34 0 rfl isr_ref ?_
      refine r_get (i := 129) (v := .ref (G.1 130)) X in_X9_tell_9 rfl 0 (by decide) (kd_in kc_129 (by decide)) (EE_9 _ kc_129) rfl (mem_ix 1 rfl) dX9_tell_35 ?_
      refine r_iconst X dX9_tell_38 ci_5 ?_
      refine r_dup2 X dX9_tell_39 rfl rfl ?_
      refine r_iald (i := 130) (jn := 5) X (kd_in kc_130 (by decide)) (EE_26 _ kc_130) (by decide) (by decide) dX9_tell_40 ?_
      refine r_iconst X dX9_tell_41 ci_1 ?_
      refine r_iadd X dX9_tell_42 ?_
      obtain ⟨σ14, e15, hf⟩ := okl hf
      refine r_iast (i := 130) (jn := 5) X (kd_in kc_130 (by decide)) (fun _ => EE_26 _ kc_130) (by decide) (by decide) dX9_tell_43 ?_
      refine r_sg e15 ?_
      refine r_aload_n X dX9_tell_44 0 rfl isr_ref ?_
      refine r_get (i := 129) (v := .ref (G.1 130)) X in_X9_tell_9 rfl 0 (by decide) (kd_in kc_129 (by decide)) (EE_9 _ kc_129) rfl (mem_ix 1 rfl) dX9_tell_45 ?_
      refine r_iconst X dX9_tell_48 ci_5 ?_
      refine r_iald (i := 130) (jn := 5) X (kd_in kc_130 (by decide)) (EE_26 _ kc_130) (by decide) (by decide) dX9_tell_49 ?_
      exact r_iret X rfl hR (ok0 hf) dX9_tell_50
    · replace hf := okt h10 hf
      refine r_aload_n X dX9_tell_11 0 rfl isr_ref ?_
      refine r_ldc (v := (-1000000004 : Int32)) X (mem_ix 2 rfl) dX9_tell_12 ?_
      refine r_callVi (rest := []) X (c_X9_error l G (-1000000004 : Int32) σ (oks hf)) md_X9_error gX9_tell_X9_error (by decide) rfl rfl (kd_in kc_129 (by decide)) (EE_9 _ kc_129) rfl rfl (Nat.le_of_ble_eq_true rfl) dX9_tell_14 (fun r16 σ17 e18 => ?_)
      replace hf := okn e18 hf
      exact r_iret X rfl hR (ok0 hf) dX9_tell_17
theorem md_X9_tell : MD yX9_tell wsX9_tell cX9_tell 2 1 (some .int) := ⟨⟨_, rfl⟩, by decide +kernel, by decide +kernel, by decide⟩
theorem c_X9_tell (l : Launch) (G : GX)  (a1 : Int32) (σ : MM) (h : (f_X9_tell a1 σ).isSome = true) : CTi l G yX9_tell wsX9_tell 4 [.ref (G.1 129), .int a1] σ (f_X9_tell a1 σ) :=
  CTi_of md_X9_tell (Nat.le_of_ble_eq_true rfl) (fun K X hR => e_X9_tell X hR a1 σ (ok_is h))
-- X9_check
theorem in_X9_check_9 : ∀ w ∈ u_ws RX9 TX9 21, w ∈ wsX9_check := fun _ h => List.mem_cons_of_mem _ (List.mem_append_right _ h)
def u_X9_check_16 (k16 : Int32 → Int32 → MM → Option (Int32 × MM)) (v1 : Int32) (v2 : Int32) (σ : MM) : Option (Int32 × MM) :=
  if v1 ≤ v2 then some ((0 : Int32), σ) else bd (f_X9_isPerson v2 σ) (fun r16 σ17 => if r16 = 0 then some (((1 : Int32) + v2), σ17) else if ((146 : Int32) + v2) < 0 ∨ 412 ≤ ((146 : Int32) + v2).toNatClampNeg then none else bd (f_X9_about v2 (1 : Int32) σ17) (fun r21 σ22 => if (σ17 130 (((146 : Int32) + v2).toNatClampNeg)) = r21 then k16 v1 (v2 + (1 : Int32)) σ22 else some (((1 : Int32) + v2), σ22)))
def l_X9_check_16 (v1 : Int32) (v2 : Int32) (σ : MM) : Option (Int32 × MM) :=
  itr (fun _ _ _ => none) (u_X9_check_16) FU v1 v2 σ
def f_X9_check  (σ : MM) : Option (Int32 × MM) :=
  lt (mu σ 130 5 (0 : Int32)) (fun σ13 => l_X9_check_16 (σ 130 5) (0 : Int32) σ13)
set_option maxRecDepth 100000 in
set_option maxHeartbeats 4000000 in
theorem t_X9_check_16 {l : Launch} {G : GX} {K : KX} (X : FX G K cX9_check RX9 (some .int) wsX9_check 3) {Φ : Int32 → MM → Prop} (hR : Ri G K Φ) (k16 : Int32 → Int32 → MM → Option (Int32 × MM)) (hk16c : ∀ (v1 : Int32) (v2 : Int32) (σ : MM), Ok Φ (k16 v1 v2 σ) → V l G 5 K 3 16 [(0, .ref (G.1 129)), (1, .int v1), (2, .int v2)] [] σ) (v1 : Int32) (v2 : Int32) (σ : MM) (hf : Ok Φ (u_X9_check_16 k16 v1 v2 σ)) : V l G 5 K 3 16 [(0, .ref (G.1 129)), (1, .int v1), (2, .int v2)] [] σ := by
    unfold u_X9_check_16 at hf
    refine r_iload_n X dX9_check_16 2 rfl ?_
    refine r_iload_n X dX9_check_17 1 rfl ?_
    refine r_icmp_ge (tgt := 58) X dX9_check_18 (by decide) (fun h15 => ?_) (fun h15 => ?_)
    · replace hf := okt h15 hf
      refine r_iconst X dX9_check_58 ci_0 ?_
      exact r_iret X rfl hR (ok0 hf) dX9_check_59
    · replace hf := okf h15 hf
      refine r_aload_n X dX9_check_21 0 rfl isr_ref ?_
      refine r_iload_n X dX9_check_22 2 rfl ?_
      refine r_callVi (rest := []) X (c_X9_isPerson l G v2 σ (oks hf)) md_X9_isPerson gX9_check_X9_isPerson (by decide) rfl rfl (kd_in kc_129 (by decide)) (EE_9 _ kc_129) rfl rfl (Nat.le_of_ble_eq_true rfl) dX9_check_23 (fun r16 σ17 e18 => ?_)
      replace hf := okn e18 hf
      refine r_if_eq (tgt := 48) X dX9_check_26 (by decide) (fun h19 => ?_) (fun h19 => ?_)
      · replace hf := okt h19 hf
        refine r_iconst X dX9_check_48 ci_1 ?_
        refine r_iload_n X dX9_check_49 2 rfl ?_
        refine r_iadd X dX9_check_50 ?_
        exact r_iret X rfl hR (ok0 hf) dX9_check_51
      · replace hf := okf h19 hf
        refine r_aload_n X dX9_check_29 0 rfl isr_ref ?_
        refine r_get (i := 129) (v := .ref (G.1 130)) X in_X9_check_9 rfl 0 (by decide) (kd_in kc_129 (by decide)) (EE_9 _ kc_129) rfl (mem_ix 1 rfl) dX9_check_30 ?_
        refine r_sipush X dX9_check_33 cs_146 ?_
        refine r_iload_n X dX9_check_36 2 rfl ?_
        refine r_iadd X dX9_check_37 ?_
        obtain ⟨g20, hf⟩ := okg hf
        refine r_iald (i := 130) (jn := ((146 : Int32) + v2).toNatClampNeg) X (kd_in kc_130 (by decide)) (EE_26 _ kc_130) rfl g20 dX9_check_38 ?_
        refine r_aload_n X dX9_check_39 0 rfl isr_ref ?_
        refine r_iload_n X dX9_check_40 2 rfl ?_
        refine r_iconst X dX9_check_41 ci_1 ?_
        refine r_callVi (rest := [.int (σ17 130 (((146 : Int32) + v2).toNatClampNeg))]) X (c_X9_about l G v2 (1 : Int32) σ17 (oks hf)) md_X9_about gX9_check_X9_about (by decide) rfl rfl (kd_in kc_129 (by decide)) (EE_9 _ kc_129) rfl rfl (Nat.le_of_ble_eq_true rfl) dX9_check_42 (fun r21 σ22 e23 => ?_)
        replace hf := okn e23 hf
        refine r_icmp_eq (tgt := 52) X dX9_check_45 (by decide) (fun h24 => ?_) (fun h24 => ?_)
        · replace hf := okt h24 hf
          refine r_iinc (v := (v2 + (1 : Int32))) X dX9_check_52 2 rfl (congrArg _ ci_1) (by decide) (lv' := [(2, .int (v2 + (1 : Int32))), (0, .ref (G.1 129)), (1, .int v1)]) rfl ?_
          refine r_goto (tgt := 16) X dX9_check_55 (by decide) ?_
          refine r_sub [1, 2, 0] rfl ?_
          exact hk16c v1 (v2 + (1 : Int32)) σ22 hf
        · replace hf := okf h24 hf
          refine r_iconst X dX9_check_48 ci_1 ?_
          refine r_iload_n X dX9_check_49 2 rfl ?_
          refine r_iadd X dX9_check_50 ?_
          exact r_iret X rfl hR (ok0 hf) dX9_check_51
theorem tl_X9_check_16 {l : Launch} {G : GX} {K : KX} (X : FX G K cX9_check RX9 (some .int) wsX9_check 3) {Φ : Int32 → MM → Prop} (hR : Ri G K Φ) : ∀ (m : Nat) (v1 : Int32) (v2 : Int32) (σ : MM), Ok Φ (itr (fun _ _ _ => none) (u_X9_check_16) m v1 v2 σ) → V l G 5 K 3 16 [(0, .ref (G.1 129)), (1, .int v1), (2, .int v2)] [] σ := by
  intro m
  induction m with
  | zero => intro v1 v2 σ hf; exact (okx hf).elim
  | succ m ih => intro v1 v2 σ hf; exact t_X9_check_16 X hR _ ih v1 v2 σ hf
set_option maxRecDepth 100000 in
set_option maxHeartbeats 4000000 in
theorem e_X9_check {l : Launch} {G : GX} {K : KX} (X : FX G K cX9_check RX9 (some .int) wsX9_check 3) {Φ : Int32 → MM → Prop} (hR : Ri G K Φ)  (σ : MM) (hf : Ok Φ (f_X9_check  σ)) : V l G 5 K 3 0 [(0, .ref (G.1 129))] [] σ := by
    unfold f_X9_check at hf
    refine r_aload_n X dX9_check_0 0 rfl isr_ref ?_
    refine r_get (i := 129) (v := .ref (G.1 130)) X in_X9_check_9 rfl 0 (by decide) (kd_in kc_129 (by decide)) (EE_9 _ kc_129) rfl (mem_ix 1 rfl) dX9_check_1 ?_
    refine r_iconst X dX9_check_4 ci_5 ?_
    refine r_iald (i := 130) (jn := 5) X (kd_in kc_130 (by decide)) (EE_26 _ kc_130) (by decide) (by decide) dX9_check_5 ?_
    refine r_istore_n X dX9_check_6 (i := 1) rfl (by decide) (lv' := [(1, .int (σ 130 5)), (0, .ref (G.1 129))]) rfl ?_
    refine r_aload_n X dX9_check_7 1 rfl isr_ref ?_
    refine r_get (i := 129) (v := .ref (G.1 130)) X in_X9_check_9 rfl 0 (by decide) (kd_in kc_129 (by decide)) (EE_9 _ kc_129) rfl (mem_ix 1 rfl) dX9_check_8 ?_
    refine r_iconst X dX9_check_11 ci_5 ?_
    refine r_iconst X dX9_check_12 ci_0 ?_
    obtain ⟨σ13, e14, hf⟩ := okl hf
    refine r_iast (i := 130) (jn := 5) X (kd_in kc_130 (by decide)) (fun _ => EE_26 _ kc_130) (by decide) (by decide) dX9_check_13 ?_
    refine r_sg e14 ?_
    refine r_iconst X dX9_check_14 ci_0 ?_
    refine r_istore_n X dX9_check_15 (i := 2) rfl (by decide) (lv' := [(2, .int (0 : Int32)), (1, .int (σ 130 5)), (0, .ref (G.1 129))]) rfl ?_
    refine r_sub [2, 1, 0] rfl ?_
    exact tl_X9_check_16 X hR FU (σ 130 5) (0 : Int32) σ13 hf
theorem md_X9_check : MD yX9_check wsX9_check cX9_check 3 0 (some .int) := ⟨⟨_, rfl⟩, by decide +kernel, by decide +kernel, by decide⟩
theorem c_X9_check (l : Launch) (G : GX)   (σ : MM) (h : (f_X9_check  σ).isSome = true) : CTi l G yX9_check wsX9_check 5 [.ref (G.1 129)] σ (f_X9_check  σ) :=
  CTi_of md_X9_check (Nat.le_of_ble_eq_true rfl) (fun K X hR => e_X9_check X hR  σ (ok_is h))
-- X9_count
theorem in_X9_count_9 : ∀ w ∈ u_ws RX9 TX9 21, w ∈ wsX9_count := fun _ h => List.mem_cons_of_mem _ (List.mem_append_right _ h)
def f_X9_count (a1 : Int32) (σ : MM) : Option (Int32 × MM) :=
  if a1 = (0 : Int32) then some ((σ 130 2), σ) else if a1 = (1 : Int32) then some ((σ 130 3), σ) else if a1 = (2 : Int32) then some ((σ 130 0), σ) else if a1 = (3 : Int32) then some ((σ 130 4), σ) else if a1 = (4 : Int32) then some ((σ 130 5), σ) else if a1 = (5 : Int32) then some ((σ 129 19), σ) else if a1 = (6 : Int32) then some ((σ 130 1), σ) else bd (f_X9_error (-1000000001 : Int32) σ) (fun r18 σ19 => some (r18, σ19))
set_option maxRecDepth 100000 in
set_option maxHeartbeats 4000000 in
theorem e_X9_count {l : Launch} {G : GX} {K : KX} (X : FX G K cX9_count RX9 (some .int) wsX9_count 2) {Φ : Int32 → MM → Prop} (hR : Ri G K Φ) (a1 : Int32) (σ : MM) (hf : Ok Φ (f_X9_count a1 σ)) : V l G 4 K 2 0 [(0, .ref (G.1 129)), (1, .int a1)] [] σ := by
    unfold f_X9_count at hf
    refine r_iload_n X dX9_count_0 1 rfl ?_
    by_cases h11 : a1 = (0 : Int32)
    · replace hf := okt h11 hf
      refine r_table (off := 43) (tgt := 44) X [(0, 43), (1, 50), (2, 57), (3, 64), (4, 71), (5, 78), (6, 83)] 7 dX9_count_1 (by decide) (by decide +kernel) (by decide +kernel) (by rw [h11]; rfl) (by decide) ?_
      refine r_aload_n X dX9_count_44 0 rfl isr_ref ?_
      refine r_get (i := 129) (v := .ref (G.1 130)) X in_X9_count_9 rfl 0 (by decide) (kd_in kc_129 (by decide)) (EE_9 _ kc_129) rfl (mem_ix 1 rfl) dX9_count_45 ?_
      refine r_iconst X dX9_count_48 ci_2 ?_
      refine r_iald (i := 130) (jn := 2) X (kd_in kc_130 (by decide)) (EE_26 _ kc_130) (by decide) (by decide) dX9_count_49 ?_
      exact r_iret X rfl hR (ok0 hf) dX9_count_50
    replace hf := okf h11 hf
    by_cases h12 : a1 = (1 : Int32)
    · replace hf := okt h12 hf
      refine r_table (off := 50) (tgt := 51) X [(0, 43), (1, 50), (2, 57), (3, 64), (4, 71), (5, 78), (6, 83)] 7 dX9_count_1 (by decide) (by decide +kernel) (by decide +kernel) (by rw [h12]; rfl) (by decide) ?_
      refine r_aload_n X dX9_count_51 0 rfl isr_ref ?_
      refine r_get (i := 129) (v := .ref (G.1 130)) X in_X9_count_9 rfl 0 (by decide) (kd_in kc_129 (by decide)) (EE_9 _ kc_129) rfl (mem_ix 1 rfl) dX9_count_52 ?_
      refine r_iconst X dX9_count_55 ci_3 ?_
      refine r_iald (i := 130) (jn := 3) X (kd_in kc_130 (by decide)) (EE_26 _ kc_130) (by decide) (by decide) dX9_count_56 ?_
      exact r_iret X rfl hR (ok0 hf) dX9_count_57
    replace hf := okf h12 hf
    by_cases h13 : a1 = (2 : Int32)
    · replace hf := okt h13 hf
      refine r_table (off := 57) (tgt := 58) X [(0, 43), (1, 50), (2, 57), (3, 64), (4, 71), (5, 78), (6, 83)] 7 dX9_count_1 (by decide) (by decide +kernel) (by decide +kernel) (by rw [h13]; rfl) (by decide) ?_
      refine r_aload_n X dX9_count_58 0 rfl isr_ref ?_
      refine r_get (i := 129) (v := .ref (G.1 130)) X in_X9_count_9 rfl 0 (by decide) (kd_in kc_129 (by decide)) (EE_9 _ kc_129) rfl (mem_ix 1 rfl) dX9_count_59 ?_
      refine r_iconst X dX9_count_62 ci_0 ?_
      refine r_iald (i := 130) (jn := 0) X (kd_in kc_130 (by decide)) (EE_26 _ kc_130) (by decide) (by decide) dX9_count_63 ?_
      exact r_iret X rfl hR (ok0 hf) dX9_count_64
    replace hf := okf h13 hf
    by_cases h14 : a1 = (3 : Int32)
    · replace hf := okt h14 hf
      refine r_table (off := 64) (tgt := 65) X [(0, 43), (1, 50), (2, 57), (3, 64), (4, 71), (5, 78), (6, 83)] 7 dX9_count_1 (by decide) (by decide +kernel) (by decide +kernel) (by rw [h14]; rfl) (by decide) ?_
      refine r_aload_n X dX9_count_65 0 rfl isr_ref ?_
      refine r_get (i := 129) (v := .ref (G.1 130)) X in_X9_count_9 rfl 0 (by decide) (kd_in kc_129 (by decide)) (EE_9 _ kc_129) rfl (mem_ix 1 rfl) dX9_count_66 ?_
      refine r_iconst X dX9_count_69 ci_4 ?_
      refine r_iald (i := 130) (jn := 4) X (kd_in kc_130 (by decide)) (EE_26 _ kc_130) (by decide) (by decide) dX9_count_70 ?_
      exact r_iret X rfl hR (ok0 hf) dX9_count_71
    replace hf := okf h14 hf
    by_cases h15 : a1 = (4 : Int32)
    · replace hf := okt h15 hf
      refine r_table (off := 71) (tgt := 72) X [(0, 43), (1, 50), (2, 57), (3, 64), (4, 71), (5, 78), (6, 83)] 7 dX9_count_1 (by decide) (by decide +kernel) (by decide +kernel) (by rw [h15]; rfl) (by decide) ?_
      refine r_aload_n X dX9_count_72 0 rfl isr_ref ?_
      refine r_get (i := 129) (v := .ref (G.1 130)) X in_X9_count_9 rfl 0 (by decide) (kd_in kc_129 (by decide)) (EE_9 _ kc_129) rfl (mem_ix 1 rfl) dX9_count_73 ?_
      refine r_iconst X dX9_count_76 ci_5 ?_
      refine r_iald (i := 130) (jn := 5) X (kd_in kc_130 (by decide)) (EE_26 _ kc_130) (by decide) (by decide) dX9_count_77 ?_
      exact r_iret X rfl hR (ok0 hf) dX9_count_78
    replace hf := okf h15 hf
    by_cases h16 : a1 = (5 : Int32)
    · replace hf := okt h16 hf
      refine r_table (off := 78) (tgt := 79) X [(0, 43), (1, 50), (2, 57), (3, 64), (4, 71), (5, 78), (6, 83)] 7 dX9_count_1 (by decide) (by decide +kernel) (by decide +kernel) (by rw [h16]; rfl) (by decide) ?_
      refine r_aload_n X dX9_count_79 0 rfl isr_ref ?_
      refine r_get (i := 129) (v := .int (σ 129 19)) X in_X9_count_9 rfl 19 (by decide) (kd_in kc_129 (by decide)) (EE_9 _ kc_129) rfl (mem_ix 2 rfl) dX9_count_80 ?_
      exact r_iret X rfl hR (ok0 hf) dX9_count_83
    replace hf := okf h16 hf
    by_cases h17 : a1 = (6 : Int32)
    · replace hf := okt h17 hf
      refine r_table (off := 83) (tgt := 84) X [(0, 43), (1, 50), (2, 57), (3, 64), (4, 71), (5, 78), (6, 83)] 7 dX9_count_1 (by decide) (by decide +kernel) (by decide +kernel) (by rw [h17]; rfl) (by decide) ?_
      refine r_aload_n X dX9_count_84 0 rfl isr_ref ?_
      refine r_get (i := 129) (v := .ref (G.1 130)) X in_X9_count_9 rfl 0 (by decide) (kd_in kc_129 (by decide)) (EE_9 _ kc_129) rfl (mem_ix 1 rfl) dX9_count_85 ?_
      refine r_iconst X dX9_count_88 ci_1 ?_
      refine r_iald (i := 130) (jn := 1) X (kd_in kc_130 (by decide)) (EE_26 _ kc_130) (by decide) (by decide) dX9_count_89 ?_
      exact r_iret X rfl hR (ok0 hf) dX9_count_90
    replace hf := okf h17 hf
    refine r_table (off := 90) (tgt := 91) X [(0, 43), (1, 50), (2, 57), (3, 64), (4, 71), (5, 78), (6, 83)] 7 dX9_count_1 (by decide) (by decide +kernel) (by decide +kernel) (lk_n h11 (by decide) (lk_n h12 (by decide) (lk_n h13 (by decide) (lk_n h14 (by decide) (lk_n h15 (by decide) (lk_n h16 (by decide) (lk_n h17 (by decide) rfl))))))) (by decide) ?_
    refine r_aload_n X dX9_count_91 0 rfl isr_ref ?_
    refine r_ldc (v := (-1000000001 : Int32)) X (mem_ix 3 rfl) dX9_count_92 ?_
    refine r_callVi (rest := []) X (c_X9_error l G (-1000000001 : Int32) σ (oks hf)) md_X9_error gX9_count_X9_error (by decide) rfl rfl (kd_in kc_129 (by decide)) (EE_9 _ kc_129) rfl rfl (Nat.le_of_ble_eq_true rfl) dX9_count_94 (fun r18 σ19 e20 => ?_)
    replace hf := okn e20 hf
    exact r_iret X rfl hR (ok0 hf) dX9_count_97
theorem md_X9_count : MD yX9_count wsX9_count cX9_count 2 1 (some .int) := ⟨⟨_, rfl⟩, by decide +kernel, by decide +kernel, by decide⟩
theorem c_X9_count (l : Launch) (G : GX)  (a1 : Int32) (σ : MM) (h : (f_X9_count a1 σ).isSome = true) : CTi l G yX9_count wsX9_count 4 [.ref (G.1 129), .int a1] σ (f_X9_count a1 σ) :=
  CTi_of md_X9_count (Nat.le_of_ble_eq_true rfl) (fun K X hR => e_X9_count X hR a1 σ (ok_is h))
-- X9_told
theorem in_X9_told_9 : ∀ w ∈ u_ws RX9 TX9 21, w ∈ wsX9_told := fun _ h => List.mem_cons_of_mem _ (List.mem_append_right _ h)
def f_X9_told (a1 : Int32) (σ : MM) : Option (Int32 × MM) :=
  bd (f_X9_in a1 (1 : Int32) (6 : Int32) σ) (fun r9 σ10 => if r9 = 0 then bd (f_X9_error (-1000000001 : Int32) σ10) (fun r13 σ14 => some (r13, σ14)) else if a1 < 0 ∨ 7 ≤ a1.toNatClampNeg then none else some ((σ10 133 (a1.toNatClampNeg)), σ10))
set_option maxRecDepth 100000 in
set_option maxHeartbeats 4000000 in
theorem e_X9_told {l : Launch} {G : GX} {K : KX} (X : FX G K cX9_told RX9 (some .int) wsX9_told 2) {Φ : Int32 → MM → Prop} (hR : Ri G K Φ) (a1 : Int32) (σ : MM) (hf : Ok Φ (f_X9_told a1 σ)) : V l G 4 K 2 0 [(0, .ref (G.1 129)), (1, .int a1)] [] σ := by
    unfold f_X9_told at hf
    refine r_iload_n X dX9_told_0 1 rfl ?_
    refine r_iconst X dX9_told_1 ci_1 ?_
    refine r_bipush X dX9_told_2 cb_6 ?_
    refine r_callSi (rest := []) X (c_X9_in l G a1 (1 : Int32) (6 : Int32) σ (oks hf)) md_X9_in gX9_told_X9_in (by decide) rfl rfl (Nat.le_of_ble_eq_true rfl) dX9_told_4 (fun r9 σ10 e11 => ?_)
    replace hf := okn e11 hf
    refine r_if_eq (tgt := 19) X dX9_told_7 (by decide) (fun h12 => ?_) (fun h12 => ?_)
    · replace hf := okt h12 hf
      refine r_aload_n X dX9_told_19 0 rfl isr_ref ?_
      refine r_ldc (v := (-1000000001 : Int32)) X (mem_ix 2 rfl) dX9_told_20 ?_
      refine r_callVi (rest := []) X (c_X9_error l G (-1000000001 : Int32) σ10 (oks hf)) md_X9_error gX9_told_X9_error (by decide) rfl rfl (kd_in kc_129 (by decide)) (EE_9 _ kc_129) rfl rfl (Nat.le_of_ble_eq_true rfl) dX9_told_22 (fun r13 σ14 e15 => ?_)
      replace hf := okn e15 hf
      exact r_iret X rfl hR (ok0 hf) dX9_told_25
    · replace hf := okf h12 hf
      refine r_aload_n X dX9_told_10 0 rfl isr_ref ?_
      refine r_get (i := 129) (v := .ref (G.1 133)) X in_X9_told_9 rfl 4 (by decide) (kd_in kc_129 (by decide)) (EE_9 _ kc_129) rfl (mem_ix 1 rfl) dX9_told_11 ?_
      refine r_iload_n X dX9_told_14 1 rfl ?_
      obtain ⟨g16, hf⟩ := okg hf
      refine r_iald (i := 133) (jn := a1.toNatClampNeg) X (kd_in kc_133 (by decide)) (EE_25 _ kc_133) rfl g16 dX9_told_15 ?_
      refine r_goto (tgt := 25) X dX9_told_16 (by decide) ?_
      exact r_iret X rfl hR (ok0 hf) dX9_told_25
theorem md_X9_told : MD yX9_told wsX9_told cX9_told 2 1 (some .int) := ⟨⟨_, rfl⟩, by decide +kernel, by decide +kernel, by decide⟩
theorem c_X9_told (l : Launch) (G : GX)  (a1 : Int32) (σ : MM) (h : (f_X9_told a1 σ).isSome = true) : CTi l G yX9_told wsX9_told 4 [.ref (G.1 129), .int a1] σ (f_X9_told a1 σ) :=
  CTi_of md_X9_told (Nat.le_of_ble_eq_true rfl) (fun K X hR => e_X9_told X hR a1 σ (ok_is h))

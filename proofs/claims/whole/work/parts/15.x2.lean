theorem md_X1_choose : MD yX1_choose wsX1_choose cX1_choose 7 4 (some .boolean) := ⟨⟨_, rfl⟩, by decide +kernel, by decide +kernel, by decide⟩
-- X1_choose
theorem in_X1_choose_1 : ∀ w ∈ u_ws RX1 TX1 4, w ∈ wsX1_choose := fun _ h => List.mem_cons_of_mem _ (List.mem_append_right _ h)
def u_X1_choose_14 (ch : Int32 → Int32 → Int32 → Int32 → MM → Option (Int32 × MM)) (v4 : Int32) (σ : MM) : Option (Int32 × MM) :=
  if v4 = (σ 115 3) then some ((1 : Int32), σ) else some ((0 : Int32), σ)
def u_X1_choose_32 (ch : Int32 → Int32 → Int32 → Int32 → MM → Option (Int32 × MM)) (k32 : Int32 → Int32 → Int32 → Int32 → MM → Option (Int32 × MM)) (v1 : Int32) (v2 : Int32) (v4 : Int32) (v5 : Int32) (σ : MM) : Option (Int32 × MM) :=
  if (100 : Int32) ≤ v5 then some ((0 : Int32), σ) else if v5 < 0 ∨ 100 ≤ v5.toNatClampNeg then none else if (v4 ||| (σ 117 (v5.toNatClampNeg))) = (σ 115 3) then if (v4 ||| (σ 116 (v5.toNatClampNeg))) = v4 then k32 v1 v2 v4 (v5 + (1 : Int32)) σ else if v1 < 0 ∨ 3 ≤ v1.toNatClampNeg then none else lt (mu σ 118 (v1.toNatClampNeg) v5) (fun σ23 => bd (ch (v1 + (1 : Int32)) v2 (v5 + (1 : Int32)) (v4 ||| (σ 116 (v5.toNatClampNeg))) σ23) (fun r25 σ26 => if r25 = 0 then k32 v1 v2 v4 (v5 + (1 : Int32)) σ26 else some ((1 : Int32), σ26))) else some ((0 : Int32), σ)
def l_X1_choose_32 (ch : Int32 → Int32 → Int32 → Int32 → MM → Option (Int32 × MM)) (v1 : Int32) (v2 : Int32) (v4 : Int32) (v5 : Int32) (σ : MM) : Option (Int32 × MM) :=
  itr (fun _ _ _ _ _ => none) (u_X1_choose_32 ch) FU v1 v2 v4 v5 σ
def g_X1_choose (ch : Int32 → Int32 → Int32 → Int32 → MM → Option (Int32 × MM)) (a1 : Int32) (a2 : Int32) (a3 : Int32) (a4 : Int32) (σ : MM) : Option (Int32 × MM) :=
  if a2 ≤ a1 then u_X1_choose_14 ch a4 σ else if a1 < (3 : Int32) then l_X1_choose_32 ch a1 a2 a4 a3 σ else u_X1_choose_14 ch a4 σ
set_option maxRecDepth 100000 in
set_option maxHeartbeats 4000000 in
theorem t_X1_choose_14 {l : Launch} {G : GX} {n0 : Nat} {K : KX} (X : FX G K cX1_choose RX1 (some .boolean) wsX1_choose 7) {Φ : Int32 → MM → Prop} (hR : Ri G K Φ) (ch : Int32 → Int32 → Int32 → Int32 → MM → Option (Int32 × MM)) (hch : ∀ (b1 b2 b3 b4 : Int32) (σ : MM), (ch b1 b2 b3 b4 σ).isSome = true → CTi l G yX1_choose wsX1_choose n0 [.ref (G.1 115), .int b1, .int b2, .int b3, .int b4] σ (ch b1 b2 b3 b4 σ)) (hn0 : 2 ≤ n0) (v4 : Int32) (σ : MM) (hf : Ok Φ (u_X1_choose_14 ch v4 σ)) : V l G (n0 + 1) K 7 14 [(0, .ref (G.1 115)), (4, .int v4)] [] σ := by
    unfold u_X1_choose_14 at hf
    refine r_iload X dX1_choose_14 1 rfl ?_
    refine r_aload_n X dX1_choose_16 0 rfl isr_ref ?_
    refine r_get (i := 115) (v := .int (σ 115 3)) X in_X1_choose_1 rfl 3 (by decide) (kd_in kc_115 (by decide)) (EE_1 _ kc_115) rfl (mem_ix 2 rfl) dX1_choose_17 ?_
    refine r_icmp_ne (tgt := 27) X dX1_choose_20 (by decide) (fun h16 => ?_) (fun h16 => ?_)
    · replace hf := okf h16 hf
      refine r_iconst X dX1_choose_27 ci_0 ?_
      exact r_zret X rfl hR (by decide) (ok0 hf) dX1_choose_28
    · replace hf := okt h16 hf
      refine r_iconst X dX1_choose_23 ci_1 ?_
      refine r_goto (tgt := 28) X dX1_choose_24 (by decide) ?_
      exact r_zret X rfl hR (by decide) (ok0 hf) dX1_choose_28
set_option maxRecDepth 100000 in
set_option maxHeartbeats 4000000 in
theorem t_X1_choose_32 {l : Launch} {G : GX} {n0 : Nat} {K : KX} (X : FX G K cX1_choose RX1 (some .boolean) wsX1_choose 7) {Φ : Int32 → MM → Prop} (hR : Ri G K Φ) (ch : Int32 → Int32 → Int32 → Int32 → MM → Option (Int32 × MM)) (hch : ∀ (b1 b2 b3 b4 : Int32) (σ : MM), (ch b1 b2 b3 b4 σ).isSome = true → CTi l G yX1_choose wsX1_choose n0 [.ref (G.1 115), .int b1, .int b2, .int b3, .int b4] σ (ch b1 b2 b3 b4 σ)) (hn0 : 2 ≤ n0) (k32 : Int32 → Int32 → Int32 → Int32 → MM → Option (Int32 × MM)) (hk32c : ∀ (v1 : Int32) (v2 : Int32) (v4 : Int32) (v5 : Int32) (σ : MM), Ok Φ (k32 v1 v2 v4 v5 σ) → V l G (n0 + 1) K 7 32 [(0, .ref (G.1 115)), (1, .int v1), (2, .int v2), (4, .int v4), (5, .int v5)] [] σ) (v1 : Int32) (v2 : Int32) (v4 : Int32) (v5 : Int32) (σ : MM) (hf : Ok Φ (u_X1_choose_32 ch k32 v1 v2 v4 v5 σ)) : V l G (n0 + 1) K 7 32 [(0, .ref (G.1 115)), (1, .int v1), (2, .int v2), (4, .int v4), (5, .int v5)] [] σ := by
    unfold u_X1_choose_32 at hf
    refine r_iload X dX1_choose_32 4 rfl ?_
    refine r_bipush X dX1_choose_34 cb_100 ?_
    refine r_icmp_ge (tgt := 108) X dX1_choose_36 (by decide) (fun h18 => ?_) (fun h18 => ?_)
    · replace hf := okt h18 hf
      refine r_iconst X dX1_choose_108 ci_0 ?_
      exact r_zret X rfl hR (by decide) (ok0 hf) dX1_choose_109
    · replace hf := okf h18 hf
      refine r_iload X dX1_choose_39 3 rfl ?_
      refine r_aload_n X dX1_choose_41 0 rfl isr_ref ?_
      refine r_get (i := 115) (v := .ref (G.1 117)) X in_X1_choose_1 rfl 1 (by decide) (kd_in kc_115 (by decide)) (EE_1 _ kc_115) rfl (mem_ix 3 rfl) dX1_choose_42 ?_
      refine r_iload X dX1_choose_45 4 rfl ?_
      obtain ⟨g19, hf⟩ := okg hf
      refine r_iald (i := 117) (jn := v5.toNatClampNeg) X (kd_in kc_117 (by decide)) (EE_23 _ kc_117) rfl g19 dX1_choose_47 ?_
      refine r_ior X dX1_choose_48 ?_
      refine r_aload_n X dX1_choose_49 0 rfl isr_ref ?_
      refine r_get (i := 115) (v := .int (σ 115 3)) X in_X1_choose_1 rfl 3 (by decide) (kd_in kc_115 (by decide)) (EE_1 _ kc_115) rfl (mem_ix 2 rfl) dX1_choose_50 ?_
      refine r_icmp_ne (tgt := 108) X dX1_choose_53 (by decide) (fun h20 => ?_) (fun h20 => ?_)
      · replace hf := okf h20 hf
        refine r_iconst X dX1_choose_108 ci_0 ?_
        exact r_zret X rfl hR (by decide) (ok0 hf) dX1_choose_109
      · replace hf := okt h20 hf
        refine r_iload X dX1_choose_56 3 rfl ?_
        refine r_aload_n X dX1_choose_58 0 rfl isr_ref ?_
        refine r_get (i := 115) (v := .ref (G.1 116)) X in_X1_choose_1 rfl 0 (by decide) (kd_in kc_115 (by decide)) (EE_1 _ kc_115) rfl (mem_ix 4 rfl) dX1_choose_59 ?_
        refine r_iload X dX1_choose_62 4 rfl ?_
        refine r_iald (i := 116) (jn := v5.toNatClampNeg) X (kd_in kc_116 (by decide)) (EE_23 _ kc_116) rfl g19 dX1_choose_64 ?_
        refine r_ior X dX1_choose_65 ?_
        refine r_istore X dX1_choose_66 (by decide) (lv' := [(6, .int (v4 ||| (σ 116 (v5.toNatClampNeg)))), (0, .ref (G.1 115)), (1, .int v1), (2, .int v2), (4, .int v4), (5, .int v5)]) rfl ?_
        refine r_iload X dX1_choose_68 0 rfl ?_
        refine r_iload X dX1_choose_70 4 rfl ?_
        refine r_icmp_eq (tgt := 102) X dX1_choose_72 (by decide) (fun h21 => ?_) (fun h21 => ?_)
        · replace hf := okt h21 hf
          refine r_iinc (v := (v5 + (1 : Int32))) X dX1_choose_102 5 rfl (congrArg _ ci_1) (by decide) (lv' := [(5, .int (v5 + (1 : Int32))), (6, .int (v4 ||| (σ 116 (v5.toNatClampNeg)))), (0, .ref (G.1 115)), (1, .int v1), (2, .int v2), (4, .int v4)]) rfl ?_
          refine r_goto (tgt := 32) X dX1_choose_105 (by decide) ?_
          refine r_sub [2, 3, 4, 5, 0] rfl ?_
          exact hk32c v1 v2 v4 (v5 + (1 : Int32)) σ hf
        · replace hf := okf h21 hf
          refine r_aload_n X dX1_choose_75 1 rfl isr_ref ?_
          refine r_get (i := 115) (v := .ref (G.1 118)) X in_X1_choose_1 rfl 2 (by decide) (kd_in kc_115 (by decide)) (EE_1 _ kc_115) rfl (mem_ix 1 rfl) dX1_choose_76 ?_
          refine r_iload_n X dX1_choose_79 2 rfl ?_
          refine r_iload X dX1_choose_80 5 rfl ?_
          obtain ⟨g22, hf⟩ := okg hf
          obtain ⟨σ23, e24, hf⟩ := okl hf
          refine r_iast (i := 118) (jn := v1.toNatClampNeg) X (kd_in kc_118 (by decide)) (fun _ => EE_24 _ kc_118) rfl g22 dX1_choose_82 ?_
          refine r_sg e24 ?_
          refine r_aload_n X dX1_choose_83 1 rfl isr_ref ?_
          refine r_iload_n X dX1_choose_84 2 rfl ?_
          refine r_iconst X dX1_choose_85 ci_1 ?_
          refine r_iadd X dX1_choose_86 ?_
          refine r_iload_n X dX1_choose_87 3 rfl ?_
          refine r_iload X dX1_choose_88 5 rfl ?_
          refine r_iconst X dX1_choose_90 ci_1 ?_
          refine r_iadd X dX1_choose_91 ?_
          refine r_iload X dX1_choose_92 0 rfl ?_
          refine r_callVi (rest := []) X (hch (v1 + (1 : Int32)) v2 (v5 + (1 : Int32)) (v4 ||| (σ 116 (v5.toNatClampNeg))) σ23 (oks hf)) md_X1_choose gX1_choose_X1_choose (by omega) rfl rfl (kd_in kc_115 (by decide)) (EE_1 _ kc_115) rfl rfl (Nat.le_of_ble_eq_true rfl) dX1_choose_94 (fun r25 σ26 e27 => ?_)
          replace hf := okn e27 hf
          refine r_if_eq (tgt := 102) X dX1_choose_97 (by decide) (fun h28 => ?_) (fun h28 => ?_)
          · replace hf := okt h28 hf
            refine r_iinc (v := (v5 + (1 : Int32))) X dX1_choose_102 5 rfl (congrArg _ ci_1) (by decide) (lv' := [(5, .int (v5 + (1 : Int32))), (6, .int (v4 ||| (σ 116 (v5.toNatClampNeg)))), (0, .ref (G.1 115)), (1, .int v1), (2, .int v2), (4, .int v4)]) rfl ?_
            refine r_goto (tgt := 32) X dX1_choose_105 (by decide) ?_
            refine r_sub [2, 3, 4, 5, 0] rfl ?_
            exact hk32c v1 v2 v4 (v5 + (1 : Int32)) σ26 hf
          · replace hf := okf h28 hf
            refine r_iconst X dX1_choose_100 ci_1 ?_
            exact r_zret X rfl hR (by decide) (ok0 hf) dX1_choose_101
theorem tl_X1_choose_32 {l : Launch} {G : GX} {n0 : Nat} {K : KX} (X : FX G K cX1_choose RX1 (some .boolean) wsX1_choose 7) {Φ : Int32 → MM → Prop} (hR : Ri G K Φ) (ch : Int32 → Int32 → Int32 → Int32 → MM → Option (Int32 × MM)) (hch : ∀ (b1 b2 b3 b4 : Int32) (σ : MM), (ch b1 b2 b3 b4 σ).isSome = true → CTi l G yX1_choose wsX1_choose n0 [.ref (G.1 115), .int b1, .int b2, .int b3, .int b4] σ (ch b1 b2 b3 b4 σ)) (hn0 : 2 ≤ n0) : ∀ (m : Nat) (v1 : Int32) (v2 : Int32) (v4 : Int32) (v5 : Int32) (σ : MM), Ok Φ (itr (fun _ _ _ _ _ => none) (u_X1_choose_32 ch) m v1 v2 v4 v5 σ) → V l G (n0 + 1) K 7 32 [(0, .ref (G.1 115)), (1, .int v1), (2, .int v2), (4, .int v4), (5, .int v5)] [] σ := by
  intro m
  induction m with
  | zero => intro v1 v2 v4 v5 σ hf; exact (okx hf).elim
  | succ m ih => intro v1 v2 v4 v5 σ hf; exact t_X1_choose_32 X hR ch hch hn0 _ ih v1 v2 v4 v5 σ hf
set_option maxRecDepth 100000 in
set_option maxHeartbeats 4000000 in
theorem e_X1_choose {l : Launch} {G : GX} {n0 : Nat} {K : KX} (X : FX G K cX1_choose RX1 (some .boolean) wsX1_choose 7) {Φ : Int32 → MM → Prop} (hR : Ri G K Φ) (ch : Int32 → Int32 → Int32 → Int32 → MM → Option (Int32 × MM)) (hch : ∀ (b1 b2 b3 b4 : Int32) (σ : MM), (ch b1 b2 b3 b4 σ).isSome = true → CTi l G yX1_choose wsX1_choose n0 [.ref (G.1 115), .int b1, .int b2, .int b3, .int b4] σ (ch b1 b2 b3 b4 σ)) (hn0 : 2 ≤ n0) (a1 : Int32) (a2 : Int32) (a3 : Int32) (a4 : Int32) (σ : MM) (hf : Ok Φ (g_X1_choose ch a1 a2 a3 a4 σ)) : V l G (n0 + 1) K 7 0 [(0, .ref (G.1 115)), (1, .int a1), (2, .int a2), (3, .int a3), (4, .int a4)] [] σ := by
    unfold g_X1_choose at hf
    refine r_iload_n X dX1_choose_0 1 rfl ?_
    refine r_iload_n X dX1_choose_1 2 rfl ?_
    refine r_icmp_ge (tgt := 14) X dX1_choose_2 (by decide) (fun h15 => ?_) (fun h15 => ?_)
    · replace hf := okt h15 hf
      refine r_sub [0, 4] rfl ?_
      exact t_X1_choose_14 X hR ch hch hn0 a4 σ hf
    · replace hf := okf h15 hf
      refine r_iload_n X dX1_choose_5 1 rfl ?_
      refine r_aload_n X dX1_choose_6 0 rfl isr_ref ?_
      refine r_get (i := 115) (v := .ref (G.1 118)) X in_X1_choose_1 rfl 2 (by decide) (kd_in kc_115 (by decide)) (EE_1 _ kc_115) rfl (mem_ix 1 rfl) dX1_choose_7 ?_
      refine r_alen (i := 118) (t := 0) (v := (3 : Int32)) X (kd_in kc_118 (by decide)) (EE_24 _ kc_118) rfl (by decide) dX1_choose_10 ?_
      refine r_icmp_lt (tgt := 29) X dX1_choose_11 (by decide) (fun h17 => ?_) (fun h17 => ?_)
      · replace hf := okt h17 hf
        refine r_iload_n X dX1_choose_29 3 rfl ?_
        refine r_istore X dX1_choose_30 (by decide) (lv' := [(5, .int a3), (0, .ref (G.1 115)), (1, .int a1), (2, .int a2), (3, .int a3), (4, .int a4)]) rfl ?_
        refine r_sub [1, 2, 3, 5, 0] rfl ?_
        exact tl_X1_choose_32 X hR ch hch hn0 FU a1 a2 a4 a3 σ hf
      · replace hf := okf h17 hf
        refine r_sub [0, 4] rfl ?_
        exact t_X1_choose_14 X hR ch hch hn0 a4 σ hf
theorem cg_X1_choose (l : Launch) (G : GX) {n0 : Nat} (ch : Int32 → Int32 → Int32 → Int32 → MM → Option (Int32 × MM)) (hch : ∀ (b1 b2 b3 b4 : Int32) (σ : MM), (ch b1 b2 b3 b4 σ).isSome = true → CTi l G yX1_choose wsX1_choose n0 [.ref (G.1 115), .int b1, .int b2, .int b3, .int b4] σ (ch b1 b2 b3 b4 σ)) (hn0 : 2 ≤ n0) (a1 : Int32) (a2 : Int32) (a3 : Int32) (a4 : Int32) (σ : MM) (h : (g_X1_choose ch a1 a2 a3 a4 σ).isSome = true) : CTi l G yX1_choose wsX1_choose (n0 + 1) [.ref (G.1 115), .int a1, .int a2, .int a3, .int a4] σ (g_X1_choose ch a1 a2 a3 a4 σ) :=
  CTi_of md_X1_choose (Nat.le_of_ble_eq_true rfl) (fun K X hR => e_X1_choose X hR ch hch hn0 a1 a2 a3 a4 σ (ok_is h))
def f_X1_choose (d : Nat) : Int32 → Int32 → Int32 → Int32 → MM → Option (Int32 × MM) := itr (fun _ _ _ _ _ => none) (fun ch => g_X1_choose ch) d
theorem c_X1_choose (l : Launch) (G : GX) : ∀ (d : Nat) (b1 b2 b3 b4 : Int32) (σ : MM), (f_X1_choose d b1 b2 b3 b4 σ).isSome = true → CTi l G yX1_choose wsX1_choose (2 + 1 * d) [.ref (G.1 115), .int b1, .int b2, .int b3, .int b4] σ (f_X1_choose d b1 b2 b3 b4 σ) := by
  intro d
  induction d with
  | zero => intro b1 b2 b3 b4 σ h; exact Bool.noConfusion h
  | succ d ih => intro b1 b2 b3 b4 σ h; rw [show 2 + 1 * (d + 1) = (2 + 1 * d) + 1 by omega]; exact cg_X1_choose l G (n0 := 2 + 1 * d) (f_X1_choose d) ih (by omega) b1 b2 b3 b4 σ h
-- X1_find
theorem in_X1_find_1 : ∀ w ∈ u_ws RX1 TX1 4, w ∈ wsX1_find := fun _ h => List.mem_cons_of_mem _ (List.mem_append_left _ (List.mem_append_left _ (List.mem_append_left _ (List.mem_append_right _ h))))
theorem in_X1_find_0 : ∀ w ∈ u_ws RX0 TX0 12, w ∈ wsX1_find := fun _ h => List.mem_cons_of_mem _ (List.mem_append_left _ (List.mem_append_left _ (List.mem_append_right _ h)))
theorem in_X1_find_2 : ∀ w ∈ u_ws RX2 TX2 4, w ∈ wsX1_find := fun _ h => List.mem_cons_of_mem _ (List.mem_append_left _ (List.mem_append_right _ h))
theorem in_X1_find_6 : ∀ w ∈ u_ws RX6 TX6 3, w ∈ wsX1_find := fun _ h => List.mem_cons_of_mem _ (List.mem_append_right _ h)
def u_X1_find_97 (k97 : Int32 → MM → Option (Int32 × MM)) (v4 : Int32) (σ : MM) : Option (Int32 × MM) :=
  if (3 : Int32) < v4 then some ((-1 : Int32), σ) else bd (f_X1_choose 6 (0 : Int32) v4 (0 : Int32) (0 : Int32) σ) (fun r35 σ36 => if r35 = 0 then k97 (v4 + (1 : Int32)) σ36 else some (v4, σ36))
def l_X1_find_97 (v4 : Int32) (σ : MM) : Option (Int32 × MM) :=
  itr (fun _ _ => none) (u_X1_find_97) FU v4 σ
def u_X1_find_51 (k51 : Nat → Int32 → Int32 → Int32 → MM → Option (Int32 × MM)) (t1 : Nat) (v2 : Int32) (v3 : Int32) (v4 : Int32) (σ : MM) : Option (Int32 × MM) :=
  if v4 < 0 then l_X1_find_97 (0 : Int32) σ else bd (f_X1_contentFrom t1 v2 v4 σ) (fun r39 σ40 => if v4 < 0 ∨ 100 ≤ v4.toNatClampNeg then none else lt (mu σ40 116 (v4.toNatClampNeg) r39) (fun σ43 => lt (mu σ43 117 (v4.toNatClampNeg) (v3 ||| (σ43 116 (v4.toNatClampNeg)))) (fun σ45 => k51 t1 v2 (v3 ||| (σ43 116 (v4.toNatClampNeg))) (v4 + (-1 : Int32)) σ45)))
def l_X1_find_51 (t1 : Nat) (v2 : Int32) (v3 : Int32) (v4 : Int32) (σ : MM) : Option (Int32 × MM) :=
  itr (fun _ _ _ _ _ => none) (u_X1_find_51) FU t1 v2 v3 v4 σ
def u_X1_find_19 (k19 : Nat → Int32 → Int32 → MM → Option (Int32 × MM)) (t1 : Nat) (v2 : Int32) (v3 : Int32) (σ : MM) : Option (Int32 × MM) :=
  if (σ t1 1) ≤ v3 then l_X1_find_51 t1 v2 (0 : Int32) (99 : Int32) σ else lt (mu σ 115 3 ((σ 115 3) ||| ((1 : Int32) <<< (v3 &&& 31)))) (fun σ47 => k19 t1 v2 (v3 + (1 : Int32)) σ47)
def l_X1_find_19 (t1 : Nat) (v2 : Int32) (v3 : Int32) (σ : MM) : Option (Int32 × MM) :=
  itr (fun _ _ _ _ => none) (u_X1_find_19) FU t1 v2 v3 σ
def f_X1_find (t1 : Nat) (a2 : Int32) (σ : MM) : Option (Int32 × MM) :=
  bd (f_J7_fill_53178 118 3 (-1 : Int32) σ) (fun r25 σ26 => lt (mu σ26 115 3 (0 : Int32)) (fun σ28 => lt (if (0 : Int32) < a2 then a2 else (0 : Int32)) (fun y30 => l_X1_find_19 t1 a2 y30 σ28)))
set_option maxRecDepth 100000 in
set_option maxHeartbeats 4000000 in
theorem t_X1_find_97 {l : Launch} {G : GX} {K : KX} (X : FX G K cX1_find RX1 (some .int) wsX1_find 5) {Φ : Int32 → MM → Prop} (hR : Ri G K Φ) (k97 : Int32 → MM → Option (Int32 × MM)) (hk97c : ∀ (v4 : Int32) (σ : MM), Ok Φ (k97 v4 σ) → V l G 9 K 5 97 [(0, .ref (G.1 115)), (4, .int v4)] [] σ) (v4 : Int32) (σ : MM) (hf : Ok Φ (u_X1_find_97 k97 v4 σ)) : V l G 9 K 5 97 [(0, .ref (G.1 115)), (4, .int v4)] [] σ := by
    unfold u_X1_find_97 at hf
    refine r_iload X dX1_find_97 1 rfl ?_
    refine r_iconst X dX1_find_99 ci_3 ?_
    refine r_icmp_gt (tgt := 124) X dX1_find_100 (by decide) (fun h34 => ?_) (fun h34 => ?_)
    · replace hf := okt h34 hf
      refine r_iconst X dX1_find_124 ci_m1 ?_
      exact r_iret X rfl hR (ok0 hf) dX1_find_125
    · replace hf := okf h34 hf
      refine r_aload_n X dX1_find_103 0 rfl isr_ref ?_
      refine r_iconst X dX1_find_104 ci_0 ?_
      refine r_iload X dX1_find_105 1 rfl ?_
      refine r_iconst X dX1_find_107 ci_0 ?_
      refine r_iconst X dX1_find_108 ci_0 ?_
      refine r_callVi (rest := []) X (c_X1_choose l G 6 (0 : Int32) v4 (0 : Int32) (0 : Int32) σ (oks hf)) md_X1_choose gX1_find_X1_choose (by decide) rfl rfl (kd_in kc_115 (by decide)) (EE_1 _ kc_115) rfl rfl (Nat.le_of_ble_eq_true rfl) dX1_find_109 (fun r35 σ36 e37 => ?_)
      replace hf := okn e37 hf
      refine r_if_eq (tgt := 118) X dX1_find_112 (by decide) (fun h38 => ?_) (fun h38 => ?_)
      · replace hf := okt h38 hf
        refine r_iinc (v := (v4 + (1 : Int32))) X dX1_find_118 1 rfl (congrArg _ ci_1) (by decide) (lv' := [(4, .int (v4 + (1 : Int32))), (0, .ref (G.1 115))]) rfl ?_
        refine r_goto (tgt := 97) X dX1_find_121 (by decide) ?_
        refine r_sub [1, 0] rfl ?_
        exact hk97c (v4 + (1 : Int32)) σ36 hf
      · replace hf := okf h38 hf
        refine r_iload X dX1_find_115 1 rfl ?_
        exact r_iret X rfl hR (ok0 hf) dX1_find_117
theorem tl_X1_find_97 {l : Launch} {G : GX} {K : KX} (X : FX G K cX1_find RX1 (some .int) wsX1_find 5) {Φ : Int32 → MM → Prop} (hR : Ri G K Φ) : ∀ (m : Nat) (v4 : Int32) (σ : MM), Ok Φ (itr (fun _ _ => none) (u_X1_find_97) m v4 σ) → V l G 9 K 5 97 [(0, .ref (G.1 115)), (4, .int v4)] [] σ := by
  intro m
  induction m with
  | zero => intro v4 σ hf; exact (okx hf).elim
  | succ m ih => intro v4 σ hf; exact t_X1_find_97 X hR _ ih v4 σ hf
set_option maxRecDepth 100000 in
set_option maxHeartbeats 4000000 in
theorem t_X1_find_51 {l : Launch} {G : GX} {K : KX} (X : FX G K cX1_find RX1 (some .int) wsX1_find 5) {Φ : Int32 → MM → Prop} (hR : Ri G K Φ) (k51 : Nat → Int32 → Int32 → Int32 → MM → Option (Int32 × MM)) (hk51c : ∀ (t1 : Nat) (v2 : Int32) (v3 : Int32) (v4 : Int32) (hk1 : kd t1 = 0) (σ : MM), Ok Φ (k51 t1 v2 v3 v4 σ) → V l G 9 K 5 51 [(0, .ref (G.1 115)), (1, .ref (G.1 t1)), (2, .int v2), (3, .int v3), (4, .int v4)] [] σ) (t1 : Nat) (v2 : Int32) (v3 : Int32) (v4 : Int32) (hk1 : kd t1 = 0) (σ : MM) (hf : Ok Φ (u_X1_find_51 k51 t1 v2 v3 v4 σ)) : V l G 9 K 5 51 [(0, .ref (G.1 115)), (1, .ref (G.1 t1)), (2, .int v2), (3, .int v3), (4, .int v4)] [] σ := by
    unfold u_X1_find_51 at hf
    refine r_iload X dX1_find_51 4 rfl ?_
    refine r_if_lt (tgt := 94) X dX1_find_53 (by decide) (fun h33 => ?_) (fun h33 => ?_)
    · replace hf := okt h33 hf
      refine r_iconst X dX1_find_94 ci_0 ?_
      refine r_istore X dX1_find_95 (by decide) (lv' := [(4, .int (0 : Int32)), (0, .ref (G.1 115)), (1, .ref (G.1 t1)), (2, .int v2), (3, .int v3)]) rfl ?_
      refine r_sub [1, 0] rfl ?_
      exact tl_X1_find_97 X hR FU (0 : Int32) σ hf
    · replace hf := okf h33 hf
      refine r_aload_n X dX1_find_56 0 rfl isr_ref ?_
      refine r_get (i := 115) (v := .ref (G.1 116)) X in_X1_find_1 rfl 0 (by decide) (kd_in kc_115 (by decide)) (EE_1 _ kc_115) rfl (mem_ix 8 rfl) dX1_find_57 ?_
      refine r_iload X dX1_find_60 4 rfl ?_
      refine r_aload_n X dX1_find_62 1 rfl isr_ref ?_
      refine r_iload_n X dX1_find_63 2 rfl ?_
      refine r_iload X dX1_find_64 4 rfl ?_
      refine r_callSi (rest := [.int v4, .ref (G.1 116)]) X (c_X1_contentFrom l G t1 v2 v4 hk1 σ (oks hf)) md_X1_contentFrom gX1_find_X1_contentFrom (by decide) rfl rfl (Nat.le_of_ble_eq_true rfl) dX1_find_66 (fun r39 σ40 e41 => ?_)
      replace hf := okn e41 hf
      obtain ⟨g42, hf⟩ := okg hf
      obtain ⟨σ43, e44, hf⟩ := okl hf
      refine r_iast (i := 116) (jn := v4.toNatClampNeg) X (kd_in kc_116 (by decide)) (fun _ => EE_23 _ kc_116) rfl g42 dX1_find_69 ?_
      refine r_sg e44 ?_
      refine r_iload_n X dX1_find_70 3 rfl ?_
      refine r_aload_n X dX1_find_71 0 rfl isr_ref ?_
      refine r_get (i := 115) (v := .ref (G.1 116)) X in_X1_find_1 rfl 0 (by decide) (kd_in kc_115 (by decide)) (EE_1 _ kc_115) rfl (mem_ix 8 rfl) dX1_find_72 ?_
      refine r_iload X dX1_find_75 4 rfl ?_
      refine r_iald (i := 116) (jn := v4.toNatClampNeg) X (kd_in kc_116 (by decide)) (EE_23 _ kc_116) rfl g42 dX1_find_77 ?_
      refine r_ior X dX1_find_78 ?_
      refine r_istore_n X dX1_find_79 (i := 3) rfl (by decide) (lv' := [(3, .int (v3 ||| (σ43 116 (v4.toNatClampNeg)))), (0, .ref (G.1 115)), (1, .ref (G.1 t1)), (2, .int v2), (4, .int v4)]) rfl ?_
      refine r_aload_n X dX1_find_80 1 rfl isr_ref ?_
      refine r_get (i := 115) (v := .ref (G.1 117)) X in_X1_find_1 rfl 1 (by decide) (kd_in kc_115 (by decide)) (EE_1 _ kc_115) rfl (mem_ix 9 rfl) dX1_find_81 ?_
      refine r_iload X dX1_find_84 4 rfl ?_
      refine r_iload_n X dX1_find_86 0 rfl ?_
      obtain ⟨σ45, e46, hf⟩ := okl hf
      refine r_iast (i := 117) (jn := v4.toNatClampNeg) X (kd_in kc_117 (by decide)) (fun _ => EE_23 _ kc_117) rfl g42 dX1_find_87 ?_
      refine r_sg e46 ?_
      refine r_iinc (v := (v4 + (-1 : Int32))) X dX1_find_88 4 rfl (congrArg _ ci_m1) (by decide) (lv' := [(4, .int (v4 + (-1 : Int32))), (3, .int (v3 ||| (σ43 116 (v4.toNatClampNeg)))), (0, .ref (G.1 115)), (1, .ref (G.1 t1)), (2, .int v2)]) rfl ?_
      refine r_goto (tgt := 51) X dX1_find_91 (by decide) ?_
      refine r_sub [2, 3, 4, 1, 0] rfl ?_
      exact hk51c t1 v2 (v3 ||| (σ43 116 (v4.toNatClampNeg))) (v4 + (-1 : Int32)) hk1 σ45 hf
theorem tl_X1_find_51 {l : Launch} {G : GX} {K : KX} (X : FX G K cX1_find RX1 (some .int) wsX1_find 5) {Φ : Int32 → MM → Prop} (hR : Ri G K Φ) : ∀ (m : Nat) (t1 : Nat) (v2 : Int32) (v3 : Int32) (v4 : Int32) (hk1 : kd t1 = 0) (σ : MM), Ok Φ (itr (fun _ _ _ _ _ => none) (u_X1_find_51) m t1 v2 v3 v4 σ) → V l G 9 K 5 51 [(0, .ref (G.1 115)), (1, .ref (G.1 t1)), (2, .int v2), (3, .int v3), (4, .int v4)] [] σ := by
  intro m
  induction m with
  | zero => intro t1 v2 v3 v4 hk1 σ hf; exact (okx hf).elim
  | succ m ih => intro t1 v2 v3 v4 hk1 σ hf; exact t_X1_find_51 X hR _ ih t1 v2 v3 v4 hk1 σ hf
set_option maxRecDepth 100000 in
set_option maxHeartbeats 4000000 in
theorem t_X1_find_19 {l : Launch} {G : GX} {K : KX} (X : FX G K cX1_find RX1 (some .int) wsX1_find 5) {Φ : Int32 → MM → Prop} (hR : Ri G K Φ) (k19 : Nat → Int32 → Int32 → MM → Option (Int32 × MM)) (hk19c : ∀ (t1 : Nat) (v2 : Int32) (v3 : Int32) (hk1 : kd t1 = 0) (σ : MM), Ok Φ (k19 t1 v2 v3 σ) → V l G 9 K 5 19 [(0, .ref (G.1 115)), (1, .ref (G.1 t1)), (2, .int v2), (3, .int v3)] [] σ) (t1 : Nat) (v2 : Int32) (v3 : Int32) (hk1 : kd t1 = 0) (σ : MM) (hf : Ok Φ (u_X1_find_19 k19 t1 v2 v3 σ)) : V l G 9 K 5 19 [(0, .ref (G.1 115)), (1, .ref (G.1 t1)), (2, .int v2), (3, .int v3)] [] σ := by
    unfold u_X1_find_19 at hf
    refine r_iload_n X dX1_find_19 3 rfl ?_
    refine r_aload_n X dX1_find_20 1 rfl isr_ref ?_
    refine r_get (i := t1) (v := .int (σ t1 1)) X in_X1_find_0 rfl 1 (by decide) (kd_in hk1 (by decide)) (EE_0 _ hk1) rfl (mem_ix 7 rfl) dX1_find_21 ?_
    refine r_icmp_ge (tgt := 45) X dX1_find_24 (by decide) (fun h32 => ?_) (fun h32 => ?_)
    · replace hf := okt h32 hf
      refine r_iconst X dX1_find_45 ci_0 ?_
      refine r_istore_n X dX1_find_46 (i := 3) rfl (by decide) (lv' := [(3, .int (0 : Int32)), (0, .ref (G.1 115)), (1, .ref (G.1 t1)), (2, .int v2)]) rfl ?_
      refine r_bipush X dX1_find_47 cb_99 ?_
      refine r_istore X dX1_find_49 (by decide) (lv' := [(4, .int (99 : Int32)), (3, .int (0 : Int32)), (0, .ref (G.1 115)), (1, .ref (G.1 t1)), (2, .int v2)]) rfl ?_
      refine r_sub [2, 3, 4, 1, 0] rfl ?_
      exact tl_X1_find_51 X hR FU t1 v2 (0 : Int32) (99 : Int32) hk1 σ hf
    · replace hf := okf h32 hf
      refine r_aload_n X dX1_find_27 0 rfl isr_ref ?_
      refine r_dup X dX1_find_28 rfl ?_
      refine r_get (i := 115) (v := .int (σ 115 3)) X in_X1_find_1 rfl 3 (by decide) (kd_in kc_115 (by decide)) (EE_1 _ kc_115) rfl (mem_ix 2 rfl) dX1_find_29 ?_
      refine r_iconst X dX1_find_32 ci_1 ?_
      refine r_iload_n X dX1_find_33 3 rfl ?_
      refine r_ishl X dX1_find_34 ?_
      refine r_ior X dX1_find_35 ?_
      obtain ⟨σ47, e48, hf⟩ := okl hf
      refine r_put (i := 115) (f := upd (σ 115) 3 ((σ 115 3) ||| ((1 : Int32) <<< (v3 &&& 31)))) X in_X1_find_1 tyX1 tyX1_ok nmX1 rfl 3 (by decide) (kd_in kc_115 (by decide)) (EE_1 _ kc_115) (EU_1_3 _ _ kc_115) rfl (mem_ix 2 rfl) rfl rfl rfl rfl dX1_find_36 ?_
      refine r_sg e48 ?_
      refine r_iinc (v := (v3 + (1 : Int32))) X dX1_find_39 3 rfl (congrArg _ ci_1) (by decide) (lv' := [(3, .int (v3 + (1 : Int32))), (0, .ref (G.1 115)), (1, .ref (G.1 t1)), (2, .int v2)]) rfl ?_
      refine r_goto (tgt := 19) X dX1_find_42 (by decide) ?_
      refine r_sub [1, 2, 3, 0] rfl ?_
      exact hk19c t1 v2 (v3 + (1 : Int32)) hk1 σ47 hf
theorem tl_X1_find_19 {l : Launch} {G : GX} {K : KX} (X : FX G K cX1_find RX1 (some .int) wsX1_find 5) {Φ : Int32 → MM → Prop} (hR : Ri G K Φ) : ∀ (m : Nat) (t1 : Nat) (v2 : Int32) (v3 : Int32) (hk1 : kd t1 = 0) (σ : MM), Ok Φ (itr (fun _ _ _ _ => none) (u_X1_find_19) m t1 v2 v3 σ) → V l G 9 K 5 19 [(0, .ref (G.1 115)), (1, .ref (G.1 t1)), (2, .int v2), (3, .int v3)] [] σ := by
  intro m
  induction m with
  | zero => intro t1 v2 v3 hk1 σ hf; exact (okx hf).elim
  | succ m ih => intro t1 v2 v3 hk1 σ hf; exact t_X1_find_19 X hR _ ih t1 v2 v3 hk1 σ hf
set_option maxRecDepth 100000 in
set_option maxHeartbeats 4000000 in
theorem e_X1_find {l : Launch} {G : GX} {K : KX} (X : FX G K cX1_find RX1 (some .int) wsX1_find 5) {Φ : Int32 → MM → Prop} (hR : Ri G K Φ) (t1 : Nat) (a2 : Int32) (hk1 : kd t1 = 0) (σ : MM) (hf : Ok Φ (f_X1_find t1 a2 σ)) : V l G 9 K 5 0 [(0, .ref (G.1 115)), (1, .ref (G.1 t1)), (2, .int a2)] [] σ := by
    unfold f_X1_find at hf
    refine r_aload_n X dX1_find_0 0 rfl isr_ref ?_
    refine r_get (i := 115) (v := .ref (G.1 118)) X in_X1_find_1 rfl 2 (by decide) (kd_in kc_115 (by decide)) (EE_1 _ kc_115) rfl (mem_ix 1 rfl) dX1_find_1 ?_
    refine r_iconst X dX1_find_4 ci_m1 ?_
    refine r_callSv (rest := []) X (c_J7_fill_53178 l G 118 3 (-1 : Int32) (fun _ => EE_24 _ kc_118) (kd_in kc_118 (by decide)) σ (oks hf)) md_J7_fill_53178 gX1_find_J7_fill_53178 (by decide) rfl rfl (Nat.le_of_ble_eq_true rfl) dX1_find_5 (fun r25 σ26 e27 => ?_)
    replace hf := okn e27 hf
    refine r_aload_n X dX1_find_8 0 rfl isr_ref ?_
    refine r_iconst X dX1_find_9 ci_0 ?_
    obtain ⟨σ28, e29, hf⟩ := okl hf
    refine r_put (i := 115) (f := upd (σ26 115) 3 (0 : Int32)) X in_X1_find_1 tyX1 tyX1_ok nmX1 rfl 3 (by decide) (kd_in kc_115 (by decide)) (EE_1 _ kc_115) (EU_1_3 _ _ kc_115) rfl (mem_ix 2 rfl) rfl rfl rfl rfl dX1_find_10 ?_
    refine r_sg e29 ?_
    refine r_iconst X dX1_find_13 ci_0 ?_
    refine r_iload_n X dX1_find_14 2 rfl ?_
    refine r_mmax X (mem_ix 3 rfl) (mem_ix 4 rfl) (mem_ix 5 rfl) (mem_ix 6 rfl) (Nat.le_of_ble_eq_true rfl) (by decide) dX1_find_15 ?_
    obtain ⟨y30, e31, hf⟩ := okl hf
    refine r_topi e31 ?_
    refine r_istore_n X dX1_find_18 (i := 3) rfl (by decide) (lv' := [(3, .int y30), (0, .ref (G.1 115)), (1, .ref (G.1 t1)), (2, .int a2)]) rfl ?_
    refine r_sub [1, 2, 3, 0] rfl ?_
    exact tl_X1_find_19 X hR FU t1 a2 y30 hk1 σ28 hf
theorem md_X1_find : MD yX1_find wsX1_find cX1_find 5 2 (some .int) := ⟨⟨_, rfl⟩, by decide +kernel, by decide +kernel, by decide⟩
theorem c_X1_find (l : Launch) (G : GX)  (t1 : Nat) (a2 : Int32) (hk1 : kd t1 = 0) (σ : MM) (h : (f_X1_find t1 a2 σ).isSome = true) : CTi l G yX1_find wsX1_find 9 [.ref (G.1 115), .ref (G.1 t1), .int a2] σ (f_X1_find t1 a2 σ) :=
  CTi_of md_X1_find (Nat.le_of_ble_eq_true rfl) (fun K X hR => e_X1_find X hR t1 a2 hk1 σ (ok_is h))
-- X1_wordAt
theorem in_X1_wordAt_1 : ∀ w ∈ u_ws RX1 TX1 4, w ∈ wsX1_wordAt := fun _ h => List.mem_cons_of_mem _ (List.mem_append_right _ h)
def f_X1_wordAt (a1 : Int32) (σ : MM) : Option (Int32 × MM) :=
  if a1 < 0 then some ((-1 : Int32), σ) else if (3 : Int32) ≤ a1 then some ((-1 : Int32), σ) else if a1 < 0 ∨ 3 ≤ a1.toNatClampNeg then none else some ((σ 118 (a1.toNatClampNeg)), σ)
set_option maxRecDepth 100000 in
set_option maxHeartbeats 4000000 in
theorem e_X1_wordAt {l : Launch} {G : GX} {K : KX} (X : FX G K cX1_wordAt RX1 (some .int) wsX1_wordAt 2) {Φ : Int32 → MM → Prop} (hR : Ri G K Φ) (a1 : Int32) (σ : MM) (hf : Ok Φ (f_X1_wordAt a1 σ)) : V l G 3 K 2 0 [(0, .ref (G.1 115)), (1, .int a1)] [] σ := by
    unfold f_X1_wordAt at hf
    refine r_iload_n X dX1_wordAt_0 1 rfl ?_
    refine r_if_lt (tgt := 22) X dX1_wordAt_1 (by decide) (fun h4 => ?_) (fun h4 => ?_)
    · replace hf := okt h4 hf
      refine r_iconst X dX1_wordAt_22 ci_m1 ?_
      exact r_iret X rfl hR (ok0 hf) dX1_wordAt_23
    · replace hf := okf h4 hf
      refine r_iload_n X dX1_wordAt_4 1 rfl ?_
      refine r_aload_n X dX1_wordAt_5 0 rfl isr_ref ?_
      refine r_get (i := 115) (v := .ref (G.1 118)) X in_X1_wordAt_1 rfl 2 (by decide) (kd_in kc_115 (by decide)) (EE_1 _ kc_115) rfl (mem_ix 1 rfl) dX1_wordAt_6 ?_
      refine r_alen (i := 118) (t := 0) (v := (3 : Int32)) X (kd_in kc_118 (by decide)) (EE_24 _ kc_118) rfl (by decide) dX1_wordAt_9 ?_
      refine r_icmp_ge (tgt := 22) X dX1_wordAt_10 (by decide) (fun h5 => ?_) (fun h5 => ?_)
      · replace hf := okt h5 hf
        refine r_iconst X dX1_wordAt_22 ci_m1 ?_
        exact r_iret X rfl hR (ok0 hf) dX1_wordAt_23
      · replace hf := okf h5 hf
        refine r_aload_n X dX1_wordAt_13 0 rfl isr_ref ?_
        refine r_get (i := 115) (v := .ref (G.1 118)) X in_X1_wordAt_1 rfl 2 (by decide) (kd_in kc_115 (by decide)) (EE_1 _ kc_115) rfl (mem_ix 1 rfl) dX1_wordAt_14 ?_
        refine r_iload_n X dX1_wordAt_17 1 rfl ?_
        obtain ⟨g6, hf⟩ := okg hf
        refine r_iald (i := 118) (jn := a1.toNatClampNeg) X (kd_in kc_118 (by decide)) (EE_24 _ kc_118) rfl g6 dX1_wordAt_18 ?_
        refine r_goto (tgt := 23) X dX1_wordAt_19 (by decide) ?_
        exact r_iret X rfl hR (ok0 hf) dX1_wordAt_23
theorem md_X1_wordAt : MD yX1_wordAt wsX1_wordAt cX1_wordAt 2 1 (some .int) := ⟨⟨_, rfl⟩, by decide +kernel, by decide +kernel, by decide⟩
theorem c_X1_wordAt (l : Launch) (G : GX)  (a1 : Int32) (σ : MM) (h : (f_X1_wordAt a1 σ).isSome = true) : CTi l G yX1_wordAt wsX1_wordAt 3 [.ref (G.1 115), .int a1] σ (f_X1_wordAt a1 σ) :=
  CTi_of md_X1_wordAt (Nat.le_of_ble_eq_true rfl) (fun K X hR => e_X1_wordAt X hR a1 σ (ok_is h))
-- X6_clear
theorem in_X6_clear_6 : ∀ w ∈ u_ws RX6 TX6 3, w ∈ wsX6_clear := fun _ h => List.mem_cons_of_mem _ (List.mem_append_right _ h)
def f_X6_clear (t0 : Nat) (σ : MM) : Option (Unit × MM) :=
  lt (mu σ t0 2 (0 : Int32)) (fun σ3 => some ((), σ3))
set_option maxRecDepth 100000 in
set_option maxHeartbeats 4000000 in
theorem e_X6_clear {l : Launch} {G : GX} {K : KX} (X : FX G K cX6_clear RX6 (none) wsX6_clear 1) {Φ : Unit → MM → Prop} (hR : Rv G K Φ) (t0 : Nat) (hk0 : kd t0 = 6) (σ : MM) (hf : Ok Φ (f_X6_clear t0 σ)) : V l G 3 K 1 0 [(0, .ref (G.1 t0))] [] σ := by
    unfold f_X6_clear at hf
    refine r_aload_n X dX6_clear_0 0 rfl isr_ref ?_
    refine r_iconst X dX6_clear_1 ci_0 ?_
    obtain ⟨σ3, e4, hf⟩ := okl hf
    refine r_put (i := t0) (f := upd (σ t0) 2 (0 : Int32)) X in_X6_clear_6 tyX6 tyX6_ok nmX6 rfl 2 (by decide) (kd_in hk0 (by decide)) (EE_6 _ hk0) (EU_6_2 _ _ hk0) rfl (mem_ix 1 rfl) rfl rfl rfl rfl dX6_clear_2 ?_
    refine r_sg e4 ?_
    exact r_vret X rfl hR (ok0 hf) dX6_clear_5
theorem md_X6_clear : MD yX6_clear wsX6_clear cX6_clear 1 0 (none) := ⟨⟨_, rfl⟩, by decide +kernel, by decide +kernel, by decide⟩
theorem c_X6_clear (l : Launch) (G : GX)  (t0 : Nat) (hk0 : kd t0 = 6) (σ : MM) (h : (f_X6_clear t0 σ).isSome = true) : CTv l G yX6_clear wsX6_clear 3 [.ref (G.1 t0)] σ (f_X6_clear t0 σ) :=
  CTv_of md_X6_clear (Nat.le_of_ble_eq_true rfl) (fun K X hR => e_X6_clear X hR t0 hk0 σ (ok_is h))
-- X6_add
theorem in_X6_add_6 : ∀ w ∈ u_ws RX6 TX6 3, w ∈ wsX6_add := fun _ h => List.mem_cons_of_mem _ (List.mem_append_right _ h)
def f_X6_add (t0 : Nat) (a1 : Int32) (σ : MM) : Option (Unit × MM) :=
  if (σ t0 2) < 0 then some ((), σ) else if (60 : Int32) ≤ (σ t0 2) then some ((), σ) else if (σ t0 2) < 0 ∨ 60 ≤ (σ t0 2).toNatClampNeg then none else lt (mu σ (t0 + 1) ((σ t0 2).toNatClampNeg) a1) (fun σ11 => lt (mu σ11 t0 2 ((σ11 t0 2) + (1 : Int32))) (fun σ13 => some ((), σ13)))
set_option maxRecDepth 100000 in
set_option maxHeartbeats 4000000 in
theorem e_X6_add {l : Launch} {G : GX} {K : KX} (X : FX G K cX6_add RX6 (none) wsX6_add 2) {Φ : Unit → MM → Prop} (hR : Rv G K Φ) (t0 : Nat) (a1 : Int32) (hk0 : kd t0 = 6) (σ : MM) (hf : Ok Φ (f_X6_add t0 a1 σ)) : V l G 3 K 2 0 [(0, .ref (G.1 t0)), (1, .int a1)] [] σ := by
    unfold f_X6_add at hf
    refine r_aload_n X dX6_add_0 0 rfl isr_ref ?_
    refine r_get (i := t0) (v := .int (σ t0 2)) X in_X6_add_6 rfl 2 (by decide) (kd_in hk0 (by decide)) (EE_6 _ hk0) rfl (mem_ix 1 rfl) dX6_add_1 ?_
    refine r_if_lt (tgt := 39) X dX6_add_4 (by decide) (fun h8 => ?_) (fun h8 => ?_)
    · replace hf := okt h8 hf
      exact r_vret X rfl hR (ok0 hf) dX6_add_39
    · replace hf := okf h8 hf
      refine r_aload_n X dX6_add_7 0 rfl isr_ref ?_
      refine r_get (i := t0) (v := .int (σ t0 2)) X in_X6_add_6 rfl 2 (by decide) (kd_in hk0 (by decide)) (EE_6 _ hk0) rfl (mem_ix 1 rfl) dX6_add_8 ?_
      refine r_aload_n X dX6_add_11 0 rfl isr_ref ?_
      refine r_get (i := t0) (v := .ref (G.1 (t0 + 1))) X in_X6_add_6 rfl 0 (by decide) (kd_in hk0 (by decide)) (EE_6 _ hk0) rfl (mem_ix 2 rfl) dX6_add_12 ?_
      refine r_alen (i := (t0 + 1)) (t := 0) (v := (60 : Int32)) X (kd_in (kf_6_1 hk0) (by decide)) (EE_20 _ (kf_6_1 hk0)) rfl (by decide) dX6_add_15 ?_
      refine r_icmp_ge (tgt := 39) X dX6_add_16 (by decide) (fun h9 => ?_) (fun h9 => ?_)
      · replace hf := okt h9 hf
        exact r_vret X rfl hR (ok0 hf) dX6_add_39
      · replace hf := okf h9 hf
        refine r_aload_n X dX6_add_19 0 rfl isr_ref ?_
        refine r_get (i := t0) (v := .ref (G.1 (t0 + 1))) X in_X6_add_6 rfl 0 (by decide) (kd_in hk0 (by decide)) (EE_6 _ hk0) rfl (mem_ix 2 rfl) dX6_add_20 ?_
        refine r_aload_n X dX6_add_23 0 rfl isr_ref ?_
        refine r_get (i := t0) (v := .int (σ t0 2)) X in_X6_add_6 rfl 2 (by decide) (kd_in hk0 (by decide)) (EE_6 _ hk0) rfl (mem_ix 1 rfl) dX6_add_24 ?_
        refine r_iload_n X dX6_add_27 1 rfl ?_
        obtain ⟨g10, hf⟩ := okg hf
        obtain ⟨σ11, e12, hf⟩ := okl hf
        refine r_iast (i := (t0 + 1)) (jn := (σ t0 2).toNatClampNeg) X (kd_in (kf_6_1 hk0) (by decide)) (fun _ => EE_20 _ (kf_6_1 hk0)) rfl g10 dX6_add_28 ?_
        refine r_sg e12 ?_
        refine r_aload_n X dX6_add_29 0 rfl isr_ref ?_
        refine r_dup X dX6_add_30 rfl ?_
        refine r_get (i := t0) (v := .int (σ11 t0 2)) X in_X6_add_6 rfl 2 (by decide) (kd_in hk0 (by decide)) (EE_6 _ hk0) rfl (mem_ix 1 rfl) dX6_add_31 ?_
        refine r_iconst X dX6_add_34 ci_1 ?_
        refine r_iadd X dX6_add_35 ?_
        obtain ⟨σ13, e14, hf⟩ := okl hf
        refine r_put (i := t0) (f := upd (σ11 t0) 2 ((σ11 t0 2) + (1 : Int32))) X in_X6_add_6 tyX6 tyX6_ok nmX6 rfl 2 (by decide) (kd_in hk0 (by decide)) (EE_6 _ hk0) (EU_6_2 _ _ hk0) rfl (mem_ix 1 rfl) rfl rfl rfl rfl dX6_add_36 ?_
        refine r_sg e14 ?_
        exact r_vret X rfl hR (ok0 hf) dX6_add_39
theorem md_X6_add : MD yX6_add wsX6_add cX6_add 2 1 (none) := ⟨⟨_, rfl⟩, by decide +kernel, by decide +kernel, by decide⟩
theorem c_X6_add (l : Launch) (G : GX)  (t0 : Nat) (a1 : Int32) (hk0 : kd t0 = 6) (σ : MM) (h : (f_X6_add t0 a1 σ).isSome = true) : CTv l G yX6_add wsX6_add 3 [.ref (G.1 t0), .int a1] σ (f_X6_add t0 a1 σ) :=
  CTv_of md_X6_add (Nat.le_of_ble_eq_true rfl) (fun K X hR => e_X6_add X hR t0 a1 hk0 σ (ok_is h))
-- X4_next
theorem in_X4_next_4 : ∀ w ∈ u_ws RX4 TX4 5, w ∈ wsX4_next := fun _ h => List.mem_cons_of_mem _ (List.mem_append_right _ h)
def f_X4_next  (σ : MM) : Option (Int32 × MM) :=
  if (σ 109 1) < 0 then some ((-1 : Int32), σ) else if (σ 109 3) ≤ (σ 109 1) then some ((-1 : Int32), σ) else if (60 : Int32) ≤ (σ 109 1) then some ((-1 : Int32), σ) else if (σ 109 1) < 0 ∨ 60 ≤ (σ 109 1).toNatClampNeg then none else some ((σ 9 ((σ 109 1).toNatClampNeg)), σ)
set_option maxRecDepth 100000 in
set_option maxHeartbeats 4000000 in
theorem e_X4_next {l : Launch} {G : GX} {K : KX} (X : FX G K cX4_next RX4 (some .int) wsX4_next 1) {Φ : Int32 → MM → Prop} (hR : Ri G K Φ)  (σ : MM) (hf : Ok Φ (f_X4_next  σ)) : V l G 3 K 1 0 [(0, .ref (G.1 109))] [] σ := by
    unfold f_X4_next at hf
    refine r_aload_n X dX4_next_0 0 rfl isr_ref ?_
    refine r_get (i := 109) (v := .int (σ 109 1)) X in_X4_next_4 rfl 1 (by decide) (kd_in kc_109 (by decide)) (EE_4 _ kc_109) rfl (mem_ix 1 rfl) dX4_next_1 ?_
    refine r_if_lt (tgt := 42) X dX4_next_4 (by decide) (fun h5 => ?_) (fun h5 => ?_)
    · replace hf := okt h5 hf
      refine r_iconst X dX4_next_42 ci_m1 ?_
      exact r_iret X rfl hR (ok0 hf) dX4_next_43
    · replace hf := okf h5 hf
      refine r_aload_n X dX4_next_7 0 rfl isr_ref ?_
      refine r_get (i := 109) (v := .int (σ 109 1)) X in_X4_next_4 rfl 1 (by decide) (kd_in kc_109 (by decide)) (EE_4 _ kc_109) rfl (mem_ix 1 rfl) dX4_next_8 ?_
      refine r_aload_n X dX4_next_11 0 rfl isr_ref ?_
      refine r_get (i := 109) (v := .int (σ 109 3)) X in_X4_next_4 rfl 3 (by decide) (kd_in kc_109 (by decide)) (EE_4 _ kc_109) rfl (mem_ix 2 rfl) dX4_next_12 ?_
      refine r_icmp_ge (tgt := 42) X dX4_next_15 (by decide) (fun h6 => ?_) (fun h6 => ?_)
      · replace hf := okt h6 hf
        refine r_iconst X dX4_next_42 ci_m1 ?_
        exact r_iret X rfl hR (ok0 hf) dX4_next_43
      · replace hf := okf h6 hf
        refine r_aload_n X dX4_next_18 0 rfl isr_ref ?_
        refine r_get (i := 109) (v := .int (σ 109 1)) X in_X4_next_4 rfl 1 (by decide) (kd_in kc_109 (by decide)) (EE_4 _ kc_109) rfl (mem_ix 1 rfl) dX4_next_19 ?_
        refine r_aload_n X dX4_next_22 0 rfl isr_ref ?_
        refine r_get (i := 109) (v := .ref (G.1 9)) X in_X4_next_4 rfl 2 (by decide) (kd_in kc_109 (by decide)) (EE_4 _ kc_109) rfl (mem_ix 3 rfl) dX4_next_23 ?_
        refine r_alen (i := 9) (t := 0) (v := (60 : Int32)) X (kd_in kc_9 (by decide)) (EE_20 _ kc_9) rfl (by decide) dX4_next_26 ?_
        refine r_icmp_ge (tgt := 42) X dX4_next_27 (by decide) (fun h7 => ?_) (fun h7 => ?_)
        · replace hf := okt h7 hf
          refine r_iconst X dX4_next_42 ci_m1 ?_
          exact r_iret X rfl hR (ok0 hf) dX4_next_43
        · replace hf := okf h7 hf
          refine r_aload_n X dX4_next_30 0 rfl isr_ref ?_
          refine r_get (i := 109) (v := .ref (G.1 9)) X in_X4_next_4 rfl 2 (by decide) (kd_in kc_109 (by decide)) (EE_4 _ kc_109) rfl (mem_ix 3 rfl) dX4_next_31 ?_
          refine r_aload_n X dX4_next_34 0 rfl isr_ref ?_
          refine r_get (i := 109) (v := .int (σ 109 1)) X in_X4_next_4 rfl 1 (by decide) (kd_in kc_109 (by decide)) (EE_4 _ kc_109) rfl (mem_ix 1 rfl) dX4_next_35 ?_
          obtain ⟨g8, hf⟩ := okg hf
          refine r_iald (i := 9) (jn := (σ 109 1).toNatClampNeg) X (kd_in kc_9 (by decide)) (EE_20 _ kc_9) rfl g8 dX4_next_38 ?_
          refine r_goto (tgt := 43) X dX4_next_39 (by decide) ?_
          exact r_iret X rfl hR (ok0 hf) dX4_next_43
theorem md_X4_next : MD yX4_next wsX4_next cX4_next 1 0 (some .int) := ⟨⟨_, rfl⟩, by decide +kernel, by decide +kernel, by decide⟩
theorem c_X4_next (l : Launch) (G : GX)   (σ : MM) (h : (f_X4_next  σ).isSome = true) : CTi l G yX4_next wsX4_next 3 [.ref (G.1 109)] σ (f_X4_next  σ) :=
  CTi_of md_X4_next (Nat.le_of_ble_eq_true rfl) (fun K X hR => e_X4_next X hR  σ (ok_is h))
-- X4_isDigit
def f_X4_isDigit (a0 : Int32) (σ : MM) : Option (Int32 × MM) :=
  if a0 < (48 : Int32) then some ((0 : Int32), σ) else if (57 : Int32) < a0 then some ((0 : Int32), σ) else some ((1 : Int32), σ)
set_option maxRecDepth 100000 in
set_option maxHeartbeats 4000000 in
theorem e_X4_isDigit {l : Launch} {G : GX} {K : KX} (X : FX G K cX4_isDigit RX4 (some .boolean) wsX4_isDigit 1) {Φ : Int32 → MM → Prop} (hR : Ri G K Φ) (a0 : Int32) (σ : MM) (hf : Ok Φ (f_X4_isDigit a0 σ)) : V l G 3 K 1 0 [(0, .int a0)] [] σ := by
    unfold f_X4_isDigit at hf
    refine r_iload_n X dX4_isDigit_0 0 rfl ?_
    refine r_bipush X dX4_isDigit_1 cb_48 ?_
    refine r_icmp_lt (tgt := 16) X dX4_isDigit_3 (by decide) (fun h3 => ?_) (fun h3 => ?_)
    · replace hf := okt h3 hf
      refine r_iconst X dX4_isDigit_16 ci_0 ?_
      exact r_zret X rfl hR (by decide) (ok0 hf) dX4_isDigit_17
    · replace hf := okf h3 hf
      refine r_iload_n X dX4_isDigit_6 0 rfl ?_
      refine r_bipush X dX4_isDigit_7 cb_57 ?_
      refine r_icmp_gt (tgt := 16) X dX4_isDigit_9 (by decide) (fun h4 => ?_) (fun h4 => ?_)
      · replace hf := okt h4 hf
        refine r_iconst X dX4_isDigit_16 ci_0 ?_
        exact r_zret X rfl hR (by decide) (ok0 hf) dX4_isDigit_17
      · replace hf := okf h4 hf
        refine r_iconst X dX4_isDigit_12 ci_1 ?_
        refine r_goto (tgt := 17) X dX4_isDigit_13 (by decide) ?_
        exact r_zret X rfl hR (by decide) (ok0 hf) dX4_isDigit_17
theorem md_X4_isDigit : MD yX4_isDigit wsX4_isDigit cX4_isDigit 1 1 (some .boolean) := ⟨⟨_, rfl⟩, by decide +kernel, by decide +kernel, by decide⟩
theorem c_X4_isDigit (l : Launch) (G : GX)  (a0 : Int32) (σ : MM) (h : (f_X4_isDigit a0 σ).isSome = true) : CTi l G yX4_isDigit wsX4_isDigit 3 [.int a0] σ (f_X4_isDigit a0 σ) :=
  CTi_of md_X4_isDigit (Nat.le_of_ble_eq_true rfl) (fun K X hR => e_X4_isDigit X hR a0 σ (ok_is h))
-- X4_readNumber
theorem in_X4_readNumber_4 : ∀ w ∈ u_ws RX4 TX4 5, w ∈ wsX4_readNumber := fun _ h => List.mem_cons_of_mem _ (List.mem_append_left _ (List.mem_append_right _ h))
theorem in_X4_readNumber_6 : ∀ w ∈ u_ws RX6 TX6 3, w ∈ wsX4_readNumber := fun _ h => List.mem_cons_of_mem _ (List.mem_append_right _ h)
def u_X4_readNumber_48 (v1 : Int32) (σ : MM) : Option (Unit × MM) :=
  bd (f_X6_add 110 v1 σ) (fun r20 σ21 => some ((), σ21))
def u_X4_readNumber_4 (k4 : Int32 → Int32 → MM → Option (Unit × MM)) (v1 : Int32) (v2 : Int32) (σ : MM) : Option (Unit × MM) :=
  if (4 : Int32) ≤ v2 then u_X4_readNumber_48 v1 σ else bd (f_X4_next σ) (fun r23 σ24 => bd (f_X4_isDigit r23 σ24) (fun r26 σ27 => if r26 = 0 then u_X4_readNumber_48 v1 σ27 else bd (f_X4_next σ27) (fun r30 σ31 => lt ((((10 : Int32) * v1) + r30) - (48 : Int32)) (fun y33 => lt (mu σ31 109 1 ((σ31 109 1) + (1 : Int32))) (fun σ35 => k4 y33 (v2 + (1 : Int32)) σ35)))))
def l_X4_readNumber_4 (v1 : Int32) (v2 : Int32) (σ : MM) : Option (Unit × MM) :=
  itr (fun _ _ _ => none) (u_X4_readNumber_4) FU v1 v2 σ
def f_X4_readNumber  (σ : MM) : Option (Unit × MM) :=
  l_X4_readNumber_4 (0 : Int32) (0 : Int32) σ
set_option maxRecDepth 100000 in
set_option maxHeartbeats 4000000 in
theorem t_X4_readNumber_48 {l : Launch} {G : GX} {K : KX} (X : FX G K cX4_readNumber RX4 (none) wsX4_readNumber 3) {Φ : Unit → MM → Prop} (hR : Rv G K Φ) (v1 : Int32) (σ : MM) (hf : Ok Φ (u_X4_readNumber_48 v1 σ)) : V l G 4 K 3 48 [(0, .ref (G.1 109)), (1, .int v1)] [] σ := by
    unfold u_X4_readNumber_48 at hf
    refine r_aload_n X dX4_readNumber_48 0 rfl isr_ref ?_
    refine r_get (i := 109) (v := .ref (G.1 110)) X in_X4_readNumber_4 rfl 0 (by decide) (kd_in kc_109 (by decide)) (EE_4 _ kc_109) rfl (mem_ix 2 rfl) dX4_readNumber_49 ?_
    refine r_iload_n X dX4_readNumber_52 1 rfl ?_
    refine r_callVv (rest := []) X (c_X6_add l G 110 v1 kc_110 σ (oks hf)) md_X6_add gX4_readNumber_X6_add (by decide) rfl rfl (kd_in kc_110 (by decide)) (EE_6 _ kc_110) rfl rfl (Nat.le_of_ble_eq_true rfl) dX4_readNumber_53 (fun r20 σ21 e22 => ?_)
    replace hf := okn e22 hf
    exact r_vret X rfl hR (ok0 hf) dX4_readNumber_56
set_option maxRecDepth 100000 in
set_option maxHeartbeats 4000000 in
theorem t_X4_readNumber_4 {l : Launch} {G : GX} {K : KX} (X : FX G K cX4_readNumber RX4 (none) wsX4_readNumber 3) {Φ : Unit → MM → Prop} (hR : Rv G K Φ) (k4 : Int32 → Int32 → MM → Option (Unit × MM)) (hk4c : ∀ (v1 : Int32) (v2 : Int32) (σ : MM), Ok Φ (k4 v1 v2 σ) → V l G 4 K 3 4 [(0, .ref (G.1 109)), (1, .int v1), (2, .int v2)] [] σ) (v1 : Int32) (v2 : Int32) (σ : MM) (hf : Ok Φ (u_X4_readNumber_4 k4 v1 v2 σ)) : V l G 4 K 3 4 [(0, .ref (G.1 109)), (1, .int v1), (2, .int v2)] [] σ := by
    unfold u_X4_readNumber_4 at hf
    refine r_iload_n X dX4_readNumber_4 2 rfl ?_
    refine r_iconst X dX4_readNumber_5 ci_4 ?_
    refine r_icmp_ge (tgt := 48) X dX4_readNumber_6 (by decide) (fun h19 => ?_) (fun h19 => ?_)
    · replace hf := okt h19 hf
      refine r_sub [0, 1] rfl ?_
      exact t_X4_readNumber_48 X hR v1 σ hf
    · replace hf := okf h19 hf
      refine r_aload_n X dX4_readNumber_9 0 rfl isr_ref ?_
      refine r_callVi (rest := []) X (c_X4_next l G σ (oks hf)) md_X4_next gX4_readNumber_X4_next (by decide) rfl rfl (kd_in kc_109 (by decide)) (EE_4 _ kc_109) rfl rfl (Nat.le_of_ble_eq_true rfl) dX4_readNumber_10 (fun r23 σ24 e25 => ?_)
      replace hf := okn e25 hf
      refine r_callSi (rest := []) X (c_X4_isDigit l G r23 σ24 (oks hf)) md_X4_isDigit gX4_readNumber_X4_isDigit (by decide) rfl rfl (Nat.le_of_ble_eq_true rfl) dX4_readNumber_13 (fun r26 σ27 e28 => ?_)
      replace hf := okn e28 hf
      refine r_if_eq (tgt := 48) X dX4_readNumber_16 (by decide) (fun h29 => ?_) (fun h29 => ?_)
      · replace hf := okt h29 hf
        refine r_sub [0, 1] rfl ?_
        exact t_X4_readNumber_48 X hR v1 σ27 hf
      · replace hf := okf h29 hf
        refine r_bipush X dX4_readNumber_19 cb_10 ?_
        refine r_iload_n X dX4_readNumber_21 1 rfl ?_
        refine r_imul X dX4_readNumber_22 ?_
        refine r_aload_n X dX4_readNumber_23 0 rfl isr_ref ?_
        refine r_callVi (rest := [.int ((10 : Int32) * v1)]) X (c_X4_next l G σ27 (oks hf)) md_X4_next gX4_readNumber_X4_next (by decide) rfl rfl (kd_in kc_109 (by decide)) (EE_4 _ kc_109) rfl rfl (Nat.le_of_ble_eq_true rfl) dX4_readNumber_24 (fun r30 σ31 e32 => ?_)
        replace hf := okn e32 hf
        refine r_iadd X dX4_readNumber_27 ?_
        refine r_bipush X dX4_readNumber_28 cb_48 ?_
        refine r_isub X dX4_readNumber_30 ?_
        obtain ⟨y33, e34, hf⟩ := okl hf
        refine r_topi e34 ?_
        refine r_istore_n X dX4_readNumber_31 (i := 1) rfl (by decide) (lv' := [(1, .int y33), (0, .ref (G.1 109)), (2, .int v2)]) rfl ?_
        refine r_aload_n X dX4_readNumber_32 1 rfl isr_ref ?_
        refine r_dup X dX4_readNumber_33 rfl ?_
        refine r_get (i := 109) (v := .int (σ31 109 1)) X in_X4_readNumber_4 rfl 1 (by decide) (kd_in kc_109 (by decide)) (EE_4 _ kc_109) rfl (mem_ix 1 rfl) dX4_readNumber_34 ?_
        refine r_iconst X dX4_readNumber_37 ci_1 ?_
        refine r_iadd X dX4_readNumber_38 ?_
        obtain ⟨σ35, e36, hf⟩ := okl hf
        refine r_put (i := 109) (f := upd (σ31 109) 1 ((σ31 109 1) + (1 : Int32))) X in_X4_readNumber_4 tyX4 tyX4_ok nmX4 rfl 1 (by decide) (kd_in kc_109 (by decide)) (EE_4 _ kc_109) (EU_4_1 _ _ kc_109) rfl (mem_ix 1 rfl) rfl rfl rfl rfl dX4_readNumber_39 ?_
        refine r_sg e36 ?_
        refine r_iinc (v := (v2 + (1 : Int32))) X dX4_readNumber_42 2 rfl (congrArg _ ci_1) (by decide) (lv' := [(2, .int (v2 + (1 : Int32))), (1, .int y33), (0, .ref (G.1 109))]) rfl ?_
        refine r_goto (tgt := 4) X dX4_readNumber_45 (by decide) ?_
        refine r_sub [2, 1, 0] rfl ?_
        exact hk4c y33 (v2 + (1 : Int32)) σ35 hf
theorem tl_X4_readNumber_4 {l : Launch} {G : GX} {K : KX} (X : FX G K cX4_readNumber RX4 (none) wsX4_readNumber 3) {Φ : Unit → MM → Prop} (hR : Rv G K Φ) : ∀ (m : Nat) (v1 : Int32) (v2 : Int32) (σ : MM), Ok Φ (itr (fun _ _ _ => none) (u_X4_readNumber_4) m v1 v2 σ) → V l G 4 K 3 4 [(0, .ref (G.1 109)), (1, .int v1), (2, .int v2)] [] σ := by
  intro m
  induction m with
  | zero => intro v1 v2 σ hf; exact (okx hf).elim
  | succ m ih => intro v1 v2 σ hf; exact t_X4_readNumber_4 X hR _ ih v1 v2 σ hf
set_option maxRecDepth 100000 in
set_option maxHeartbeats 4000000 in
theorem e_X4_readNumber {l : Launch} {G : GX} {K : KX} (X : FX G K cX4_readNumber RX4 (none) wsX4_readNumber 3) {Φ : Unit → MM → Prop} (hR : Rv G K Φ)  (σ : MM) (hf : Ok Φ (f_X4_readNumber  σ)) : V l G 4 K 3 0 [(0, .ref (G.1 109))] [] σ := by
    unfold f_X4_readNumber at hf
    refine r_iconst X dX4_readNumber_0 ci_0 ?_
    refine r_istore_n X dX4_readNumber_1 (i := 1) rfl (by decide) (lv' := [(1, .int (0 : Int32)), (0, .ref (G.1 109))]) rfl ?_
    refine r_iconst X dX4_readNumber_2 ci_0 ?_
    refine r_istore_n X dX4_readNumber_3 (i := 2) rfl (by decide) (lv' := [(2, .int (0 : Int32)), (1, .int (0 : Int32)), (0, .ref (G.1 109))]) rfl ?_
    refine r_sub [2, 1, 0] rfl ?_
    exact tl_X4_readNumber_4 X hR FU (0 : Int32) (0 : Int32) σ hf
theorem md_X4_readNumber : MD yX4_readNumber wsX4_readNumber cX4_readNumber 3 0 (none) := ⟨⟨_, rfl⟩, by decide +kernel, by decide +kernel, by decide⟩
theorem c_X4_readNumber (l : Launch) (G : GX)   (σ : MM) (h : (f_X4_readNumber  σ).isSome = true) : CTv l G yX4_readNumber wsX4_readNumber 4 [.ref (G.1 109)] σ (f_X4_readNumber  σ) :=
  CTv_of md_X4_readNumber (Nat.le_of_ble_eq_true rfl) (fun K X hR => e_X4_readNumber X hR  σ (ok_is h))
-- X4_levelOf
def f_X4_levelOf (a0 : Int32) (σ : MM) : Option (Int32 × MM) :=
  if a0 = (37 : Int32) then some ((4 : Int32), σ) else if a0 = (38 : Int32) then some ((1 : Int32), σ) else if a0 = (42 : Int32) then some ((4 : Int32), σ) else if a0 = (43 : Int32) then some ((3 : Int32), σ) else if a0 = (45 : Int32) then some ((3 : Int32), σ) else if a0 = (47 : Int32) then some ((4 : Int32), σ) else if a0 = (60 : Int32) then some ((2 : Int32), σ) else if a0 = (61 : Int32) then some ((2 : Int32), σ) else if a0 = (62 : Int32) then some ((2 : Int32), σ) else if a0 = (124 : Int32) then some ((0 : Int32), σ) else some ((-1 : Int32), σ)
set_option maxRecDepth 100000 in
set_option maxHeartbeats 4000000 in
theorem e_X4_levelOf {l : Launch} {G : GX} {K : KX} (X : FX G K cX4_levelOf RX4 (some .int) wsX4_levelOf 1) {Φ : Int32 → MM → Prop} (hR : Ri G K Φ) (a0 : Int32) (σ : MM) (hf : Ok Φ (f_X4_levelOf a0 σ)) : V l G 3 K 1 0 [(0, .int a0)] [] σ := by
    unfold f_X4_levelOf at hf
    refine r_iload_n X dX4_levelOf_0 0 rfl ?_
    by_cases h11 : a0 = (37 : Int32)
    · replace hf := okt h11 hf
      refine r_lookup (off := 99) (tgt := 100) X dX4_levelOf_1 (by decide +kernel) (by rw [h11]; rfl) (by decide) ?_
      refine r_iconst X dX4_levelOf_100 ci_4 ?_
      exact r_iret X rfl hR (ok0 hf) dX4_levelOf_101
    replace hf := okf h11 hf
    by_cases h12 : a0 = (38 : Int32)
    · replace hf := okt h12 hf
      refine r_lookup (off := 93) (tgt := 94) X dX4_levelOf_1 (by decide +kernel) (by rw [h12]; rfl) (by decide) ?_
      refine r_iconst X dX4_levelOf_94 ci_1 ?_
      exact r_iret X rfl hR (ok0 hf) dX4_levelOf_95
    replace hf := okf h12 hf
    by_cases h13 : a0 = (42 : Int32)
    · replace hf := okt h13 hf
      refine r_lookup (off := 99) (tgt := 100) X dX4_levelOf_1 (by decide +kernel) (by rw [h13]; rfl) (by decide) ?_
      refine r_iconst X dX4_levelOf_100 ci_4 ?_
      exact r_iret X rfl hR (ok0 hf) dX4_levelOf_101
    replace hf := okf h13 hf
    by_cases h14 : a0 = (43 : Int32)
    · replace hf := okt h14 hf
      refine r_lookup (off := 97) (tgt := 98) X dX4_levelOf_1 (by decide +kernel) (by rw [h14]; rfl) (by decide) ?_
      refine r_iconst X dX4_levelOf_98 ci_3 ?_
      exact r_iret X rfl hR (ok0 hf) dX4_levelOf_99
    replace hf := okf h14 hf
    by_cases h15 : a0 = (45 : Int32)
    · replace hf := okt h15 hf
      refine r_lookup (off := 97) (tgt := 98) X dX4_levelOf_1 (by decide +kernel) (by rw [h15]; rfl) (by decide) ?_
      refine r_iconst X dX4_levelOf_98 ci_3 ?_
      exact r_iret X rfl hR (ok0 hf) dX4_levelOf_99
    replace hf := okf h15 hf
    by_cases h16 : a0 = (47 : Int32)
    · replace hf := okt h16 hf
      refine r_lookup (off := 99) (tgt := 100) X dX4_levelOf_1 (by decide +kernel) (by rw [h16]; rfl) (by decide) ?_
      refine r_iconst X dX4_levelOf_100 ci_4 ?_
      exact r_iret X rfl hR (ok0 hf) dX4_levelOf_101
    replace hf := okf h16 hf
    by_cases h17 : a0 = (60 : Int32)
    · replace hf := okt h17 hf
      refine r_lookup (off := 95) (tgt := 96) X dX4_levelOf_1 (by decide +kernel) (by rw [h17]; rfl) (by decide) ?_
      refine r_iconst X dX4_levelOf_96 ci_2 ?_
      exact r_iret X rfl hR (ok0 hf) dX4_levelOf_97
    replace hf := okf h17 hf
    by_cases h18 : a0 = (61 : Int32)
    · replace hf := okt h18 hf
      refine r_lookup (off := 95) (tgt := 96) X dX4_levelOf_1 (by decide +kernel) (by rw [h18]; rfl) (by decide) ?_
      refine r_iconst X dX4_levelOf_96 ci_2 ?_
      exact r_iret X rfl hR (ok0 hf) dX4_levelOf_97
    replace hf := okf h18 hf
    by_cases h19 : a0 = (62 : Int32)
    · replace hf := okt h19 hf
      refine r_lookup (off := 95) (tgt := 96) X dX4_levelOf_1 (by decide +kernel) (by rw [h19]; rfl) (by decide) ?_
      refine r_iconst X dX4_levelOf_96 ci_2 ?_
      exact r_iret X rfl hR (ok0 hf) dX4_levelOf_97
    replace hf := okf h19 hf
    by_cases h20 : a0 = (124 : Int32)
    · replace hf := okt h20 hf
      refine r_lookup (off := 91) (tgt := 92) X dX4_levelOf_1 (by decide +kernel) (by rw [h20]; rfl) (by decide) ?_
      refine r_iconst X dX4_levelOf_92 ci_0 ?_
      exact r_iret X rfl hR (ok0 hf) dX4_levelOf_93
    replace hf := okf h20 hf
    refine r_lookup (off := 101) (tgt := 102) X dX4_levelOf_1 (by decide +kernel) (lk_n h11 (by decide) (lk_n h12 (by decide) (lk_n h13 (by decide) (lk_n h14 (by decide) (lk_n h15 (by decide) (lk_n h16 (by decide) (lk_n h17 (by decide) (lk_n h18 (by decide) (lk_n h19 (by decide) (lk_n h20 (by decide) rfl)))))))))) (by decide) ?_
    refine r_iconst X dX4_levelOf_102 ci_m1 ?_
    exact r_iret X rfl hR (ok0 hf) dX4_levelOf_103
theorem md_X4_levelOf : MD yX4_levelOf wsX4_levelOf cX4_levelOf 1 1 (some .int) := ⟨⟨_, rfl⟩, by decide +kernel, by decide +kernel, by decide⟩
theorem c_X4_levelOf (l : Launch) (G : GX)  (a0 : Int32) (σ : MM) (h : (f_X4_levelOf a0 σ).isSome = true) : CTi l G yX4_levelOf wsX4_levelOf 3 [.int a0] σ (f_X4_levelOf a0 σ) :=
  CTi_of md_X4_levelOf (Nat.le_of_ble_eq_true rfl) (fun K X hR => e_X4_levelOf X hR a0 σ (ok_is h))
theorem md_X4_readLevel : MD yX4_readLevel wsX4_readLevel cX4_readLevel 6 2 (some .boolean) := ⟨⟨_, rfl⟩, by decide +kernel, by decide +kernel, by decide⟩
-- X4_readNot
theorem in_X4_readNot_4 : ∀ w ∈ u_ws RX4 TX4 5, w ∈ wsX4_readNot := fun _ h => List.mem_cons_of_mem _ (List.mem_append_left _ (List.mem_append_right _ h))
theorem in_X4_readNot_6 : ∀ w ∈ u_ws RX6 TX6 3, w ∈ wsX4_readNot := fun _ h => List.mem_cons_of_mem _ (List.mem_append_right _ h)
def f_X4_readNot (rl : Int32 → Int32 → MM → Option (Int32 × MM)) (a1 : Int32) (σ : MM) : Option (Int32 × MM) :=
  lt (mu σ 109 1 ((σ 109 1) + (1 : Int32))) (fun σ10 => bd (rl (5 : Int32) a1 σ10) (fun r12 σ13 => if r12 = 0 then some ((0 : Int32), σ13) else bd (f_X6_add 110 (10033 : Int32) σ13) (fun r16 σ17 => some ((1 : Int32), σ17))))
set_option maxRecDepth 100000 in
set_option maxHeartbeats 4000000 in
theorem e_X4_readNot {l : Launch} {G : GX} {n0 : Nat} {K : KX} (X : FX G K cX4_readNot RX4 (some .boolean) wsX4_readNot 2) {Φ : Int32 → MM → Prop} (hR : Ri G K Φ) (rl : Int32 → Int32 → MM → Option (Int32 × MM)) (hrl : ∀ (b1 b2 : Int32) (σ : MM), (rl b1 b2 σ).isSome = true → CTi l G yX4_readLevel wsX4_readLevel n0 [.ref (G.1 109), .int b1, .int b2] σ (rl b1 b2 σ)) (hn0 : 6 ≤ n0) (a1 : Int32) (σ : MM) (hf : Ok Φ (f_X4_readNot rl a1 σ)) : V l G (n0 + 1) K 2 0 [(0, .ref (G.1 109)), (1, .int a1)] [] σ := by
    unfold f_X4_readNot at hf
    refine r_aload_n X dX4_readNot_0 0 rfl isr_ref ?_
    refine r_dup X dX4_readNot_1 rfl ?_
    refine r_get (i := 109) (v := .int (σ 109 1)) X in_X4_readNot_4 rfl 1 (by decide) (kd_in kc_109 (by decide)) (EE_4 _ kc_109) rfl (mem_ix 1 rfl) dX4_readNot_2 ?_
    refine r_iconst X dX4_readNot_5 ci_1 ?_
    refine r_iadd X dX4_readNot_6 ?_
    obtain ⟨σ10, e11, hf⟩ := okl hf
    refine r_put (i := 109) (f := upd (σ 109) 1 ((σ 109 1) + (1 : Int32))) X in_X4_readNot_4 tyX4 tyX4_ok nmX4 rfl 1 (by decide) (kd_in kc_109 (by decide)) (EE_4 _ kc_109) (EU_4_1 _ _ kc_109) rfl (mem_ix 1 rfl) rfl rfl rfl rfl dX4_readNot_7 ?_
    refine r_sg e11 ?_
    refine r_aload_n X dX4_readNot_10 0 rfl isr_ref ?_
    refine r_iconst X dX4_readNot_11 ci_5 ?_
    refine r_iload_n X dX4_readNot_12 1 rfl ?_
    refine r_callVi (rest := []) X (hrl (5 : Int32) a1 σ10 (oks hf)) md_X4_readLevel gX4_readNot_X4_readLevel (by omega) rfl rfl (kd_in kc_109 (by decide)) (EE_4 _ kc_109) rfl rfl (Nat.le_of_ble_eq_true rfl) dX4_readNot_13 (fun r12 σ13 e14 => ?_)
    replace hf := okn e14 hf
    refine r_if_ne (tgt := 21) X dX4_readNot_16 (by decide) (fun h15 => ?_) (fun h15 => ?_)
    · replace hf := okf h15 hf
      refine r_aload_n X dX4_readNot_21 0 rfl isr_ref ?_
      refine r_get (i := 109) (v := .ref (G.1 110)) X in_X4_readNot_4 rfl 0 (by decide) (kd_in kc_109 (by decide)) (EE_4 _ kc_109) rfl (mem_ix 2 rfl) dX4_readNot_22 ?_
      refine r_sipush X dX4_readNot_25 cs_10033 ?_
      refine r_callVv (rest := []) X (c_X6_add l G 110 (10033 : Int32) kc_110 σ13 (oks hf)) md_X6_add gX4_readNot_X6_add (by omega) rfl rfl (kd_in kc_110 (by decide)) (EE_6 _ kc_110) rfl rfl (Nat.le_of_ble_eq_true rfl) dX4_readNot_28 (fun r16 σ17 e18 => ?_)
      replace hf := okn e18 hf
      refine r_iconst X dX4_readNot_31 ci_1 ?_
      exact r_zret X rfl hR (by decide) (ok0 hf) dX4_readNot_32
    · replace hf := okt h15 hf
      refine r_iconst X dX4_readNot_19 ci_0 ?_
      exact r_zret X rfl hR (by decide) (ok0 hf) dX4_readNot_20
theorem md_X4_readNot : MD yX4_readNot wsX4_readNot cX4_readNot 2 1 (some .boolean) := ⟨⟨_, rfl⟩, by decide +kernel, by decide +kernel, by decide⟩
theorem c_X4_readNot (l : Launch) (G : GX) {n0 : Nat} (rl : Int32 → Int32 → MM → Option (Int32 × MM)) (hrl : ∀ (b1 b2 : Int32) (σ : MM), (rl b1 b2 σ).isSome = true → CTi l G yX4_readLevel wsX4_readLevel n0 [.ref (G.1 109), .int b1, .int b2] σ (rl b1 b2 σ)) (hn0 : 6 ≤ n0) (a1 : Int32) (σ : MM) (h : (f_X4_readNot rl a1 σ).isSome = true) : CTi l G yX4_readNot wsX4_readNot (n0 + 1) [.ref (G.1 109), .int a1] σ (f_X4_readNot rl a1 σ) :=
  CTi_of md_X4_readNot (Nat.le_of_ble_eq_true rfl) (fun K X hR => e_X4_readNot X hR rl hrl hn0 a1 σ (ok_is h))
-- X4_readInner
theorem in_X4_readInner_4 : ∀ w ∈ u_ws RX4 TX4 5, w ∈ wsX4_readInner := fun _ h => List.mem_cons_of_mem _ (List.mem_append_left _ (List.mem_append_right _ h))
theorem in_X4_readInner_6 : ∀ w ∈ u_ws RX6 TX6 3, w ∈ wsX4_readInner := fun _ h => List.mem_cons_of_mem _ (List.mem_append_right _ h)
def f_X4_readInner (rl : Int32 → Int32 → MM → Option (Int32 × MM)) (a1 : Int32) (σ : MM) : Option (Int32 × MM) :=
  lt (mu σ 109 1 ((σ 109 1) + (1 : Int32))) (fun σ13 => bd (rl (0 : Int32) a1 σ13) (fun r15 σ16 => if r15 = 0 then some ((0 : Int32), σ16) else bd (f_X4_next σ16) (fun r19 σ20 => if r19 = (41 : Int32) then lt (mu σ20 109 1 ((σ20 109 1) + (1 : Int32))) (fun σ23 => some ((1 : Int32), σ23)) else some ((0 : Int32), σ20))))
set_option maxRecDepth 100000 in
set_option maxHeartbeats 4000000 in
theorem e_X4_readInner {l : Launch} {G : GX} {n0 : Nat} {K : KX} (X : FX G K cX4_readInner RX4 (some .boolean) wsX4_readInner 2) {Φ : Int32 → MM → Prop} (hR : Ri G K Φ) (rl : Int32 → Int32 → MM → Option (Int32 × MM)) (hrl : ∀ (b1 b2 : Int32) (σ : MM), (rl b1 b2 σ).isSome = true → CTi l G yX4_readLevel wsX4_readLevel n0 [.ref (G.1 109), .int b1, .int b2] σ (rl b1 b2 σ)) (hn0 : 6 ≤ n0) (a1 : Int32) (σ : MM) (hf : Ok Φ (f_X4_readInner rl a1 σ)) : V l G (n0 + 1) K 2 0 [(0, .ref (G.1 109)), (1, .int a1)] [] σ := by
    unfold f_X4_readInner at hf
    refine r_aload_n X dX4_readInner_0 0 rfl isr_ref ?_
    refine r_dup X dX4_readInner_1 rfl ?_
    refine r_get (i := 109) (v := .int (σ 109 1)) X in_X4_readInner_4 rfl 1 (by decide) (kd_in kc_109 (by decide)) (EE_4 _ kc_109) rfl (mem_ix 1 rfl) dX4_readInner_2 ?_
    refine r_iconst X dX4_readInner_5 ci_1 ?_
    refine r_iadd X dX4_readInner_6 ?_
    obtain ⟨σ13, e14, hf⟩ := okl hf
    refine r_put (i := 109) (f := upd (σ 109) 1 ((σ 109 1) + (1 : Int32))) X in_X4_readInner_4 tyX4 tyX4_ok nmX4 rfl 1 (by decide) (kd_in kc_109 (by decide)) (EE_4 _ kc_109) (EU_4_1 _ _ kc_109) rfl (mem_ix 1 rfl) rfl rfl rfl rfl dX4_readInner_7 ?_
    refine r_sg e14 ?_
    refine r_aload_n X dX4_readInner_10 0 rfl isr_ref ?_
    refine r_iconst X dX4_readInner_11 ci_0 ?_
    refine r_iload_n X dX4_readInner_12 1 rfl ?_
    refine r_callVi (rest := []) X (hrl (0 : Int32) a1 σ13 (oks hf)) md_X4_readLevel gX4_readInner_X4_readLevel (by omega) rfl rfl (kd_in kc_109 (by decide)) (EE_4 _ kc_109) rfl rfl (Nat.le_of_ble_eq_true rfl) dX4_readInner_13 (fun r15 σ16 e17 => ?_)
    replace hf := okn e17 hf
    refine r_if_eq (tgt := 28) X dX4_readInner_16 (by decide) (fun h18 => ?_) (fun h18 => ?_)
    · replace hf := okt h18 hf
      refine r_iconst X dX4_readInner_28 ci_0 ?_
      exact r_zret X rfl hR (by decide) (ok0 hf) dX4_readInner_29
    · replace hf := okf h18 hf
      refine r_aload_n X dX4_readInner_19 0 rfl isr_ref ?_
      refine r_callVi (rest := []) X (c_X4_next l G σ16 (oks hf)) md_X4_next gX4_readInner_X4_next (by omega) rfl rfl (kd_in kc_109 (by decide)) (EE_4 _ kc_109) rfl rfl (Nat.le_of_ble_eq_true rfl) dX4_readInner_20 (fun r19 σ20 e21 => ?_)
      replace hf := okn e21 hf
      refine r_bipush X dX4_readInner_23 cb_41 ?_
      refine r_icmp_eq (tgt := 30) X dX4_readInner_25 (by decide) (fun h22 => ?_) (fun h22 => ?_)
      · replace hf := okt h22 hf
        refine r_aload_n X dX4_readInner_30 0 rfl isr_ref ?_
        refine r_dup X dX4_readInner_31 rfl ?_
        refine r_get (i := 109) (v := .int (σ20 109 1)) X in_X4_readInner_4 rfl 1 (by decide) (kd_in kc_109 (by decide)) (EE_4 _ kc_109) rfl (mem_ix 1 rfl) dX4_readInner_32 ?_
        refine r_iconst X dX4_readInner_35 ci_1 ?_
        refine r_iadd X dX4_readInner_36 ?_
        obtain ⟨σ23, e24, hf⟩ := okl hf
        refine r_put (i := 109) (f := upd (σ20 109) 1 ((σ20 109 1) + (1 : Int32))) X in_X4_readInner_4 tyX4 tyX4_ok nmX4 rfl 1 (by decide) (kd_in kc_109 (by decide)) (EE_4 _ kc_109) (EU_4_1 _ _ kc_109) rfl (mem_ix 1 rfl) rfl rfl rfl rfl dX4_readInner_37 ?_
        refine r_sg e24 ?_
        refine r_iconst X dX4_readInner_40 ci_1 ?_
        exact r_zret X rfl hR (by decide) (ok0 hf) dX4_readInner_41
      · replace hf := okf h22 hf
        refine r_iconst X dX4_readInner_28 ci_0 ?_
        exact r_zret X rfl hR (by decide) (ok0 hf) dX4_readInner_29
theorem md_X4_readInner : MD yX4_readInner wsX4_readInner cX4_readInner 2 1 (some .boolean) := ⟨⟨_, rfl⟩, by decide +kernel, by decide +kernel, by decide⟩
theorem c_X4_readInner (l : Launch) (G : GX) {n0 : Nat} (rl : Int32 → Int32 → MM → Option (Int32 × MM)) (hrl : ∀ (b1 b2 : Int32) (σ : MM), (rl b1 b2 σ).isSome = true → CTi l G yX4_readLevel wsX4_readLevel n0 [.ref (G.1 109), .int b1, .int b2] σ (rl b1 b2 σ)) (hn0 : 6 ≤ n0) (a1 : Int32) (σ : MM) (h : (f_X4_readInner rl a1 σ).isSome = true) : CTi l G yX4_readInner wsX4_readInner (n0 + 1) [.ref (G.1 109), .int a1] σ (f_X4_readInner rl a1 σ) :=
  CTi_of md_X4_readInner (Nat.le_of_ble_eq_true rfl) (fun K X hR => e_X4_readInner X hR rl hrl hn0 a1 σ (ok_is h))
-- X4_readLast
theorem in_X4_readLast_4 : ∀ w ∈ u_ws RX4 TX4 5, w ∈ wsX4_readLast := fun _ h => List.mem_cons_of_mem _ (List.mem_append_left _ (List.mem_append_right _ h))
theorem in_X4_readLast_6 : ∀ w ∈ u_ws RX6 TX6 3, w ∈ wsX4_readLast := fun _ h => List.mem_cons_of_mem _ (List.mem_append_right _ h)
def u_X4_readLast_35 (rl : Int32 → Int32 → MM → Option (Int32 × MM)) (v1 : Int32) (v2 : Int32) (vs0 : Int32) (σ : MM) : Option (Int32 × MM) :=
  if vs0 < 0 then if v1 < (5 : Int32) then if v2 = (33 : Int32) then bd (f_X4_readNot rl (v1 + (1 : Int32)) σ) (fun r52 σ53 => if r52 = 0 ∨ r52 = 1 then some (r52, σ53) else none) else if v2 = (40 : Int32) then bd (f_X4_readInner rl (v1 + (1 : Int32)) σ) (fun r48 σ49 => if r48 = 0 then some ((0 : Int32), σ49) else some ((1 : Int32), σ49)) else some ((0 : Int32), σ) else some ((0 : Int32), σ) else lt (mu σ 109 1 ((σ 109 1) + (1 : Int32))) (fun σ56 => bd (f_X6_add 110 ((-1 : Int32) - vs0) σ56) (fun r58 σ59 => some ((1 : Int32), σ59)))
def f_X4_readLast (rl : Int32 → Int32 → MM → Option (Int32 × MM)) (a1 : Int32) (σ : MM) : Option (Int32 × MM) :=
  bd (f_X4_next σ) (fun r32 σ33 => bd (f_X4_isDigit r32 σ33) (fun r35 σ36 => if r35 = 0 then if 0 ≤ r32 then if (σ36 109 4) = 0 ∨ (σ36 109 4) = 1 then bd (f_J0_indexOf_0f7a4 (σ36 109 4) ((r32.toUInt32 % 65536).toInt32) σ36) (fun r41 σ42 => u_X4_readLast_35 rl a1 r32 r41 σ42) else none else u_X4_readLast_35 rl a1 r32 (-1 : Int32) σ36 else bd (f_X4_readNumber σ36) (fun r61 σ62 => some ((1 : Int32), σ62))))
set_option maxRecDepth 100000 in
set_option maxHeartbeats 4000000 in
theorem t_X4_readLast_35 {l : Launch} {G : GX} {n0 : Nat} {K : KX} (X : FX G K cX4_readLast RX4 (some .boolean) wsX4_readLast 4) {Φ : Int32 → MM → Prop} (hR : Ri G K Φ) (rl : Int32 → Int32 → MM → Option (Int32 × MM)) (hrl : ∀ (b1 b2 : Int32) (σ : MM), (rl b1 b2 σ).isSome = true → CTi l G yX4_readLevel wsX4_readLevel n0 [.ref (G.1 109), .int b1, .int b2] σ (rl b1 b2 σ)) (hn0 : 6 ≤ n0) (v1 : Int32) (v2 : Int32) (vs0 : Int32) (σ : MM) (hf : Ok Φ (u_X4_readLast_35 rl v1 v2 vs0 σ)) : V l G (n0 + 2) K 4 35 [(0, .ref (G.1 109)), (1, .int v1), (2, .int v2)] [.int vs0] σ := by
    unfold u_X4_readLast_35 at hf
    refine r_istore_n X dX4_readLast_35 (i := 3) rfl (by decide) (lv' := [(3, .int vs0), (0, .ref (G.1 109)), (1, .int v1), (2, .int v2)]) rfl ?_
    refine r_iload_n X dX4_readLast_36 0 rfl ?_
    refine r_if_lt (tgt := 62) X dX4_readLast_37 (by decide) (fun h44 => ?_) (fun h44 => ?_)
    · replace hf := okt h44 hf
      refine r_iload_n X dX4_readLast_62 2 rfl ?_
      refine r_iconst X dX4_readLast_63 ci_5 ?_
      refine r_icmp_lt (tgt := 69) X dX4_readLast_64 (by decide) (fun h45 => ?_) (fun h45 => ?_)
      · replace hf := okt h45 hf
        refine r_iload_n X dX4_readLast_69 3 rfl ?_
        refine r_bipush X dX4_readLast_70 cb_33 ?_
        refine r_icmp_ne (tgt := 83) X dX4_readLast_72 (by decide) (fun h46 => ?_) (fun h46 => ?_)
        · replace hf := okf h46 hf
          refine r_iload_n X dX4_readLast_83 3 rfl ?_
          refine r_bipush X dX4_readLast_84 cb_40 ?_
          refine r_icmp_ne (tgt := 103) X dX4_readLast_86 (by decide) (fun h47 => ?_) (fun h47 => ?_)
          · replace hf := okf h47 hf
            refine r_iconst X dX4_readLast_103 ci_0 ?_
            exact r_zret X rfl hR (by decide) (ok0 hf) dX4_readLast_104
          · replace hf := okt h47 hf
            refine r_aload_n X dX4_readLast_89 1 rfl isr_ref ?_
            refine r_iload_n X dX4_readLast_90 2 rfl ?_
            refine r_iconst X dX4_readLast_91 ci_1 ?_
            refine r_iadd X dX4_readLast_92 ?_
            refine r_callVi (rest := []) X (c_X4_readInner l G rl hrl hn0 (v1 + (1 : Int32)) σ (oks hf)) md_X4_readInner gX4_readLast_X4_readInner (by omega) rfl rfl (kd_in kc_109 (by decide)) (EE_4 _ kc_109) rfl rfl (Nat.le_of_ble_eq_true rfl) dX4_readLast_93 (fun r48 σ49 e50 => ?_)
            replace hf := okn e50 hf
            refine r_if_eq (tgt := 103) X dX4_readLast_96 (by decide) (fun h51 => ?_) (fun h51 => ?_)
            · replace hf := okt h51 hf
              refine r_iconst X dX4_readLast_103 ci_0 ?_
              exact r_zret X rfl hR (by decide) (ok0 hf) dX4_readLast_104
            · replace hf := okf h51 hf
              refine r_iconst X dX4_readLast_99 ci_1 ?_
              refine r_goto (tgt := 104) X dX4_readLast_100 (by decide) ?_
              exact r_zret X rfl hR (by decide) (ok0 hf) dX4_readLast_104
        · replace hf := okt h46 hf
          refine r_aload_n X dX4_readLast_75 1 rfl isr_ref ?_
          refine r_iload_n X dX4_readLast_76 2 rfl ?_
          refine r_iconst X dX4_readLast_77 ci_1 ?_
          refine r_iadd X dX4_readLast_78 ?_
          refine r_callVi (rest := []) X (c_X4_readNot l G rl hrl hn0 (v1 + (1 : Int32)) σ (oks hf)) md_X4_readNot gX4_readLast_X4_readNot (by omega) rfl rfl (kd_in kc_109 (by decide)) (EE_4 _ kc_109) rfl rfl (Nat.le_of_ble_eq_true rfl) dX4_readLast_79 (fun r52 σ53 e54 => ?_)
          replace hf := okn e54 hf
          obtain ⟨g55, hf⟩ := okp hf
          exact r_zret X rfl hR g55 (ok0 hf) dX4_readLast_82
      · replace hf := okf h45 hf
        refine r_iconst X dX4_readLast_67 ci_0 ?_
        exact r_zret X rfl hR (by decide) (ok0 hf) dX4_readLast_68
    · replace hf := okf h44 hf
      refine r_aload_n X dX4_readLast_40 1 rfl isr_ref ?_
      refine r_dup X dX4_readLast_41 rfl ?_
      refine r_get (i := 109) (v := .int (σ 109 1)) X in_X4_readLast_4 rfl 1 (by decide) (kd_in kc_109 (by decide)) (EE_4 _ kc_109) rfl (mem_ix 2 rfl) dX4_readLast_42 ?_
      refine r_iconst X dX4_readLast_45 ci_1 ?_
      refine r_iadd X dX4_readLast_46 ?_
      obtain ⟨σ56, e57, hf⟩ := okl hf
      refine r_put (i := 109) (f := upd (σ 109) 1 ((σ 109 1) + (1 : Int32))) X in_X4_readLast_4 tyX4 tyX4_ok nmX4 rfl 1 (by decide) (kd_in kc_109 (by decide)) (EE_4 _ kc_109) (EU_4_1 _ _ kc_109) rfl (mem_ix 2 rfl) rfl rfl rfl rfl dX4_readLast_47 ?_
      refine r_sg e57 ?_
      refine r_aload_n X dX4_readLast_50 1 rfl isr_ref ?_
      refine r_get (i := 109) (v := .ref (G.1 110)) X in_X4_readLast_4 rfl 0 (by decide) (kd_in kc_109 (by decide)) (EE_4 _ kc_109) rfl (mem_ix 3 rfl) dX4_readLast_51 ?_
      refine r_iconst X dX4_readLast_54 ci_m1 ?_
      refine r_iload_n X dX4_readLast_55 0 rfl ?_
      refine r_isub X dX4_readLast_56 ?_
      refine r_callVv (rest := []) X (c_X6_add l G 110 ((-1 : Int32) - vs0) kc_110 σ56 (oks hf)) md_X6_add gX4_readLast_X6_add (by omega) rfl rfl (kd_in kc_110 (by decide)) (EE_6 _ kc_110) rfl rfl (Nat.le_of_ble_eq_true rfl) dX4_readLast_57 (fun r58 σ59 e60 => ?_)
      replace hf := okn e60 hf
      refine r_iconst X dX4_readLast_60 ci_1 ?_
      exact r_zret X rfl hR (by decide) (ok0 hf) dX4_readLast_61
set_option maxRecDepth 100000 in
set_option maxHeartbeats 4000000 in
theorem e_X4_readLast {l : Launch} {G : GX} {n0 : Nat} {K : KX} (X : FX G K cX4_readLast RX4 (some .boolean) wsX4_readLast 4) {Φ : Int32 → MM → Prop} (hR : Ri G K Φ) (rl : Int32 → Int32 → MM → Option (Int32 × MM)) (hrl : ∀ (b1 b2 : Int32) (σ : MM), (rl b1 b2 σ).isSome = true → CTi l G yX4_readLevel wsX4_readLevel n0 [.ref (G.1 109), .int b1, .int b2] σ (rl b1 b2 σ)) (hn0 : 6 ≤ n0) (a1 : Int32) (σ : MM) (hf : Ok Φ (f_X4_readLast rl a1 σ)) : V l G (n0 + 2) K 4 0 [(0, .ref (G.1 109)), (1, .int a1)] [] σ := by
    unfold f_X4_readLast at hf
    refine r_aload_n X dX4_readLast_0 0 rfl isr_ref ?_
    refine r_callVi (rest := []) X (c_X4_next l G σ (oks hf)) md_X4_next gX4_readLast_X4_next (by omega) rfl rfl (kd_in kc_109 (by decide)) (EE_4 _ kc_109) rfl rfl (Nat.le_of_ble_eq_true rfl) dX4_readLast_1 (fun r32 σ33 e34 => ?_)
    replace hf := okn e34 hf
    refine r_istore_n X dX4_readLast_4 (i := 2) rfl (by decide) (lv' := [(2, .int r32), (0, .ref (G.1 109)), (1, .int a1)]) rfl ?_
    refine r_iload_n X dX4_readLast_5 0 rfl ?_
    refine r_callSi (rest := []) X (c_X4_isDigit l G r32 σ33 (oks hf)) md_X4_isDigit gX4_readLast_X4_isDigit (by omega) rfl rfl (Nat.le_of_ble_eq_true rfl) dX4_readLast_6 (fun r35 σ36 e37 => ?_)
    replace hf := okn e37 hf
    refine r_if_eq (tgt := 18) X dX4_readLast_9 (by decide) (fun h38 => ?_) (fun h38 => ?_)
    · replace hf := okt h38 hf
      refine r_iload_n X dX4_readLast_18 0 rfl ?_
      refine r_if_ge (tgt := 26) X dX4_readLast_19 (by decide) (fun h39 => ?_) (fun h39 => ?_)
      · replace hf := okt h39 hf
        refine r_aload_n X dX4_readLast_26 1 rfl isr_ref ?_
        refine r_get (i := 109) (v := .ref (G.2.2.2 (2 + (σ36 109 4).toNatClampNeg))) X in_X4_readLast_4 rfl 4 (by decide) (kd_in kc_109 (by decide)) (EE_4 _ kc_109) rfl (mem_ix 1 rfl) dX4_readLast_27 ?_
        refine r_iload_n X dX4_readLast_30 0 rfl ?_
        refine r_i2c X dX4_readLast_31 ?_
        obtain ⟨hs40, hf⟩ := okp hf
        refine r_callSVi (rest := []) X (c_J0_indexOf_0f7a4 l G (σ36 109 4) ((r32.toUInt32 % 65536).toInt32) hs40 σ36 (oks hf)) md_J0_indexOf_0f7a4 gX4_readLast_J0_indexOf_0f7a4 (by omega) rfl hs40 rfl rfl (Nat.le_of_ble_eq_true rfl) dX4_readLast_32 (fun r41 σ42 e43 => ?_)
        replace hf := okn e43 hf
        refine r_sub [1, 2, 0] rfl ?_
        exact t_X4_readLast_35 X hR rl hrl hn0 a1 r32 r41 σ42 hf
      · replace hf := okf h39 hf
        refine r_iconst X dX4_readLast_22 ci_m1 ?_
        refine r_goto (tgt := 35) X dX4_readLast_23 (by decide) ?_
        refine r_sub [1, 2, 0] rfl ?_
        exact t_X4_readLast_35 X hR rl hrl hn0 a1 r32 (-1 : Int32) σ36 hf
    · replace hf := okf h38 hf
      refine r_aload_n X dX4_readLast_12 1 rfl isr_ref ?_
      refine r_callVv (rest := []) X (c_X4_readNumber l G σ36 (oks hf)) md_X4_readNumber gX4_readLast_X4_readNumber (by omega) rfl rfl (kd_in kc_109 (by decide)) (EE_4 _ kc_109) rfl rfl (Nat.le_of_ble_eq_true rfl) dX4_readLast_13 (fun r61 σ62 e63 => ?_)
      replace hf := okn e63 hf
      refine r_iconst X dX4_readLast_16 ci_1 ?_
      exact r_zret X rfl hR (by decide) (ok0 hf) dX4_readLast_17
theorem md_X4_readLast : MD yX4_readLast wsX4_readLast cX4_readLast 4 1 (some .boolean) := ⟨⟨_, rfl⟩, by decide +kernel, by decide +kernel, by decide⟩
theorem c_X4_readLast (l : Launch) (G : GX) {n0 : Nat} (rl : Int32 → Int32 → MM → Option (Int32 × MM)) (hrl : ∀ (b1 b2 : Int32) (σ : MM), (rl b1 b2 σ).isSome = true → CTi l G yX4_readLevel wsX4_readLevel n0 [.ref (G.1 109), .int b1, .int b2] σ (rl b1 b2 σ)) (hn0 : 6 ≤ n0) (a1 : Int32) (σ : MM) (h : (f_X4_readLast rl a1 σ).isSome = true) : CTi l G yX4_readLast wsX4_readLast (n0 + 2) [.ref (G.1 109), .int a1] σ (f_X4_readLast rl a1 σ) :=
  CTi_of md_X4_readLast (Nat.le_of_ble_eq_true rfl) (fun K X hR => e_X4_readLast X hR rl hrl hn0 a1 σ (ok_is h))
-- X4_readLevel
theorem in_X4_readLevel_4 : ∀ w ∈ u_ws RX4 TX4 5, w ∈ wsX4_readLevel := fun _ h => List.mem_cons_of_mem _ (List.mem_append_left _ (List.mem_append_right _ h))
theorem in_X4_readLevel_6 : ∀ w ∈ u_ws RX6 TX6 3, w ∈ wsX4_readLevel := fun _ h => List.mem_cons_of_mem _ (List.mem_append_right _ h)
def u_X4_readLevel_29 (rl : Int32 → Int32 → MM → Option (Int32 × MM)) (k29 : Int32 → Int32 → Int32 → Int32 → MM → Option (Int32 × MM)) (v1 : Int32) (v2 : Int32) (v3 : Int32) (v4 : Int32) (σ : MM) : Option (Int32 × MM) :=
  if (60 : Int32) ≤ v4 then some ((1 : Int32), σ) else if v3 = 0 then some ((1 : Int32), σ) else bd (f_X4_next σ) (fun r38 σ39 => bd (f_X4_levelOf r38 σ39) (fun r41 σ42 => if r41 = v1 then bd (f_X4_next σ42) (fun r45 σ46 => lt (mu σ46 109 1 ((σ46 109 1) + (1 : Int32))) (fun σ48 => bd (rl (v1 + (1 : Int32)) v2 σ48) (fun r50 σ51 => if r50 = 0 then some ((0 : Int32), σ51) else bd (f_X6_add 110 ((10000 : Int32) + r45) σ51) (fun r54 σ55 => if v1 = (2 : Int32) then k29 v1 v2 (0 : Int32) (v4 + (1 : Int32)) σ55 else k29 v1 v2 (1 : Int32) (v4 + (1 : Int32)) σ55)))) else some ((1 : Int32), σ42)))
def l_X4_readLevel_29 (rl : Int32 → Int32 → MM → Option (Int32 × MM)) (v1 : Int32) (v2 : Int32) (v3 : Int32) (v4 : Int32) (σ : MM) : Option (Int32 × MM) :=
  itr (fun _ _ _ _ _ => none) (u_X4_readLevel_29 rl) FU v1 v2 v3 v4 σ
def g_X4_readLevel (rl : Int32 → Int32 → MM → Option (Int32 × MM)) (a1 : Int32) (a2 : Int32) (σ : MM) : Option (Int32 × MM) :=
  if a1 < (5 : Int32) then bd (rl (a1 + (1 : Int32)) a2 σ) (fun r32 σ33 => if r32 = 0 then some ((0 : Int32), σ33) else l_X4_readLevel_29 rl a1 a2 (1 : Int32) (0 : Int32) σ33) else bd (f_X4_readLast rl a2 σ) (fun r58 σ59 => if r58 = 0 ∨ r58 = 1 then some (r58, σ59) else none)
set_option maxRecDepth 100000 in
set_option maxHeartbeats 4000000 in
theorem t_X4_readLevel_29 {l : Launch} {G : GX} {n0 : Nat} {K : KX} (X : FX G K cX4_readLevel RX4 (some .boolean) wsX4_readLevel 6) {Φ : Int32 → MM → Prop} (hR : Ri G K Φ) (rl : Int32 → Int32 → MM → Option (Int32 × MM)) (hrl : ∀ (b1 b2 : Int32) (σ : MM), (rl b1 b2 σ).isSome = true → CTi l G yX4_readLevel wsX4_readLevel n0 [.ref (G.1 109), .int b1, .int b2] σ (rl b1 b2 σ)) (hn0 : 6 ≤ n0) (k29 : Int32 → Int32 → Int32 → Int32 → MM → Option (Int32 × MM)) (hk29c : ∀ (v1 : Int32) (v2 : Int32) (v3 : Int32) (v4 : Int32) (σ : MM), Ok Φ (k29 v1 v2 v3 v4 σ) → V l G (n0 + 3) K 6 29 [(0, .ref (G.1 109)), (1, .int v1), (2, .int v2), (3, .int v3), (4, .int v4)] [] σ) (v1 : Int32) (v2 : Int32) (v3 : Int32) (v4 : Int32) (σ : MM) (hf : Ok Φ (u_X4_readLevel_29 rl k29 v1 v2 v3 v4 σ)) : V l G (n0 + 3) K 6 29 [(0, .ref (G.1 109)), (1, .int v1), (2, .int v2), (3, .int v3), (4, .int v4)] [] σ := by
    unfold u_X4_readLevel_29 at hf
    refine r_iload X dX4_readLevel_29 4 rfl ?_
    refine r_bipush X dX4_readLevel_31 cb_60 ?_
    refine r_icmp_ge (tgt := 110) X dX4_readLevel_33 (by decide) (fun h36 => ?_) (fun h36 => ?_)
    · replace hf := okt h36 hf
      refine r_iconst X dX4_readLevel_110 ci_1 ?_
      exact r_zret X rfl hR (by decide) (ok0 hf) dX4_readLevel_111
    · replace hf := okf h36 hf
      refine r_iload_n X dX4_readLevel_36 3 rfl ?_
      refine r_if_eq (tgt := 110) X dX4_readLevel_37 (by decide) (fun h37 => ?_) (fun h37 => ?_)
      · replace hf := okt h37 hf
        refine r_iconst X dX4_readLevel_110 ci_1 ?_
        exact r_zret X rfl hR (by decide) (ok0 hf) dX4_readLevel_111
      · replace hf := okf h37 hf
        refine r_aload_n X dX4_readLevel_40 0 rfl isr_ref ?_
        refine r_callVi (rest := []) X (c_X4_next l G σ (oks hf)) md_X4_next gX4_readLevel_X4_next (by omega) rfl rfl (kd_in kc_109 (by decide)) (EE_4 _ kc_109) rfl rfl (Nat.le_of_ble_eq_true rfl) dX4_readLevel_41 (fun r38 σ39 e40 => ?_)
        replace hf := okn e40 hf
        refine r_callSi (rest := []) X (c_X4_levelOf l G r38 σ39 (oks hf)) md_X4_levelOf gX4_readLevel_X4_levelOf (by omega) rfl rfl (Nat.le_of_ble_eq_true rfl) dX4_readLevel_44 (fun r41 σ42 e43 => ?_)
        replace hf := okn e43 hf
        refine r_iload_n X dX4_readLevel_47 1 rfl ?_
        refine r_icmp_ne (tgt := 110) X dX4_readLevel_48 (by decide) (fun h44 => ?_) (fun h44 => ?_)
        · replace hf := okf h44 hf
          refine r_iconst X dX4_readLevel_110 ci_1 ?_
          exact r_zret X rfl hR (by decide) (ok0 hf) dX4_readLevel_111
        · replace hf := okt h44 hf
          refine r_aload_n X dX4_readLevel_51 0 rfl isr_ref ?_
          refine r_callVi (rest := []) X (c_X4_next l G σ42 (oks hf)) md_X4_next gX4_readLevel_X4_next (by omega) rfl rfl (kd_in kc_109 (by decide)) (EE_4 _ kc_109) rfl rfl (Nat.le_of_ble_eq_true rfl) dX4_readLevel_52 (fun r45 σ46 e47 => ?_)
          replace hf := okn e47 hf
          refine r_istore X dX4_readLevel_55 (by decide) (lv' := [(5, .int r45), (0, .ref (G.1 109)), (1, .int v1), (2, .int v2), (3, .int v3), (4, .int v4)]) rfl ?_
          refine r_aload_n X dX4_readLevel_57 1 rfl isr_ref ?_
          refine r_dup X dX4_readLevel_58 rfl ?_
          refine r_get (i := 109) (v := .int (σ46 109 1)) X in_X4_readLevel_4 rfl 1 (by decide) (kd_in kc_109 (by decide)) (EE_4 _ kc_109) rfl (mem_ix 1 rfl) dX4_readLevel_59 ?_
          refine r_iconst X dX4_readLevel_62 ci_1 ?_
          refine r_iadd X dX4_readLevel_63 ?_
          obtain ⟨σ48, e49, hf⟩ := okl hf
          refine r_put (i := 109) (f := upd (σ46 109) 1 ((σ46 109 1) + (1 : Int32))) X in_X4_readLevel_4 tyX4 tyX4_ok nmX4 rfl 1 (by decide) (kd_in kc_109 (by decide)) (EE_4 _ kc_109) (EU_4_1 _ _ kc_109) rfl (mem_ix 1 rfl) rfl rfl rfl rfl dX4_readLevel_64 ?_
          refine r_sg e49 ?_
          refine r_aload_n X dX4_readLevel_67 1 rfl isr_ref ?_
          refine r_iload_n X dX4_readLevel_68 2 rfl ?_
          refine r_iconst X dX4_readLevel_69 ci_1 ?_
          refine r_iadd X dX4_readLevel_70 ?_
          refine r_iload_n X dX4_readLevel_71 3 rfl ?_
          refine r_callVi (rest := []) X (hrl (v1 + (1 : Int32)) v2 σ48 (oks hf)) md_X4_readLevel gX4_readLevel_X4_readLevel (by omega) rfl rfl (kd_in kc_109 (by decide)) (EE_4 _ kc_109) rfl rfl (Nat.le_of_ble_eq_true rfl) dX4_readLevel_72 (fun r50 σ51 e52 => ?_)
          replace hf := okn e52 hf
          refine r_if_ne (tgt := 80) X dX4_readLevel_75 (by decide) (fun h53 => ?_) (fun h53 => ?_)
          · replace hf := okf h53 hf
            refine r_aload_n X dX4_readLevel_80 1 rfl isr_ref ?_
            refine r_get (i := 109) (v := .ref (G.1 110)) X in_X4_readLevel_4 rfl 0 (by decide) (kd_in kc_109 (by decide)) (EE_4 _ kc_109) rfl (mem_ix 2 rfl) dX4_readLevel_81 ?_
            refine r_sipush X dX4_readLevel_84 cs_10000 ?_
            refine r_iload X dX4_readLevel_87 0 rfl ?_
            refine r_iadd X dX4_readLevel_89 ?_
            refine r_callVv (rest := []) X (c_X6_add l G 110 ((10000 : Int32) + r45) kc_110 σ51 (oks hf)) md_X6_add gX4_readLevel_X6_add (by omega) rfl rfl (kd_in kc_110 (by decide)) (EE_6 _ kc_110) rfl rfl (Nat.le_of_ble_eq_true rfl) dX4_readLevel_90 (fun r54 σ55 e56 => ?_)
            replace hf := okn e56 hf
            refine r_iload_n X dX4_readLevel_93 2 rfl ?_
            refine r_iconst X dX4_readLevel_94 ci_2 ?_
            refine r_icmp_eq (tgt := 102) X dX4_readLevel_95 (by decide) (fun h57 => ?_) (fun h57 => ?_)
            · replace hf := okt h57 hf
              refine r_iconst X dX4_readLevel_102 ci_0 ?_
              refine r_istore_n X dX4_readLevel_103 (i := 3) rfl (by decide) (lv' := [(3, .int (0 : Int32)), (5, .int r45), (0, .ref (G.1 109)), (1, .int v1), (2, .int v2), (4, .int v4)]) rfl ?_
              refine r_iinc (v := (v4 + (1 : Int32))) X dX4_readLevel_104 5 rfl (congrArg _ ci_1) (by decide) (lv' := [(4, .int (v4 + (1 : Int32))), (3, .int (0 : Int32)), (5, .int r45), (0, .ref (G.1 109)), (1, .int v1), (2, .int v2)]) rfl ?_
              refine r_goto (tgt := 29) X dX4_readLevel_107 (by decide) ?_
              refine r_sub [3, 4, 5, 1, 0] rfl ?_
              exact hk29c v1 v2 (0 : Int32) (v4 + (1 : Int32)) σ55 hf
            · replace hf := okf h57 hf
              refine r_iconst X dX4_readLevel_98 ci_1 ?_
              refine r_goto (tgt := 103) X dX4_readLevel_99 (by decide) ?_
              refine r_istore_n X dX4_readLevel_103 (i := 3) rfl (by decide) (lv' := [(3, .int (1 : Int32)), (5, .int r45), (0, .ref (G.1 109)), (1, .int v1), (2, .int v2), (4, .int v4)]) rfl ?_
              refine r_iinc (v := (v4 + (1 : Int32))) X dX4_readLevel_104 5 rfl (congrArg _ ci_1) (by decide) (lv' := [(4, .int (v4 + (1 : Int32))), (3, .int (1 : Int32)), (5, .int r45), (0, .ref (G.1 109)), (1, .int v1), (2, .int v2)]) rfl ?_
              refine r_goto (tgt := 29) X dX4_readLevel_107 (by decide) ?_
              refine r_sub [3, 4, 5, 1, 0] rfl ?_
              exact hk29c v1 v2 (1 : Int32) (v4 + (1 : Int32)) σ55 hf
          · replace hf := okt h53 hf
            refine r_iconst X dX4_readLevel_78 ci_0 ?_
            exact r_zret X rfl hR (by decide) (ok0 hf) dX4_readLevel_79
theorem tl_X4_readLevel_29 {l : Launch} {G : GX} {n0 : Nat} {K : KX} (X : FX G K cX4_readLevel RX4 (some .boolean) wsX4_readLevel 6) {Φ : Int32 → MM → Prop} (hR : Ri G K Φ) (rl : Int32 → Int32 → MM → Option (Int32 × MM)) (hrl : ∀ (b1 b2 : Int32) (σ : MM), (rl b1 b2 σ).isSome = true → CTi l G yX4_readLevel wsX4_readLevel n0 [.ref (G.1 109), .int b1, .int b2] σ (rl b1 b2 σ)) (hn0 : 6 ≤ n0) : ∀ (m : Nat) (v1 : Int32) (v2 : Int32) (v3 : Int32) (v4 : Int32) (σ : MM), Ok Φ (itr (fun _ _ _ _ _ => none) (u_X4_readLevel_29 rl) m v1 v2 v3 v4 σ) → V l G (n0 + 3) K 6 29 [(0, .ref (G.1 109)), (1, .int v1), (2, .int v2), (3, .int v3), (4, .int v4)] [] σ := by
  intro m
  induction m with
  | zero => intro v1 v2 v3 v4 σ hf; exact (okx hf).elim
  | succ m ih => intro v1 v2 v3 v4 σ hf; exact t_X4_readLevel_29 X hR rl hrl hn0 _ ih v1 v2 v3 v4 σ hf
set_option maxRecDepth 100000 in
set_option maxHeartbeats 4000000 in
theorem e_X4_readLevel {l : Launch} {G : GX} {n0 : Nat} {K : KX} (X : FX G K cX4_readLevel RX4 (some .boolean) wsX4_readLevel 6) {Φ : Int32 → MM → Prop} (hR : Ri G K Φ) (rl : Int32 → Int32 → MM → Option (Int32 × MM)) (hrl : ∀ (b1 b2 : Int32) (σ : MM), (rl b1 b2 σ).isSome = true → CTi l G yX4_readLevel wsX4_readLevel n0 [.ref (G.1 109), .int b1, .int b2] σ (rl b1 b2 σ)) (hn0 : 6 ≤ n0) (a1 : Int32) (a2 : Int32) (σ : MM) (hf : Ok Φ (g_X4_readLevel rl a1 a2 σ)) : V l G (n0 + 3) K 6 0 [(0, .ref (G.1 109)), (1, .int a1), (2, .int a2)] [] σ := by
    unfold g_X4_readLevel at hf
    refine r_iload_n X dX4_readLevel_0 1 rfl ?_
    refine r_iconst X dX4_readLevel_1 ci_5 ?_
    refine r_icmp_lt (tgt := 11) X dX4_readLevel_2 (by decide) (fun h31 => ?_) (fun h31 => ?_)
    · replace hf := okt h31 hf
      refine r_aload_n X dX4_readLevel_11 0 rfl isr_ref ?_
      refine r_iload_n X dX4_readLevel_12 1 rfl ?_
      refine r_iconst X dX4_readLevel_13 ci_1 ?_
      refine r_iadd X dX4_readLevel_14 ?_
      refine r_iload_n X dX4_readLevel_15 2 rfl ?_
      refine r_callVi (rest := []) X (hrl (a1 + (1 : Int32)) a2 σ (oks hf)) md_X4_readLevel gX4_readLevel_X4_readLevel (by omega) rfl rfl (kd_in kc_109 (by decide)) (EE_4 _ kc_109) rfl rfl (Nat.le_of_ble_eq_true rfl) dX4_readLevel_16 (fun r32 σ33 e34 => ?_)
      replace hf := okn e34 hf
      refine r_if_ne (tgt := 24) X dX4_readLevel_19 (by decide) (fun h35 => ?_) (fun h35 => ?_)
      · replace hf := okf h35 hf
        refine r_iconst X dX4_readLevel_24 ci_1 ?_
        refine r_istore_n X dX4_readLevel_25 (i := 3) rfl (by decide) (lv' := [(3, .int (1 : Int32)), (0, .ref (G.1 109)), (1, .int a1), (2, .int a2)]) rfl ?_
        refine r_iconst X dX4_readLevel_26 ci_0 ?_
        refine r_istore X dX4_readLevel_27 (by decide) (lv' := [(4, .int (0 : Int32)), (3, .int (1 : Int32)), (0, .ref (G.1 109)), (1, .int a1), (2, .int a2)]) rfl ?_
        refine r_sub [2, 3, 4, 1, 0] rfl ?_
        exact tl_X4_readLevel_29 X hR rl hrl hn0 FU a1 a2 (1 : Int32) (0 : Int32) σ33 hf
      · replace hf := okt h35 hf
        refine r_iconst X dX4_readLevel_22 ci_0 ?_
        exact r_zret X rfl hR (by decide) (ok0 hf) dX4_readLevel_23
    · replace hf := okf h31 hf
      refine r_aload_n X dX4_readLevel_5 0 rfl isr_ref ?_
      refine r_iload_n X dX4_readLevel_6 2 rfl ?_
      refine r_callVi (rest := []) X (c_X4_readLast l G rl hrl hn0 a2 σ (oks hf)) md_X4_readLast gX4_readLevel_X4_readLast (by omega) rfl rfl (kd_in kc_109 (by decide)) (EE_4 _ kc_109) rfl rfl (Nat.le_of_ble_eq_true rfl) dX4_readLevel_7 (fun r58 σ59 e60 => ?_)
      replace hf := okn e60 hf
      obtain ⟨g61, hf⟩ := okp hf
      exact r_zret X rfl hR g61 (ok0 hf) dX4_readLevel_10
theorem cg_X4_readLevel (l : Launch) (G : GX) {n0 : Nat} (rl : Int32 → Int32 → MM → Option (Int32 × MM)) (hrl : ∀ (b1 b2 : Int32) (σ : MM), (rl b1 b2 σ).isSome = true → CTi l G yX4_readLevel wsX4_readLevel n0 [.ref (G.1 109), .int b1, .int b2] σ (rl b1 b2 σ)) (hn0 : 6 ≤ n0) (a1 : Int32) (a2 : Int32) (σ : MM) (h : (g_X4_readLevel rl a1 a2 σ).isSome = true) : CTi l G yX4_readLevel wsX4_readLevel (n0 + 3) [.ref (G.1 109), .int a1, .int a2] σ (g_X4_readLevel rl a1 a2 σ) :=
  CTi_of md_X4_readLevel (Nat.le_of_ble_eq_true rfl) (fun K X hR => e_X4_readLevel X hR rl hrl hn0 a1 a2 σ (ok_is h))
def f_X4_readLevel (d : Nat) : Int32 → Int32 → MM → Option (Int32 × MM) := itr (fun _ _ _ => none) (fun rl => g_X4_readLevel rl) d
theorem c_X4_readLevel (l : Launch) (G : GX) : ∀ (d : Nat) (b1 b2 : Int32) (σ : MM), (f_X4_readLevel d b1 b2 σ).isSome = true → CTi l G yX4_readLevel wsX4_readLevel (6 + 3 * d) [.ref (G.1 109), .int b1, .int b2] σ (f_X4_readLevel d b1 b2 σ) := by
  intro d
  induction d with
  | zero => intro b1 b2 σ h; exact Bool.noConfusion h
  | succ d ih => intro b1 b2 σ h; rw [show 6 + 3 * (d + 1) = (6 + 3 * d) + 3 by omega]; exact cg_X4_readLevel l G (n0 := 6 + 3 * d) (f_X4_readLevel d) ih (by omega) b1 b2 σ h
-- X4_read
theorem in_X4_read_4 : ∀ w ∈ u_ws RX4 TX4 5, w ∈ wsX4_read := fun _ h => List.mem_cons_of_mem _ (List.mem_append_left _ (List.mem_append_right _ h))
theorem in_X4_read_6 : ∀ w ∈ u_ws RX6 TX6 3, w ∈ wsX4_read := fun _ h => List.mem_cons_of_mem _ (List.mem_append_right _ h)
def f_X4_read (a1 : Int32) (a2 : Int32) (σ : MM) : Option (Int32 × MM) :=
  bd (f_X6_clear 110 σ) (fun r15 σ16 => lt (mu σ16 109 1 (0 : Int32)) (fun σ18 => lt (mu σ18 109 3 (if (60 : Int32) < a1 then (60 : Int32) else a1)) (fun σ20 => lt (mu σ20 109 4 a2) (fun σ22 => bd (f_X4_readLevel 50 (0 : Int32) (0 : Int32) σ22) (fun r24 σ25 => if r24 = 0 then some ((0 : Int32), σ25) else if (σ25 109 1) < (σ25 109 3) then some ((0 : Int32), σ25) else some ((1 : Int32), σ25))))))
set_option maxRecDepth 100000 in
set_option maxHeartbeats 4000000 in
theorem e_X4_read {l : Launch} {G : GX} {K : KX} (X : FX G K cX4_read RX4 (some .boolean) wsX4_read 3) {Φ : Int32 → MM → Prop} (hR : Ri G K Φ) (a1 : Int32) (a2 : Int32) (σ : MM) (hf : Ok Φ (f_X4_read a1 a2 σ)) : V l G 157 K 3 0 [(0, .ref (G.1 109)), (1, .int a1), (2, .ref (G.2.2.2 (2 + a2.toNatClampNeg)))] [] σ := by
    unfold f_X4_read at hf
    refine r_aload_n X dX4_read_0 0 rfl isr_ref ?_
    refine r_get (i := 109) (v := .ref (G.1 110)) X in_X4_read_4 rfl 0 (by decide) (kd_in kc_109 (by decide)) (EE_4 _ kc_109) rfl (mem_ix 1 rfl) dX4_read_1 ?_
    refine r_callVv (rest := []) X (c_X6_clear l G 110 kc_110 σ (oks hf)) md_X6_clear gX4_read_X6_clear (by decide) rfl rfl (kd_in kc_110 (by decide)) (EE_6 _ kc_110) rfl rfl (Nat.le_of_ble_eq_true rfl) dX4_read_4 (fun r15 σ16 e17 => ?_)
    replace hf := okn e17 hf
    refine r_aload_n X dX4_read_7 0 rfl isr_ref ?_
    refine r_iconst X dX4_read_8 ci_0 ?_
    obtain ⟨σ18, e19, hf⟩ := okl hf
    refine r_put (i := 109) (f := upd (σ16 109) 1 (0 : Int32)) X in_X4_read_4 tyX4 tyX4_ok nmX4 rfl 1 (by decide) (kd_in kc_109 (by decide)) (EE_4 _ kc_109) (EU_4_1 _ _ kc_109) rfl (mem_ix 2 rfl) rfl rfl rfl rfl dX4_read_9 ?_
    refine r_sg e19 ?_
    refine r_aload_n X dX4_read_12 0 rfl isr_ref ?_
    refine r_iload_n X dX4_read_13 1 rfl ?_
    refine r_aload_n X dX4_read_14 0 rfl isr_ref ?_
    refine r_get (i := 109) (v := .ref (G.1 9)) X in_X4_read_4 rfl 2 (by decide) (kd_in kc_109 (by decide)) (EE_4 _ kc_109) rfl (mem_ix 3 rfl) dX4_read_15 ?_
    refine r_alen (i := 9) (t := 0) (v := (60 : Int32)) X (kd_in kc_9 (by decide)) (EE_20 _ kc_9) rfl (by decide) dX4_read_18 ?_
    refine r_mmin X (mem_ix 4 rfl) (mem_ix 5 rfl) (mem_ix 6 rfl) (mem_ix 7 rfl) (Nat.le_of_ble_eq_true rfl) (by decide) dX4_read_19 ?_
    obtain ⟨σ20, e21, hf⟩ := okl hf
    refine r_put (i := 109) (f := upd (σ18 109) 3 (if (60 : Int32) < a1 then (60 : Int32) else a1)) X in_X4_read_4 tyX4 tyX4_ok nmX4 rfl 3 (by decide) (kd_in kc_109 (by decide)) (EE_4 _ kc_109) (EU_4_3 _ _ kc_109) rfl (mem_ix 8 rfl) rfl rfl rfl rfl dX4_read_22 ?_
    refine r_sg e21 ?_
    refine r_aload_n X dX4_read_25 0 rfl isr_ref ?_
    refine r_aload_n X dX4_read_26 2 rfl isr_ref ?_
    obtain ⟨σ22, e23, hf⟩ := okl hf
    refine r_put (i := 109) (f := upd (σ20 109) 4 a2) X in_X4_read_4 tyX4 tyX4_ok nmX4 rfl 4 (by decide) (kd_in kc_109 (by decide)) (EE_4 _ kc_109) (EU_4_4 _ _ kc_109) rfl (mem_ix 9 rfl) rfl rfl rfl rfl dX4_read_27 ?_
    refine r_sg e23 ?_
    refine r_aload_n X dX4_read_30 0 rfl isr_ref ?_
    refine r_iconst X dX4_read_31 ci_0 ?_
    refine r_iconst X dX4_read_32 ci_0 ?_
    refine r_callVi (rest := []) X (c_X4_readLevel l G 50 (0 : Int32) (0 : Int32) σ22 (oks hf)) md_X4_readLevel gX4_read_X4_readLevel (by decide) rfl rfl (kd_in kc_109 (by decide)) (EE_4 _ kc_109) rfl rfl (Nat.le_of_ble_eq_true rfl) dX4_read_33 (fun r24 σ25 e26 => ?_)
    replace hf := okn e26 hf
    refine r_if_eq (tgt := 54) X dX4_read_36 (by decide) (fun h27 => ?_) (fun h27 => ?_)
    · replace hf := okt h27 hf
      refine r_iconst X dX4_read_54 ci_0 ?_
      exact r_zret X rfl hR (by decide) (ok0 hf) dX4_read_55
    · replace hf := okf h27 hf
      refine r_aload_n X dX4_read_39 0 rfl isr_ref ?_
      refine r_get (i := 109) (v := .int (σ25 109 1)) X in_X4_read_4 rfl 1 (by decide) (kd_in kc_109 (by decide)) (EE_4 _ kc_109) rfl (mem_ix 2 rfl) dX4_read_40 ?_
      refine r_aload_n X dX4_read_43 0 rfl isr_ref ?_
      refine r_get (i := 109) (v := .int (σ25 109 3)) X in_X4_read_4 rfl 3 (by decide) (kd_in kc_109 (by decide)) (EE_4 _ kc_109) rfl (mem_ix 8 rfl) dX4_read_44 ?_
      refine r_icmp_lt (tgt := 54) X dX4_read_47 (by decide) (fun h28 => ?_) (fun h28 => ?_)
      · replace hf := okt h28 hf
        refine r_iconst X dX4_read_54 ci_0 ?_
        exact r_zret X rfl hR (by decide) (ok0 hf) dX4_read_55
      · replace hf := okf h28 hf
        refine r_iconst X dX4_read_50 ci_1 ?_
        refine r_goto (tgt := 55) X dX4_read_51 (by decide) ?_
        exact r_zret X rfl hR (by decide) (ok0 hf) dX4_read_55
theorem md_X4_read : MD yX4_read wsX4_read cX4_read 3 2 (some .boolean) := ⟨⟨_, rfl⟩, by decide +kernel, by decide +kernel, by decide⟩
theorem c_X4_read (l : Launch) (G : GX)  (a1 : Int32) (a2 : Int32) (σ : MM) (h : (f_X4_read a1 a2 σ).isSome = true) : CTi l G yX4_read wsX4_read 157 [.ref (G.1 109), .int a1, .ref (G.2.2.2 (2 + a2.toNatClampNeg))] σ (f_X4_read a1 a2 σ) :=
  CTi_of md_X4_read (Nat.le_of_ble_eq_true rfl) (fun K X hR => e_X4_read X hR a1 a2 σ (ok_is h))

-- X8_check
theorem in_X8_check_8 : ∀ w ∈ u_ws RX8 TX8 9, w ∈ wsX8_check := fun _ h => List.mem_cons_of_mem _ (List.mem_append_left _ (List.mem_append_left _ (List.mem_append_right _ h)))
theorem in_X8_check_0 : ∀ w ∈ u_ws RX0 TX0 12, w ∈ wsX8_check := fun _ h => List.mem_cons_of_mem _ (List.mem_append_left _ (List.mem_append_right _ h))
theorem in_X8_check_3 : ∀ w ∈ u_ws RX3 TX3 4, w ∈ wsX8_check := fun _ h => List.mem_cons_of_mem _ (List.mem_append_right _ h)
def u_X8_check_29 (k29 : Int32 → Int32 → MM → Option (Int32 × MM)) (v1 : Int32) (v2 : Int32) (σ : MM) : Option (Int32 × MM) :=
  if v1 ≤ v2 then some ((0 : Int32), σ) else bd (f_X0_personOf 0 v2 σ) (fun r18 σ19 => onO r18 (some (((1 : Int32) + v2), σ19)) (fun i21 => if kd i21 = 3 then if v2 < 0 ∨ 24 ≤ v2.toNatClampNeg then none else if (σ19 i21 1) = (σ19 10 (v2.toNatClampNeg)) then k29 v1 (v2 + (1 : Int32)) σ19 else some (((1 : Int32) + v2), σ19) else none))
def l_X8_check_29 (v1 : Int32) (v2 : Int32) (σ : MM) : Option (Int32 × MM) :=
  itr (fun _ _ _ => none) (u_X8_check_29) FU v1 v2 σ
def f_X8_check  (σ : MM) : Option (Int32 × MM) :=
  lt (if (24 : Int32) < (σ 0 9) then (24 : Int32) else (σ 0 9)) (fun y13 => lt (mu σ 0 9 (0 : Int32)) (fun σ15 => l_X8_check_29 y13 (0 : Int32) σ15))
set_option maxRecDepth 100000 in
set_option maxHeartbeats 4000000 in
theorem t_X8_check_29 {l : Launch} {G : GX} {K : KX} (X : FX G K cX8_check RX8 (some .int) wsX8_check 4) {Φ : Int32 → MM → Prop} (hR : Ri G K Φ) (k29 : Int32 → Int32 → MM → Option (Int32 × MM)) (hk29c : ∀ (v1 : Int32) (v2 : Int32) (σ : MM), Ok Φ (k29 v1 v2 σ) → V l G 4 K 4 29 [(0, .ref (G.1 108)), (1, .int v1), (2, .int v2)] [] σ) (v1 : Int32) (v2 : Int32) (σ : MM) (hf : Ok Φ (u_X8_check_29 k29 v1 v2 σ)) : V l G 4 K 4 29 [(0, .ref (G.1 108)), (1, .int v1), (2, .int v2)] [] σ := by
    unfold u_X8_check_29 at hf
    refine r_iload_n X dX8_check_29 2 rfl ?_
    refine r_iload_n X dX8_check_30 1 rfl ?_
    refine r_icmp_ge (tgt := 73) X dX8_check_31 (by decide) (fun h17 => ?_) (fun h17 => ?_)
    · replace hf := okt h17 hf
      refine r_iconst X dX8_check_73 ci_0 ?_
      exact r_iret X rfl hR (ok0 hf) dX8_check_74
    · replace hf := okf h17 hf
      refine r_aload_n X dX8_check_34 0 rfl isr_ref ?_
      refine r_get (i := 108) (v := .ref (G.1 0)) X in_X8_check_8 rfl 0 (by decide) (kd_in kc_108 (by decide)) (EE_8 _ kc_108) rfl (mem_ix 1 rfl) dX8_check_35 ?_
      refine r_iload_n X dX8_check_38 2 rfl ?_
      refine r_callVq (rest := []) X (c_X0_personOf l G 0 v2 kc_0 σ (oks hf)) md_X0_personOf gX8_check_X0_personOf (by decide) rfl rfl (kd_in kc_0 (by decide)) (EE_0 _ kc_0) rfl rfl (Nat.le_of_ble_eq_true rfl) dX8_check_39 (fun r18 σ19 e20 => ?_)
      replace hf := okn e20 hf
      rcases r18 with _ | i21
      · replace hf := okz hf
        refine r_astore_n X dX8_check_42 (i := 3) rfl (by decide) isr_null (lv' := [(3, .null), (0, .ref (G.1 108)), (1, .int v1), (2, .int v2)]) rfl ?_
        refine r_aload_n X dX8_check_43 0 rfl isr_null ?_
        refine r_ifnullN (tgt := 63) X dX8_check_44 (by decide) ?_
        refine r_iconst X dX8_check_63 ci_1 ?_
        refine r_iload_n X dX8_check_64 3 rfl ?_
        refine r_iadd X dX8_check_65 ?_
        exact r_iret X rfl hR (ok0 hf) dX8_check_66
      · replace hf := oky hf
        obtain ⟨hi22, hf⟩ := okp hf
        refine r_astore_n X dX8_check_42 (i := 3) rfl (by decide) isr_ref (lv' := [(3, .ref (G.1 i21)), (0, .ref (G.1 108)), (1, .int v1), (2, .int v2)]) rfl ?_
        refine r_aload_n X dX8_check_43 0 rfl isr_ref ?_
        refine r_ifnull X dX8_check_44 ?_
        refine r_aload_n X dX8_check_47 0 rfl isr_ref ?_
        refine r_get (i := i21) (v := .int (σ19 i21 1)) X in_X8_check_3 rfl 1 (by decide) (kd_in hi22 (by decide)) (EE_3 _ hi22) rfl (mem_ix 8 rfl) dX8_check_48 ?_
        refine r_aload_n X dX8_check_51 1 rfl isr_ref ?_
        refine r_get (i := 108) (v := .ref (G.1 0)) X in_X8_check_8 rfl 0 (by decide) (kd_in kc_108 (by decide)) (EE_8 _ kc_108) rfl (mem_ix 1 rfl) dX8_check_52 ?_
        refine r_get (i := 0) (v := .ref (G.1 10)) X in_X8_check_0 rfl 8 (by decide) (kd_in kc_0 (by decide)) (EE_0 _ kc_0) rfl (mem_ix 3 rfl) dX8_check_55 ?_
        refine r_iload_n X dX8_check_58 3 rfl ?_
        obtain ⟨g23, hf⟩ := okg hf
        refine r_iald (i := 10) (jn := v2.toNatClampNeg) X (kd_in kc_10 (by decide)) (EE_21 _ kc_10) rfl g23 dX8_check_59 ?_
        refine r_icmp_eq (tgt := 67) X dX8_check_60 (by decide) (fun h24 => ?_) (fun h24 => ?_)
        · replace hf := okt h24 hf
          refine r_iinc (v := (v2 + (1 : Int32))) X dX8_check_67 3 rfl (congrArg _ ci_1) (by decide) (lv' := [(2, .int (v2 + (1 : Int32))), (3, .ref (G.1 i21)), (0, .ref (G.1 108)), (1, .int v1)]) rfl ?_
          refine r_goto (tgt := 29) X dX8_check_70 (by decide) ?_
          refine r_sub [2, 3, 0] rfl ?_
          exact hk29c v1 (v2 + (1 : Int32)) σ19 hf
        · replace hf := okf h24 hf
          refine r_iconst X dX8_check_63 ci_1 ?_
          refine r_iload_n X dX8_check_64 3 rfl ?_
          refine r_iadd X dX8_check_65 ?_
          exact r_iret X rfl hR (ok0 hf) dX8_check_66
theorem tl_X8_check_29 {l : Launch} {G : GX} {K : KX} (X : FX G K cX8_check RX8 (some .int) wsX8_check 4) {Φ : Int32 → MM → Prop} (hR : Ri G K Φ) : ∀ (m : Nat) (v1 : Int32) (v2 : Int32) (σ : MM), Ok Φ (itr (fun _ _ _ => none) (u_X8_check_29) m v1 v2 σ) → V l G 4 K 4 29 [(0, .ref (G.1 108)), (1, .int v1), (2, .int v2)] [] σ := by
  intro m
  induction m with
  | zero => intro v1 v2 σ hf; exact (okx hf).elim
  | succ m ih => intro v1 v2 σ hf; exact t_X8_check_29 X hR _ ih v1 v2 σ hf
set_option maxRecDepth 100000 in
set_option maxHeartbeats 4000000 in
theorem e_X8_check {l : Launch} {G : GX} {K : KX} (X : FX G K cX8_check RX8 (some .int) wsX8_check 4) {Φ : Int32 → MM → Prop} (hR : Ri G K Φ)  (σ : MM) (hf : Ok Φ (f_X8_check  σ)) : V l G 4 K 4 0 [(0, .ref (G.1 108))] [] σ := by
    unfold f_X8_check at hf
    refine r_aload_n X dX8_check_0 0 rfl isr_ref ?_
    refine r_get (i := 108) (v := .ref (G.1 0)) X in_X8_check_8 rfl 0 (by decide) (kd_in kc_108 (by decide)) (EE_8 _ kc_108) rfl (mem_ix 1 rfl) dX8_check_1 ?_
    refine r_get (i := 0) (v := .int (σ 0 9)) X in_X8_check_0 rfl 9 (by decide) (kd_in kc_0 (by decide)) (EE_0 _ kc_0) rfl (mem_ix 2 rfl) dX8_check_4 ?_
    refine r_aload_n X dX8_check_7 0 rfl isr_ref ?_
    refine r_get (i := 108) (v := .ref (G.1 0)) X in_X8_check_8 rfl 0 (by decide) (kd_in kc_108 (by decide)) (EE_8 _ kc_108) rfl (mem_ix 1 rfl) dX8_check_8 ?_
    refine r_get (i := 0) (v := .ref (G.1 10)) X in_X8_check_0 rfl 8 (by decide) (kd_in kc_0 (by decide)) (EE_0 _ kc_0) rfl (mem_ix 3 rfl) dX8_check_11 ?_
    refine r_alen (i := 10) (t := 0) (v := (24 : Int32)) X (kd_in kc_10 (by decide)) (EE_21 _ kc_10) rfl (by decide) dX8_check_14 ?_
    refine r_mmin X (mem_ix 4 rfl) (mem_ix 5 rfl) (mem_ix 6 rfl) (mem_ix 7 rfl) (Nat.le_of_ble_eq_true rfl) (by decide) dX8_check_15 ?_
    obtain ⟨y13, e14, hf⟩ := okl hf
    refine r_topi e14 ?_
    refine r_istore_n X dX8_check_18 (i := 1) rfl (by decide) (lv' := [(1, .int y13), (0, .ref (G.1 108))]) rfl ?_
    refine r_aload_n X dX8_check_19 1 rfl isr_ref ?_
    refine r_get (i := 108) (v := .ref (G.1 0)) X in_X8_check_8 rfl 0 (by decide) (kd_in kc_108 (by decide)) (EE_8 _ kc_108) rfl (mem_ix 1 rfl) dX8_check_20 ?_
    refine r_iconst X dX8_check_23 ci_0 ?_
    obtain ⟨σ15, e16, hf⟩ := okl hf
    refine r_put (i := 0) (f := upd (σ 0) 9 (0 : Int32)) X in_X8_check_0 tyX0 tyX0_ok nmX0 rfl 9 (by decide) (kd_in kc_0 (by decide)) (EE_0 _ kc_0) (EU_0_9 _ _ kc_0) rfl (mem_ix 2 rfl) rfl rfl rfl rfl dX8_check_24 ?_
    refine r_sg e16 ?_
    refine r_iconst X dX8_check_27 ci_0 ?_
    refine r_istore_n X dX8_check_28 (i := 2) rfl (by decide) (lv' := [(2, .int (0 : Int32)), (1, .int y13), (0, .ref (G.1 108))]) rfl ?_
    refine r_sub [2, 1, 0] rfl ?_
    exact tl_X8_check_29 X hR FU y13 (0 : Int32) σ15 hf
theorem md_X8_check : MD yX8_check wsX8_check cX8_check 4 0 (some .int) := ⟨⟨_, rfl⟩, by decide +kernel, by decide +kernel, by decide⟩
theorem c_X8_check (l : Launch) (G : GX)   (σ : MM) (h : (f_X8_check  σ).isSome = true) : CTi l G yX8_check wsX8_check 4 [.ref (G.1 108)] σ (f_X8_check  σ) :=
  CTi_of md_X8_check (Nat.le_of_ble_eq_true rfl) (fun K X hR => e_X8_check X hR  σ (ok_is h))
-- X8_count
theorem in_X8_count_8 : ∀ w ∈ u_ws RX8 TX8 9, w ∈ wsX8_count := fun _ h => List.mem_cons_of_mem _ (List.mem_append_left _ (List.mem_append_left _ (List.mem_append_right _ h)))
theorem in_X8_count_0 : ∀ w ∈ u_ws RX0 TX0 12, w ∈ wsX8_count := fun _ h => List.mem_cons_of_mem _ (List.mem_append_left _ (List.mem_append_right _ h))
theorem in_X8_count_7 : ∀ w ∈ u_ws RX7 TX7 6, w ∈ wsX8_count := fun _ h => List.mem_cons_of_mem _ (List.mem_append_right _ h)
def f_X8_count (a1 : Int32) (σ : MM) : Option (Int32 × MM) :=
  if a1 = (0 : Int32) then some ((σ 0 1), σ) else if a1 = (1 : Int32) then some ((σ 0 3), σ) else if a1 = (2 : Int32) then some ((σ 0 10), σ) else if a1 = (3 : Int32) then some ((σ 0 7), σ) else if a1 = (4 : Int32) then some ((σ 0 9), σ) else if a1 = (5 : Int32) then some ((σ 113 0), σ) else if a1 = (6 : Int32) then some ((σ 0 11), σ) else bd (f_X8_error (-1000000001 : Int32) σ) (fun r18 σ19 => some (r18, σ19))
set_option maxRecDepth 100000 in
set_option maxHeartbeats 4000000 in
theorem e_X8_count {l : Launch} {G : GX} {K : KX} (X : FX G K cX8_count RX8 (some .int) wsX8_count 2) {Φ : Int32 → MM → Prop} (hR : Ri G K Φ) (a1 : Int32) (σ : MM) (hf : Ok Φ (f_X8_count a1 σ)) : V l G 5 K 2 0 [(0, .ref (G.1 108)), (1, .int a1)] [] σ := by
    unfold f_X8_count at hf
    refine r_iload_n X dX8_count_0 1 rfl ?_
    by_cases h11 : a1 = (0 : Int32)
    · replace hf := okt h11 hf
      refine r_table (off := 43) (tgt := 44) X [(0, 43), (1, 51), (2, 59), (3, 67), (4, 75), (5, 83), (6, 91)] 7 dX8_count_1 (by decide) (by decide +kernel) (by decide +kernel) (by rw [h11]; rfl) (by decide) ?_
      refine r_aload_n X dX8_count_44 0 rfl isr_ref ?_
      refine r_get (i := 108) (v := .ref (G.1 0)) X in_X8_count_8 rfl 0 (by decide) (kd_in kc_108 (by decide)) (EE_8 _ kc_108) rfl (mem_ix 1 rfl) dX8_count_45 ?_
      refine r_get (i := 0) (v := .int (σ 0 1)) X in_X8_count_0 rfl 1 (by decide) (kd_in kc_0 (by decide)) (EE_0 _ kc_0) rfl (mem_ix 2 rfl) dX8_count_48 ?_
      exact r_iret X rfl hR (ok0 hf) dX8_count_51
    replace hf := okf h11 hf
    by_cases h12 : a1 = (1 : Int32)
    · replace hf := okt h12 hf
      refine r_table (off := 51) (tgt := 52) X [(0, 43), (1, 51), (2, 59), (3, 67), (4, 75), (5, 83), (6, 91)] 7 dX8_count_1 (by decide) (by decide +kernel) (by decide +kernel) (by rw [h12]; rfl) (by decide) ?_
      refine r_aload_n X dX8_count_52 0 rfl isr_ref ?_
      refine r_get (i := 108) (v := .ref (G.1 0)) X in_X8_count_8 rfl 0 (by decide) (kd_in kc_108 (by decide)) (EE_8 _ kc_108) rfl (mem_ix 1 rfl) dX8_count_53 ?_
      refine r_get (i := 0) (v := .int (σ 0 3)) X in_X8_count_0 rfl 3 (by decide) (kd_in kc_0 (by decide)) (EE_0 _ kc_0) rfl (mem_ix 3 rfl) dX8_count_56 ?_
      exact r_iret X rfl hR (ok0 hf) dX8_count_59
    replace hf := okf h12 hf
    by_cases h13 : a1 = (2 : Int32)
    · replace hf := okt h13 hf
      refine r_table (off := 59) (tgt := 60) X [(0, 43), (1, 51), (2, 59), (3, 67), (4, 75), (5, 83), (6, 91)] 7 dX8_count_1 (by decide) (by decide +kernel) (by decide +kernel) (by rw [h13]; rfl) (by decide) ?_
      refine r_aload_n X dX8_count_60 0 rfl isr_ref ?_
      refine r_get (i := 108) (v := .ref (G.1 0)) X in_X8_count_8 rfl 0 (by decide) (kd_in kc_108 (by decide)) (EE_8 _ kc_108) rfl (mem_ix 1 rfl) dX8_count_61 ?_
      refine r_get (i := 0) (v := .int (σ 0 10)) X in_X8_count_0 rfl 10 (by decide) (kd_in kc_0 (by decide)) (EE_0 _ kc_0) rfl (mem_ix 4 rfl) dX8_count_64 ?_
      exact r_iret X rfl hR (ok0 hf) dX8_count_67
    replace hf := okf h13 hf
    by_cases h14 : a1 = (3 : Int32)
    · replace hf := okt h14 hf
      refine r_table (off := 67) (tgt := 68) X [(0, 43), (1, 51), (2, 59), (3, 67), (4, 75), (5, 83), (6, 91)] 7 dX8_count_1 (by decide) (by decide +kernel) (by decide +kernel) (by rw [h14]; rfl) (by decide) ?_
      refine r_aload_n X dX8_count_68 0 rfl isr_ref ?_
      refine r_get (i := 108) (v := .ref (G.1 0)) X in_X8_count_8 rfl 0 (by decide) (kd_in kc_108 (by decide)) (EE_8 _ kc_108) rfl (mem_ix 1 rfl) dX8_count_69 ?_
      refine r_get (i := 0) (v := .int (σ 0 7)) X in_X8_count_0 rfl 7 (by decide) (kd_in kc_0 (by decide)) (EE_0 _ kc_0) rfl (mem_ix 5 rfl) dX8_count_72 ?_
      exact r_iret X rfl hR (ok0 hf) dX8_count_75
    replace hf := okf h14 hf
    by_cases h15 : a1 = (4 : Int32)
    · replace hf := okt h15 hf
      refine r_table (off := 75) (tgt := 76) X [(0, 43), (1, 51), (2, 59), (3, 67), (4, 75), (5, 83), (6, 91)] 7 dX8_count_1 (by decide) (by decide +kernel) (by decide +kernel) (by rw [h15]; rfl) (by decide) ?_
      refine r_aload_n X dX8_count_76 0 rfl isr_ref ?_
      refine r_get (i := 108) (v := .ref (G.1 0)) X in_X8_count_8 rfl 0 (by decide) (kd_in kc_108 (by decide)) (EE_8 _ kc_108) rfl (mem_ix 1 rfl) dX8_count_77 ?_
      refine r_get (i := 0) (v := .int (σ 0 9)) X in_X8_count_0 rfl 9 (by decide) (kd_in kc_0 (by decide)) (EE_0 _ kc_0) rfl (mem_ix 6 rfl) dX8_count_80 ?_
      exact r_iret X rfl hR (ok0 hf) dX8_count_83
    replace hf := okf h15 hf
    by_cases h16 : a1 = (5 : Int32)
    · replace hf := okt h16 hf
      refine r_table (off := 83) (tgt := 84) X [(0, 43), (1, 51), (2, 59), (3, 67), (4, 75), (5, 83), (6, 91)] 7 dX8_count_1 (by decide) (by decide +kernel) (by decide +kernel) (by rw [h16]; rfl) (by decide) ?_
      refine r_aload_n X dX8_count_84 0 rfl isr_ref ?_
      refine r_get (i := 108) (v := .ref (G.1 113)) X in_X8_count_8 rfl 4 (by decide) (kd_in kc_108 (by decide)) (EE_8 _ kc_108) rfl (mem_ix 7 rfl) dX8_count_85 ?_
      refine r_get (i := 113) (v := .int (σ 113 0)) X in_X8_count_7 rfl 0 (by decide) (kd_in kc_113 (by decide)) (EE_7 _ kc_113) rfl (mem_ix 8 rfl) dX8_count_88 ?_
      exact r_iret X rfl hR (ok0 hf) dX8_count_91
    replace hf := okf h16 hf
    by_cases h17 : a1 = (6 : Int32)
    · replace hf := okt h17 hf
      refine r_table (off := 91) (tgt := 92) X [(0, 43), (1, 51), (2, 59), (3, 67), (4, 75), (5, 83), (6, 91)] 7 dX8_count_1 (by decide) (by decide +kernel) (by decide +kernel) (by rw [h17]; rfl) (by decide) ?_
      refine r_aload_n X dX8_count_92 0 rfl isr_ref ?_
      refine r_get (i := 108) (v := .ref (G.1 0)) X in_X8_count_8 rfl 0 (by decide) (kd_in kc_108 (by decide)) (EE_8 _ kc_108) rfl (mem_ix 1 rfl) dX8_count_93 ?_
      refine r_get (i := 0) (v := .int (σ 0 11)) X in_X8_count_0 rfl 11 (by decide) (kd_in kc_0 (by decide)) (EE_0 _ kc_0) rfl (mem_ix 9 rfl) dX8_count_96 ?_
      exact r_iret X rfl hR (ok0 hf) dX8_count_99
    replace hf := okf h17 hf
    refine r_table (off := 99) (tgt := 100) X [(0, 43), (1, 51), (2, 59), (3, 67), (4, 75), (5, 83), (6, 91)] 7 dX8_count_1 (by decide) (by decide +kernel) (by decide +kernel) (lk_n h11 (by decide) (lk_n h12 (by decide) (lk_n h13 (by decide) (lk_n h14 (by decide) (lk_n h15 (by decide) (lk_n h16 (by decide) (lk_n h17 (by decide) rfl))))))) (by decide) ?_
    refine r_aload_n X dX8_count_100 0 rfl isr_ref ?_
    refine r_ldc (v := (-1000000001 : Int32)) X (mem_ix 10 rfl) dX8_count_101 ?_
    refine r_callVi (rest := []) X (c_X8_error l G (-1000000001 : Int32) σ (oks hf)) md_X8_error gX8_count_X8_error (by decide) rfl rfl (kd_in kc_108 (by decide)) (EE_8 _ kc_108) rfl rfl (Nat.le_of_ble_eq_true rfl) dX8_count_103 (fun r18 σ19 e20 => ?_)
    replace hf := okn e20 hf
    exact r_iret X rfl hR (ok0 hf) dX8_count_106
theorem md_X8_count : MD yX8_count wsX8_count cX8_count 2 1 (some .int) := ⟨⟨_, rfl⟩, by decide +kernel, by decide +kernel, by decide⟩
theorem c_X8_count (l : Launch) (G : GX)  (a1 : Int32) (σ : MM) (h : (f_X8_count a1 σ).isSome = true) : CTi l G yX8_count wsX8_count 5 [.ref (G.1 108), .int a1] σ (f_X8_count a1 σ) :=
  CTi_of md_X8_count (Nat.le_of_ble_eq_true rfl) (fun K X hR => e_X8_count X hR a1 σ (ok_is h))
-- X8_told
theorem in_X8_told_8 : ∀ w ∈ u_ws RX8 TX8 9, w ∈ wsX8_told := fun _ h => List.mem_cons_of_mem _ (List.mem_append_right _ h)
def f_X8_told (a1 : Int32) (σ : MM) : Option (Int32 × MM) :=
  bd (f_X8_within a1 (1 : Int32) (6 : Int32) σ) (fun r9 σ10 => if r9 = 0 then bd (f_X8_error (-1000000001 : Int32) σ10) (fun r13 σ14 => some (r13, σ14)) else if a1 < 0 ∨ 7 ≤ a1.toNatClampNeg then none else some ((σ10 128 (a1.toNatClampNeg)), σ10))
set_option maxRecDepth 100000 in
set_option maxHeartbeats 4000000 in
theorem e_X8_told {l : Launch} {G : GX} {K : KX} (X : FX G K cX8_told RX8 (some .int) wsX8_told 2) {Φ : Int32 → MM → Prop} (hR : Ri G K Φ) (a1 : Int32) (σ : MM) (hf : Ok Φ (f_X8_told a1 σ)) : V l G 5 K 2 0 [(0, .ref (G.1 108)), (1, .int a1)] [] σ := by
    unfold f_X8_told at hf
    refine r_iload_n X dX8_told_0 1 rfl ?_
    refine r_iconst X dX8_told_1 ci_1 ?_
    refine r_bipush X dX8_told_2 cb_6 ?_
    refine r_callSi (rest := []) X (c_X8_within l G a1 (1 : Int32) (6 : Int32) σ (oks hf)) md_X8_within gX8_told_X8_within (by decide) rfl rfl (Nat.le_of_ble_eq_true rfl) dX8_told_4 (fun r9 σ10 e11 => ?_)
    replace hf := okn e11 hf
    refine r_if_eq (tgt := 19) X dX8_told_7 (by decide) (fun h12 => ?_) (fun h12 => ?_)
    · replace hf := okt h12 hf
      refine r_aload_n X dX8_told_19 0 rfl isr_ref ?_
      refine r_ldc (v := (-1000000001 : Int32)) X (mem_ix 2 rfl) dX8_told_20 ?_
      refine r_callVi (rest := []) X (c_X8_error l G (-1000000001 : Int32) σ10 (oks hf)) md_X8_error gX8_told_X8_error (by decide) rfl rfl (kd_in kc_108 (by decide)) (EE_8 _ kc_108) rfl rfl (Nat.le_of_ble_eq_true rfl) dX8_told_22 (fun r13 σ14 e15 => ?_)
      replace hf := okn e15 hf
      exact r_iret X rfl hR (ok0 hf) dX8_told_25
    · replace hf := okf h12 hf
      refine r_aload_n X dX8_told_10 0 rfl isr_ref ?_
      refine r_get (i := 108) (v := .ref (G.1 128)) X in_X8_told_8 rfl 7 (by decide) (kd_in kc_108 (by decide)) (EE_8 _ kc_108) rfl (mem_ix 1 rfl) dX8_told_11 ?_
      refine r_iload_n X dX8_told_14 1 rfl ?_
      obtain ⟨g16, hf⟩ := okg hf
      refine r_iald (i := 128) (jn := a1.toNatClampNeg) X (kd_in kc_128 (by decide)) (EE_25 _ kc_128) rfl g16 dX8_told_15 ?_
      refine r_goto (tgt := 25) X dX8_told_16 (by decide) ?_
      exact r_iret X rfl hR (ok0 hf) dX8_told_25
theorem md_X8_told : MD yX8_told wsX8_told cX8_told 2 1 (some .int) := ⟨⟨_, rfl⟩, by decide +kernel, by decide +kernel, by decide⟩
theorem c_X8_told (l : Launch) (G : GX)  (a1 : Int32) (σ : MM) (h : (f_X8_told a1 σ).isSome = true) : CTi l G yX8_told wsX8_told 5 [.ref (G.1 108), .int a1] σ (f_X8_told a1 σ) :=
  CTi_of md_X8_told (Nat.le_of_ble_eq_true rfl) (fun K X hR => e_X8_told X hR a1 σ (ok_is h))

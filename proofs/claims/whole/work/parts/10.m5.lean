-- X9_begins
theorem in_X9_begins_9 : ∀ w ∈ u_ws RX9 TX9 21, w ∈ wsX9_begins := fun _ h => List.mem_cons_of_mem _ (List.mem_append_right _ h)
def f_X9_begins (a1 : Int32) (σ : MM) : Option (Unit × MM) :=
  if (30 : Int32) ≤ (σ 129 19) then some ((), σ) else if (σ 129 19) < 0 ∨ 30 ≤ (σ 129 19).toNatClampNeg then none else lt (mu σ 142 ((σ 129 19).toNatClampNeg) a1) (fun σ9 => lt (mu σ9 129 19 ((σ9 129 19) + (1 : Int32))) (fun σ11 => some ((), σ11)))
set_option maxRecDepth 100000 in
set_option maxHeartbeats 4000000 in
theorem e_X9_begins {l : Launch} {G : GX} {K : KX} (X : FX G K cX9_begins RX9 (none) wsX9_begins 2) {Φ : Unit → MM → Prop} (hR : Rv G K Φ) (a1 : Int32) (σ : MM) (hf : Ok Φ (f_X9_begins a1 σ)) : V l G 3 K 2 0 [(0, .ref (G.1 129)), (1, .int a1)] [] σ := by
    unfold f_X9_begins at hf
    refine r_aload_n X dX9_begins_0 0 rfl isr_ref ?_
    refine r_get (i := 129) (v := .int (σ 129 19)) X in_X9_begins_9 rfl 19 (by decide) (kd_in kc_129 (by decide)) (EE_9 _ kc_129) rfl (mem_ix 1 rfl) dX9_begins_1 ?_
    refine r_bipush X dX9_begins_4 cb_30 ?_
    refine r_icmp_ge (tgt := 29) X dX9_begins_6 (by decide) (fun h7 => ?_) (fun h7 => ?_)
    · replace hf := okt h7 hf
      exact r_vret X rfl hR (ok0 hf) dX9_begins_29
    · replace hf := okf h7 hf
      refine r_aload_n X dX9_begins_9 0 rfl isr_ref ?_
      refine r_get (i := 129) (v := .ref (G.1 142)) X in_X9_begins_9 rfl 18 (by decide) (kd_in kc_129 (by decide)) (EE_9 _ kc_129) rfl (mem_ix 2 rfl) dX9_begins_10 ?_
      refine r_aload_n X dX9_begins_13 0 rfl isr_ref ?_
      refine r_get (i := 129) (v := .int (σ 129 19)) X in_X9_begins_9 rfl 19 (by decide) (kd_in kc_129 (by decide)) (EE_9 _ kc_129) rfl (mem_ix 1 rfl) dX9_begins_14 ?_
      refine r_iload_n X dX9_begins_17 1 rfl ?_
      obtain ⟨g8, hf⟩ := okg hf
      obtain ⟨σ9, e10, hf⟩ := okl hf
      refine r_iast (i := 142) (jn := (σ 129 19).toNatClampNeg) X (kd_in kc_142 (by decide)) (fun _ => EE_22 _ kc_142) rfl g8 dX9_begins_18 ?_
      refine r_sg e10 ?_
      refine r_aload_n X dX9_begins_19 0 rfl isr_ref ?_
      refine r_dup X dX9_begins_20 rfl ?_
      refine r_get (i := 129) (v := .int (σ9 129 19)) X in_X9_begins_9 rfl 19 (by decide) (kd_in kc_129 (by decide)) (EE_9 _ kc_129) rfl (mem_ix 1 rfl) dX9_begins_21 ?_
      refine r_iconst X dX9_begins_24 ci_1 ?_
      refine r_iadd X dX9_begins_25 ?_
      obtain ⟨σ11, e12, hf⟩ := okl hf
      refine r_put (i := 129) (f := upd (σ9 129) 19 ((σ9 129 19) + (1 : Int32))) X in_X9_begins_9 tyX9 tyX9_ok nmX9 rfl 19 (by decide) (kd_in kc_129 (by decide)) (EE_9 _ kc_129) (EU_9_19 _ _ kc_129) rfl (mem_ix 1 rfl) rfl rfl rfl rfl dX9_begins_26 ?_
      refine r_sg e12 ?_
      exact r_vret X rfl hR (ok0 hf) dX9_begins_29
theorem md_X9_begins : MD yX9_begins wsX9_begins cX9_begins 2 1 (none) := ⟨⟨_, rfl⟩, by decide +kernel, by decide +kernel, by decide⟩
theorem c_X9_begins (l : Launch) (G : GX)  (a1 : Int32) (σ : MM) (h : (f_X9_begins a1 σ).isSome = true) : CTv l G yX9_begins wsX9_begins 3 [.ref (G.1 129), .int a1] σ (f_X9_begins a1 σ) :=
  CTv_of md_X9_begins (Nat.le_of_ble_eq_true rfl) (fun K X hR => e_X9_begins X hR a1 σ (ok_is h))
-- X9_plainAsks
theorem in_X9_plainAsks_9 : ∀ w ∈ u_ws RX9 TX9 21, w ∈ wsX9_plainAsks := fun _ h => List.mem_cons_of_mem _ (List.mem_append_right _ h)
def f_X9_plainAsks (a1 : Int32) (a2 : Int32) (σ : MM) : Option (Int32 × MM) :=
  bd (f_X9_begins (10 : Int32) σ) (fun r4 σ5 => some ((a2 + a1), σ5))
set_option maxRecDepth 100000 in
set_option maxHeartbeats 4000000 in
theorem e_X9_plainAsks {l : Launch} {G : GX} {K : KX} (X : FX G K cX9_plainAsks RX9 (some .int) wsX9_plainAsks 3) {Φ : Int32 → MM → Prop} (hR : Ri G K Φ) (a1 : Int32) (a2 : Int32) (σ : MM) (hf : Ok Φ (f_X9_plainAsks a1 a2 σ)) : V l G 4 K 3 0 [(0, .ref (G.1 129)), (1, .int a1), (2, .int a2)] [] σ := by
    unfold f_X9_plainAsks at hf
    refine r_aload_n X dX9_plainAsks_0 0 rfl isr_ref ?_
    refine r_bipush X dX9_plainAsks_1 cb_10 ?_
    refine r_callVv (rest := []) X (c_X9_begins l G (10 : Int32) σ (oks hf)) md_X9_begins gX9_plainAsks_X9_begins (by decide) rfl rfl (kd_in kc_129 (by decide)) (EE_9 _ kc_129) rfl rfl (Nat.le_of_ble_eq_true rfl) dX9_plainAsks_3 (fun r4 σ5 e6 => ?_)
    replace hf := okn e6 hf
    refine r_iload_n X dX9_plainAsks_6 2 rfl ?_
    refine r_iload_n X dX9_plainAsks_7 1 rfl ?_
    refine r_iadd X dX9_plainAsks_8 ?_
    exact r_iret X rfl hR (ok0 hf) dX9_plainAsks_9
theorem md_X9_plainAsks : MD yX9_plainAsks wsX9_plainAsks cX9_plainAsks 3 2 (some .int) := ⟨⟨_, rfl⟩, by decide +kernel, by decide +kernel, by decide⟩
theorem c_X9_plainAsks (l : Launch) (G : GX)  (a1 : Int32) (a2 : Int32) (σ : MM) (h : (f_X9_plainAsks a1 a2 σ).isSome = true) : CTi l G yX9_plainAsks wsX9_plainAsks 4 [.ref (G.1 129), .int a1, .int a2] σ (f_X9_plainAsks a1 a2 σ) :=
  CTi_of md_X9_plainAsks (Nat.le_of_ble_eq_true rfl) (fun K X hR => e_X9_plainAsks X hR a1 a2 σ (ok_is h))
-- X9_strictAsks
theorem in_X9_strictAsks_9 : ∀ w ∈ u_ws RX9 TX9 21, w ∈ wsX9_strictAsks := fun _ h => List.mem_cons_of_mem _ (List.mem_append_right _ h)
def f_X9_strictAsks (a1 : Int32) (a2 : Int32) (σ : MM) : Option (Int32 × MM) :=
  bd (f_X9_begins (20 : Int32) σ) (fun r7 σ8 => bd (f_X9_plainAsks a1 a2 σ8) (fun r10 σ11 => some ((r10 - (4 : Int32)), σ11)))
set_option maxRecDepth 100000 in
set_option maxHeartbeats 4000000 in
theorem e_X9_strictAsks {l : Launch} {G : GX} {K : KX} (X : FX G K cX9_strictAsks RX9 (some .int) wsX9_strictAsks 3) {Φ : Int32 → MM → Prop} (hR : Ri G K Φ) (a1 : Int32) (a2 : Int32) (σ : MM) (hf : Ok Φ (f_X9_strictAsks a1 a2 σ)) : V l G 5 K 3 0 [(0, .ref (G.1 129)), (1, .int a1), (2, .int a2)] [] σ := by
    unfold f_X9_strictAsks at hf
    refine r_aload_n X dX9_strictAsks_0 0 rfl isr_ref ?_
    refine r_bipush X dX9_strictAsks_1 cb_20 ?_
    refine r_callVv (rest := []) X (c_X9_begins l G (20 : Int32) σ (oks hf)) md_X9_begins gX9_strictAsks_X9_begins (by decide) rfl rfl (kd_in kc_129 (by decide)) (EE_9 _ kc_129) rfl rfl (Nat.le_of_ble_eq_true rfl) dX9_strictAsks_3 (fun r7 σ8 e9 => ?_)
    replace hf := okn e9 hf
    refine r_aload_n X dX9_strictAsks_6 0 rfl isr_ref ?_
    refine r_iload_n X dX9_strictAsks_7 1 rfl ?_
    refine r_iload_n X dX9_strictAsks_8 2 rfl ?_
    refine r_callVi (rest := []) X (c_X9_plainAsks l G a1 a2 σ8 (oks hf)) md_X9_plainAsks gX9_strictAsks_X9_plainAsks (by decide) rfl rfl (kd_in kc_129 (by decide)) (EE_9 _ kc_129) rfl rfl (Nat.le_of_ble_eq_true rfl) dX9_strictAsks_9 (fun r10 σ11 e12 => ?_)
    replace hf := okn e12 hf
    refine r_iconst X dX9_strictAsks_12 ci_4 ?_
    refine r_isub X dX9_strictAsks_13 ?_
    exact r_iret X rfl hR (ok0 hf) dX9_strictAsks_14
theorem md_X9_strictAsks : MD yX9_strictAsks wsX9_strictAsks cX9_strictAsks 3 2 (some .int) := ⟨⟨_, rfl⟩, by decide +kernel, by decide +kernel, by decide⟩
theorem c_X9_strictAsks (l : Launch) (G : GX)  (a1 : Int32) (a2 : Int32) (σ : MM) (h : (f_X9_strictAsks a1 a2 σ).isSome = true) : CTi l G yX9_strictAsks wsX9_strictAsks 5 [.ref (G.1 129), .int a1, .int a2] σ (f_X9_strictAsks a1 a2 σ) :=
  CTi_of md_X9_strictAsks (Nat.le_of_ble_eq_true rfl) (fun K X hR => e_X9_strictAsks X hR a1 a2 σ (ok_is h))
-- X9_asks
theorem in_X9_asks_9 : ∀ w ∈ u_ws RX9 TX9 21, w ∈ wsX9_asks := fun _ h => List.mem_cons_of_mem _ (List.mem_append_right _ h)
def f_X9_asks (a1 : Int32) (a2 : Int32) (σ : MM) : Option (Int32 × MM) :=
  bd (f_X9_of a1 (0 : Int32) σ) (fun r22 σ23 => if r22 = (1 : Int32) then bd (f_X9_strictAsks a1 a2 σ23) (fun r28 σ29 => some (r28, σ29)) else if r22 = (4 : Int32) then bd (f_X9_begins (50 : Int32) σ23) (fun r31 σ32 => bd (f_X9_strictAsks a1 a2 σ32) (fun r34 σ35 => some ((r34 * (3 : Int32)), σ35))) else if r22 = (6 : Int32) then bd (f_X9_begins (70 : Int32) σ23) (fun r37 σ38 => some ((9 : Int32), σ38)) else bd (f_X9_plainAsks a1 a2 σ23) (fun r40 σ41 => some (r40, σ41)))
set_option maxRecDepth 100000 in
set_option maxHeartbeats 4000000 in
theorem e_X9_asks {l : Launch} {G : GX} {K : KX} (X : FX G K cX9_asks RX9 (some .int) wsX9_asks 3) {Φ : Int32 → MM → Prop} (hR : Ri G K Φ) (a1 : Int32) (a2 : Int32) (σ : MM) (hf : Ok Φ (f_X9_asks a1 a2 σ)) : V l G 6 K 3 0 [(0, .ref (G.1 129)), (1, .int a1), (2, .int a2)] [] σ := by
    unfold f_X9_asks at hf
    refine r_aload_n X dX9_asks_0 0 rfl isr_ref ?_
    refine r_iload_n X dX9_asks_1 1 rfl ?_
    refine r_iconst X dX9_asks_2 ci_0 ?_
    refine r_callVi (rest := []) X (c_X9_of l G a1 (0 : Int32) σ (oks hf)) md_X9_of gX9_asks_X9_of (by decide) rfl rfl (kd_in kc_129 (by decide)) (EE_9 _ kc_129) rfl rfl (Nat.le_of_ble_eq_true rfl) dX9_asks_3 (fun r22 σ23 e24 => ?_)
    replace hf := okn e24 hf
    by_cases h25 : r22 = (1 : Int32)
    · replace hf := okt h25 hf
      refine r_lookup (off := 34) (tgt := 40) X dX9_asks_6 (by decide +kernel) (by rw [h25]; rfl) (by decide) ?_
      refine r_aload_n X dX9_asks_40 0 rfl isr_ref ?_
      refine r_iload_n X dX9_asks_41 1 rfl ?_
      refine r_iload_n X dX9_asks_42 2 rfl ?_
      refine r_callVi (rest := []) X (c_X9_strictAsks l G a1 a2 σ23 (oks hf)) md_X9_strictAsks gX9_asks_X9_strictAsks (by decide) rfl rfl (kd_in kc_129 (by decide)) (EE_9 _ kc_129) rfl rfl (Nat.le_of_ble_eq_true rfl) dX9_asks_43 (fun r28 σ29 e30 => ?_)
      replace hf := okn e30 hf
      exact r_iret X rfl hR (ok0 hf) dX9_asks_46
    replace hf := okf h25 hf
    by_cases h26 : r22 = (4 : Int32)
    · replace hf := okt h26 hf
      refine r_lookup (off := 41) (tgt := 47) X dX9_asks_6 (by decide +kernel) (by rw [h26]; rfl) (by decide) ?_
      refine r_aload_n X dX9_asks_47 0 rfl isr_ref ?_
      refine r_bipush X dX9_asks_48 cb_50 ?_
      refine r_callVv (rest := []) X (c_X9_begins l G (50 : Int32) σ23 (oks hf)) md_X9_begins gX9_asks_X9_begins (by decide) rfl rfl (kd_in kc_129 (by decide)) (EE_9 _ kc_129) rfl rfl (Nat.le_of_ble_eq_true rfl) dX9_asks_50 (fun r31 σ32 e33 => ?_)
      replace hf := okn e33 hf
      refine r_aload_n X dX9_asks_53 0 rfl isr_ref ?_
      refine r_iload_n X dX9_asks_54 1 rfl ?_
      refine r_iload_n X dX9_asks_55 2 rfl ?_
      refine r_callVi (rest := []) X (c_X9_strictAsks l G a1 a2 σ32 (oks hf)) md_X9_strictAsks gX9_asks_X9_strictAsks (by decide) rfl rfl (kd_in kc_129 (by decide)) (EE_9 _ kc_129) rfl rfl (Nat.le_of_ble_eq_true rfl) dX9_asks_56 (fun r34 σ35 e36 => ?_)
      replace hf := okn e36 hf
      refine r_iconst X dX9_asks_59 ci_3 ?_
      refine r_imul X dX9_asks_60 ?_
      exact r_iret X rfl hR (ok0 hf) dX9_asks_61
    replace hf := okf h26 hf
    by_cases h27 : r22 = (6 : Int32)
    · replace hf := okt h27 hf
      refine r_lookup (off := 56) (tgt := 62) X dX9_asks_6 (by decide +kernel) (by rw [h27]; rfl) (by decide) ?_
      refine r_aload_n X dX9_asks_62 0 rfl isr_ref ?_
      refine r_bipush X dX9_asks_63 cb_70 ?_
      refine r_callVv (rest := []) X (c_X9_begins l G (70 : Int32) σ23 (oks hf)) md_X9_begins gX9_asks_X9_begins (by decide) rfl rfl (kd_in kc_129 (by decide)) (EE_9 _ kc_129) rfl rfl (Nat.le_of_ble_eq_true rfl) dX9_asks_65 (fun r37 σ38 e39 => ?_)
      replace hf := okn e39 hf
      refine r_bipush X dX9_asks_68 cb_9 ?_
      exact r_iret X rfl hR (ok0 hf) dX9_asks_70
    replace hf := okf h27 hf
    refine r_lookup (off := 65) (tgt := 71) X dX9_asks_6 (by decide +kernel) (lk_n h25 (by decide) (lk_n h26 (by decide) (lk_n h27 (by decide) rfl))) (by decide) ?_
    refine r_aload_n X dX9_asks_71 0 rfl isr_ref ?_
    refine r_iload_n X dX9_asks_72 1 rfl ?_
    refine r_iload_n X dX9_asks_73 2 rfl ?_
    refine r_callVi (rest := []) X (c_X9_plainAsks l G a1 a2 σ23 (oks hf)) md_X9_plainAsks gX9_asks_X9_plainAsks (by decide) rfl rfl (kd_in kc_129 (by decide)) (EE_9 _ kc_129) rfl rfl (Nat.le_of_ble_eq_true rfl) dX9_asks_74 (fun r40 σ41 e42 => ?_)
    replace hf := okn e42 hf
    exact r_iret X rfl hR (ok0 hf) dX9_asks_77
theorem md_X9_asks : MD yX9_asks wsX9_asks cX9_asks 3 2 (some .int) := ⟨⟨_, rfl⟩, by decide +kernel, by decide +kernel, by decide⟩
theorem c_X9_asks (l : Launch) (G : GX)  (a1 : Int32) (a2 : Int32) (σ : MM) (h : (f_X9_asks a1 a2 σ).isSome = true) : CTi l G yX9_asks wsX9_asks 6 [.ref (G.1 129), .int a1, .int a2] σ (f_X9_asks a1 a2 σ) :=
  CTi_of md_X9_asks (Nat.le_of_ble_eq_true rfl) (fun K X hR => e_X9_asks X hR a1 a2 σ (ok_is h))
-- X9_plainNods
theorem in_X9_plainNods_9 : ∀ w ∈ u_ws RX9 TX9 21, w ∈ wsX9_plainNods := fun _ h => List.mem_cons_of_mem _ (List.mem_append_right _ h)
def f_X9_plainNods (a1 : Int32) (a2 : Int32) (σ : MM) : Option (Int32 × MM) :=
  bd (f_X9_begins (11 : Int32) σ) (fun r7 σ8 => bd (f_X9_asks a1 a2 σ8) (fun r10 σ11 => some ((r10 * (2 : Int32)), σ11)))
set_option maxRecDepth 100000 in
set_option maxHeartbeats 4000000 in
theorem e_X9_plainNods {l : Launch} {G : GX} {K : KX} (X : FX G K cX9_plainNods RX9 (some .int) wsX9_plainNods 3) {Φ : Int32 → MM → Prop} (hR : Ri G K Φ) (a1 : Int32) (a2 : Int32) (σ : MM) (hf : Ok Φ (f_X9_plainNods a1 a2 σ)) : V l G 7 K 3 0 [(0, .ref (G.1 129)), (1, .int a1), (2, .int a2)] [] σ := by
    unfold f_X9_plainNods at hf
    refine r_aload_n X dX9_plainNods_0 0 rfl isr_ref ?_
    refine r_bipush X dX9_plainNods_1 cb_11 ?_
    refine r_callVv (rest := []) X (c_X9_begins l G (11 : Int32) σ (oks hf)) md_X9_begins gX9_plainNods_X9_begins (by decide) rfl rfl (kd_in kc_129 (by decide)) (EE_9 _ kc_129) rfl rfl (Nat.le_of_ble_eq_true rfl) dX9_plainNods_3 (fun r7 σ8 e9 => ?_)
    replace hf := okn e9 hf
    refine r_aload_n X dX9_plainNods_6 0 rfl isr_ref ?_
    refine r_iload_n X dX9_plainNods_7 1 rfl ?_
    refine r_iload_n X dX9_plainNods_8 2 rfl ?_
    refine r_callVi (rest := []) X (c_X9_asks l G a1 a2 σ8 (oks hf)) md_X9_asks gX9_plainNods_X9_asks (by decide) rfl rfl (kd_in kc_129 (by decide)) (EE_9 _ kc_129) rfl rfl (Nat.le_of_ble_eq_true rfl) dX9_plainNods_9 (fun r10 σ11 e12 => ?_)
    replace hf := okn e12 hf
    refine r_iconst X dX9_plainNods_12 ci_2 ?_
    refine r_imul X dX9_plainNods_13 ?_
    exact r_iret X rfl hR (ok0 hf) dX9_plainNods_14
theorem md_X9_plainNods : MD yX9_plainNods wsX9_plainNods cX9_plainNods 3 2 (some .int) := ⟨⟨_, rfl⟩, by decide +kernel, by decide +kernel, by decide⟩
theorem c_X9_plainNods (l : Launch) (G : GX)  (a1 : Int32) (a2 : Int32) (σ : MM) (h : (f_X9_plainNods a1 a2 σ).isSome = true) : CTi l G yX9_plainNods wsX9_plainNods 7 [.ref (G.1 129), .int a1, .int a2] σ (f_X9_plainNods a1 a2 σ) :=
  CTi_of md_X9_plainNods (Nat.le_of_ble_eq_true rfl) (fun K X hR => e_X9_plainNods X hR a1 a2 σ (ok_is h))
-- X9_mildNods
theorem in_X9_mildNods_9 : ∀ w ∈ u_ws RX9 TX9 21, w ∈ wsX9_mildNods := fun _ h => List.mem_cons_of_mem _ (List.mem_append_right _ h)
def f_X9_mildNods (a1 : Int32) (a2 : Int32) (σ : MM) : Option (Int32 × MM) :=
  bd (f_X9_begins (30 : Int32) σ) (fun r7 σ8 => bd (f_X9_plainNods a1 a2 σ8) (fun r10 σ11 => some ((-r10), σ11)))
set_option maxRecDepth 100000 in
set_option maxHeartbeats 4000000 in
theorem e_X9_mildNods {l : Launch} {G : GX} {K : KX} (X : FX G K cX9_mildNods RX9 (some .int) wsX9_mildNods 3) {Φ : Int32 → MM → Prop} (hR : Ri G K Φ) (a1 : Int32) (a2 : Int32) (σ : MM) (hf : Ok Φ (f_X9_mildNods a1 a2 σ)) : V l G 8 K 3 0 [(0, .ref (G.1 129)), (1, .int a1), (2, .int a2)] [] σ := by
    unfold f_X9_mildNods at hf
    refine r_aload_n X dX9_mildNods_0 0 rfl isr_ref ?_
    refine r_bipush X dX9_mildNods_1 cb_30 ?_
    refine r_callVv (rest := []) X (c_X9_begins l G (30 : Int32) σ (oks hf)) md_X9_begins gX9_mildNods_X9_begins (by decide) rfl rfl (kd_in kc_129 (by decide)) (EE_9 _ kc_129) rfl rfl (Nat.le_of_ble_eq_true rfl) dX9_mildNods_3 (fun r7 σ8 e9 => ?_)
    replace hf := okn e9 hf
    refine r_aload_n X dX9_mildNods_6 0 rfl isr_ref ?_
    refine r_iload_n X dX9_mildNods_7 1 rfl ?_
    refine r_iload_n X dX9_mildNods_8 2 rfl ?_
    refine r_callVi (rest := []) X (c_X9_plainNods l G a1 a2 σ8 (oks hf)) md_X9_plainNods gX9_mildNods_X9_plainNods (by decide) rfl rfl (kd_in kc_129 (by decide)) (EE_9 _ kc_129) rfl rfl (Nat.le_of_ble_eq_true rfl) dX9_mildNods_9 (fun r10 σ11 e12 => ?_)
    replace hf := okn e12 hf
    refine r_ineg X dX9_mildNods_12 ?_
    exact r_iret X rfl hR (ok0 hf) dX9_mildNods_13
theorem md_X9_mildNods : MD yX9_mildNods wsX9_mildNods cX9_mildNods 3 2 (some .int) := ⟨⟨_, rfl⟩, by decide +kernel, by decide +kernel, by decide⟩
theorem c_X9_mildNods (l : Launch) (G : GX)  (a1 : Int32) (a2 : Int32) (σ : MM) (h : (f_X9_mildNods a1 a2 σ).isSome = true) : CTi l G yX9_mildNods wsX9_mildNods 8 [.ref (G.1 129), .int a1, .int a2] σ (f_X9_mildNods a1 a2 σ) :=
  CTi_of md_X9_mildNods (Nat.le_of_ble_eq_true rfl) (fun K X hR => e_X9_mildNods X hR a1 a2 σ (ok_is h))
-- X9_nods
theorem in_X9_nods_9 : ∀ w ∈ u_ws RX9 TX9 21, w ∈ wsX9_nods := fun _ h => List.mem_cons_of_mem _ (List.mem_append_right _ h)
def u_X9_nods_82 (v1 : Int32) (v2 : Int32) (σ : MM) : Option (Int32 × MM) :=
  bd (f_X9_plainNods v1 v2 σ) (fun r52 σ53 => some (r52, σ53))
def f_X9_nods (a1 : Int32) (a2 : Int32) (σ : MM) : Option (Int32 × MM) :=
  bd (f_X9_of a1 (0 : Int32) σ) (fun r28 σ29 => if r28 = (2 : Int32) then bd (f_X9_mildNods a1 a2 σ29) (fun r34 σ35 => some (r34, σ35)) else if r28 = (5 : Int32) then bd (f_X9_begins (60 : Int32) σ29) (fun r37 σ38 => bd (f_X9_mildNods a1 (a2 + (1 : Int32)) σ38) (fun r40 σ41 => some (r40, σ41))) else if r28 = (6 : Int32) then bd (f_X9_begins (71 : Int32) σ29) (fun r43 σ44 => bd (f_X9_plainNods a1 a2 σ44) (fun r46 σ47 => bd (f_X9_of a1 (1 : Int32) σ47) (fun r49 σ50 => some ((r46 + r49), σ50)))) else u_X9_nods_82 a1 a2 σ29)
set_option maxRecDepth 100000 in
set_option maxHeartbeats 4000000 in
theorem t_X9_nods_82 {l : Launch} {G : GX} {K : KX} (X : FX G K cX9_nods RX9 (some .int) wsX9_nods 3) {Φ : Int32 → MM → Prop} (hR : Ri G K Φ) (v1 : Int32) (v2 : Int32) (σ : MM) (hf : Ok Φ (u_X9_nods_82 v1 v2 σ)) : V l G 9 K 3 82 [(0, .ref (G.1 129)), (1, .int v1), (2, .int v2)] [] σ := by
    unfold u_X9_nods_82 at hf
    refine r_aload_n X dX9_nods_82 0 rfl isr_ref ?_
    refine r_iload_n X dX9_nods_83 1 rfl ?_
    refine r_iload_n X dX9_nods_84 2 rfl ?_
    refine r_callVi (rest := []) X (c_X9_plainNods l G v1 v2 σ (oks hf)) md_X9_plainNods gX9_nods_X9_plainNods (by decide) rfl rfl (kd_in kc_129 (by decide)) (EE_9 _ kc_129) rfl rfl (Nat.le_of_ble_eq_true rfl) dX9_nods_85 (fun r52 σ53 e54 => ?_)
    replace hf := okn e54 hf
    exact r_iret X rfl hR (ok0 hf) dX9_nods_88
set_option maxRecDepth 100000 in
set_option maxHeartbeats 4000000 in
theorem e_X9_nods {l : Launch} {G : GX} {K : KX} (X : FX G K cX9_nods RX9 (some .int) wsX9_nods 3) {Φ : Int32 → MM → Prop} (hR : Ri G K Φ) (a1 : Int32) (a2 : Int32) (σ : MM) (hf : Ok Φ (f_X9_nods a1 a2 σ)) : V l G 9 K 3 0 [(0, .ref (G.1 129)), (1, .int a1), (2, .int a2)] [] σ := by
    unfold f_X9_nods at hf
    refine r_aload_n X dX9_nods_0 0 rfl isr_ref ?_
    refine r_iload_n X dX9_nods_1 1 rfl ?_
    refine r_iconst X dX9_nods_2 ci_0 ?_
    refine r_callVi (rest := []) X (c_X9_of l G a1 (0 : Int32) σ (oks hf)) md_X9_of gX9_nods_X9_of (by decide) rfl rfl (kd_in kc_129 (by decide)) (EE_9 _ kc_129) rfl rfl (Nat.le_of_ble_eq_true rfl) dX9_nods_3 (fun r28 σ29 e30 => ?_)
    replace hf := okn e30 hf
    by_cases h31 : r28 = (2 : Int32)
    · replace hf := okt h31 hf
      refine r_table (off := 34) (tgt := 40) X [(2, 34), (5, 41), (6, 56)] 5 dX9_nods_6 (by decide) (by decide +kernel) (by decide +kernel) (by rw [h31]; rfl) (by decide) ?_
      refine r_aload_n X dX9_nods_40 0 rfl isr_ref ?_
      refine r_iload_n X dX9_nods_41 1 rfl ?_
      refine r_iload_n X dX9_nods_42 2 rfl ?_
      refine r_callVi (rest := []) X (c_X9_mildNods l G a1 a2 σ29 (oks hf)) md_X9_mildNods gX9_nods_X9_mildNods (by decide) rfl rfl (kd_in kc_129 (by decide)) (EE_9 _ kc_129) rfl rfl (Nat.le_of_ble_eq_true rfl) dX9_nods_43 (fun r34 σ35 e36 => ?_)
      replace hf := okn e36 hf
      exact r_iret X rfl hR (ok0 hf) dX9_nods_46
    replace hf := okf h31 hf
    by_cases h32 : r28 = (5 : Int32)
    · replace hf := okt h32 hf
      refine r_table (off := 41) (tgt := 47) X [(2, 34), (5, 41), (6, 56)] 5 dX9_nods_6 (by decide) (by decide +kernel) (by decide +kernel) (by rw [h32]; rfl) (by decide) ?_
      refine r_aload_n X dX9_nods_47 0 rfl isr_ref ?_
      refine r_bipush X dX9_nods_48 cb_60 ?_
      refine r_callVv (rest := []) X (c_X9_begins l G (60 : Int32) σ29 (oks hf)) md_X9_begins gX9_nods_X9_begins (by decide) rfl rfl (kd_in kc_129 (by decide)) (EE_9 _ kc_129) rfl rfl (Nat.le_of_ble_eq_true rfl) dX9_nods_50 (fun r37 σ38 e39 => ?_)
      replace hf := okn e39 hf
      refine r_aload_n X dX9_nods_53 0 rfl isr_ref ?_
      refine r_iload_n X dX9_nods_54 1 rfl ?_
      refine r_iload_n X dX9_nods_55 2 rfl ?_
      refine r_iconst X dX9_nods_56 ci_1 ?_
      refine r_iadd X dX9_nods_57 ?_
      refine r_callVi (rest := []) X (c_X9_mildNods l G a1 (a2 + (1 : Int32)) σ38 (oks hf)) md_X9_mildNods gX9_nods_X9_mildNods (by decide) rfl rfl (kd_in kc_129 (by decide)) (EE_9 _ kc_129) rfl rfl (Nat.le_of_ble_eq_true rfl) dX9_nods_58 (fun r40 σ41 e42 => ?_)
      replace hf := okn e42 hf
      exact r_iret X rfl hR (ok0 hf) dX9_nods_61
    replace hf := okf h32 hf
    by_cases h33 : r28 = (6 : Int32)
    · replace hf := okt h33 hf
      refine r_table (off := 56) (tgt := 62) X [(2, 34), (5, 41), (6, 56)] 5 dX9_nods_6 (by decide) (by decide +kernel) (by decide +kernel) (by rw [h33]; rfl) (by decide) ?_
      refine r_aload_n X dX9_nods_62 0 rfl isr_ref ?_
      refine r_bipush X dX9_nods_63 cb_71 ?_
      refine r_callVv (rest := []) X (c_X9_begins l G (71 : Int32) σ29 (oks hf)) md_X9_begins gX9_nods_X9_begins (by decide) rfl rfl (kd_in kc_129 (by decide)) (EE_9 _ kc_129) rfl rfl (Nat.le_of_ble_eq_true rfl) dX9_nods_65 (fun r43 σ44 e45 => ?_)
      replace hf := okn e45 hf
      refine r_aload_n X dX9_nods_68 0 rfl isr_ref ?_
      refine r_iload_n X dX9_nods_69 1 rfl ?_
      refine r_iload_n X dX9_nods_70 2 rfl ?_
      refine r_callVi (rest := []) X (c_X9_plainNods l G a1 a2 σ44 (oks hf)) md_X9_plainNods gX9_nods_X9_plainNods (by decide) rfl rfl (kd_in kc_129 (by decide)) (EE_9 _ kc_129) rfl rfl (Nat.le_of_ble_eq_true rfl) dX9_nods_71 (fun r46 σ47 e48 => ?_)
      replace hf := okn e48 hf
      refine r_aload_n X dX9_nods_74 0 rfl isr_ref ?_
      refine r_iload_n X dX9_nods_75 1 rfl ?_
      refine r_iconst X dX9_nods_76 ci_1 ?_
      refine r_callVi (rest := [.int r46]) X (c_X9_of l G a1 (1 : Int32) σ47 (oks hf)) md_X9_of gX9_nods_X9_of (by decide) rfl rfl (kd_in kc_129 (by decide)) (EE_9 _ kc_129) rfl rfl (Nat.le_of_ble_eq_true rfl) dX9_nods_77 (fun r49 σ50 e51 => ?_)
      replace hf := okn e51 hf
      refine r_iadd X dX9_nods_80 ?_
      exact r_iret X rfl hR (ok0 hf) dX9_nods_81
    replace hf := okf h33 hf
    refine r_table (off := 76) (tgt := 82) X [(2, 34), (5, 41), (6, 56)] 5 dX9_nods_6 (by decide) (by decide +kernel) (by decide +kernel) (lk_n h31 (by decide) (lk_n h32 (by decide) (lk_n h33 (by decide) rfl))) (by decide) ?_
    exact t_X9_nods_82 X hR a1 a2 σ29 hf
theorem md_X9_nods : MD yX9_nods wsX9_nods cX9_nods 3 2 (some .int) := ⟨⟨_, rfl⟩, by decide +kernel, by decide +kernel, by decide⟩
theorem c_X9_nods (l : Launch) (G : GX)  (a1 : Int32) (a2 : Int32) (σ : MM) (h : (f_X9_nods a1 a2 σ).isSome = true) : CTi l G yX9_nods wsX9_nods 9 [.ref (G.1 129), .int a1, .int a2] σ (f_X9_nods a1 a2 σ) :=
  CTi_of md_X9_nods (Nat.le_of_ble_eq_true rfl) (fun K X hR => e_X9_nods X hR a1 a2 σ (ok_is h))
-- X9_plainEchoes
theorem in_X9_plainEchoes_9 : ∀ w ∈ u_ws RX9 TX9 21, w ∈ wsX9_plainEchoes := fun _ h => List.mem_cons_of_mem _ (List.mem_append_right _ h)
def f_X9_plainEchoes (a1 : Int32) (a2 : Int32) (σ : MM) : Option (Int32 × MM) :=
  bd (f_X9_begins (12 : Int32) σ) (fun r10 σ11 => bd (f_X9_nods a1 a2 σ11) (fun r13 σ14 => bd (f_X9_of a1 (1 : Int32) σ14) (fun r16 σ17 => some ((r13 - r16), σ17))))
set_option maxRecDepth 100000 in
set_option maxHeartbeats 4000000 in
theorem e_X9_plainEchoes {l : Launch} {G : GX} {K : KX} (X : FX G K cX9_plainEchoes RX9 (some .int) wsX9_plainEchoes 3) {Φ : Int32 → MM → Prop} (hR : Ri G K Φ) (a1 : Int32) (a2 : Int32) (σ : MM) (hf : Ok Φ (f_X9_plainEchoes a1 a2 σ)) : V l G 10 K 3 0 [(0, .ref (G.1 129)), (1, .int a1), (2, .int a2)] [] σ := by
    unfold f_X9_plainEchoes at hf
    refine r_aload_n X dX9_plainEchoes_0 0 rfl isr_ref ?_
    refine r_bipush X dX9_plainEchoes_1 cb_12 ?_
    refine r_callVv (rest := []) X (c_X9_begins l G (12 : Int32) σ (oks hf)) md_X9_begins gX9_plainEchoes_X9_begins (by decide) rfl rfl (kd_in kc_129 (by decide)) (EE_9 _ kc_129) rfl rfl (Nat.le_of_ble_eq_true rfl) dX9_plainEchoes_3 (fun r10 σ11 e12 => ?_)
    replace hf := okn e12 hf
    refine r_aload_n X dX9_plainEchoes_6 0 rfl isr_ref ?_
    refine r_iload_n X dX9_plainEchoes_7 1 rfl ?_
    refine r_iload_n X dX9_plainEchoes_8 2 rfl ?_
    refine r_callVi (rest := []) X (c_X9_nods l G a1 a2 σ11 (oks hf)) md_X9_nods gX9_plainEchoes_X9_nods (by decide) rfl rfl (kd_in kc_129 (by decide)) (EE_9 _ kc_129) rfl rfl (Nat.le_of_ble_eq_true rfl) dX9_plainEchoes_9 (fun r13 σ14 e15 => ?_)
    replace hf := okn e15 hf
    refine r_aload_n X dX9_plainEchoes_12 0 rfl isr_ref ?_
    refine r_iload_n X dX9_plainEchoes_13 1 rfl ?_
    refine r_iconst X dX9_plainEchoes_14 ci_1 ?_
    refine r_callVi (rest := [.int r13]) X (c_X9_of l G a1 (1 : Int32) σ14 (oks hf)) md_X9_of gX9_plainEchoes_X9_of (by decide) rfl rfl (kd_in kc_129 (by decide)) (EE_9 _ kc_129) rfl rfl (Nat.le_of_ble_eq_true rfl) dX9_plainEchoes_15 (fun r16 σ17 e18 => ?_)
    replace hf := okn e18 hf
    refine r_isub X dX9_plainEchoes_18 ?_
    exact r_iret X rfl hR (ok0 hf) dX9_plainEchoes_19
theorem md_X9_plainEchoes : MD yX9_plainEchoes wsX9_plainEchoes cX9_plainEchoes 3 2 (some .int) := ⟨⟨_, rfl⟩, by decide +kernel, by decide +kernel, by decide⟩
theorem c_X9_plainEchoes (l : Launch) (G : GX)  (a1 : Int32) (a2 : Int32) (σ : MM) (h : (f_X9_plainEchoes a1 a2 σ).isSome = true) : CTi l G yX9_plainEchoes wsX9_plainEchoes 10 [.ref (G.1 129), .int a1, .int a2] σ (f_X9_plainEchoes a1 a2 σ) :=
  CTi_of md_X9_plainEchoes (Nat.le_of_ble_eq_true rfl) (fun K X hR => e_X9_plainEchoes X hR a1 a2 σ (ok_is h))
-- X9_echoes
theorem in_X9_echoes_9 : ∀ w ∈ u_ws RX9 TX9 21, w ∈ wsX9_echoes := fun _ h => List.mem_cons_of_mem _ (List.mem_append_right _ h)
def f_X9_echoes (a1 : Int32) (a2 : Int32) (σ : MM) : Option (Int32 × MM) :=
  bd (f_X9_of a1 (0 : Int32) σ) (fun r21 σ22 => if r21 = (3 : Int32) then bd (f_X9_begins (40 : Int32) σ22) (fun r26 σ27 => bd (f_X9_plainEchoes a1 (a2 / (2 : Int32)) σ27) (fun r29 σ30 => some (r29, σ30))) else if r21 = (4 : Int32) then bd (f_X9_begins (51 : Int32) σ22) (fun r32 σ33 => bd (f_X9_plainEchoes a1 a2 σ33) (fun r35 σ36 => some ((r35 ^^^ a1), σ36))) else bd (f_X9_plainEchoes a1 a2 σ22) (fun r38 σ39 => some (r38, σ39)))
set_option maxRecDepth 100000 in
set_option maxHeartbeats 4000000 in
theorem e_X9_echoes {l : Launch} {G : GX} {K : KX} (X : FX G K cX9_echoes RX9 (some .int) wsX9_echoes 3) {Φ : Int32 → MM → Prop} (hR : Ri G K Φ) (a1 : Int32) (a2 : Int32) (σ : MM) (hf : Ok Φ (f_X9_echoes a1 a2 σ)) : V l G 11 K 3 0 [(0, .ref (G.1 129)), (1, .int a1), (2, .int a2)] [] σ := by
    unfold f_X9_echoes at hf
    refine r_aload_n X dX9_echoes_0 0 rfl isr_ref ?_
    refine r_iload_n X dX9_echoes_1 1 rfl ?_
    refine r_iconst X dX9_echoes_2 ci_0 ?_
    refine r_callVi (rest := []) X (c_X9_of l G a1 (0 : Int32) σ (oks hf)) md_X9_of gX9_echoes_X9_of (by decide) rfl rfl (kd_in kc_129 (by decide)) (EE_9 _ kc_129) rfl rfl (Nat.le_of_ble_eq_true rfl) dX9_echoes_3 (fun r21 σ22 e23 => ?_)
    replace hf := okn e23 hf
    by_cases h24 : r21 = (3 : Int32)
    · replace hf := okt h24 hf
      refine r_lookup (off := 26) (tgt := 32) X dX9_echoes_6 (by decide +kernel) (by rw [h24]; rfl) (by decide) ?_
      refine r_aload_n X dX9_echoes_32 0 rfl isr_ref ?_
      refine r_bipush X dX9_echoes_33 cb_40 ?_
      refine r_callVv (rest := []) X (c_X9_begins l G (40 : Int32) σ22 (oks hf)) md_X9_begins gX9_echoes_X9_begins (by decide) rfl rfl (kd_in kc_129 (by decide)) (EE_9 _ kc_129) rfl rfl (Nat.le_of_ble_eq_true rfl) dX9_echoes_35 (fun r26 σ27 e28 => ?_)
      replace hf := okn e28 hf
      refine r_aload_n X dX9_echoes_38 0 rfl isr_ref ?_
      refine r_iload_n X dX9_echoes_39 1 rfl ?_
      refine r_iload_n X dX9_echoes_40 2 rfl ?_
      refine r_iconst X dX9_echoes_41 ci_2 ?_
      refine r_idiv X dX9_echoes_42 (by decide) ?_
      refine r_callVi (rest := []) X (c_X9_plainEchoes l G a1 (a2 / (2 : Int32)) σ27 (oks hf)) md_X9_plainEchoes gX9_echoes_X9_plainEchoes (by decide) rfl rfl (kd_in kc_129 (by decide)) (EE_9 _ kc_129) rfl rfl (Nat.le_of_ble_eq_true rfl) dX9_echoes_43 (fun r29 σ30 e31 => ?_)
      replace hf := okn e31 hf
      exact r_iret X rfl hR (ok0 hf) dX9_echoes_46
    replace hf := okf h24 hf
    by_cases h25 : r21 = (4 : Int32)
    · replace hf := okt h25 hf
      refine r_lookup (off := 41) (tgt := 47) X dX9_echoes_6 (by decide +kernel) (by rw [h25]; rfl) (by decide) ?_
      refine r_aload_n X dX9_echoes_47 0 rfl isr_ref ?_
      refine r_bipush X dX9_echoes_48 cb_51 ?_
      refine r_callVv (rest := []) X (c_X9_begins l G (51 : Int32) σ22 (oks hf)) md_X9_begins gX9_echoes_X9_begins (by decide) rfl rfl (kd_in kc_129 (by decide)) (EE_9 _ kc_129) rfl rfl (Nat.le_of_ble_eq_true rfl) dX9_echoes_50 (fun r32 σ33 e34 => ?_)
      replace hf := okn e34 hf
      refine r_aload_n X dX9_echoes_53 0 rfl isr_ref ?_
      refine r_iload_n X dX9_echoes_54 1 rfl ?_
      refine r_iload_n X dX9_echoes_55 2 rfl ?_
      refine r_callVi (rest := []) X (c_X9_plainEchoes l G a1 a2 σ33 (oks hf)) md_X9_plainEchoes gX9_echoes_X9_plainEchoes (by decide) rfl rfl (kd_in kc_129 (by decide)) (EE_9 _ kc_129) rfl rfl (Nat.le_of_ble_eq_true rfl) dX9_echoes_56 (fun r35 σ36 e37 => ?_)
      replace hf := okn e37 hf
      refine r_iload_n X dX9_echoes_59 1 rfl ?_
      refine r_ixor X dX9_echoes_60 ?_
      exact r_iret X rfl hR (ok0 hf) dX9_echoes_61
    replace hf := okf h25 hf
    refine r_lookup (off := 56) (tgt := 62) X dX9_echoes_6 (by decide +kernel) (lk_n h24 (by decide) (lk_n h25 (by decide) rfl)) (by decide) ?_
    refine r_aload_n X dX9_echoes_62 0 rfl isr_ref ?_
    refine r_iload_n X dX9_echoes_63 1 rfl ?_
    refine r_iload_n X dX9_echoes_64 2 rfl ?_
    refine r_callVi (rest := []) X (c_X9_plainEchoes l G a1 a2 σ22 (oks hf)) md_X9_plainEchoes gX9_echoes_X9_plainEchoes (by decide) rfl rfl (kd_in kc_129 (by decide)) (EE_9 _ kc_129) rfl rfl (Nat.le_of_ble_eq_true rfl) dX9_echoes_65 (fun r38 σ39 e40 => ?_)
    replace hf := okn e40 hf
    exact r_iret X rfl hR (ok0 hf) dX9_echoes_68
theorem md_X9_echoes : MD yX9_echoes wsX9_echoes cX9_echoes 3 2 (some .int) := ⟨⟨_, rfl⟩, by decide +kernel, by decide +kernel, by decide⟩
theorem c_X9_echoes (l : Launch) (G : GX)  (a1 : Int32) (a2 : Int32) (σ : MM) (h : (f_X9_echoes a1 a2 σ).isSome = true) : CTi l G yX9_echoes wsX9_echoes 11 [.ref (G.1 129), .int a1, .int a2] σ (f_X9_echoes a1 a2 σ) :=
  CTi_of md_X9_echoes (Nat.le_of_ble_eq_true rfl) (fun K X hR => e_X9_echoes X hR a1 a2 σ (ok_is h))
-- X9_plainParts
theorem in_X9_plainParts_9 : ∀ w ∈ u_ws RX9 TX9 21, w ∈ wsX9_plainParts := fun _ h => List.mem_cons_of_mem _ (List.mem_append_right _ h)
def u_X9_plainParts_25 (v2 : Int32) (v3 : Int32) (vs0 : Int32) (σ : MM) : Option (Int32 × MM) :=
  if vs0 = 0 ∨ vs0 = 1 then lt (mu σ 129 20 vs0) (fun σ20 => if (σ20 129 20) = 0 then if v3 = 0 then none else some ((v2 / v3), σ20) else some ((0 : Int32), σ20)) else none
def f_X9_plainParts (a1 : Int32) (a2 : Int32) (σ : MM) : Option (Int32 × MM) :=
  bd (f_X9_begins (13 : Int32) σ) (fun r13 σ14 => bd (f_X9_of a1 (1 : Int32) σ14) (fun r16 σ17 => if (r16 - a1) = 0 then u_X9_plainParts_25 a2 (r16 - a1) (1 : Int32) σ17 else u_X9_plainParts_25 a2 (r16 - a1) (0 : Int32) σ17))
set_option maxRecDepth 100000 in
set_option maxHeartbeats 4000000 in
theorem t_X9_plainParts_25 {l : Launch} {G : GX} {K : KX} (X : FX G K cX9_plainParts RX9 (some .int) wsX9_plainParts 4) {Φ : Int32 → MM → Prop} (hR : Ri G K Φ) (v2 : Int32) (v3 : Int32) (vs0 : Int32) (σ : MM) (hf : Ok Φ (u_X9_plainParts_25 v2 v3 vs0 σ)) : V l G 4 K 4 25 [(0, .ref (G.1 129)), (2, .int v2), (3, .int v3)] [.int vs0, .ref (G.1 129)] σ := by
    unfold u_X9_plainParts_25 at hf
    obtain ⟨g22, hf⟩ := okp hf
    obtain ⟨σ20, e21, hf⟩ := okl hf
    refine r_put (i := 129) (f := upd (σ 129) 20 vs0) X in_X9_plainParts_9 tyX9 tyX9_ok nmX9 rfl 20 (by decide) (kd_in kc_129 (by decide)) (EE_9 _ kc_129) (EU_9_20 _ _ kc_129) rfl (mem_ix 1 rfl) rfl rfl (nar_z g22) (fit_z g22) dX9_plainParts_25 ?_
    refine r_sg e21 ?_
    refine r_aload_n X dX9_plainParts_28 0 rfl isr_ref ?_
    refine r_get (i := 129) (v := .int (σ20 129 20)) X in_X9_plainParts_9 rfl 20 (by decide) (kd_in kc_129 (by decide)) (EE_9 _ kc_129) rfl (mem_ix 1 rfl) dX9_plainParts_29 ?_
    refine r_if_eq (tgt := 39) X dX9_plainParts_32 (by decide) (fun h23 => ?_) (fun h23 => ?_)
    · replace hf := okt h23 hf
      refine r_iload_n X dX9_plainParts_39 1 rfl ?_
      refine r_iload_n X dX9_plainParts_40 2 rfl ?_
      obtain ⟨g24, hf⟩ := okg hf
      refine r_idiv X dX9_plainParts_41 g24 ?_
      exact r_iret X rfl hR (ok0 hf) dX9_plainParts_42
    · replace hf := okf h23 hf
      refine r_iconst X dX9_plainParts_35 ci_0 ?_
      refine r_goto (tgt := 42) X dX9_plainParts_36 (by decide) ?_
      exact r_iret X rfl hR (ok0 hf) dX9_plainParts_42
set_option maxRecDepth 100000 in
set_option maxHeartbeats 4000000 in
theorem e_X9_plainParts {l : Launch} {G : GX} {K : KX} (X : FX G K cX9_plainParts RX9 (some .int) wsX9_plainParts 4) {Φ : Int32 → MM → Prop} (hR : Ri G K Φ) (a1 : Int32) (a2 : Int32) (σ : MM) (hf : Ok Φ (f_X9_plainParts a1 a2 σ)) : V l G 4 K 4 0 [(0, .ref (G.1 129)), (1, .int a1), (2, .int a2)] [] σ := by
    unfold f_X9_plainParts at hf
    refine r_aload_n X dX9_plainParts_0 0 rfl isr_ref ?_
    refine r_bipush X dX9_plainParts_1 cb_13 ?_
    refine r_callVv (rest := []) X (c_X9_begins l G (13 : Int32) σ (oks hf)) md_X9_begins gX9_plainParts_X9_begins (by decide) rfl rfl (kd_in kc_129 (by decide)) (EE_9 _ kc_129) rfl rfl (Nat.le_of_ble_eq_true rfl) dX9_plainParts_3 (fun r13 σ14 e15 => ?_)
    replace hf := okn e15 hf
    refine r_aload_n X dX9_plainParts_6 0 rfl isr_ref ?_
    refine r_iload_n X dX9_plainParts_7 1 rfl ?_
    refine r_iconst X dX9_plainParts_8 ci_1 ?_
    refine r_callVi (rest := []) X (c_X9_of l G a1 (1 : Int32) σ14 (oks hf)) md_X9_of gX9_plainParts_X9_of (by decide) rfl rfl (kd_in kc_129 (by decide)) (EE_9 _ kc_129) rfl rfl (Nat.le_of_ble_eq_true rfl) dX9_plainParts_9 (fun r16 σ17 e18 => ?_)
    replace hf := okn e18 hf
    refine r_iload_n X dX9_plainParts_12 1 rfl ?_
    refine r_isub X dX9_plainParts_13 ?_
    refine r_istore_n X dX9_plainParts_14 (i := 3) rfl (by decide) (lv' := [(3, .int (r16 - a1)), (0, .ref (G.1 129)), (1, .int a1), (2, .int a2)]) rfl ?_
    refine r_aload_n X dX9_plainParts_15 1 rfl isr_ref ?_
    refine r_iload_n X dX9_plainParts_16 0 rfl ?_
    refine r_if_ne (tgt := 24) X dX9_plainParts_17 (by decide) (fun h19 => ?_) (fun h19 => ?_)
    · replace hf := okf h19 hf
      refine r_iconst X dX9_plainParts_24 ci_0 ?_
      refine r_sub [1, 3, 0] rfl ?_
      exact t_X9_plainParts_25 X hR a2 (r16 - a1) (0 : Int32) σ17 hf
    · replace hf := okt h19 hf
      refine r_iconst X dX9_plainParts_20 ci_1 ?_
      refine r_goto (tgt := 25) X dX9_plainParts_21 (by decide) ?_
      refine r_sub [1, 3, 0] rfl ?_
      exact t_X9_plainParts_25 X hR a2 (r16 - a1) (1 : Int32) σ17 hf
theorem md_X9_plainParts : MD yX9_plainParts wsX9_plainParts cX9_plainParts 4 2 (some .int) := ⟨⟨_, rfl⟩, by decide +kernel, by decide +kernel, by decide⟩
theorem c_X9_plainParts (l : Launch) (G : GX)  (a1 : Int32) (a2 : Int32) (σ : MM) (h : (f_X9_plainParts a1 a2 σ).isSome = true) : CTi l G yX9_plainParts wsX9_plainParts 4 [.ref (G.1 129), .int a1, .int a2] σ (f_X9_plainParts a1 a2 σ) :=
  CTi_of md_X9_plainParts (Nat.le_of_ble_eq_true rfl) (fun K X hR => e_X9_plainParts X hR a1 a2 σ (ok_is h))
-- X9_partsBy
theorem in_X9_partsBy_9 : ∀ w ∈ u_ws RX9 TX9 21, w ∈ wsX9_partsBy := fun _ h => List.mem_cons_of_mem _ (List.mem_append_right _ h)
def u_X9_partsBy_20 (v1 : Int32) (v2 : Int32) (σ : MM) : Option (Int32 × MM) :=
  bd (f_X9_begins (21 : Int32) σ) (fun r26 σ27 => bd (f_X9_plainParts v1 v2 σ27) (fun r29 σ30 => if (σ30 129 20) = 0 then bd (f_X9_nods v1 (1 : Int32) σ30) (fun r33 σ34 => some ((r29 + r33), σ34)) else some ((0 : Int32), σ30)))
def f_X9_partsBy (a1 : Int32) (a2 : Int32) (σ : MM) : Option (Int32 × MM) :=
  bd (f_X9_of a1 (0 : Int32) σ) (fun r22 σ23 => if r22 = (1 : Int32) then u_X9_partsBy_20 a1 a2 σ23 else bd (f_X9_of a1 (0 : Int32) σ23) (fun r36 σ37 => if r36 = (4 : Int32) then u_X9_partsBy_20 a1 a2 σ37 else bd (f_X9_plainParts a1 a2 σ37) (fun r40 σ41 => some (r40, σ41))))
set_option maxRecDepth 100000 in
set_option maxHeartbeats 4000000 in
theorem t_X9_partsBy_20 {l : Launch} {G : GX} {K : KX} (X : FX G K cX9_partsBy RX9 (some .int) wsX9_partsBy 4) {Φ : Int32 → MM → Prop} (hR : Ri G K Φ) (v1 : Int32) (v2 : Int32) (σ : MM) (hf : Ok Φ (u_X9_partsBy_20 v1 v2 σ)) : V l G 10 K 4 20 [(0, .ref (G.1 129)), (1, .int v1), (2, .int v2)] [] σ := by
    unfold u_X9_partsBy_20 at hf
    refine r_aload_n X dX9_partsBy_20 0 rfl isr_ref ?_
    refine r_bipush X dX9_partsBy_21 cb_21 ?_
    refine r_callVv (rest := []) X (c_X9_begins l G (21 : Int32) σ (oks hf)) md_X9_begins gX9_partsBy_X9_begins (by decide) rfl rfl (kd_in kc_129 (by decide)) (EE_9 _ kc_129) rfl rfl (Nat.le_of_ble_eq_true rfl) dX9_partsBy_23 (fun r26 σ27 e28 => ?_)
    replace hf := okn e28 hf
    refine r_aload_n X dX9_partsBy_26 0 rfl isr_ref ?_
    refine r_iload_n X dX9_partsBy_27 1 rfl ?_
    refine r_iload_n X dX9_partsBy_28 2 rfl ?_
    refine r_callVi (rest := []) X (c_X9_plainParts l G v1 v2 σ27 (oks hf)) md_X9_plainParts gX9_partsBy_X9_plainParts (by decide) rfl rfl (kd_in kc_129 (by decide)) (EE_9 _ kc_129) rfl rfl (Nat.le_of_ble_eq_true rfl) dX9_partsBy_29 (fun r29 σ30 e31 => ?_)
    replace hf := okn e31 hf
    refine r_istore_n X dX9_partsBy_32 (i := 3) rfl (by decide) (lv' := [(3, .int r29), (0, .ref (G.1 129)), (1, .int v1), (2, .int v2)]) rfl ?_
    refine r_aload_n X dX9_partsBy_33 1 rfl isr_ref ?_
    refine r_get (i := 129) (v := .int (σ30 129 20)) X in_X9_partsBy_9 rfl 20 (by decide) (kd_in kc_129 (by decide)) (EE_9 _ kc_129) rfl (mem_ix 1 rfl) dX9_partsBy_34 ?_
    refine r_if_eq (tgt := 44) X dX9_partsBy_37 (by decide) (fun h32 => ?_) (fun h32 => ?_)
    · replace hf := okt h32 hf
      refine r_iload_n X dX9_partsBy_44 0 rfl ?_
      refine r_aload_n X dX9_partsBy_45 1 rfl isr_ref ?_
      refine r_iload_n X dX9_partsBy_46 2 rfl ?_
      refine r_iconst X dX9_partsBy_47 ci_1 ?_
      refine r_callVi (rest := [.int r29]) X (c_X9_nods l G v1 (1 : Int32) σ30 (oks hf)) md_X9_nods gX9_partsBy_X9_nods (by decide) rfl rfl (kd_in kc_129 (by decide)) (EE_9 _ kc_129) rfl rfl (Nat.le_of_ble_eq_true rfl) dX9_partsBy_48 (fun r33 σ34 e35 => ?_)
      replace hf := okn e35 hf
      refine r_iadd X dX9_partsBy_51 ?_
      exact r_iret X rfl hR (ok0 hf) dX9_partsBy_52
    · replace hf := okf h32 hf
      refine r_iconst X dX9_partsBy_40 ci_0 ?_
      refine r_goto (tgt := 52) X dX9_partsBy_41 (by decide) ?_
      exact r_iret X rfl hR (ok0 hf) dX9_partsBy_52
set_option maxRecDepth 100000 in
set_option maxHeartbeats 4000000 in
theorem e_X9_partsBy {l : Launch} {G : GX} {K : KX} (X : FX G K cX9_partsBy RX9 (some .int) wsX9_partsBy 4) {Φ : Int32 → MM → Prop} (hR : Ri G K Φ) (a1 : Int32) (a2 : Int32) (σ : MM) (hf : Ok Φ (f_X9_partsBy a1 a2 σ)) : V l G 10 K 4 0 [(0, .ref (G.1 129)), (1, .int a1), (2, .int a2)] [] σ := by
    unfold f_X9_partsBy at hf
    refine r_aload_n X dX9_partsBy_0 0 rfl isr_ref ?_
    refine r_iload_n X dX9_partsBy_1 1 rfl ?_
    refine r_iconst X dX9_partsBy_2 ci_0 ?_
    refine r_callVi (rest := []) X (c_X9_of l G a1 (0 : Int32) σ (oks hf)) md_X9_of gX9_partsBy_X9_of (by decide) rfl rfl (kd_in kc_129 (by decide)) (EE_9 _ kc_129) rfl rfl (Nat.le_of_ble_eq_true rfl) dX9_partsBy_3 (fun r22 σ23 e24 => ?_)
    replace hf := okn e24 hf
    refine r_iconst X dX9_partsBy_6 ci_1 ?_
    refine r_icmp_eq (tgt := 20) X dX9_partsBy_7 (by decide) (fun h25 => ?_) (fun h25 => ?_)
    · replace hf := okt h25 hf
      exact t_X9_partsBy_20 X hR a1 a2 σ23 hf
    · replace hf := okf h25 hf
      refine r_aload_n X dX9_partsBy_10 0 rfl isr_ref ?_
      refine r_iload_n X dX9_partsBy_11 1 rfl ?_
      refine r_iconst X dX9_partsBy_12 ci_0 ?_
      refine r_callVi (rest := []) X (c_X9_of l G a1 (0 : Int32) σ23 (oks hf)) md_X9_of gX9_partsBy_X9_of (by decide) rfl rfl (kd_in kc_129 (by decide)) (EE_9 _ kc_129) rfl rfl (Nat.le_of_ble_eq_true rfl) dX9_partsBy_13 (fun r36 σ37 e38 => ?_)
      replace hf := okn e38 hf
      refine r_iconst X dX9_partsBy_16 ci_4 ?_
      refine r_icmp_ne (tgt := 53) X dX9_partsBy_17 (by decide) (fun h39 => ?_) (fun h39 => ?_)
      · replace hf := okf h39 hf
        refine r_aload_n X dX9_partsBy_53 0 rfl isr_ref ?_
        refine r_iload_n X dX9_partsBy_54 1 rfl ?_
        refine r_iload_n X dX9_partsBy_55 2 rfl ?_
        refine r_callVi (rest := []) X (c_X9_plainParts l G a1 a2 σ37 (oks hf)) md_X9_plainParts gX9_partsBy_X9_plainParts (by decide) rfl rfl (kd_in kc_129 (by decide)) (EE_9 _ kc_129) rfl rfl (Nat.le_of_ble_eq_true rfl) dX9_partsBy_56 (fun r40 σ41 e42 => ?_)
        replace hf := okn e42 hf
        exact r_iret X rfl hR (ok0 hf) dX9_partsBy_59
      · replace hf := okt h39 hf
        exact t_X9_partsBy_20 X hR a1 a2 σ37 hf
theorem md_X9_partsBy : MD yX9_partsBy wsX9_partsBy cX9_partsBy 4 2 (some .int) := ⟨⟨_, rfl⟩, by decide +kernel, by decide +kernel, by decide⟩
theorem c_X9_partsBy (l : Launch) (G : GX)  (a1 : Int32) (a2 : Int32) (σ : MM) (h : (f_X9_partsBy a1 a2 σ).isSome = true) : CTi l G yX9_partsBy wsX9_partsBy 10 [.ref (G.1 129), .int a1, .int a2] σ (f_X9_partsBy a1 a2 σ) :=
  CTi_of md_X9_partsBy (Nat.le_of_ble_eq_true rfl) (fun K X hR => e_X9_partsBy X hR a1 a2 σ (ok_is h))
-- X9_voice
theorem in_X9_voice_9 : ∀ w ∈ u_ws RX9 TX9 21, w ∈ wsX9_voice := fun _ h => List.mem_cons_of_mem _ (List.mem_append_right _ h)
def u_X9_voice_17  (σ : MM) : Option (Int32 × MM) :=
  bd (f_X9_error (-1000000001 : Int32) σ) (fun r39 σ40 => some (r39, σ40))
def u_X9_voice_81 (vs0 : Int32) (σ : MM) : Option (Int32 × MM) :=
  if (σ 129 20) = 0 then some (vs0, σ) else bd (f_X9_error (-1000000006 : Int32) σ) (fun r57 σ58 => some (r57, σ58))
def f_X9_voice (a1 : Int32) (a2 : Int32) (a3 : Int32) (σ : MM) : Option (Int32 × MM) :=
  bd (f_X9_isStep a1 σ) (fun r35 σ36 => if r35 = 0 then u_X9_voice_17 σ36 else bd (f_X9_in a2 (0 : Int32) (3 : Int32) σ36) (fun r42 σ43 => if r42 = 0 then u_X9_voice_17 σ43 else lt (mu σ43 129 19 (0 : Int32)) (fun σ46 => lt (mu σ46 129 20 (0 : Int32)) (fun σ48 => if a2 = 0 then bd (f_X9_asks a1 a3 σ48) (fun r66 σ67 => u_X9_voice_81 r66 σ67) else if a2 = (1 : Int32) then bd (f_X9_nods a1 a3 σ48) (fun r63 σ64 => u_X9_voice_81 r63 σ64) else if a2 = (2 : Int32) then bd (f_X9_echoes a1 a3 σ48) (fun r60 σ61 => u_X9_voice_81 r60 σ61) else bd (f_X9_partsBy a1 a3 σ48) (fun r53 σ54 => u_X9_voice_81 r53 σ54)))))
set_option maxRecDepth 100000 in
set_option maxHeartbeats 4000000 in
theorem t_X9_voice_17 {l : Launch} {G : GX} {K : KX} (X : FX G K cX9_voice RX9 (some .int) wsX9_voice 5) {Φ : Int32 → MM → Prop} (hR : Ri G K Φ)  (σ : MM) (hf : Ok Φ (u_X9_voice_17  σ)) : V l G 12 K 5 17 [(0, .ref (G.1 129))] [] σ := by
    unfold u_X9_voice_17 at hf
    refine r_aload_n X dX9_voice_17 0 rfl isr_ref ?_
    refine r_ldc (v := (-1000000001 : Int32)) X (mem_ix 1 rfl) dX9_voice_18 ?_
    refine r_callVi (rest := []) X (c_X9_error l G (-1000000001 : Int32) σ (oks hf)) md_X9_error gX9_voice_X9_error (by decide) rfl rfl (kd_in kc_129 (by decide)) (EE_9 _ kc_129) rfl rfl (Nat.le_of_ble_eq_true rfl) dX9_voice_20 (fun r39 σ40 e41 => ?_)
    replace hf := okn e41 hf
    exact r_iret X rfl hR (ok0 hf) dX9_voice_23
set_option maxRecDepth 100000 in
set_option maxHeartbeats 4000000 in
theorem t_X9_voice_81 {l : Launch} {G : GX} {K : KX} (X : FX G K cX9_voice RX9 (some .int) wsX9_voice 5) {Φ : Int32 → MM → Prop} (hR : Ri G K Φ) (vs0 : Int32) (σ : MM) (hf : Ok Φ (u_X9_voice_81 vs0 σ)) : V l G 12 K 5 81 [(0, .ref (G.1 129))] [.int vs0] σ := by
    unfold u_X9_voice_81 at hf
    refine r_istore X dX9_voice_81 (by decide) (lv' := [(4, .int vs0), (0, .ref (G.1 129))]) rfl ?_
    refine r_aload_n X dX9_voice_83 1 rfl isr_ref ?_
    refine r_get (i := 129) (v := .int (σ 129 20)) X in_X9_voice_9 rfl 20 (by decide) (kd_in kc_129 (by decide)) (EE_9 _ kc_129) rfl (mem_ix 3 rfl) dX9_voice_84 ?_
    refine r_if_eq (tgt := 100) X dX9_voice_87 (by decide) (fun h56 => ?_) (fun h56 => ?_)
    · replace hf := okt h56 hf
      refine r_iload X dX9_voice_100 0 rfl ?_
      exact r_iret X rfl hR (ok0 hf) dX9_voice_102
    · replace hf := okf h56 hf
      refine r_aload_n X dX9_voice_90 1 rfl isr_ref ?_
      refine r_ldcw (v := (-1000000006 : Int32)) X (mem_ix 4 rfl) dX9_voice_91 ?_
      refine r_callVi (rest := []) X (c_X9_error l G (-1000000006 : Int32) σ (oks hf)) md_X9_error gX9_voice_X9_error (by decide) rfl rfl (kd_in kc_129 (by decide)) (EE_9 _ kc_129) rfl rfl (Nat.le_of_ble_eq_true rfl) dX9_voice_94 (fun r57 σ58 e59 => ?_)
      replace hf := okn e59 hf
      refine r_goto (tgt := 102) X dX9_voice_97 (by decide) ?_
      exact r_iret X rfl hR (ok0 hf) dX9_voice_102
set_option maxRecDepth 100000 in
set_option maxHeartbeats 4000000 in
theorem e_X9_voice {l : Launch} {G : GX} {K : KX} (X : FX G K cX9_voice RX9 (some .int) wsX9_voice 5) {Φ : Int32 → MM → Prop} (hR : Ri G K Φ) (a1 : Int32) (a2 : Int32) (a3 : Int32) (σ : MM) (hf : Ok Φ (f_X9_voice a1 a2 a3 σ)) : V l G 12 K 5 0 [(0, .ref (G.1 129)), (1, .int a1), (2, .int a2), (3, .int a3)] [] σ := by
    unfold f_X9_voice at hf
    refine r_aload_n X dX9_voice_0 0 rfl isr_ref ?_
    refine r_iload_n X dX9_voice_1 1 rfl ?_
    refine r_callVi (rest := []) X (c_X9_isStep l G a1 σ (oks hf)) md_X9_isStep gX9_voice_X9_isStep (by decide) rfl rfl (kd_in kc_129 (by decide)) (EE_9 _ kc_129) rfl rfl (Nat.le_of_ble_eq_true rfl) dX9_voice_2 (fun r35 σ36 e37 => ?_)
    replace hf := okn e37 hf
    refine r_if_eq (tgt := 17) X dX9_voice_5 (by decide) (fun h38 => ?_) (fun h38 => ?_)
    · replace hf := okt h38 hf
      refine r_sub [0] rfl ?_
      exact t_X9_voice_17 X hR σ36 hf
    · replace hf := okf h38 hf
      refine r_iload_n X dX9_voice_8 2 rfl ?_
      refine r_iconst X dX9_voice_9 ci_0 ?_
      refine r_iconst X dX9_voice_10 ci_3 ?_
      refine r_callSi (rest := []) X (c_X9_in l G a2 (0 : Int32) (3 : Int32) σ36 (oks hf)) md_X9_in gX9_voice_X9_in (by decide) rfl rfl (Nat.le_of_ble_eq_true rfl) dX9_voice_11 (fun r42 σ43 e44 => ?_)
      replace hf := okn e44 hf
      refine r_if_ne (tgt := 24) X dX9_voice_14 (by decide) (fun h45 => ?_) (fun h45 => ?_)
      · replace hf := okf h45 hf
        refine r_aload_n X dX9_voice_24 0 rfl isr_ref ?_
        refine r_iconst X dX9_voice_25 ci_0 ?_
        obtain ⟨σ46, e47, hf⟩ := okl hf
        refine r_put (i := 129) (f := upd (σ43 129) 19 (0 : Int32)) X in_X9_voice_9 tyX9 tyX9_ok nmX9 rfl 19 (by decide) (kd_in kc_129 (by decide)) (EE_9 _ kc_129) (EU_9_19 _ _ kc_129) rfl (mem_ix 2 rfl) rfl rfl rfl rfl dX9_voice_26 ?_
        refine r_sg e47 ?_
        refine r_aload_n X dX9_voice_29 0 rfl isr_ref ?_
        refine r_iconst X dX9_voice_30 ci_0 ?_
        obtain ⟨σ48, e49, hf⟩ := okl hf
        refine r_put (i := 129) (f := upd (σ46 129) 20 (0 : Int32)) X in_X9_voice_9 tyX9 tyX9_ok nmX9 rfl 20 (by decide) (kd_in kc_129 (by decide)) (EE_9 _ kc_129) (EU_9_20 _ _ kc_129) rfl (mem_ix 3 rfl) rfl rfl rfl rfl dX9_voice_31 ?_
        refine r_sg e49 ?_
        refine r_iload_n X dX9_voice_34 2 rfl ?_
        refine r_if_ne (tgt := 47) X dX9_voice_35 (by decide) (fun h50 => ?_) (fun h50 => ?_)
        · replace hf := okf h50 hf
          refine r_iload_n X dX9_voice_47 2 rfl ?_
          refine r_iconst X dX9_voice_48 ci_1 ?_
          refine r_icmp_ne (tgt := 61) X dX9_voice_49 (by decide) (fun h51 => ?_) (fun h51 => ?_)
          · replace hf := okf h51 hf
            refine r_iload_n X dX9_voice_61 2 rfl ?_
            refine r_iconst X dX9_voice_62 ci_2 ?_
            refine r_icmp_ne (tgt := 75) X dX9_voice_63 (by decide) (fun h52 => ?_) (fun h52 => ?_)
            · replace hf := okf h52 hf
              refine r_aload_n X dX9_voice_75 0 rfl isr_ref ?_
              refine r_iload_n X dX9_voice_76 1 rfl ?_
              refine r_iload_n X dX9_voice_77 3 rfl ?_
              refine r_callVi (rest := []) X (c_X9_partsBy l G a1 a3 σ48 (oks hf)) md_X9_partsBy gX9_voice_X9_partsBy (by decide) rfl rfl (kd_in kc_129 (by decide)) (EE_9 _ kc_129) rfl rfl (Nat.le_of_ble_eq_true rfl) dX9_voice_78 (fun r53 σ54 e55 => ?_)
              replace hf := okn e55 hf
              refine r_sub [0] rfl ?_
              exact t_X9_voice_81 X hR r53 σ54 hf
            · replace hf := okt h52 hf
              refine r_aload_n X dX9_voice_66 0 rfl isr_ref ?_
              refine r_iload_n X dX9_voice_67 1 rfl ?_
              refine r_iload_n X dX9_voice_68 3 rfl ?_
              refine r_callVi (rest := []) X (c_X9_echoes l G a1 a3 σ48 (oks hf)) md_X9_echoes gX9_voice_X9_echoes (by decide) rfl rfl (kd_in kc_129 (by decide)) (EE_9 _ kc_129) rfl rfl (Nat.le_of_ble_eq_true rfl) dX9_voice_69 (fun r60 σ61 e62 => ?_)
              replace hf := okn e62 hf
              refine r_goto (tgt := 81) X dX9_voice_72 (by decide) ?_
              refine r_sub [0] rfl ?_
              exact t_X9_voice_81 X hR r60 σ61 hf
          · replace hf := okt h51 hf
            refine r_aload_n X dX9_voice_52 0 rfl isr_ref ?_
            refine r_iload_n X dX9_voice_53 1 rfl ?_
            refine r_iload_n X dX9_voice_54 3 rfl ?_
            refine r_callVi (rest := []) X (c_X9_nods l G a1 a3 σ48 (oks hf)) md_X9_nods gX9_voice_X9_nods (by decide) rfl rfl (kd_in kc_129 (by decide)) (EE_9 _ kc_129) rfl rfl (Nat.le_of_ble_eq_true rfl) dX9_voice_55 (fun r63 σ64 e65 => ?_)
            replace hf := okn e65 hf
            refine r_goto (tgt := 81) X dX9_voice_58 (by decide) ?_
            refine r_sub [0] rfl ?_
            exact t_X9_voice_81 X hR r63 σ64 hf
        · replace hf := okt h50 hf
          refine r_aload_n X dX9_voice_38 0 rfl isr_ref ?_
          refine r_iload_n X dX9_voice_39 1 rfl ?_
          refine r_iload_n X dX9_voice_40 3 rfl ?_
          refine r_callVi (rest := []) X (c_X9_asks l G a1 a3 σ48 (oks hf)) md_X9_asks gX9_voice_X9_asks (by decide) rfl rfl (kd_in kc_129 (by decide)) (EE_9 _ kc_129) rfl rfl (Nat.le_of_ble_eq_true rfl) dX9_voice_41 (fun r66 σ67 e68 => ?_)
          replace hf := okn e68 hf
          refine r_goto (tgt := 81) X dX9_voice_44 (by decide) ?_
          refine r_sub [0] rfl ?_
          exact t_X9_voice_81 X hR r66 σ67 hf
      · replace hf := okt h45 hf
        refine r_sub [0] rfl ?_
        exact t_X9_voice_17 X hR σ43 hf
theorem md_X9_voice : MD yX9_voice wsX9_voice cX9_voice 5 3 (some .int) := ⟨⟨_, rfl⟩, by decide +kernel, by decide +kernel, by decide⟩
theorem c_X9_voice (l : Launch) (G : GX)  (a1 : Int32) (a2 : Int32) (a3 : Int32) (σ : MM) (h : (f_X9_voice a1 a2 a3 σ).isSome = true) : CTi l G yX9_voice wsX9_voice 12 [.ref (G.1 129), .int a1, .int a2, .int a3] σ (f_X9_voice a1 a2 a3 σ) :=
  CTi_of md_X9_voice (Nat.le_of_ble_eq_true rfl) (fun K X hR => e_X9_voice X hR a1 a2 a3 σ (ok_is h))
-- X9_body
theorem in_X9_body_9 : ∀ w ∈ u_ws RX9 TX9 21, w ∈ wsX9_body := fun _ h => List.mem_cons_of_mem _ (List.mem_append_right _ h)
def f_X9_body (a1 : Int32) (σ : MM) : Option (Int32 × MM) :=
  bd (f_X9_in a1 (0 : Int32) ((σ 129 19) - (1 : Int32)) σ) (fun r9 σ10 => if r9 = 0 then bd (f_X9_error (-1000000002 : Int32) σ10) (fun r13 σ14 => some (r13, σ14)) else if a1 < 0 ∨ 30 ≤ a1.toNatClampNeg then none else some ((σ10 142 (a1.toNatClampNeg)), σ10))
set_option maxRecDepth 100000 in
set_option maxHeartbeats 4000000 in
theorem e_X9_body {l : Launch} {G : GX} {K : KX} (X : FX G K cX9_body RX9 (some .int) wsX9_body 2) {Φ : Int32 → MM → Prop} (hR : Ri G K Φ) (a1 : Int32) (σ : MM) (hf : Ok Φ (f_X9_body a1 σ)) : V l G 4 K 2 0 [(0, .ref (G.1 129)), (1, .int a1)] [] σ := by
    unfold f_X9_body at hf
    refine r_iload_n X dX9_body_0 1 rfl ?_
    refine r_iconst X dX9_body_1 ci_0 ?_
    refine r_aload_n X dX9_body_2 0 rfl isr_ref ?_
    refine r_get (i := 129) (v := .int (σ 129 19)) X in_X9_body_9 rfl 19 (by decide) (kd_in kc_129 (by decide)) (EE_9 _ kc_129) rfl (mem_ix 1 rfl) dX9_body_3 ?_
    refine r_iconst X dX9_body_6 ci_1 ?_
    refine r_isub X dX9_body_7 ?_
    refine r_callSi (rest := []) X (c_X9_in l G a1 (0 : Int32) ((σ 129 19) - (1 : Int32)) σ (oks hf)) md_X9_in gX9_body_X9_in (by decide) rfl rfl (Nat.le_of_ble_eq_true rfl) dX9_body_8 (fun r9 σ10 e11 => ?_)
    replace hf := okn e11 hf
    refine r_if_eq (tgt := 23) X dX9_body_11 (by decide) (fun h12 => ?_) (fun h12 => ?_)
    · replace hf := okt h12 hf
      refine r_aload_n X dX9_body_23 0 rfl isr_ref ?_
      refine r_ldc (v := (-1000000002 : Int32)) X (mem_ix 3 rfl) dX9_body_24 ?_
      refine r_callVi (rest := []) X (c_X9_error l G (-1000000002 : Int32) σ10 (oks hf)) md_X9_error gX9_body_X9_error (by decide) rfl rfl (kd_in kc_129 (by decide)) (EE_9 _ kc_129) rfl rfl (Nat.le_of_ble_eq_true rfl) dX9_body_26 (fun r13 σ14 e15 => ?_)
      replace hf := okn e15 hf
      exact r_iret X rfl hR (ok0 hf) dX9_body_29
    · replace hf := okf h12 hf
      refine r_aload_n X dX9_body_14 0 rfl isr_ref ?_
      refine r_get (i := 129) (v := .ref (G.1 142)) X in_X9_body_9 rfl 18 (by decide) (kd_in kc_129 (by decide)) (EE_9 _ kc_129) rfl (mem_ix 2 rfl) dX9_body_15 ?_
      refine r_iload_n X dX9_body_18 1 rfl ?_
      obtain ⟨g16, hf⟩ := okg hf
      refine r_iald (i := 142) (jn := a1.toNatClampNeg) X (kd_in kc_142 (by decide)) (EE_22 _ kc_142) rfl g16 dX9_body_19 ?_
      refine r_goto (tgt := 29) X dX9_body_20 (by decide) ?_
      exact r_iret X rfl hR (ok0 hf) dX9_body_29
theorem md_X9_body : MD yX9_body wsX9_body cX9_body 2 1 (some .int) := ⟨⟨_, rfl⟩, by decide +kernel, by decide +kernel, by decide⟩
theorem c_X9_body (l : Launch) (G : GX)  (a1 : Int32) (σ : MM) (h : (f_X9_body a1 σ).isSome = true) : CTi l G yX9_body wsX9_body 4 [.ref (G.1 129), .int a1] σ (f_X9_body a1 σ) :=
  CTi_of md_X9_body (Nat.le_of_ble_eq_true rfl) (fun K X hR => e_X9_body X hR a1 σ (ok_is h))
-- X9_sheet
theorem in_X9_sheet_9 : ∀ w ∈ u_ws RX9 TX9 21, w ∈ wsX9_sheet := fun _ h => List.mem_cons_of_mem _ (List.mem_append_right _ h)
def u_X9_sheet_29  (σ : MM) : Option (Int32 × MM) :=
  bd (f_X9_error (-1000000001 : Int32) σ) (fun r37 σ38 => some (r37, σ38))
def u_X9_sheet_93 (k93 : Int32 → Int32 → MM → Option (Int32 × MM)) (v1 : Int32) (v4 : Int32) (σ : MM) : Option (Int32 × MM) :=
  if (24 : Int32) ≤ v4 then some ((1 : Int32), σ) else if (((24 : Int32) * v1) + v4) < 0 ∨ 96 ≤ (((24 : Int32) * v1) + v4).toNatClampNeg then none else lt (mu σ 136 ((((24 : Int32) * v1) + v4).toNatClampNeg) (0 : Int32)) (fun σ52 => k93 v1 (v4 + (1 : Int32)) σ52)
def l_X9_sheet_93 (v1 : Int32) (v4 : Int32) (σ : MM) : Option (Int32 × MM) :=
  itr (fun _ _ _ => none) (u_X9_sheet_93) FU v1 v4 σ
def u_X9_sheet_89 (v1 : Int32) (vs0 : Int32) (vs1 : Int32) (σ : MM) : Option (Int32 × MM) :=
  if vs1 < 0 ∨ 4 ≤ vs1.toNatClampNeg then none else lt (mu σ 135 (vs1.toNatClampNeg) vs0) (fun σ48 => l_X9_sheet_93 v1 (0 : Int32) σ48)
def u_X9_sheet_68 (v1 : Int32) (v2 : Int32) (v3 : Int32) (σ : MM) : Option (Int32 × MM) :=
  if v1 < 0 ∨ 4 ≤ v1.toNatClampNeg then none else lt (mu σ 134 (v1.toNatClampNeg) v2) (fun σ44 => if v2 = 0 then u_X9_sheet_89 v1 (0 : Int32) v1 σ44 else u_X9_sheet_89 v1 v3 v1 σ44)
def u_X9_sheet_51 (v1 : Int32) (v2 : Int32) (v3 : Int32) (σ : MM) : Option (Int32 × MM) :=
  if v2 ≤ 0 then u_X9_sheet_68 v1 v2 v3 σ else if v3 ≤ (24 : Int32) then u_X9_sheet_68 v1 v2 v3 σ else bd (f_X9_error (-1000000001 : Int32) σ) (fun r55 σ56 => some (r55, σ56))
def u_X9_sheet_36 (v1 : Int32) (v2 : Int32) (v3 : Int32) (σ : MM) : Option (Int32 × MM) :=
  if v2 ≤ 0 then u_X9_sheet_51 v1 v2 v3 σ else if 0 ≤ v3 then u_X9_sheet_51 v1 v2 v3 σ else bd (f_X9_error (-1000000003 : Int32) σ) (fun r59 σ60 => some (r59, σ60))
def f_X9_sheet (a1 : Int32) (a2 : Int32) (a3 : Int32) (σ : MM) : Option (Int32 × MM) :=
  bd (f_X9_isSheet a1 σ) (fun r33 σ34 => if r33 = 0 then u_X9_sheet_29 σ34 else if a2 = 0 then u_X9_sheet_36 a1 a2 a3 σ34 else if a2 = (8 : Int32) then u_X9_sheet_36 a1 a2 a3 σ34 else if a2 = (16 : Int32) then u_X9_sheet_36 a1 a2 a3 σ34 else if a2 = (32 : Int32) then u_X9_sheet_36 a1 a2 a3 σ34 else u_X9_sheet_29 σ34)
set_option maxRecDepth 100000 in
set_option maxHeartbeats 4000000 in
theorem t_X9_sheet_29 {l : Launch} {G : GX} {K : KX} (X : FX G K cX9_sheet RX9 (some .int) wsX9_sheet 5) {Φ : Int32 → MM → Prop} (hR : Ri G K Φ)  (σ : MM) (hf : Ok Φ (u_X9_sheet_29  σ)) : V l G 5 K 5 29 [(0, .ref (G.1 129))] [] σ := by
    unfold u_X9_sheet_29 at hf
    refine r_aload_n X dX9_sheet_29 0 rfl isr_ref ?_
    refine r_ldc (v := (-1000000001 : Int32)) X (mem_ix 1 rfl) dX9_sheet_30 ?_
    refine r_callVi (rest := []) X (c_X9_error l G (-1000000001 : Int32) σ (oks hf)) md_X9_error gX9_sheet_X9_error (by decide) rfl rfl (kd_in kc_129 (by decide)) (EE_9 _ kc_129) rfl rfl (Nat.le_of_ble_eq_true rfl) dX9_sheet_32 (fun r37 σ38 e39 => ?_)
    replace hf := okn e39 hf
    exact r_iret X rfl hR (ok0 hf) dX9_sheet_35
set_option maxRecDepth 100000 in
set_option maxHeartbeats 4000000 in
theorem t_X9_sheet_93 {l : Launch} {G : GX} {K : KX} (X : FX G K cX9_sheet RX9 (some .int) wsX9_sheet 5) {Φ : Int32 → MM → Prop} (hR : Ri G K Φ) (k93 : Int32 → Int32 → MM → Option (Int32 × MM)) (hk93c : ∀ (v1 : Int32) (v4 : Int32) (σ : MM), Ok Φ (k93 v1 v4 σ) → V l G 5 K 5 93 [(0, .ref (G.1 129)), (1, .int v1), (4, .int v4)] [] σ) (v1 : Int32) (v4 : Int32) (σ : MM) (hf : Ok Φ (u_X9_sheet_93 k93 v1 v4 σ)) : V l G 5 K 5 93 [(0, .ref (G.1 129)), (1, .int v1), (4, .int v4)] [] σ := by
    unfold u_X9_sheet_93 at hf
    refine r_iload X dX9_sheet_93 2 rfl ?_
    refine r_bipush X dX9_sheet_95 cb_24 ?_
    refine r_icmp_ge (tgt := 119) X dX9_sheet_97 (by decide) (fun h50 => ?_) (fun h50 => ?_)
    · replace hf := okt h50 hf
      refine r_iconst X dX9_sheet_119 ci_1 ?_
      exact r_iret X rfl hR (ok0 hf) dX9_sheet_120
    · replace hf := okf h50 hf
      refine r_aload_n X dX9_sheet_100 0 rfl isr_ref ?_
      refine r_get (i := 129) (v := .ref (G.1 136)) X in_X9_sheet_9 rfl 7 (by decide) (kd_in kc_129 (by decide)) (EE_9 _ kc_129) rfl (mem_ix 5 rfl) dX9_sheet_101 ?_
      refine r_bipush X dX9_sheet_104 cb_24 ?_
      refine r_iload_n X dX9_sheet_106 1 rfl ?_
      refine r_imul X dX9_sheet_107 ?_
      refine r_iload X dX9_sheet_108 2 rfl ?_
      refine r_iadd X dX9_sheet_110 ?_
      refine r_iconst X dX9_sheet_111 ci_0 ?_
      obtain ⟨g51, hf⟩ := okg hf
      obtain ⟨σ52, e53, hf⟩ := okl hf
      refine r_iast (i := 136) (jn := (((24 : Int32) * v1) + v4).toNatClampNeg) X (kd_in kc_136 (by decide)) (fun _ => EE_28 _ kc_136) rfl g51 dX9_sheet_112 ?_
      refine r_sg e53 ?_
      refine r_iinc (v := (v4 + (1 : Int32))) X dX9_sheet_113 2 rfl (congrArg _ ci_1) (by decide) (lv' := [(4, .int (v4 + (1 : Int32))), (0, .ref (G.1 129)), (1, .int v1)]) rfl ?_
      refine r_goto (tgt := 93) X dX9_sheet_116 (by decide) ?_
      refine r_sub [1, 2, 0] rfl ?_
      exact hk93c v1 (v4 + (1 : Int32)) σ52 hf
theorem tl_X9_sheet_93 {l : Launch} {G : GX} {K : KX} (X : FX G K cX9_sheet RX9 (some .int) wsX9_sheet 5) {Φ : Int32 → MM → Prop} (hR : Ri G K Φ) : ∀ (m : Nat) (v1 : Int32) (v4 : Int32) (σ : MM), Ok Φ (itr (fun _ _ _ => none) (u_X9_sheet_93) m v1 v4 σ) → V l G 5 K 5 93 [(0, .ref (G.1 129)), (1, .int v1), (4, .int v4)] [] σ := by
  intro m
  induction m with
  | zero => intro v1 v4 σ hf; exact (okx hf).elim
  | succ m ih => intro v1 v4 σ hf; exact t_X9_sheet_93 X hR _ ih v1 v4 σ hf
set_option maxRecDepth 100000 in
set_option maxHeartbeats 4000000 in
theorem t_X9_sheet_89 {l : Launch} {G : GX} {K : KX} (X : FX G K cX9_sheet RX9 (some .int) wsX9_sheet 5) {Φ : Int32 → MM → Prop} (hR : Ri G K Φ) (v1 : Int32) (vs0 : Int32) (vs1 : Int32) (σ : MM) (hf : Ok Φ (u_X9_sheet_89 v1 vs0 vs1 σ)) : V l G 5 K 5 89 [(0, .ref (G.1 129)), (1, .int v1)] [.int vs0, .int vs1, .ref (G.1 135)] σ := by
    unfold u_X9_sheet_89 at hf
    obtain ⟨g47, hf⟩ := okg hf
    obtain ⟨σ48, e49, hf⟩ := okl hf
    refine r_iast (i := 135) (jn := vs1.toNatClampNeg) X (kd_in kc_135 (by decide)) (fun _ => EE_27 _ kc_135) rfl g47 dX9_sheet_89 ?_
    refine r_sg e49 ?_
    refine r_iconst X dX9_sheet_90 ci_0 ?_
    refine r_istore X dX9_sheet_91 (by decide) (lv' := [(4, .int (0 : Int32)), (0, .ref (G.1 129)), (1, .int v1)]) rfl ?_
    refine r_sub [1, 2, 0] rfl ?_
    exact tl_X9_sheet_93 X hR FU v1 (0 : Int32) σ48 hf
set_option maxRecDepth 100000 in
set_option maxHeartbeats 4000000 in
theorem t_X9_sheet_68 {l : Launch} {G : GX} {K : KX} (X : FX G K cX9_sheet RX9 (some .int) wsX9_sheet 5) {Φ : Int32 → MM → Prop} (hR : Ri G K Φ) (v1 : Int32) (v2 : Int32) (v3 : Int32) (σ : MM) (hf : Ok Φ (u_X9_sheet_68 v1 v2 v3 σ)) : V l G 5 K 5 68 [(0, .ref (G.1 129)), (1, .int v1), (2, .int v2), (3, .int v3)] [] σ := by
    unfold u_X9_sheet_68 at hf
    refine r_aload_n X dX9_sheet_68 0 rfl isr_ref ?_
    refine r_get (i := 129) (v := .ref (G.1 134)) X in_X9_sheet_9 rfl 5 (by decide) (kd_in kc_129 (by decide)) (EE_9 _ kc_129) rfl (mem_ix 3 rfl) dX9_sheet_69 ?_
    refine r_iload_n X dX9_sheet_72 1 rfl ?_
    refine r_iload_n X dX9_sheet_73 2 rfl ?_
    obtain ⟨g43, hf⟩ := okg hf
    obtain ⟨σ44, e45, hf⟩ := okl hf
    refine r_iast (i := 134) (jn := v1.toNatClampNeg) X (kd_in kc_134 (by decide)) (fun _ => EE_27 _ kc_134) rfl g43 dX9_sheet_74 ?_
    refine r_sg e45 ?_
    refine r_aload_n X dX9_sheet_75 0 rfl isr_ref ?_
    refine r_get (i := 129) (v := .ref (G.1 135)) X in_X9_sheet_9 rfl 6 (by decide) (kd_in kc_129 (by decide)) (EE_9 _ kc_129) rfl (mem_ix 4 rfl) dX9_sheet_76 ?_
    refine r_iload_n X dX9_sheet_79 1 rfl ?_
    refine r_iload_n X dX9_sheet_80 2 rfl ?_
    refine r_if_ne (tgt := 88) X dX9_sheet_81 (by decide) (fun h46 => ?_) (fun h46 => ?_)
    · replace hf := okf h46 hf
      refine r_iload_n X dX9_sheet_88 3 rfl ?_
      refine r_sub [0, 1] rfl ?_
      exact t_X9_sheet_89 X hR v1 v3 v1 σ44 hf
    · replace hf := okt h46 hf
      refine r_iconst X dX9_sheet_84 ci_0 ?_
      refine r_goto (tgt := 89) X dX9_sheet_85 (by decide) ?_
      refine r_sub [0, 1] rfl ?_
      exact t_X9_sheet_89 X hR v1 (0 : Int32) v1 σ44 hf
set_option maxRecDepth 100000 in
set_option maxHeartbeats 4000000 in
theorem t_X9_sheet_51 {l : Launch} {G : GX} {K : KX} (X : FX G K cX9_sheet RX9 (some .int) wsX9_sheet 5) {Φ : Int32 → MM → Prop} (hR : Ri G K Φ) (v1 : Int32) (v2 : Int32) (v3 : Int32) (σ : MM) (hf : Ok Φ (u_X9_sheet_51 v1 v2 v3 σ)) : V l G 5 K 5 51 [(0, .ref (G.1 129)), (1, .int v1), (2, .int v2), (3, .int v3)] [] σ := by
    unfold u_X9_sheet_51 at hf
    refine r_iload_n X dX9_sheet_51 2 rfl ?_
    refine r_if_le (tgt := 68) X dX9_sheet_52 (by decide) (fun h42 => ?_) (fun h42 => ?_)
    · replace hf := okt h42 hf
      exact t_X9_sheet_68 X hR v1 v2 v3 σ hf
    · replace hf := okf h42 hf
      refine r_iload_n X dX9_sheet_55 3 rfl ?_
      refine r_bipush X dX9_sheet_56 cb_24 ?_
      refine r_icmp_le (tgt := 68) X dX9_sheet_58 (by decide) (fun h54 => ?_) (fun h54 => ?_)
      · replace hf := okt h54 hf
        exact t_X9_sheet_68 X hR v1 v2 v3 σ hf
      · replace hf := okf h54 hf
        refine r_aload_n X dX9_sheet_61 0 rfl isr_ref ?_
        refine r_ldc (v := (-1000000001 : Int32)) X (mem_ix 1 rfl) dX9_sheet_62 ?_
        refine r_callVi (rest := []) X (c_X9_error l G (-1000000001 : Int32) σ (oks hf)) md_X9_error gX9_sheet_X9_error (by decide) rfl rfl (kd_in kc_129 (by decide)) (EE_9 _ kc_129) rfl rfl (Nat.le_of_ble_eq_true rfl) dX9_sheet_64 (fun r55 σ56 e57 => ?_)
        replace hf := okn e57 hf
        exact r_iret X rfl hR (ok0 hf) dX9_sheet_67
set_option maxRecDepth 100000 in
set_option maxHeartbeats 4000000 in
theorem t_X9_sheet_36 {l : Launch} {G : GX} {K : KX} (X : FX G K cX9_sheet RX9 (some .int) wsX9_sheet 5) {Φ : Int32 → MM → Prop} (hR : Ri G K Φ) (v1 : Int32) (v2 : Int32) (v3 : Int32) (σ : MM) (hf : Ok Φ (u_X9_sheet_36 v1 v2 v3 σ)) : V l G 5 K 5 36 [(0, .ref (G.1 129)), (1, .int v1), (2, .int v2), (3, .int v3)] [] σ := by
    unfold u_X9_sheet_36 at hf
    refine r_iload_n X dX9_sheet_36 2 rfl ?_
    refine r_if_le (tgt := 51) X dX9_sheet_37 (by decide) (fun h41 => ?_) (fun h41 => ?_)
    · replace hf := okt h41 hf
      exact t_X9_sheet_51 X hR v1 v2 v3 σ hf
    · replace hf := okf h41 hf
      refine r_iload_n X dX9_sheet_40 3 rfl ?_
      refine r_if_ge (tgt := 51) X dX9_sheet_41 (by decide) (fun h58 => ?_) (fun h58 => ?_)
      · replace hf := okt h58 hf
        exact t_X9_sheet_51 X hR v1 v2 v3 σ hf
      · replace hf := okf h58 hf
        refine r_aload_n X dX9_sheet_44 0 rfl isr_ref ?_
        refine r_ldc (v := (-1000000003 : Int32)) X (mem_ix 2 rfl) dX9_sheet_45 ?_
        refine r_callVi (rest := []) X (c_X9_error l G (-1000000003 : Int32) σ (oks hf)) md_X9_error gX9_sheet_X9_error (by decide) rfl rfl (kd_in kc_129 (by decide)) (EE_9 _ kc_129) rfl rfl (Nat.le_of_ble_eq_true rfl) dX9_sheet_47 (fun r59 σ60 e61 => ?_)
        replace hf := okn e61 hf
        exact r_iret X rfl hR (ok0 hf) dX9_sheet_50
set_option maxRecDepth 100000 in
set_option maxHeartbeats 4000000 in
theorem e_X9_sheet {l : Launch} {G : GX} {K : KX} (X : FX G K cX9_sheet RX9 (some .int) wsX9_sheet 5) {Φ : Int32 → MM → Prop} (hR : Ri G K Φ) (a1 : Int32) (a2 : Int32) (a3 : Int32) (σ : MM) (hf : Ok Φ (f_X9_sheet a1 a2 a3 σ)) : V l G 5 K 5 0 [(0, .ref (G.1 129)), (1, .int a1), (2, .int a2), (3, .int a3)] [] σ := by
    unfold f_X9_sheet at hf
    refine r_iload_n X dX9_sheet_0 1 rfl ?_
    refine r_callSi (rest := []) X (c_X9_isSheet l G a1 σ (oks hf)) md_X9_isSheet gX9_sheet_X9_isSheet (by decide) rfl rfl (Nat.le_of_ble_eq_true rfl) dX9_sheet_1 (fun r33 σ34 e35 => ?_)
    replace hf := okn e35 hf
    refine r_if_eq (tgt := 29) X dX9_sheet_4 (by decide) (fun h36 => ?_) (fun h36 => ?_)
    · replace hf := okt h36 hf
      refine r_sub [0] rfl ?_
      exact t_X9_sheet_29 X hR σ34 hf
    · replace hf := okf h36 hf
      refine r_iload_n X dX9_sheet_7 2 rfl ?_
      refine r_if_eq (tgt := 36) X dX9_sheet_8 (by decide) (fun h40 => ?_) (fun h40 => ?_)
      · replace hf := okt h40 hf
        exact t_X9_sheet_36 X hR a1 a2 a3 σ34 hf
      · replace hf := okf h40 hf
        refine r_iload_n X dX9_sheet_11 2 rfl ?_
        refine r_bipush X dX9_sheet_12 cb_8 ?_
        refine r_icmp_eq (tgt := 36) X dX9_sheet_14 (by decide) (fun h62 => ?_) (fun h62 => ?_)
        · replace hf := okt h62 hf
          exact t_X9_sheet_36 X hR a1 a2 a3 σ34 hf
        · replace hf := okf h62 hf
          refine r_iload_n X dX9_sheet_17 2 rfl ?_
          refine r_bipush X dX9_sheet_18 cb_16 ?_
          refine r_icmp_eq (tgt := 36) X dX9_sheet_20 (by decide) (fun h63 => ?_) (fun h63 => ?_)
          · replace hf := okt h63 hf
            exact t_X9_sheet_36 X hR a1 a2 a3 σ34 hf
          · replace hf := okf h63 hf
            refine r_iload_n X dX9_sheet_23 2 rfl ?_
            refine r_bipush X dX9_sheet_24 cb_32 ?_
            refine r_icmp_eq (tgt := 36) X dX9_sheet_26 (by decide) (fun h64 => ?_) (fun h64 => ?_)
            · replace hf := okt h64 hf
              exact t_X9_sheet_36 X hR a1 a2 a3 σ34 hf
            · replace hf := okf h64 hf
              refine r_sub [0] rfl ?_
              exact t_X9_sheet_29 X hR σ34 hf
theorem md_X9_sheet : MD yX9_sheet wsX9_sheet cX9_sheet 5 3 (some .int) := ⟨⟨_, rfl⟩, by decide +kernel, by decide +kernel, by decide⟩
theorem c_X9_sheet (l : Launch) (G : GX)  (a1 : Int32) (a2 : Int32) (a3 : Int32) (σ : MM) (h : (f_X9_sheet a1 a2 a3 σ).isSome = true) : CTi l G yX9_sheet wsX9_sheet 5 [.ref (G.1 129), .int a1, .int a2, .int a3] σ (f_X9_sheet a1 a2 a3 σ) :=
  CTi_of md_X9_sheet (Nat.le_of_ble_eq_true rfl) (fun K X hR => e_X9_sheet X hR a1 a2 a3 σ (ok_is h))
-- X9_notThere
theorem in_X9_notThere_9 : ∀ w ∈ u_ws RX9 TX9 21, w ∈ wsX9_notThere := fun _ h => List.mem_cons_of_mem _ (List.mem_append_right _ h)
def f_X9_notThere (a1 : Int32) (σ : MM) : Option (Int32 × MM) :=
  bd (f_X9_isSheet a1 σ) (fun r7 σ8 => if r7 = 0 then some ((-1000000001 : Int32), σ8) else if a1 < 0 ∨ 4 ≤ a1.toNatClampNeg then none else if (σ8 134 (a1.toNatClampNeg)) = 0 then some ((-1000000002 : Int32), σ8) else some ((0 : Int32), σ8))
set_option maxRecDepth 100000 in
set_option maxHeartbeats 4000000 in
theorem e_X9_notThere {l : Launch} {G : GX} {K : KX} (X : FX G K cX9_notThere RX9 (some .int) wsX9_notThere 2) {Φ : Int32 → MM → Prop} (hR : Ri G K Φ) (a1 : Int32) (σ : MM) (hf : Ok Φ (f_X9_notThere a1 σ)) : V l G 5 K 2 0 [(0, .ref (G.1 129)), (1, .int a1)] [] σ := by
    unfold f_X9_notThere at hf
    refine r_iload_n X dX9_notThere_0 1 rfl ?_
    refine r_callSi (rest := []) X (c_X9_isSheet l G a1 σ (oks hf)) md_X9_isSheet gX9_notThere_X9_isSheet (by decide) rfl rfl (Nat.le_of_ble_eq_true rfl) dX9_notThere_1 (fun r7 σ8 e9 => ?_)
    replace hf := okn e9 hf
    refine r_if_ne (tgt := 12) X dX9_notThere_4 (by decide) (fun h10 => ?_) (fun h10 => ?_)
    · replace hf := okf h10 hf
      refine r_aload_n X dX9_notThere_12 0 rfl isr_ref ?_
      refine r_get (i := 129) (v := .ref (G.1 134)) X in_X9_notThere_9 rfl 5 (by decide) (kd_in kc_129 (by decide)) (EE_9 _ kc_129) rfl (mem_ix 2 rfl) dX9_notThere_13 ?_
      refine r_iload_n X dX9_notThere_16 1 rfl ?_
      obtain ⟨g11, hf⟩ := okg hf
      refine r_iald (i := 134) (jn := a1.toNatClampNeg) X (kd_in kc_134 (by decide)) (EE_27 _ kc_134) rfl g11 dX9_notThere_17 ?_
      refine r_if_ne (tgt := 26) X dX9_notThere_18 (by decide) (fun h12 => ?_) (fun h12 => ?_)
      · replace hf := okf h12 hf
        refine r_iconst X dX9_notThere_26 ci_0 ?_
        exact r_iret X rfl hR (ok0 hf) dX9_notThere_27
      · replace hf := okt h12 hf
        refine r_ldc (v := (-1000000002 : Int32)) X (mem_ix 3 rfl) dX9_notThere_21 ?_
        refine r_goto (tgt := 27) X dX9_notThere_23 (by decide) ?_
        exact r_iret X rfl hR (ok0 hf) dX9_notThere_27
    · replace hf := okt h10 hf
      refine r_ldc (v := (-1000000001 : Int32)) X (mem_ix 1 rfl) dX9_notThere_7 ?_
      refine r_goto (tgt := 27) X dX9_notThere_9 (by decide) ?_
      exact r_iret X rfl hR (ok0 hf) dX9_notThere_27
theorem md_X9_notThere : MD yX9_notThere wsX9_notThere cX9_notThere 2 1 (some .int) := ⟨⟨_, rfl⟩, by decide +kernel, by decide +kernel, by decide⟩
theorem c_X9_notThere (l : Launch) (G : GX)  (a1 : Int32) (σ : MM) (h : (f_X9_notThere a1 σ).isSome = true) : CTi l G yX9_notThere wsX9_notThere 5 [.ref (G.1 129), .int a1] σ (f_X9_notThere a1 σ) :=
  CTi_of md_X9_notThere (Nat.le_of_ble_eq_true rfl) (fun K X hR => e_X9_notThere X hR a1 σ (ok_is h))
-- X9_put
theorem in_X9_put_9 : ∀ w ∈ u_ws RX9 TX9 21, w ∈ wsX9_put := fun _ h => List.mem_cons_of_mem _ (List.mem_append_right _ h)
def u_X9_put_92 (vs0 : Int32) (vs1 : Int32) (σ : MM) : Option (Int32 × MM) :=
  if vs1 < 0 ∨ 96 ≤ vs1.toNatClampNeg then none else lt (mu σ 136 (vs1.toNatClampNeg) vs0) (fun σ29 => some ((1 : Int32), σ29))
def u_X9_put_35 (v1 : Int32) (v2 : Int32) (v3 : Int32) (vs0 : Int32) (σ : MM) : Option (Int32 × MM) :=
  if vs0 = 0 then if v1 < 0 ∨ 4 ≤ v1.toNatClampNeg then none else if (σ 134 (v1.toNatClampNeg)) = (8 : Int32) then u_X9_put_92 (v3.toInt8.toInt32) (((24 : Int32) * v1) + v2) σ else if (σ 134 (v1.toNatClampNeg)) = (16 : Int32) then u_X9_put_92 (v3.toInt16.toInt32) (((24 : Int32) * v1) + v2) σ else u_X9_put_92 v3 (((24 : Int32) * v1) + v2) σ else bd (f_X9_error vs0 σ) (fun r31 σ32 => some (r31, σ32))
def f_X9_put (a1 : Int32) (a2 : Int32) (a3 : Int32) (σ : MM) : Option (Int32 × MM) :=
  bd (f_X9_notThere a1 σ) (fun r20 σ21 => if r20 = 0 then if a1 < 0 ∨ 4 ≤ a1.toNatClampNeg then none else bd (f_X9_in a2 (0 : Int32) ((σ21 135 (a1.toNatClampNeg)) - (1 : Int32)) σ21) (fun r35 σ36 => if r35 = 0 then u_X9_put_35 a1 a2 a3 (-1000000001 : Int32) σ36 else u_X9_put_35 a1 a2 a3 r20 σ36) else u_X9_put_35 a1 a2 a3 r20 σ21)
set_option maxRecDepth 100000 in
set_option maxHeartbeats 4000000 in
theorem t_X9_put_92 {l : Launch} {G : GX} {K : KX} (X : FX G K cX9_put RX9 (some .int) wsX9_put 5) {Φ : Int32 → MM → Prop} (hR : Ri G K Φ) (vs0 : Int32) (vs1 : Int32) (σ : MM) (hf : Ok Φ (u_X9_put_92 vs0 vs1 σ)) : V l G 6 K 5 92 [] [.int vs0, .int vs1, .ref (G.1 136)] σ := by
    unfold u_X9_put_92 at hf
    obtain ⟨g28, hf⟩ := okg hf
    obtain ⟨σ29, e30, hf⟩ := okl hf
    refine r_iast (i := 136) (jn := vs1.toNatClampNeg) X (kd_in kc_136 (by decide)) (fun _ => EE_28 _ kc_136) rfl g28 dX9_put_92 ?_
    refine r_sg e30 ?_
    refine r_iconst X dX9_put_93 ci_1 ?_
    exact r_iret X rfl hR (ok0 hf) dX9_put_94
set_option maxRecDepth 100000 in
set_option maxHeartbeats 4000000 in
theorem t_X9_put_35 {l : Launch} {G : GX} {K : KX} (X : FX G K cX9_put RX9 (some .int) wsX9_put 5) {Φ : Int32 → MM → Prop} (hR : Ri G K Φ) (v1 : Int32) (v2 : Int32) (v3 : Int32) (vs0 : Int32) (σ : MM) (hf : Ok Φ (u_X9_put_35 v1 v2 v3 vs0 σ)) : V l G 6 K 5 35 [(0, .ref (G.1 129)), (1, .int v1), (2, .int v2), (3, .int v3)] [.int vs0] σ := by
    unfold u_X9_put_35 at hf
    refine r_istore X dX9_put_35 (by decide) (lv' := [(4, .int vs0), (0, .ref (G.1 129)), (1, .int v1), (2, .int v2), (3, .int v3)]) rfl ?_
    refine r_iload X dX9_put_37 0 rfl ?_
    refine r_if_eq (tgt := 49) X dX9_put_39 (by decide) (fun h24 => ?_) (fun h24 => ?_)
    · replace hf := okt h24 hf
      refine r_aload_n X dX9_put_49 1 rfl isr_ref ?_
      refine r_get (i := 129) (v := .ref (G.1 136)) X in_X9_put_9 rfl 7 (by decide) (kd_in kc_129 (by decide)) (EE_9 _ kc_129) rfl (mem_ix 3 rfl) dX9_put_50 ?_
      refine r_bipush X dX9_put_53 cb_24 ?_
      refine r_iload_n X dX9_put_55 2 rfl ?_
      refine r_imul X dX9_put_56 ?_
      refine r_iload_n X dX9_put_57 3 rfl ?_
      refine r_iadd X dX9_put_58 ?_
      refine r_aload_n X dX9_put_59 1 rfl isr_ref ?_
      refine r_get (i := 129) (v := .ref (G.1 134)) X in_X9_put_9 rfl 5 (by decide) (kd_in kc_129 (by decide)) (EE_9 _ kc_129) rfl (mem_ix 4 rfl) dX9_put_60 ?_
      refine r_iload_n X dX9_put_63 2 rfl ?_
      obtain ⟨g25, hf⟩ := okg hf
      refine r_iald (i := 134) (jn := v1.toNatClampNeg) X (kd_in kc_134 (by decide)) (EE_27 _ kc_134) rfl g25 dX9_put_64 ?_
      refine r_bipush X dX9_put_65 cb_8 ?_
      refine r_icmp_ne (tgt := 75) X dX9_put_67 (by decide) (fun h26 => ?_) (fun h26 => ?_)
      · replace hf := okf h26 hf
        refine r_aload_n X dX9_put_75 1 rfl isr_ref ?_
        refine r_get (i := 129) (v := .ref (G.1 134)) X in_X9_put_9 rfl 5 (by decide) (kd_in kc_129 (by decide)) (EE_9 _ kc_129) rfl (mem_ix 4 rfl) dX9_put_76 ?_
        refine r_iload_n X dX9_put_79 2 rfl ?_
        refine r_iald (i := 134) (jn := v1.toNatClampNeg) X (kd_in kc_134 (by decide)) (EE_27 _ kc_134) rfl g25 dX9_put_80 ?_
        refine r_bipush X dX9_put_81 cb_16 ?_
        refine r_icmp_ne (tgt := 91) X dX9_put_83 (by decide) (fun h27 => ?_) (fun h27 => ?_)
        · replace hf := okf h27 hf
          refine r_iload_n X dX9_put_91 4 rfl ?_
          refine r_sub [] rfl ?_
          exact t_X9_put_92 X hR v3 (((24 : Int32) * v1) + v2) σ hf
        · replace hf := okt h27 hf
          refine r_iload_n X dX9_put_86 4 rfl ?_
          refine r_i2s X dX9_put_87 ?_
          refine r_goto (tgt := 92) X dX9_put_88 (by decide) ?_
          refine r_sub [] rfl ?_
          exact t_X9_put_92 X hR (v3.toInt16.toInt32) (((24 : Int32) * v1) + v2) σ hf
      · replace hf := okt h26 hf
        refine r_iload_n X dX9_put_70 4 rfl ?_
        refine r_i2b X dX9_put_71 ?_
        refine r_goto (tgt := 92) X dX9_put_72 (by decide) ?_
        refine r_sub [] rfl ?_
        exact t_X9_put_92 X hR (v3.toInt8.toInt32) (((24 : Int32) * v1) + v2) σ hf
    · replace hf := okf h24 hf
      refine r_aload_n X dX9_put_42 1 rfl isr_ref ?_
      refine r_iload X dX9_put_43 0 rfl ?_
      refine r_callVi (rest := []) X (c_X9_error l G vs0 σ (oks hf)) md_X9_error gX9_put_X9_error (by decide) rfl rfl (kd_in kc_129 (by decide)) (EE_9 _ kc_129) rfl rfl (Nat.le_of_ble_eq_true rfl) dX9_put_45 (fun r31 σ32 e33 => ?_)
      replace hf := okn e33 hf
      exact r_iret X rfl hR (ok0 hf) dX9_put_48
set_option maxRecDepth 100000 in
set_option maxHeartbeats 4000000 in
theorem e_X9_put {l : Launch} {G : GX} {K : KX} (X : FX G K cX9_put RX9 (some .int) wsX9_put 5) {Φ : Int32 → MM → Prop} (hR : Ri G K Φ) (a1 : Int32) (a2 : Int32) (a3 : Int32) (σ : MM) (hf : Ok Φ (f_X9_put a1 a2 a3 σ)) : V l G 6 K 5 0 [(0, .ref (G.1 129)), (1, .int a1), (2, .int a2), (3, .int a3)] [] σ := by
    unfold f_X9_put at hf
    refine r_aload_n X dX9_put_0 0 rfl isr_ref ?_
    refine r_iload_n X dX9_put_1 1 rfl ?_
    refine r_callVi (rest := []) X (c_X9_notThere l G a1 σ (oks hf)) md_X9_notThere gX9_put_X9_notThere (by decide) rfl rfl (kd_in kc_129 (by decide)) (EE_9 _ kc_129) rfl rfl (Nat.le_of_ble_eq_true rfl) dX9_put_2 (fun r20 σ21 e22 => ?_)
    replace hf := okn e22 hf
    refine r_istore X dX9_put_5 (by decide) (lv' := [(4, .int r20), (0, .ref (G.1 129)), (1, .int a1), (2, .int a2), (3, .int a3)]) rfl ?_
    refine r_iload X dX9_put_7 0 rfl ?_
    refine r_if_ne (tgt := 33) X dX9_put_9 (by decide) (fun h23 => ?_) (fun h23 => ?_)
    · replace hf := okf h23 hf
      refine r_iload X dX9_put_33 0 rfl ?_
      refine r_sub [1, 2, 3, 4] rfl ?_
      exact t_X9_put_35 X hR a1 a2 a3 r20 σ21 hf
    · replace hf := okt h23 hf
      refine r_iload_n X dX9_put_12 3 rfl ?_
      refine r_iconst X dX9_put_13 ci_0 ?_
      refine r_aload_n X dX9_put_14 1 rfl isr_ref ?_
      refine r_get (i := 129) (v := .ref (G.1 135)) X in_X9_put_9 rfl 6 (by decide) (kd_in kc_129 (by decide)) (EE_9 _ kc_129) rfl (mem_ix 1 rfl) dX9_put_15 ?_
      refine r_iload_n X dX9_put_18 2 rfl ?_
      obtain ⟨g34, hf⟩ := okg hf
      refine r_iald (i := 135) (jn := a1.toNatClampNeg) X (kd_in kc_135 (by decide)) (EE_27 _ kc_135) rfl g34 dX9_put_19 ?_
      refine r_iconst X dX9_put_20 ci_1 ?_
      refine r_isub X dX9_put_21 ?_
      refine r_callSi (rest := []) X (c_X9_in l G a2 (0 : Int32) ((σ21 135 (a1.toNatClampNeg)) - (1 : Int32)) σ21 (oks hf)) md_X9_in gX9_put_X9_in (by decide) rfl rfl (Nat.le_of_ble_eq_true rfl) dX9_put_22 (fun r35 σ36 e37 => ?_)
      replace hf := okn e37 hf
      refine r_if_ne (tgt := 33) X dX9_put_25 (by decide) (fun h38 => ?_) (fun h38 => ?_)
      · replace hf := okf h38 hf
        refine r_iload X dX9_put_33 0 rfl ?_
        refine r_sub [1, 2, 3, 4] rfl ?_
        exact t_X9_put_35 X hR a1 a2 a3 r20 σ36 hf
      · replace hf := okt h38 hf
        refine r_ldc (v := (-1000000001 : Int32)) X (mem_ix 2 rfl) dX9_put_28 ?_
        refine r_goto (tgt := 35) X dX9_put_30 (by decide) ?_
        refine r_sub [1, 2, 3, 4] rfl ?_
        exact t_X9_put_35 X hR a1 a2 a3 (-1000000001 : Int32) σ36 hf
theorem md_X9_put : MD yX9_put wsX9_put cX9_put 5 3 (some .int) := ⟨⟨_, rfl⟩, by decide +kernel, by decide +kernel, by decide⟩
theorem c_X9_put (l : Launch) (G : GX)  (a1 : Int32) (a2 : Int32) (a3 : Int32) (σ : MM) (h : (f_X9_put a1 a2 a3 σ).isSome = true) : CTi l G yX9_put wsX9_put 6 [.ref (G.1 129), .int a1, .int a2, .int a3] σ (f_X9_put a1 a2 a3 σ) :=
  CTi_of md_X9_put (Nat.le_of_ble_eq_true rfl) (fun K X hR => e_X9_put X hR a1 a2 a3 σ (ok_is h))
-- X9_notMoved
theorem in_X9_notMoved_9 : ∀ w ∈ u_ws RX9 TX9 21, w ∈ wsX9_notMoved := fun _ h => List.mem_cons_of_mem _ (List.mem_append_right _ h)
def u_X9_notMoved_102 (vs0 : Int32) (σ : MM) : Option (Int32 × MM) :=
  if vs0 = 0 then some ((-1000000001 : Int32), σ) else some ((0 : Int32), σ)
def f_X9_notMoved (a1 : Int32) (a2 : Int32) (a3 : Int32) (a4 : Int32) (a5 : Int32) (σ : MM) : Option (Int32 × MM) :=
  bd (f_X9_isSheet a1 σ) (fun r20 σ21 => if r20 = 0 then some ((-1000000001 : Int32), σ21) else bd (f_X9_isSheet a3 σ21) (fun r24 σ25 => if r24 = 0 then some ((-1000000001 : Int32), σ25) else if a1 < 0 ∨ 4 ≤ a1.toNatClampNeg then none else if (σ25 134 (a1.toNatClampNeg)) = 0 then some ((-1000000002 : Int32), σ25) else if a3 < 0 ∨ 4 ≤ a3.toNatClampNeg then none else if (σ25 134 (a3.toNatClampNeg)) = 0 then some ((-1000000002 : Int32), σ25) else if (σ25 134 (a1.toNatClampNeg)) = (σ25 134 (a3.toNatClampNeg)) then if a5 < 0 then u_X9_notMoved_102 (0 : Int32) σ25 else if a2 < 0 then u_X9_notMoved_102 (0 : Int32) σ25 else if a4 < 0 then u_X9_notMoved_102 (0 : Int32) σ25 else if ((σ25 135 (a1.toNatClampNeg)) - a2) < a5 then u_X9_notMoved_102 (0 : Int32) σ25 else if ((σ25 135 (a3.toNatClampNeg)) - a4) < a5 then u_X9_notMoved_102 (0 : Int32) σ25 else u_X9_notMoved_102 (1 : Int32) σ25 else some ((-1000000005 : Int32), σ25)))
set_option maxRecDepth 100000 in
set_option maxHeartbeats 4000000 in
theorem t_X9_notMoved_102 {l : Launch} {G : GX} {K : KX} (X : FX G K cX9_notMoved RX9 (some .int) wsX9_notMoved 7) {Φ : Int32 → MM → Prop} (hR : Ri G K Φ) (vs0 : Int32) (σ : MM) (hf : Ok Φ (u_X9_notMoved_102 vs0 σ)) : V l G 5 K 7 102 [] [.int vs0] σ := by
    unfold u_X9_notMoved_102 at hf
    refine r_istore X dX9_notMoved_102 (by decide) (lv' := [(6, .int vs0)]) rfl ?_
    refine r_iload X dX9_notMoved_104 0 rfl ?_
    refine r_if_eq (tgt := 113) X dX9_notMoved_106 (by decide) (fun h34 => ?_) (fun h34 => ?_)
    · replace hf := okt h34 hf
      refine r_ldc (v := (-1000000001 : Int32)) X (mem_ix 1 rfl) dX9_notMoved_113 ?_
      exact r_iret X rfl hR (ok0 hf) dX9_notMoved_115
    · replace hf := okf h34 hf
      refine r_iconst X dX9_notMoved_109 ci_0 ?_
      refine r_goto (tgt := 115) X dX9_notMoved_110 (by decide) ?_
      exact r_iret X rfl hR (ok0 hf) dX9_notMoved_115
set_option maxRecDepth 100000 in
set_option maxHeartbeats 4000000 in
theorem e_X9_notMoved {l : Launch} {G : GX} {K : KX} (X : FX G K cX9_notMoved RX9 (some .int) wsX9_notMoved 7) {Φ : Int32 → MM → Prop} (hR : Ri G K Φ) (a1 : Int32) (a2 : Int32) (a3 : Int32) (a4 : Int32) (a5 : Int32) (σ : MM) (hf : Ok Φ (f_X9_notMoved a1 a2 a3 a4 a5 σ)) : V l G 5 K 7 0 [(0, .ref (G.1 129)), (1, .int a1), (2, .int a2), (3, .int a3), (4, .int a4), (5, .int a5)] [] σ := by
    unfold f_X9_notMoved at hf
    refine r_iload_n X dX9_notMoved_0 1 rfl ?_
    refine r_callSi (rest := []) X (c_X9_isSheet l G a1 σ (oks hf)) md_X9_isSheet gX9_notMoved_X9_isSheet (by decide) rfl rfl (Nat.le_of_ble_eq_true rfl) dX9_notMoved_1 (fun r20 σ21 e22 => ?_)
    replace hf := okn e22 hf
    refine r_if_eq (tgt := 14) X dX9_notMoved_4 (by decide) (fun h23 => ?_) (fun h23 => ?_)
    · replace hf := okt h23 hf
      refine r_ldc (v := (-1000000001 : Int32)) X (mem_ix 1 rfl) dX9_notMoved_14 ?_
      exact r_iret X rfl hR (ok0 hf) dX9_notMoved_16
    · replace hf := okf h23 hf
      refine r_iload_n X dX9_notMoved_7 3 rfl ?_
      refine r_callSi (rest := []) X (c_X9_isSheet l G a3 σ21 (oks hf)) md_X9_isSheet gX9_notMoved_X9_isSheet (by decide) rfl rfl (Nat.le_of_ble_eq_true rfl) dX9_notMoved_8 (fun r24 σ25 e26 => ?_)
      replace hf := okn e26 hf
      refine r_if_ne (tgt := 17) X dX9_notMoved_11 (by decide) (fun h27 => ?_) (fun h27 => ?_)
      · replace hf := okf h27 hf
        refine r_aload_n X dX9_notMoved_17 0 rfl isr_ref ?_
        refine r_get (i := 129) (v := .ref (G.1 134)) X in_X9_notMoved_9 rfl 5 (by decide) (kd_in kc_129 (by decide)) (EE_9 _ kc_129) rfl (mem_ix 2 rfl) dX9_notMoved_18 ?_
        refine r_iload_n X dX9_notMoved_21 1 rfl ?_
        obtain ⟨g28, hf⟩ := okg hf
        refine r_iald (i := 134) (jn := a1.toNatClampNeg) X (kd_in kc_134 (by decide)) (EE_27 _ kc_134) rfl g28 dX9_notMoved_22 ?_
        refine r_if_eq (tgt := 35) X dX9_notMoved_23 (by decide) (fun h29 => ?_) (fun h29 => ?_)
        · replace hf := okt h29 hf
          refine r_ldc (v := (-1000000002 : Int32)) X (mem_ix 3 rfl) dX9_notMoved_35 ?_
          exact r_iret X rfl hR (ok0 hf) dX9_notMoved_37
        · replace hf := okf h29 hf
          refine r_aload_n X dX9_notMoved_26 0 rfl isr_ref ?_
          refine r_get (i := 129) (v := .ref (G.1 134)) X in_X9_notMoved_9 rfl 5 (by decide) (kd_in kc_129 (by decide)) (EE_9 _ kc_129) rfl (mem_ix 2 rfl) dX9_notMoved_27 ?_
          refine r_iload_n X dX9_notMoved_30 3 rfl ?_
          obtain ⟨g30, hf⟩ := okg hf
          refine r_iald (i := 134) (jn := a3.toNatClampNeg) X (kd_in kc_134 (by decide)) (EE_27 _ kc_134) rfl g30 dX9_notMoved_31 ?_
          refine r_if_ne (tgt := 38) X dX9_notMoved_32 (by decide) (fun h31 => ?_) (fun h31 => ?_)
          · replace hf := okf h31 hf
            refine r_aload_n X dX9_notMoved_38 0 rfl isr_ref ?_
            refine r_get (i := 129) (v := .ref (G.1 134)) X in_X9_notMoved_9 rfl 5 (by decide) (kd_in kc_129 (by decide)) (EE_9 _ kc_129) rfl (mem_ix 2 rfl) dX9_notMoved_39 ?_
            refine r_iload_n X dX9_notMoved_42 1 rfl ?_
            refine r_iald (i := 134) (jn := a1.toNatClampNeg) X (kd_in kc_134 (by decide)) (EE_27 _ kc_134) rfl g28 dX9_notMoved_43 ?_
            refine r_aload_n X dX9_notMoved_44 0 rfl isr_ref ?_
            refine r_get (i := 129) (v := .ref (G.1 134)) X in_X9_notMoved_9 rfl 5 (by decide) (kd_in kc_129 (by decide)) (EE_9 _ kc_129) rfl (mem_ix 2 rfl) dX9_notMoved_45 ?_
            refine r_iload_n X dX9_notMoved_48 3 rfl ?_
            refine r_iald (i := 134) (jn := a3.toNatClampNeg) X (kd_in kc_134 (by decide)) (EE_27 _ kc_134) rfl g30 dX9_notMoved_49 ?_
            refine r_icmp_eq (tgt := 56) X dX9_notMoved_50 (by decide) (fun h32 => ?_) (fun h32 => ?_)
            · replace hf := okt h32 hf
              refine r_iload X dX9_notMoved_56 5 rfl ?_
              refine r_if_lt (tgt := 101) X dX9_notMoved_58 (by decide) (fun h33 => ?_) (fun h33 => ?_)
              · replace hf := okt h33 hf
                refine r_iconst X dX9_notMoved_101 ci_0 ?_
                refine r_sub [] rfl ?_
                exact t_X9_notMoved_102 X hR (0 : Int32) σ25 hf
              · replace hf := okf h33 hf
                refine r_iload_n X dX9_notMoved_61 2 rfl ?_
                refine r_if_lt (tgt := 101) X dX9_notMoved_62 (by decide) (fun h35 => ?_) (fun h35 => ?_)
                · replace hf := okt h35 hf
                  refine r_iconst X dX9_notMoved_101 ci_0 ?_
                  refine r_sub [] rfl ?_
                  exact t_X9_notMoved_102 X hR (0 : Int32) σ25 hf
                · replace hf := okf h35 hf
                  refine r_iload X dX9_notMoved_65 4 rfl ?_
                  refine r_if_lt (tgt := 101) X dX9_notMoved_67 (by decide) (fun h36 => ?_) (fun h36 => ?_)
                  · replace hf := okt h36 hf
                    refine r_iconst X dX9_notMoved_101 ci_0 ?_
                    refine r_sub [] rfl ?_
                    exact t_X9_notMoved_102 X hR (0 : Int32) σ25 hf
                  · replace hf := okf h36 hf
                    refine r_iload X dX9_notMoved_70 5 rfl ?_
                    refine r_aload_n X dX9_notMoved_72 0 rfl isr_ref ?_
                    refine r_get (i := 129) (v := .ref (G.1 135)) X in_X9_notMoved_9 rfl 6 (by decide) (kd_in kc_129 (by decide)) (EE_9 _ kc_129) rfl (mem_ix 5 rfl) dX9_notMoved_73 ?_
                    refine r_iload_n X dX9_notMoved_76 1 rfl ?_
                    refine r_iald (i := 135) (jn := a1.toNatClampNeg) X (kd_in kc_135 (by decide)) (EE_27 _ kc_135) rfl g28 dX9_notMoved_77 ?_
                    refine r_iload_n X dX9_notMoved_78 2 rfl ?_
                    refine r_isub X dX9_notMoved_79 ?_
                    refine r_icmp_gt (tgt := 101) X dX9_notMoved_80 (by decide) (fun h37 => ?_) (fun h37 => ?_)
                    · replace hf := okt h37 hf
                      refine r_iconst X dX9_notMoved_101 ci_0 ?_
                      refine r_sub [] rfl ?_
                      exact t_X9_notMoved_102 X hR (0 : Int32) σ25 hf
                    · replace hf := okf h37 hf
                      refine r_iload X dX9_notMoved_83 5 rfl ?_
                      refine r_aload_n X dX9_notMoved_85 0 rfl isr_ref ?_
                      refine r_get (i := 129) (v := .ref (G.1 135)) X in_X9_notMoved_9 rfl 6 (by decide) (kd_in kc_129 (by decide)) (EE_9 _ kc_129) rfl (mem_ix 5 rfl) dX9_notMoved_86 ?_
                      refine r_iload_n X dX9_notMoved_89 3 rfl ?_
                      refine r_iald (i := 135) (jn := a3.toNatClampNeg) X (kd_in kc_135 (by decide)) (EE_27 _ kc_135) rfl g30 dX9_notMoved_90 ?_
                      refine r_iload X dX9_notMoved_91 4 rfl ?_
                      refine r_isub X dX9_notMoved_93 ?_
                      refine r_icmp_gt (tgt := 101) X dX9_notMoved_94 (by decide) (fun h38 => ?_) (fun h38 => ?_)
                      · replace hf := okt h38 hf
                        refine r_iconst X dX9_notMoved_101 ci_0 ?_
                        refine r_sub [] rfl ?_
                        exact t_X9_notMoved_102 X hR (0 : Int32) σ25 hf
                      · replace hf := okf h38 hf
                        refine r_iconst X dX9_notMoved_97 ci_1 ?_
                        refine r_goto (tgt := 102) X dX9_notMoved_98 (by decide) ?_
                        refine r_sub [] rfl ?_
                        exact t_X9_notMoved_102 X hR (1 : Int32) σ25 hf
            · replace hf := okf h32 hf
              refine r_ldc (v := (-1000000005 : Int32)) X (mem_ix 4 rfl) dX9_notMoved_53 ?_
              exact r_iret X rfl hR (ok0 hf) dX9_notMoved_55
          · replace hf := okt h31 hf
            refine r_ldc (v := (-1000000002 : Int32)) X (mem_ix 3 rfl) dX9_notMoved_35 ?_
            exact r_iret X rfl hR (ok0 hf) dX9_notMoved_37
      · replace hf := okt h27 hf
        refine r_ldc (v := (-1000000001 : Int32)) X (mem_ix 1 rfl) dX9_notMoved_14 ?_
        exact r_iret X rfl hR (ok0 hf) dX9_notMoved_16
theorem md_X9_notMoved : MD yX9_notMoved wsX9_notMoved cX9_notMoved 7 5 (some .int) := ⟨⟨_, rfl⟩, by decide +kernel, by decide +kernel, by decide⟩
theorem c_X9_notMoved (l : Launch) (G : GX)  (a1 : Int32) (a2 : Int32) (a3 : Int32) (a4 : Int32) (a5 : Int32) (σ : MM) (h : (f_X9_notMoved a1 a2 a3 a4 a5 σ).isSome = true) : CTi l G yX9_notMoved wsX9_notMoved 5 [.ref (G.1 129), .int a1, .int a2, .int a3, .int a4, .int a5] σ (f_X9_notMoved a1 a2 a3 a4 a5 σ) :=
  CTi_of md_X9_notMoved (Nat.le_of_ble_eq_true rfl) (fun K X hR => e_X9_notMoved X hR a1 a2 a3 a4 a5 σ (ok_is h))

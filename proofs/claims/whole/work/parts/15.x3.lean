-- X5_isMissing
theorem in_X5_isMissing_5 : ∀ w ∈ u_ws RX5 TX5 3, w ∈ wsX5_isMissing := fun _ h => List.mem_cons_of_mem _ (List.mem_append_right _ h)
def f_X5_isMissing (t0 : Nat) (σ : MM) : Option (Int32 × MM) :=
  if (σ t0 1) = 0 then some ((1 : Int32), σ) else some ((0 : Int32), σ)
set_option maxRecDepth 100000 in
set_option maxHeartbeats 4000000 in
theorem e_X5_isMissing {l : Launch} {G : GX} {K : KX} (X : FX G K cX5_isMissing RX5 (some .boolean) wsX5_isMissing 1) {Φ : Int32 → MM → Prop} (hR : Ri G K Φ) (t0 : Nat) (hk0 : kd t0 = 5) (σ : MM) (hf : Ok Φ (f_X5_isMissing t0 σ)) : V l G 3 K 1 0 [(0, .ref (G.1 t0))] [] σ := by
    unfold f_X5_isMissing at hf
    refine r_aload_n X dX5_isMissing_0 0 rfl isr_ref ?_
    refine r_get (i := t0) (v := .int (σ t0 1)) X in_X5_isMissing_5 rfl 1 (by decide) (kd_in hk0 (by decide)) (EE_5 _ hk0) rfl (mem_ix 1 rfl) dX5_isMissing_1 ?_
    refine r_if_ne (tgt := 11) X dX5_isMissing_4 (by decide) (fun h2 => ?_) (fun h2 => ?_)
    · replace hf := okf h2 hf
      refine r_iconst X dX5_isMissing_11 ci_0 ?_
      exact r_zret X rfl hR (by decide) (ok0 hf) dX5_isMissing_12
    · replace hf := okt h2 hf
      refine r_iconst X dX5_isMissing_7 ci_1 ?_
      refine r_goto (tgt := 12) X dX5_isMissing_8 (by decide) ?_
      exact r_zret X rfl hR (by decide) (ok0 hf) dX5_isMissing_12
theorem md_X5_isMissing : MD yX5_isMissing wsX5_isMissing cX5_isMissing 1 0 (some .boolean) := ⟨⟨_, rfl⟩, by decide +kernel, by decide +kernel, by decide⟩
theorem c_X5_isMissing (l : Launch) (G : GX)  (t0 : Nat) (hk0 : kd t0 = 5) (σ : MM) (h : (f_X5_isMissing t0 σ).isSome = true) : CTi l G yX5_isMissing wsX5_isMissing 3 [.ref (G.1 t0)] σ (f_X5_isMissing t0 σ) :=
  CTi_of md_X5_isMissing (Nat.le_of_ble_eq_true rfl) (fun K X hR => e_X5_isMissing X hR t0 hk0 σ (ok_is h))
-- X5_renew
theorem in_X5_renew_5 : ∀ w ∈ u_ws RX5 TX5 3, w ∈ wsX5_renew := fun _ h => List.mem_cons_of_mem _ (List.mem_append_right _ h)
def f_X5_renew (t0 : Nat) (a1 : Int32) (a2 : Int32) (σ : MM) : Option (Unit × MM) :=
  bd (f_J7_fill_53178 (t0 + 4) 24 (0 : Int32) σ) (fun r8 σ9 => lt (mu σ9 t0 1 a1) (fun σ11 => lt (mu σ11 t0 2 (if (0 : Int32) < (if (24 : Int32) < a2 then (24 : Int32) else a2) then (if (24 : Int32) < a2 then (24 : Int32) else a2) else (0 : Int32))) (fun σ13 => some ((), σ13))))
set_option maxRecDepth 100000 in
set_option maxHeartbeats 4000000 in
theorem e_X5_renew {l : Launch} {G : GX} {K : KX} (X : FX G K cX5_renew RX5 (none) wsX5_renew 3) {Φ : Unit → MM → Prop} (hR : Rv G K Φ) (t0 : Nat) (a1 : Int32) (a2 : Int32) (hk0 : kd t0 = 5) (σ : MM) (hf : Ok Φ (f_X5_renew t0 a1 a2 σ)) : V l G 4 K 3 0 [(0, .ref (G.1 t0)), (1, .int a1), (2, .int a2)] [] σ := by
    unfold f_X5_renew at hf
    refine r_aload_n X dX5_renew_0 0 rfl isr_ref ?_
    refine r_get (i := t0) (v := .ref (G.1 (t0 + 4))) X in_X5_renew_5 rfl 0 (by decide) (kd_in hk0 (by decide)) (EE_5 _ hk0) rfl (mem_ix 1 rfl) dX5_renew_1 ?_
    refine r_iconst X dX5_renew_4 ci_0 ?_
    refine r_callSv (rest := []) X (c_J7_fill_53178 l G (t0 + 4) 24 (0 : Int32) (fun _ => EE_21 _ (kf_5_4 hk0)) (kd_in (kf_5_4 hk0) (by decide)) σ (oks hf)) md_J7_fill_53178 gX5_renew_J7_fill_53178 (by decide) rfl rfl (Nat.le_of_ble_eq_true rfl) dX5_renew_5 (fun r8 σ9 e10 => ?_)
    replace hf := okn e10 hf
    refine r_aload_n X dX5_renew_8 0 rfl isr_ref ?_
    refine r_iload_n X dX5_renew_9 1 rfl ?_
    obtain ⟨σ11, e12, hf⟩ := okl hf
    refine r_put (i := t0) (f := upd (σ9 t0) 1 a1) X in_X5_renew_5 tyX5 tyX5_ok nmX5 rfl 1 (by decide) (kd_in hk0 (by decide)) (EE_5 _ hk0) (EU_5_1 _ _ hk0) rfl (mem_ix 2 rfl) rfl rfl rfl rfl dX5_renew_10 ?_
    refine r_sg e12 ?_
    refine r_aload_n X dX5_renew_13 0 rfl isr_ref ?_
    refine r_iconst X dX5_renew_14 ci_0 ?_
    refine r_iload_n X dX5_renew_15 2 rfl ?_
    refine r_bipush X dX5_renew_16 cb_24 ?_
    refine r_mmin X (mem_ix 3 rfl) (mem_ix 4 rfl) (mem_ix 5 rfl) (mem_ix 6 rfl) (Nat.le_of_ble_eq_true rfl) (by decide) dX5_renew_18 ?_
    refine r_mmax X (mem_ix 7 rfl) (mem_ix 8 rfl) (mem_ix 5 rfl) (mem_ix 9 rfl) (Nat.le_of_ble_eq_true rfl) (by decide) dX5_renew_21 ?_
    obtain ⟨σ13, e14, hf⟩ := okl hf
    refine r_put (i := t0) (f := upd (σ11 t0) 2 (if (0 : Int32) < (if (24 : Int32) < a2 then (24 : Int32) else a2) then (if (24 : Int32) < a2 then (24 : Int32) else a2) else (0 : Int32))) X in_X5_renew_5 tyX5 tyX5_ok nmX5 rfl 2 (by decide) (kd_in hk0 (by decide)) (EE_5 _ hk0) (EU_5_2 _ _ hk0) rfl (mem_ix 10 rfl) rfl rfl rfl rfl dX5_renew_24 ?_
    refine r_sg e14 ?_
    exact r_vret X rfl hR (ok0 hf) dX5_renew_27
theorem md_X5_renew : MD yX5_renew wsX5_renew cX5_renew 3 2 (none) := ⟨⟨_, rfl⟩, by decide +kernel, by decide +kernel, by decide⟩
theorem c_X5_renew (l : Launch) (G : GX)  (t0 : Nat) (a1 : Int32) (a2 : Int32) (hk0 : kd t0 = 5) (σ : MM) (h : (f_X5_renew t0 a1 a2 σ).isSome = true) : CTv l G yX5_renew wsX5_renew 4 [.ref (G.1 t0), .int a1, .int a2] σ (f_X5_renew t0 a1 a2 σ) :=
  CTv_of md_X5_renew (Nat.le_of_ble_eq_true rfl) (fun K X hR => e_X5_renew X hR t0 a1 a2 hk0 σ (ok_is h))
-- X5_get
theorem in_X5_get_5 : ∀ w ∈ u_ws RX5 TX5 3, w ∈ wsX5_get := fun _ h => List.mem_cons_of_mem _ (List.mem_append_right _ h)
def f_X5_get (t0 : Nat) (a1 : Int32) (σ : MM) : Option (Int32 × MM) :=
  if a1 < 0 then some ((0 : Int32), σ) else if (σ t0 2) ≤ a1 then some ((0 : Int32), σ) else if (24 : Int32) ≤ a1 then some ((0 : Int32), σ) else if a1 < 0 ∨ 24 ≤ a1.toNatClampNeg then none else some ((σ (t0 + 4) (a1.toNatClampNeg)), σ)
set_option maxRecDepth 100000 in
set_option maxHeartbeats 4000000 in
theorem e_X5_get {l : Launch} {G : GX} {K : KX} (X : FX G K cX5_get RX5 (some .int) wsX5_get 2) {Φ : Int32 → MM → Prop} (hR : Ri G K Φ) (t0 : Nat) (a1 : Int32) (hk0 : kd t0 = 5) (σ : MM) (hf : Ok Φ (f_X5_get t0 a1 σ)) : V l G 3 K 2 0 [(0, .ref (G.1 t0)), (1, .int a1)] [] σ := by
    unfold f_X5_get at hf
    refine r_iload_n X dX5_get_0 1 rfl ?_
    refine r_if_lt (tgt := 30) X dX5_get_1 (by decide) (fun h5 => ?_) (fun h5 => ?_)
    · replace hf := okt h5 hf
      refine r_iconst X dX5_get_30 ci_0 ?_
      exact r_iret X rfl hR (ok0 hf) dX5_get_31
    · replace hf := okf h5 hf
      refine r_iload_n X dX5_get_4 1 rfl ?_
      refine r_aload_n X dX5_get_5 0 rfl isr_ref ?_
      refine r_get (i := t0) (v := .int (σ t0 2)) X in_X5_get_5 rfl 2 (by decide) (kd_in hk0 (by decide)) (EE_5 _ hk0) rfl (mem_ix 1 rfl) dX5_get_6 ?_
      refine r_icmp_ge (tgt := 30) X dX5_get_9 (by decide) (fun h6 => ?_) (fun h6 => ?_)
      · replace hf := okt h6 hf
        refine r_iconst X dX5_get_30 ci_0 ?_
        exact r_iret X rfl hR (ok0 hf) dX5_get_31
      · replace hf := okf h6 hf
        refine r_iload_n X dX5_get_12 1 rfl ?_
        refine r_aload_n X dX5_get_13 0 rfl isr_ref ?_
        refine r_get (i := t0) (v := .ref (G.1 (t0 + 4))) X in_X5_get_5 rfl 0 (by decide) (kd_in hk0 (by decide)) (EE_5 _ hk0) rfl (mem_ix 2 rfl) dX5_get_14 ?_
        refine r_alen (i := (t0 + 4)) (t := 0) (v := (24 : Int32)) X (kd_in (kf_5_4 hk0) (by decide)) (EE_21 _ (kf_5_4 hk0)) rfl (by decide) dX5_get_17 ?_
        refine r_icmp_ge (tgt := 30) X dX5_get_18 (by decide) (fun h7 => ?_) (fun h7 => ?_)
        · replace hf := okt h7 hf
          refine r_iconst X dX5_get_30 ci_0 ?_
          exact r_iret X rfl hR (ok0 hf) dX5_get_31
        · replace hf := okf h7 hf
          refine r_aload_n X dX5_get_21 0 rfl isr_ref ?_
          refine r_get (i := t0) (v := .ref (G.1 (t0 + 4))) X in_X5_get_5 rfl 0 (by decide) (kd_in hk0 (by decide)) (EE_5 _ hk0) rfl (mem_ix 2 rfl) dX5_get_22 ?_
          refine r_iload_n X dX5_get_25 1 rfl ?_
          obtain ⟨g8, hf⟩ := okg hf
          refine r_iald (i := (t0 + 4)) (jn := a1.toNatClampNeg) X (kd_in (kf_5_4 hk0) (by decide)) (EE_21 _ (kf_5_4 hk0)) rfl g8 dX5_get_26 ?_
          refine r_goto (tgt := 31) X dX5_get_27 (by decide) ?_
          exact r_iret X rfl hR (ok0 hf) dX5_get_31
theorem md_X5_get : MD yX5_get wsX5_get cX5_get 2 1 (some .int) := ⟨⟨_, rfl⟩, by decide +kernel, by decide +kernel, by decide⟩
theorem c_X5_get (l : Launch) (G : GX)  (t0 : Nat) (a1 : Int32) (hk0 : kd t0 = 5) (σ : MM) (h : (f_X5_get t0 a1 σ).isSome = true) : CTi l G yX5_get wsX5_get 3 [.ref (G.1 t0), .int a1] σ (f_X5_get t0 a1 σ) :=
  CTi_of md_X5_get (Nat.le_of_ble_eq_true rfl) (fun K X hR => e_X5_get X hR t0 a1 hk0 σ (ok_is h))
-- X5_lowest
theorem in_X5_lowest_5 : ∀ w ∈ u_ws RX5 TX5 3, w ∈ wsX5_lowest := fun _ h => List.mem_cons_of_mem _ (List.mem_append_right _ h)
def f_X5_lowest (t0 : Nat) (a1 : Int32) (σ : MM) : Option (Int32 × MM) :=
  if (σ t0 1) = (8 : Int32) then some ((a1 &&& (255 : Int32)), σ) else if (σ t0 1) = (16 : Int32) then some ((a1 &&& (65535 : Int32)), σ) else some (a1, σ)
set_option maxRecDepth 100000 in
set_option maxHeartbeats 4000000 in
theorem e_X5_lowest {l : Launch} {G : GX} {K : KX} (X : FX G K cX5_lowest RX5 (some .int) wsX5_lowest 2) {Φ : Int32 → MM → Prop} (hR : Ri G K Φ) (t0 : Nat) (a1 : Int32) (hk0 : kd t0 = 5) (σ : MM) (hf : Ok Φ (f_X5_lowest t0 a1 σ)) : V l G 3 K 2 0 [(0, .ref (G.1 t0)), (1, .int a1)] [] σ := by
    unfold f_X5_lowest at hf
    refine r_aload_n X dX5_lowest_0 0 rfl isr_ref ?_
    refine r_get (i := t0) (v := .int (σ t0 1)) X in_X5_lowest_5 rfl 1 (by decide) (kd_in hk0 (by decide)) (EE_5 _ hk0) rfl (mem_ix 1 rfl) dX5_lowest_1 ?_
    by_cases h3 : (σ t0 1) = (8 : Int32)
    · replace hf := okt h3 hf
      refine r_lookup (off := 28) (tgt := 32) X dX5_lowest_4 (by decide +kernel) (by rw [h3]; rfl) (by decide) ?_
      refine r_iload_n X dX5_lowest_32 1 rfl ?_
      refine r_sipush X dX5_lowest_33 cs_255 ?_
      refine r_iand X dX5_lowest_36 ?_
      exact r_iret X rfl hR (ok0 hf) dX5_lowest_37
    replace hf := okf h3 hf
    by_cases h4 : (σ t0 1) = (16 : Int32)
    · replace hf := okt h4 hf
      refine r_lookup (off := 34) (tgt := 38) X dX5_lowest_4 (by decide +kernel) (by rw [h4]; rfl) (by decide) ?_
      refine r_iload_n X dX5_lowest_38 1 rfl ?_
      refine r_ldc (v := (65535 : Int32)) X (mem_ix 2 rfl) dX5_lowest_39 ?_
      refine r_iand X dX5_lowest_41 ?_
      exact r_iret X rfl hR (ok0 hf) dX5_lowest_42
    replace hf := okf h4 hf
    refine r_lookup (off := 39) (tgt := 43) X dX5_lowest_4 (by decide +kernel) (lk_n h3 (by decide) (lk_n h4 (by decide) rfl)) (by decide) ?_
    refine r_iload_n X dX5_lowest_43 1 rfl ?_
    exact r_iret X rfl hR (ok0 hf) dX5_lowest_44
theorem md_X5_lowest : MD yX5_lowest wsX5_lowest cX5_lowest 2 1 (some .int) := ⟨⟨_, rfl⟩, by decide +kernel, by decide +kernel, by decide⟩
theorem c_X5_lowest (l : Launch) (G : GX)  (t0 : Nat) (a1 : Int32) (hk0 : kd t0 = 5) (σ : MM) (h : (f_X5_lowest t0 a1 σ).isSome = true) : CTi l G yX5_lowest wsX5_lowest 3 [.ref (G.1 t0), .int a1] σ (f_X5_lowest t0 a1 σ) :=
  CTi_of md_X5_lowest (Nat.le_of_ble_eq_true rfl) (fun K X hR => e_X5_lowest X hR t0 a1 hk0 σ (ok_is h))
-- X5_set
theorem in_X5_set_5 : ∀ w ∈ u_ws RX5 TX5 3, w ∈ wsX5_set := fun _ h => List.mem_cons_of_mem _ (List.mem_append_right _ h)
def f_X5_set (t0 : Nat) (a1 : Int32) (a2 : Int32) (σ : MM) : Option (Unit × MM) :=
  if a1 < 0 then some ((), σ) else if (σ t0 2) ≤ a1 then some ((), σ) else if (24 : Int32) ≤ a1 then some ((), σ) else bd (f_X5_lowest t0 a2 σ) (fun r13 σ14 => if a1 < 0 ∨ 24 ≤ a1.toNatClampNeg then none else lt (mu σ14 (t0 + 4) (a1.toNatClampNeg) r13) (fun σ17 => some ((), σ17)))
set_option maxRecDepth 100000 in
set_option maxHeartbeats 4000000 in
theorem e_X5_set {l : Launch} {G : GX} {K : KX} (X : FX G K cX5_set RX5 (none) wsX5_set 3) {Φ : Unit → MM → Prop} (hR : Rv G K Φ) (t0 : Nat) (a1 : Int32) (a2 : Int32) (hk0 : kd t0 = 5) (σ : MM) (hf : Ok Φ (f_X5_set t0 a1 a2 σ)) : V l G 4 K 3 0 [(0, .ref (G.1 t0)), (1, .int a1), (2, .int a2)] [] σ := by
    unfold f_X5_set at hf
    refine r_iload_n X dX5_set_0 1 rfl ?_
    refine r_if_lt (tgt := 32) X dX5_set_1 (by decide) (fun h10 => ?_) (fun h10 => ?_)
    · replace hf := okt h10 hf
      exact r_vret X rfl hR (ok0 hf) dX5_set_32
    · replace hf := okf h10 hf
      refine r_iload_n X dX5_set_4 1 rfl ?_
      refine r_aload_n X dX5_set_5 0 rfl isr_ref ?_
      refine r_get (i := t0) (v := .int (σ t0 2)) X in_X5_set_5 rfl 2 (by decide) (kd_in hk0 (by decide)) (EE_5 _ hk0) rfl (mem_ix 1 rfl) dX5_set_6 ?_
      refine r_icmp_ge (tgt := 32) X dX5_set_9 (by decide) (fun h11 => ?_) (fun h11 => ?_)
      · replace hf := okt h11 hf
        exact r_vret X rfl hR (ok0 hf) dX5_set_32
      · replace hf := okf h11 hf
        refine r_iload_n X dX5_set_12 1 rfl ?_
        refine r_aload_n X dX5_set_13 0 rfl isr_ref ?_
        refine r_get (i := t0) (v := .ref (G.1 (t0 + 4))) X in_X5_set_5 rfl 0 (by decide) (kd_in hk0 (by decide)) (EE_5 _ hk0) rfl (mem_ix 2 rfl) dX5_set_14 ?_
        refine r_alen (i := (t0 + 4)) (t := 0) (v := (24 : Int32)) X (kd_in (kf_5_4 hk0) (by decide)) (EE_21 _ (kf_5_4 hk0)) rfl (by decide) dX5_set_17 ?_
        refine r_icmp_ge (tgt := 32) X dX5_set_18 (by decide) (fun h12 => ?_) (fun h12 => ?_)
        · replace hf := okt h12 hf
          exact r_vret X rfl hR (ok0 hf) dX5_set_32
        · replace hf := okf h12 hf
          refine r_aload_n X dX5_set_21 0 rfl isr_ref ?_
          refine r_get (i := t0) (v := .ref (G.1 (t0 + 4))) X in_X5_set_5 rfl 0 (by decide) (kd_in hk0 (by decide)) (EE_5 _ hk0) rfl (mem_ix 2 rfl) dX5_set_22 ?_
          refine r_iload_n X dX5_set_25 1 rfl ?_
          refine r_aload_n X dX5_set_26 0 rfl isr_ref ?_
          refine r_iload_n X dX5_set_27 2 rfl ?_
          refine r_callVi (rest := [.int a1, .ref (G.1 (t0 + 4))]) X (c_X5_lowest l G t0 a2 hk0 σ (oks hf)) md_X5_lowest gX5_set_X5_lowest (by decide) rfl rfl (kd_in hk0 (by decide)) (EE_5 _ hk0) rfl rfl (Nat.le_of_ble_eq_true rfl) dX5_set_28 (fun r13 σ14 e15 => ?_)
          replace hf := okn e15 hf
          obtain ⟨g16, hf⟩ := okg hf
          obtain ⟨σ17, e18, hf⟩ := okl hf
          refine r_iast (i := (t0 + 4)) (jn := a1.toNatClampNeg) X (kd_in (kf_5_4 hk0) (by decide)) (fun _ => EE_21 _ (kf_5_4 hk0)) rfl g16 dX5_set_31 ?_
          refine r_sg e18 ?_
          exact r_vret X rfl hR (ok0 hf) dX5_set_32
theorem md_X5_set : MD yX5_set wsX5_set cX5_set 3 2 (none) := ⟨⟨_, rfl⟩, by decide +kernel, by decide +kernel, by decide⟩
theorem c_X5_set (l : Launch) (G : GX)  (t0 : Nat) (a1 : Int32) (a2 : Int32) (hk0 : kd t0 = 5) (σ : MM) (h : (f_X5_set t0 a1 a2 σ).isSome = true) : CTv l G yX5_set wsX5_set 4 [.ref (G.1 t0), .int a1, .int a2] σ (f_X5_set t0 a1 a2 σ) :=
  CTv_of md_X5_set (Nat.le_of_ble_eq_true rfl) (fun K X hR => e_X5_set X hR t0 a1 a2 hk0 σ (ok_is h))
-- X5_holds
theorem in_X5_holds_5 : ∀ w ∈ u_ws RX5 TX5 3, w ∈ wsX5_holds := fun _ h => List.mem_cons_of_mem _ (List.mem_append_right _ h)
def f_X5_holds (t0 : Nat) (a1 : Int32) (a2 : Int32) (σ : MM) : Option (Int32 × MM) :=
  if a1 < 0 then some ((0 : Int32), σ) else if a2 < 0 then some ((0 : Int32), σ) else if (σ t0 2) < a2 then some ((0 : Int32), σ) else if ((σ t0 2) - a2) < a1 then some ((0 : Int32), σ) else some ((1 : Int32), σ)
set_option maxRecDepth 100000 in
set_option maxHeartbeats 4000000 in
theorem e_X5_holds {l : Launch} {G : GX} {K : KX} (X : FX G K cX5_holds RX5 (some .boolean) wsX5_holds 3) {Φ : Int32 → MM → Prop} (hR : Ri G K Φ) (t0 : Nat) (a1 : Int32) (a2 : Int32) (hk0 : kd t0 = 5) (σ : MM) (hf : Ok Φ (f_X5_holds t0 a1 a2 σ)) : V l G 3 K 3 0 [(0, .ref (G.1 t0)), (1, .int a1), (2, .int a2)] [] σ := by
    unfold f_X5_holds at hf
    refine r_iload_n X dX5_holds_0 1 rfl ?_
    refine r_if_lt (tgt := 30) X dX5_holds_1 (by decide) (fun h5 => ?_) (fun h5 => ?_)
    · replace hf := okt h5 hf
      refine r_iconst X dX5_holds_30 ci_0 ?_
      exact r_zret X rfl hR (by decide) (ok0 hf) dX5_holds_31
    · replace hf := okf h5 hf
      refine r_iload_n X dX5_holds_4 2 rfl ?_
      refine r_if_lt (tgt := 30) X dX5_holds_5 (by decide) (fun h6 => ?_) (fun h6 => ?_)
      · replace hf := okt h6 hf
        refine r_iconst X dX5_holds_30 ci_0 ?_
        exact r_zret X rfl hR (by decide) (ok0 hf) dX5_holds_31
      · replace hf := okf h6 hf
        refine r_iload_n X dX5_holds_8 2 rfl ?_
        refine r_aload_n X dX5_holds_9 0 rfl isr_ref ?_
        refine r_get (i := t0) (v := .int (σ t0 2)) X in_X5_holds_5 rfl 2 (by decide) (kd_in hk0 (by decide)) (EE_5 _ hk0) rfl (mem_ix 1 rfl) dX5_holds_10 ?_
        refine r_icmp_gt (tgt := 30) X dX5_holds_13 (by decide) (fun h7 => ?_) (fun h7 => ?_)
        · replace hf := okt h7 hf
          refine r_iconst X dX5_holds_30 ci_0 ?_
          exact r_zret X rfl hR (by decide) (ok0 hf) dX5_holds_31
        · replace hf := okf h7 hf
          refine r_iload_n X dX5_holds_16 1 rfl ?_
          refine r_aload_n X dX5_holds_17 0 rfl isr_ref ?_
          refine r_get (i := t0) (v := .int (σ t0 2)) X in_X5_holds_5 rfl 2 (by decide) (kd_in hk0 (by decide)) (EE_5 _ hk0) rfl (mem_ix 1 rfl) dX5_holds_18 ?_
          refine r_iload_n X dX5_holds_21 2 rfl ?_
          refine r_isub X dX5_holds_22 ?_
          refine r_icmp_gt (tgt := 30) X dX5_holds_23 (by decide) (fun h8 => ?_) (fun h8 => ?_)
          · replace hf := okt h8 hf
            refine r_iconst X dX5_holds_30 ci_0 ?_
            exact r_zret X rfl hR (by decide) (ok0 hf) dX5_holds_31
          · replace hf := okf h8 hf
            refine r_iconst X dX5_holds_26 ci_1 ?_
            refine r_goto (tgt := 31) X dX5_holds_27 (by decide) ?_
            exact r_zret X rfl hR (by decide) (ok0 hf) dX5_holds_31
theorem md_X5_holds : MD yX5_holds wsX5_holds cX5_holds 3 2 (some .boolean) := ⟨⟨_, rfl⟩, by decide +kernel, by decide +kernel, by decide⟩
theorem c_X5_holds (l : Launch) (G : GX)  (t0 : Nat) (a1 : Int32) (a2 : Int32) (hk0 : kd t0 = 5) (σ : MM) (h : (f_X5_holds t0 a1 a2 σ).isSome = true) : CTi l G yX5_holds wsX5_holds 3 [.ref (G.1 t0), .int a1, .int a2] σ (f_X5_holds t0 a1 a2 σ) :=
  CTi_of md_X5_holds (Nat.le_of_ble_eq_true rfl) (fun K X hR => e_X5_holds X hR t0 a1 a2 hk0 σ (ok_is h))
-- X8_within
def f_X8_within (a0 : Int32) (a1 : Int32) (a2 : Int32) (σ : MM) : Option (Int32 × MM) :=
  if a0 < a1 then some ((0 : Int32), σ) else if a2 < a0 then some ((0 : Int32), σ) else some ((1 : Int32), σ)
set_option maxRecDepth 100000 in
set_option maxHeartbeats 4000000 in
theorem e_X8_within {l : Launch} {G : GX} {K : KX} (X : FX G K cX8_within RX8 (some .boolean) wsX8_within 3) {Φ : Int32 → MM → Prop} (hR : Ri G K Φ) (a0 : Int32) (a1 : Int32) (a2 : Int32) (σ : MM) (hf : Ok Φ (f_X8_within a0 a1 a2 σ)) : V l G 3 K 3 0 [(0, .int a0), (1, .int a1), (2, .int a2)] [] σ := by
    unfold f_X8_within at hf
    refine r_iload_n X dX8_within_0 0 rfl ?_
    refine r_iload_n X dX8_within_1 1 rfl ?_
    refine r_icmp_lt (tgt := 14) X dX8_within_2 (by decide) (fun h3 => ?_) (fun h3 => ?_)
    · replace hf := okt h3 hf
      refine r_iconst X dX8_within_14 ci_0 ?_
      exact r_zret X rfl hR (by decide) (ok0 hf) dX8_within_15
    · replace hf := okf h3 hf
      refine r_iload_n X dX8_within_5 0 rfl ?_
      refine r_iload_n X dX8_within_6 2 rfl ?_
      refine r_icmp_gt (tgt := 14) X dX8_within_7 (by decide) (fun h4 => ?_) (fun h4 => ?_)
      · replace hf := okt h4 hf
        refine r_iconst X dX8_within_14 ci_0 ?_
        exact r_zret X rfl hR (by decide) (ok0 hf) dX8_within_15
      · replace hf := okf h4 hf
        refine r_iconst X dX8_within_10 ci_1 ?_
        refine r_goto (tgt := 15) X dX8_within_11 (by decide) ?_
        exact r_zret X rfl hR (by decide) (ok0 hf) dX8_within_15
theorem md_X8_within : MD yX8_within wsX8_within cX8_within 3 3 (some .boolean) := ⟨⟨_, rfl⟩, by decide +kernel, by decide +kernel, by decide⟩
theorem c_X8_within (l : Launch) (G : GX)  (a0 : Int32) (a1 : Int32) (a2 : Int32) (σ : MM) (h : (f_X8_within a0 a1 a2 σ).isSome = true) : CTi l G yX8_within wsX8_within 3 [.int a0, .int a1, .int a2] σ (f_X8_within a0 a1 a2 σ) :=
  CTi_of md_X8_within (Nat.le_of_ble_eq_true rfl) (fun K X hR => e_X8_within X hR a0 a1 a2 σ (ok_is h))
-- X8_isWord
def f_X8_isWord (a0 : Int32) (σ : MM) : Option (Int32 × MM) :=
  bd (f_X8_within a0 (0 : Int32) (99 : Int32) σ) (fun r4 σ5 => if r4 = 0 ∨ r4 = 1 then some (r4, σ5) else none)
set_option maxRecDepth 100000 in
set_option maxHeartbeats 4000000 in
theorem e_X8_isWord {l : Launch} {G : GX} {K : KX} (X : FX G K cX8_isWord RX8 (some .boolean) wsX8_isWord 1) {Φ : Int32 → MM → Prop} (hR : Ri G K Φ) (a0 : Int32) (σ : MM) (hf : Ok Φ (f_X8_isWord a0 σ)) : V l G 4 K 1 0 [(0, .int a0)] [] σ := by
    unfold f_X8_isWord at hf
    refine r_iload_n X dX8_isWord_0 0 rfl ?_
    refine r_iconst X dX8_isWord_1 ci_0 ?_
    refine r_bipush X dX8_isWord_2 cb_99 ?_
    refine r_callSi (rest := []) X (c_X8_within l G a0 (0 : Int32) (99 : Int32) σ (oks hf)) md_X8_within gX8_isWord_X8_within (by decide) rfl rfl (Nat.le_of_ble_eq_true rfl) dX8_isWord_4 (fun r4 σ5 e6 => ?_)
    replace hf := okn e6 hf
    obtain ⟨g7, hf⟩ := okp hf
    exact r_zret X rfl hR g7 (ok0 hf) dX8_isWord_7
theorem md_X8_isWord : MD yX8_isWord wsX8_isWord cX8_isWord 1 1 (some .boolean) := ⟨⟨_, rfl⟩, by decide +kernel, by decide +kernel, by decide⟩
theorem c_X8_isWord (l : Launch) (G : GX)  (a0 : Int32) (σ : MM) (h : (f_X8_isWord a0 σ).isSome = true) : CTi l G yX8_isWord wsX8_isWord 4 [.int a0] σ (f_X8_isWord a0 σ) :=
  CTi_of md_X8_isWord (Nat.le_of_ble_eq_true rfl) (fun K X hR => e_X8_isWord X hR a0 σ (ok_is h))
-- X5_holdsWordsAlone
theorem in_X5_holdsWordsAlone_5 : ∀ w ∈ u_ws RX5 TX5 3, w ∈ wsX5_holdsWordsAlone := fun _ h => List.mem_cons_of_mem _ (List.mem_append_right _ h)
def u_X5_holdsWordsAlone_2 (k2 : Nat → Int32 → MM → Option (Int32 × MM)) (t0 : Nat) (v1 : Int32) (σ : MM) : Option (Int32 × MM) :=
  if (σ t0 2) ≤ v1 then some ((1 : Int32), σ) else bd (f_X5_get t0 v1 σ) (fun r10 σ11 => bd (f_X8_isWord r10 σ11) (fun r13 σ14 => if r13 = 0 then some ((0 : Int32), σ14) else k2 t0 (v1 + (1 : Int32)) σ14))
def l_X5_holdsWordsAlone_2 (t0 : Nat) (v1 : Int32) (σ : MM) : Option (Int32 × MM) :=
  itr (fun _ _ _ => none) (u_X5_holdsWordsAlone_2) FU t0 v1 σ
def f_X5_holdsWordsAlone (t0 : Nat) (σ : MM) : Option (Int32 × MM) :=
  l_X5_holdsWordsAlone_2 t0 (0 : Int32) σ
set_option maxRecDepth 100000 in
set_option maxHeartbeats 4000000 in
theorem t_X5_holdsWordsAlone_2 {l : Launch} {G : GX} {K : KX} (X : FX G K cX5_holdsWordsAlone RX5 (some .boolean) wsX5_holdsWordsAlone 2) {Φ : Int32 → MM → Prop} (hR : Ri G K Φ) (k2 : Nat → Int32 → MM → Option (Int32 × MM)) (hk2c : ∀ (t0 : Nat) (v1 : Int32) (hk0 : kd t0 = 5) (σ : MM), Ok Φ (k2 t0 v1 σ) → V l G 5 K 2 2 [(0, .ref (G.1 t0)), (1, .int v1)] [] σ) (t0 : Nat) (v1 : Int32) (hk0 : kd t0 = 5) (σ : MM) (hf : Ok Φ (u_X5_holdsWordsAlone_2 k2 t0 v1 σ)) : V l G 5 K 2 2 [(0, .ref (G.1 t0)), (1, .int v1)] [] σ := by
    unfold u_X5_holdsWordsAlone_2 at hf
    refine r_iload_n X dX5_holdsWordsAlone_2 1 rfl ?_
    refine r_aload_n X dX5_holdsWordsAlone_3 0 rfl isr_ref ?_
    refine r_get (i := t0) (v := .int (σ t0 2)) X in_X5_holdsWordsAlone_5 rfl 2 (by decide) (kd_in hk0 (by decide)) (EE_5 _ hk0) rfl (mem_ix 1 rfl) dX5_holdsWordsAlone_4 ?_
    refine r_icmp_ge (tgt := 29) X dX5_holdsWordsAlone_7 (by decide) (fun h9 => ?_) (fun h9 => ?_)
    · replace hf := okt h9 hf
      refine r_iconst X dX5_holdsWordsAlone_29 ci_1 ?_
      exact r_zret X rfl hR (by decide) (ok0 hf) dX5_holdsWordsAlone_30
    · replace hf := okf h9 hf
      refine r_aload_n X dX5_holdsWordsAlone_10 0 rfl isr_ref ?_
      refine r_iload_n X dX5_holdsWordsAlone_11 1 rfl ?_
      refine r_callVi (rest := []) X (c_X5_get l G t0 v1 hk0 σ (oks hf)) md_X5_get gX5_holdsWordsAlone_X5_get (by decide) rfl rfl (kd_in hk0 (by decide)) (EE_5 _ hk0) rfl rfl (Nat.le_of_ble_eq_true rfl) dX5_holdsWordsAlone_12 (fun r10 σ11 e12 => ?_)
      replace hf := okn e12 hf
      refine r_n_isWord (rest := []) X rfl (c_X8_isWord l G r10 σ11 (oks hf)) md_X8_isWord gX5_holdsWordsAlone_X8_isWord_n45 (mem_ix 9 rfl) (mem_ix 8 rfl) (by decide) rfl rfl (Nat.le_of_ble_eq_true rfl) dX5_holdsWordsAlone_15 (fun r13 σ14 e15 => ?_)
      replace hf := okn e15 hf
      refine r_if_ne (tgt := 23) X dX5_holdsWordsAlone_18 (by decide) (fun h16 => ?_) (fun h16 => ?_)
      · replace hf := okf h16 hf
        refine r_iinc (v := (v1 + (1 : Int32))) X dX5_holdsWordsAlone_23 1 rfl (congrArg _ ci_1) (by decide) (lv' := [(1, .int (v1 + (1 : Int32))), (0, .ref (G.1 t0))]) rfl ?_
        refine r_goto (tgt := 2) X dX5_holdsWordsAlone_26 (by decide) ?_
        refine r_sub [1, 0] rfl ?_
        exact hk2c t0 (v1 + (1 : Int32)) hk0 σ14 hf
      · replace hf := okt h16 hf
        refine r_iconst X dX5_holdsWordsAlone_21 ci_0 ?_
        exact r_zret X rfl hR (by decide) (ok0 hf) dX5_holdsWordsAlone_22
theorem tl_X5_holdsWordsAlone_2 {l : Launch} {G : GX} {K : KX} (X : FX G K cX5_holdsWordsAlone RX5 (some .boolean) wsX5_holdsWordsAlone 2) {Φ : Int32 → MM → Prop} (hR : Ri G K Φ) : ∀ (m : Nat) (t0 : Nat) (v1 : Int32) (hk0 : kd t0 = 5) (σ : MM), Ok Φ (itr (fun _ _ _ => none) (u_X5_holdsWordsAlone_2) m t0 v1 σ) → V l G 5 K 2 2 [(0, .ref (G.1 t0)), (1, .int v1)] [] σ := by
  intro m
  induction m with
  | zero => intro t0 v1 hk0 σ hf; exact (okx hf).elim
  | succ m ih => intro t0 v1 hk0 σ hf; exact t_X5_holdsWordsAlone_2 X hR _ ih t0 v1 hk0 σ hf
set_option maxRecDepth 100000 in
set_option maxHeartbeats 4000000 in
theorem e_X5_holdsWordsAlone {l : Launch} {G : GX} {K : KX} (X : FX G K cX5_holdsWordsAlone RX5 (some .boolean) wsX5_holdsWordsAlone 2) {Φ : Int32 → MM → Prop} (hR : Ri G K Φ) (t0 : Nat) (hk0 : kd t0 = 5) (σ : MM) (hf : Ok Φ (f_X5_holdsWordsAlone t0 σ)) : V l G 5 K 2 0 [(0, .ref (G.1 t0))] [] σ := by
    unfold f_X5_holdsWordsAlone at hf
    refine r_iconst X dX5_holdsWordsAlone_0 ci_0 ?_
    refine r_istore_n X dX5_holdsWordsAlone_1 (i := 1) rfl (by decide) (lv' := [(1, .int (0 : Int32)), (0, .ref (G.1 t0))]) rfl ?_
    refine r_sub [1, 0] rfl ?_
    exact tl_X5_holdsWordsAlone_2 X hR FU t0 (0 : Int32) hk0 σ hf
theorem md_X5_holdsWordsAlone : MD yX5_holdsWordsAlone wsX5_holdsWordsAlone cX5_holdsWordsAlone 2 0 (some .boolean) := ⟨⟨_, rfl⟩, by decide +kernel, by decide +kernel, by decide⟩
theorem c_X5_holdsWordsAlone (l : Launch) (G : GX)  (t0 : Nat) (hk0 : kd t0 = 5) (σ : MM) (h : (f_X5_holdsWordsAlone t0 σ).isSome = true) : CTi l G yX5_holdsWordsAlone wsX5_holdsWordsAlone 5 [.ref (G.1 t0)] σ (f_X5_holdsWordsAlone t0 σ) :=
  CTi_of md_X5_holdsWordsAlone (Nat.le_of_ble_eq_true rfl) (fun K X hR => e_X5_holdsWordsAlone X hR t0 hk0 σ (ok_is h))
-- X7_bodyOf
def f_X7_bodyOf (a0 : Int32) (a1 : Int32) (σ : MM) : Option (Int32 × MM) :=
  if ((a0 * (4 : Int32)) + a1) < 0 then some ((0 : Int32), σ) else if (28 : Int32) ≤ ((a0 * (4 : Int32)) + a1) then some ((0 : Int32), σ) else if ((a0 * (4 : Int32)) + a1) < 0 ∨ 28 ≤ ((a0 * (4 : Int32)) + a1).toNatClampNeg then none else some ((bo_l.getD ((a0 * (4 : Int32)) + a1).toNatClampNeg 0), σ)
set_option maxRecDepth 100000 in
set_option maxHeartbeats 4000000 in
theorem e_X7_bodyOf {l : Launch} {G : GX} {K : KX} (X : FX G K cX7_bodyOf RX7 (some .int) wsX7_bodyOf 3) {Φ : Int32 → MM → Prop} (hR : Ri G K Φ) (a0 : Int32) (a1 : Int32) (σ : MM) (hf : Ok Φ (f_X7_bodyOf a0 a1 σ)) : V l G 3 K 3 0 [(0, .int a0), (1, .int a1)] [] σ := by
    unfold f_X7_bodyOf at hf
    refine r_iload_n X dX7_bodyOf_0 0 rfl ?_
    refine r_iconst X dX7_bodyOf_1 ci_4 ?_
    refine r_imul X dX7_bodyOf_2 ?_
    refine r_iload_n X dX7_bodyOf_3 1 rfl ?_
    refine r_iadd X dX7_bodyOf_4 ?_
    refine r_istore_n X dX7_bodyOf_5 (i := 2) rfl (by decide) (lv' := [(2, .int ((a0 * (4 : Int32)) + a1)), (0, .int a0), (1, .int a1)]) rfl ?_
    refine r_iload_n X dX7_bodyOf_6 0 rfl ?_
    refine r_if_lt (tgt := 26) X dX7_bodyOf_7 (by decide) (fun h4 => ?_) (fun h4 => ?_)
    · replace hf := okt h4 hf
      refine r_iconst X dX7_bodyOf_26 ci_0 ?_
      exact r_iret X rfl hR (ok0 hf) dX7_bodyOf_27
    · replace hf := okf h4 hf
      refine r_iload_n X dX7_bodyOf_10 0 rfl ?_
      refine r_bodies X rfl dX7_bodyOf_11 ?_
      refine r_bodies_len (v := (28 : Int32)) X (by decide) dX7_bodyOf_14 ?_
      refine r_icmp_ge (tgt := 26) X dX7_bodyOf_15 (by decide) (fun h5 => ?_) (fun h5 => ?_)
      · replace hf := okt h5 hf
        refine r_iconst X dX7_bodyOf_26 ci_0 ?_
        exact r_iret X rfl hR (ok0 hf) dX7_bodyOf_27
      · replace hf := okf h5 hf
        refine r_bodies X rfl dX7_bodyOf_18 ?_
        refine r_iload_n X dX7_bodyOf_21 0 rfl ?_
        obtain ⟨g6, hf⟩ := okg hf
        refine r_bodies_ld X g6 dX7_bodyOf_22 ?_
        refine r_goto (tgt := 27) X dX7_bodyOf_23 (by decide) ?_
        exact r_iret X rfl hR (ok0 hf) dX7_bodyOf_27
theorem md_X7_bodyOf : MD yX7_bodyOf wsX7_bodyOf cX7_bodyOf 3 2 (some .int) := ⟨⟨_, rfl⟩, by decide +kernel, by decide +kernel, by decide⟩
theorem c_X7_bodyOf (l : Launch) (G : GX)  (a0 : Int32) (a1 : Int32) (σ : MM) (h : (f_X7_bodyOf a0 a1 σ).isSome = true) : CTi l G yX7_bodyOf wsX7_bodyOf 3 [.int a0, .int a1] σ (f_X7_bodyOf a0 a1 σ) :=
  CTi_of md_X7_bodyOf (Nat.le_of_ble_eq_true rfl) (fun K X hR => e_X7_bodyOf X hR a0 a1 σ (ok_is h))
-- X8_kindAbove
def f_X8_kindAbove (a0 : Int32) (σ : MM) : Option (Int32 × MM) :=
  if a0 < 0 then some ((0 : Int32), σ) else if (7 : Int32) ≤ a0 then some ((0 : Int32), σ) else if a0 < 0 ∨ 7 ≤ a0.toNatClampNeg then none else some ((ab_l.getD a0.toNatClampNeg 0), σ)
set_option maxRecDepth 100000 in
set_option maxHeartbeats 4000000 in
theorem e_X8_kindAbove {l : Launch} {G : GX} {K : KX} (X : FX G K cX8_kindAbove RX8 (some .int) wsX8_kindAbove 1) {Φ : Int32 → MM → Prop} (hR : Ri G K Φ) (a0 : Int32) (σ : MM) (hf : Ok Φ (f_X8_kindAbove a0 σ)) : V l G 3 K 1 0 [(0, .int a0)] [] σ := by
    unfold f_X8_kindAbove at hf
    refine r_iload_n X dX8_kindAbove_0 0 rfl ?_
    refine r_if_lt (tgt := 20) X dX8_kindAbove_1 (by decide) (fun h4 => ?_) (fun h4 => ?_)
    · replace hf := okt h4 hf
      refine r_iconst X dX8_kindAbove_20 ci_0 ?_
      exact r_iret X rfl hR (ok0 hf) dX8_kindAbove_21
    · replace hf := okf h4 hf
      refine r_iload_n X dX8_kindAbove_4 0 rfl ?_
      refine r_above X (mem_ix 1 rfl) dX8_kindAbove_5 ?_
      refine r_above_len (v := (7 : Int32)) X (by decide) dX8_kindAbove_8 ?_
      refine r_icmp_ge (tgt := 20) X dX8_kindAbove_9 (by decide) (fun h5 => ?_) (fun h5 => ?_)
      · replace hf := okt h5 hf
        refine r_iconst X dX8_kindAbove_20 ci_0 ?_
        exact r_iret X rfl hR (ok0 hf) dX8_kindAbove_21
      · replace hf := okf h5 hf
        refine r_above X (mem_ix 1 rfl) dX8_kindAbove_12 ?_
        refine r_iload_n X dX8_kindAbove_15 0 rfl ?_
        obtain ⟨g6, hf⟩ := okg hf
        refine r_above_ld X g6 dX8_kindAbove_16 ?_
        refine r_goto (tgt := 21) X dX8_kindAbove_17 (by decide) ?_
        exact r_iret X rfl hR (ok0 hf) dX8_kindAbove_21
theorem md_X8_kindAbove : MD yX8_kindAbove wsX8_kindAbove cX8_kindAbove 1 1 (some .int) := ⟨⟨_, rfl⟩, by decide +kernel, by decide +kernel, by decide⟩
theorem c_X8_kindAbove (l : Launch) (G : GX)  (a0 : Int32) (σ : MM) (h : (f_X8_kindAbove a0 σ).isSome = true) : CTi l G yX8_kindAbove wsX8_kindAbove 3 [.int a0] σ (f_X8_kindAbove a0 σ) :=
  CTi_of md_X8_kindAbove (Nat.le_of_ble_eq_true rfl) (fun K X hR => e_X8_kindAbove X hR a0 σ (ok_is h))
-- X7_bodyFrom
def u_X7_bodyFrom_29 (v1 : Int32) (v2 : Int32) (σ : MM) : Option (Int32 × MM) :=
  bd (f_X7_bodyOf v2 v1 σ) (fun r13 σ14 => some (r13, σ14))
def u_X7_bodyFrom_4 (k4 : Int32 → Int32 → Int32 → MM → Option (Int32 × MM)) (v1 : Int32) (v2 : Int32) (v3 : Int32) (σ : MM) : Option (Int32 × MM) :=
  if (7 : Int32) ≤ v3 then u_X7_bodyFrom_29 v1 v2 σ else bd (f_X7_bodyOf v2 v1 σ) (fun r16 σ17 => if r16 = 0 then bd (f_X8_kindAbove v2 σ17) (fun r20 σ21 => k4 v1 r20 (v3 + (1 : Int32)) σ21) else u_X7_bodyFrom_29 v1 v2 σ17)
def l_X7_bodyFrom_4 (v1 : Int32) (v2 : Int32) (v3 : Int32) (σ : MM) : Option (Int32 × MM) :=
  itr (fun _ _ _ _ => none) (u_X7_bodyFrom_4) FU v1 v2 v3 σ
def f_X7_bodyFrom (a0 : Int32) (a1 : Int32) (σ : MM) : Option (Int32 × MM) :=
  l_X7_bodyFrom_4 a1 a0 (0 : Int32) σ
set_option maxRecDepth 100000 in
set_option maxHeartbeats 4000000 in
theorem t_X7_bodyFrom_29 {l : Launch} {G : GX} {K : KX} (X : FX G K cX7_bodyFrom RX7 (some .int) wsX7_bodyFrom 4) {Φ : Int32 → MM → Prop} (hR : Ri G K Φ) (v1 : Int32) (v2 : Int32) (σ : MM) (hf : Ok Φ (u_X7_bodyFrom_29 v1 v2 σ)) : V l G 4 K 4 29 [(1, .int v1), (2, .int v2)] [] σ := by
    unfold u_X7_bodyFrom_29 at hf
    refine r_iload_n X dX7_bodyFrom_29 1 rfl ?_
    refine r_iload_n X dX7_bodyFrom_30 0 rfl ?_
    refine r_callSi (rest := []) X (c_X7_bodyOf l G v2 v1 σ (oks hf)) md_X7_bodyOf gX7_bodyFrom_X7_bodyOf (by decide) rfl rfl (Nat.le_of_ble_eq_true rfl) dX7_bodyFrom_31 (fun r13 σ14 e15 => ?_)
    replace hf := okn e15 hf
    exact r_iret X rfl hR (ok0 hf) dX7_bodyFrom_34
set_option maxRecDepth 100000 in
set_option maxHeartbeats 4000000 in
theorem t_X7_bodyFrom_4 {l : Launch} {G : GX} {K : KX} (X : FX G K cX7_bodyFrom RX7 (some .int) wsX7_bodyFrom 4) {Φ : Int32 → MM → Prop} (hR : Ri G K Φ) (k4 : Int32 → Int32 → Int32 → MM → Option (Int32 × MM)) (hk4c : ∀ (v1 : Int32) (v2 : Int32) (v3 : Int32) (σ : MM), Ok Φ (k4 v1 v2 v3 σ) → V l G 4 K 4 4 [(1, .int v1), (2, .int v2), (3, .int v3)] [] σ) (v1 : Int32) (v2 : Int32) (v3 : Int32) (σ : MM) (hf : Ok Φ (u_X7_bodyFrom_4 k4 v1 v2 v3 σ)) : V l G 4 K 4 4 [(1, .int v1), (2, .int v2), (3, .int v3)] [] σ := by
    unfold u_X7_bodyFrom_4 at hf
    refine r_iload_n X dX7_bodyFrom_4 2 rfl ?_
    refine r_bipush X dX7_bodyFrom_5 cb_7 ?_
    refine r_icmp_ge (tgt := 29) X dX7_bodyFrom_7 (by decide) (fun h12 => ?_) (fun h12 => ?_)
    · replace hf := okt h12 hf
      refine r_sub [0, 1] rfl ?_
      exact t_X7_bodyFrom_29 X hR v1 v2 σ hf
    · replace hf := okf h12 hf
      refine r_iload_n X dX7_bodyFrom_10 1 rfl ?_
      refine r_iload_n X dX7_bodyFrom_11 0 rfl ?_
      refine r_callSi (rest := []) X (c_X7_bodyOf l G v2 v1 σ (oks hf)) md_X7_bodyOf gX7_bodyFrom_X7_bodyOf (by decide) rfl rfl (Nat.le_of_ble_eq_true rfl) dX7_bodyFrom_12 (fun r16 σ17 e18 => ?_)
      replace hf := okn e18 hf
      refine r_if_ne (tgt := 29) X dX7_bodyFrom_15 (by decide) (fun h19 => ?_) (fun h19 => ?_)
      · replace hf := okf h19 hf
        refine r_sub [0, 1] rfl ?_
        exact t_X7_bodyFrom_29 X hR v1 v2 σ17 hf
      · replace hf := okt h19 hf
        refine r_iload_n X dX7_bodyFrom_18 1 rfl ?_
        refine r_n_kindAbove (rest := []) X rfl (c_X8_kindAbove l G v2 σ17 (oks hf)) md_X8_kindAbove gX7_bodyFrom_X8_kindAbove_n48 (mem_ix 6 rfl) (mem_ix 5 rfl) (by decide) rfl rfl (Nat.le_of_ble_eq_true rfl) dX7_bodyFrom_19 (fun r20 σ21 e22 => ?_)
        replace hf := okn e22 hf
        refine r_istore_n X dX7_bodyFrom_22 (i := 2) rfl (by decide) (lv' := [(2, .int r20), (1, .int v1), (3, .int v3)]) rfl ?_
        refine r_iinc (v := (v3 + (1 : Int32))) X dX7_bodyFrom_23 2 rfl (congrArg _ ci_1) (by decide) (lv' := [(3, .int (v3 + (1 : Int32))), (2, .int r20), (1, .int v1)]) rfl ?_
        refine r_goto (tgt := 4) X dX7_bodyFrom_26 (by decide) ?_
        refine r_sub [2, 1, 0] rfl ?_
        exact hk4c v1 r20 (v3 + (1 : Int32)) σ21 hf
theorem tl_X7_bodyFrom_4 {l : Launch} {G : GX} {K : KX} (X : FX G K cX7_bodyFrom RX7 (some .int) wsX7_bodyFrom 4) {Φ : Int32 → MM → Prop} (hR : Ri G K Φ) : ∀ (m : Nat) (v1 : Int32) (v2 : Int32) (v3 : Int32) (σ : MM), Ok Φ (itr (fun _ _ _ _ => none) (u_X7_bodyFrom_4) m v1 v2 v3 σ) → V l G 4 K 4 4 [(1, .int v1), (2, .int v2), (3, .int v3)] [] σ := by
  intro m
  induction m with
  | zero => intro v1 v2 v3 σ hf; exact (okx hf).elim
  | succ m ih => intro v1 v2 v3 σ hf; exact t_X7_bodyFrom_4 X hR _ ih v1 v2 v3 σ hf
set_option maxRecDepth 100000 in
set_option maxHeartbeats 4000000 in
theorem e_X7_bodyFrom {l : Launch} {G : GX} {K : KX} (X : FX G K cX7_bodyFrom RX7 (some .int) wsX7_bodyFrom 4) {Φ : Int32 → MM → Prop} (hR : Ri G K Φ) (a0 : Int32) (a1 : Int32) (σ : MM) (hf : Ok Φ (f_X7_bodyFrom a0 a1 σ)) : V l G 4 K 4 0 [(0, .int a0), (1, .int a1)] [] σ := by
    unfold f_X7_bodyFrom at hf
    refine r_iload_n X dX7_bodyFrom_0 0 rfl ?_
    refine r_istore_n X dX7_bodyFrom_1 (i := 2) rfl (by decide) (lv' := [(2, .int a0), (0, .int a0), (1, .int a1)]) rfl ?_
    refine r_iconst X dX7_bodyFrom_2 ci_0 ?_
    refine r_istore_n X dX7_bodyFrom_3 (i := 3) rfl (by decide) (lv' := [(3, .int (0 : Int32)), (2, .int a0), (0, .int a0), (1, .int a1)]) rfl ?_
    refine r_sub [3, 1, 0] rfl ?_
    exact tl_X7_bodyFrom_4 X hR FU a1 a0 (0 : Int32) σ hf
theorem md_X7_bodyFrom : MD yX7_bodyFrom wsX7_bodyFrom cX7_bodyFrom 4 2 (some .int) := ⟨⟨_, rfl⟩, by decide +kernel, by decide +kernel, by decide⟩
theorem c_X7_bodyFrom (l : Launch) (G : GX)  (a0 : Int32) (a1 : Int32) (σ : MM) (h : (f_X7_bodyFrom a0 a1 σ).isSome = true) : CTi l G yX7_bodyFrom wsX7_bodyFrom 4 [.int a0, .int a1] σ (f_X7_bodyFrom a0 a1 σ) :=
  CTi_of md_X7_bodyFrom (Nat.le_of_ble_eq_true rfl) (fun K X hR => e_X7_bodyFrom X hR a0 a1 σ (ok_is h))
-- X7_note
theorem in_X7_note_7 : ∀ w ∈ u_ws RX7 TX7 6, w ∈ wsX7_note := fun _ h => List.mem_cons_of_mem _ (List.mem_append_right _ h)
def f_X7_note (a1 : Int32) (σ : MM) : Option (Unit × MM) :=
  if (σ 113 0) < 0 then some ((), σ) else if (30 : Int32) ≤ (σ 113 0) then some ((), σ) else if (σ 113 0) < 0 ∨ 30 ≤ (σ 113 0).toNatClampNeg then none else lt (mu σ 114 ((σ 113 0).toNatClampNeg) a1) (fun σ11 => lt (mu σ11 113 0 ((σ11 113 0) + (1 : Int32))) (fun σ13 => some ((), σ13)))
set_option maxRecDepth 100000 in
set_option maxHeartbeats 4000000 in
theorem e_X7_note {l : Launch} {G : GX} {K : KX} (X : FX G K cX7_note RX7 (none) wsX7_note 2) {Φ : Unit → MM → Prop} (hR : Rv G K Φ) (a1 : Int32) (σ : MM) (hf : Ok Φ (f_X7_note a1 σ)) : V l G 3 K 2 0 [(0, .ref (G.1 113)), (1, .int a1)] [] σ := by
    unfold f_X7_note at hf
    refine r_aload_n X dX7_note_0 0 rfl isr_ref ?_
    refine r_get (i := 113) (v := .int (σ 113 0)) X in_X7_note_7 rfl 0 (by decide) (kd_in kc_113 (by decide)) (EE_7 _ kc_113) rfl (mem_ix 1 rfl) dX7_note_1 ?_
    refine r_if_lt (tgt := 39) X dX7_note_4 (by decide) (fun h8 => ?_) (fun h8 => ?_)
    · replace hf := okt h8 hf
      exact r_vret X rfl hR (ok0 hf) dX7_note_39
    · replace hf := okf h8 hf
      refine r_aload_n X dX7_note_7 0 rfl isr_ref ?_
      refine r_get (i := 113) (v := .int (σ 113 0)) X in_X7_note_7 rfl 0 (by decide) (kd_in kc_113 (by decide)) (EE_7 _ kc_113) rfl (mem_ix 1 rfl) dX7_note_8 ?_
      refine r_aload_n X dX7_note_11 0 rfl isr_ref ?_
      refine r_get (i := 113) (v := .ref (G.1 114)) X in_X7_note_7 rfl 2 (by decide) (kd_in kc_113 (by decide)) (EE_7 _ kc_113) rfl (mem_ix 2 rfl) dX7_note_12 ?_
      refine r_alen (i := 114) (t := 0) (v := (30 : Int32)) X (kd_in kc_114 (by decide)) (EE_22 _ kc_114) rfl (by decide) dX7_note_15 ?_
      refine r_icmp_ge (tgt := 39) X dX7_note_16 (by decide) (fun h9 => ?_) (fun h9 => ?_)
      · replace hf := okt h9 hf
        exact r_vret X rfl hR (ok0 hf) dX7_note_39
      · replace hf := okf h9 hf
        refine r_aload_n X dX7_note_19 0 rfl isr_ref ?_
        refine r_get (i := 113) (v := .ref (G.1 114)) X in_X7_note_7 rfl 2 (by decide) (kd_in kc_113 (by decide)) (EE_7 _ kc_113) rfl (mem_ix 2 rfl) dX7_note_20 ?_
        refine r_aload_n X dX7_note_23 0 rfl isr_ref ?_
        refine r_get (i := 113) (v := .int (σ 113 0)) X in_X7_note_7 rfl 0 (by decide) (kd_in kc_113 (by decide)) (EE_7 _ kc_113) rfl (mem_ix 1 rfl) dX7_note_24 ?_
        refine r_iload_n X dX7_note_27 1 rfl ?_
        obtain ⟨g10, hf⟩ := okg hf
        obtain ⟨σ11, e12, hf⟩ := okl hf
        refine r_iast (i := 114) (jn := (σ 113 0).toNatClampNeg) X (kd_in kc_114 (by decide)) (fun _ => EE_22 _ kc_114) rfl g10 dX7_note_28 ?_
        refine r_sg e12 ?_
        refine r_aload_n X dX7_note_29 0 rfl isr_ref ?_
        refine r_dup X dX7_note_30 rfl ?_
        refine r_get (i := 113) (v := .int (σ11 113 0)) X in_X7_note_7 rfl 0 (by decide) (kd_in kc_113 (by decide)) (EE_7 _ kc_113) rfl (mem_ix 1 rfl) dX7_note_31 ?_
        refine r_iconst X dX7_note_34 ci_1 ?_
        refine r_iadd X dX7_note_35 ?_
        obtain ⟨σ13, e14, hf⟩ := okl hf
        refine r_put (i := 113) (f := upd (σ11 113) 0 ((σ11 113 0) + (1 : Int32))) X in_X7_note_7 tyX7 tyX7_ok nmX7 rfl 0 (by decide) (kd_in kc_113 (by decide)) (EE_7 _ kc_113) (EU_7_0 _ _ kc_113) rfl (mem_ix 1 rfl) rfl rfl rfl rfl dX7_note_36 ?_
        refine r_sg e14 ?_
        exact r_vret X rfl hR (ok0 hf) dX7_note_39
theorem md_X7_note : MD yX7_note wsX7_note cX7_note 2 1 (none) := ⟨⟨_, rfl⟩, by decide +kernel, by decide +kernel, by decide⟩
theorem c_X7_note (l : Launch) (G : GX)  (a1 : Int32) (σ : MM) (h : (f_X7_note a1 σ).isSome = true) : CTv l G yX7_note wsX7_note 3 [.ref (G.1 113), .int a1] σ (f_X7_note a1 σ) :=
  CTv_of md_X7_note (Nat.le_of_ble_eq_true rfl) (fun K X hR => e_X7_note X hR a1 σ (ok_is h))
-- X7_part
theorem in_X7_part_7 : ∀ w ∈ u_ws RX7 TX7 6, w ∈ wsX7_part := fun _ h => List.mem_cons_of_mem _ (List.mem_append_right _ h)
def f_X7_part (a1 : Int32) (σ : MM) : Option (Int32 × MM) :=
  if ((σ 113 4) - (σ 113 5)) = 0 then lt (mu σ 113 1 (1 : Int32)) (fun σ7 => some ((0 : Int32), σ7)) else if ((σ 113 4) - (σ 113 5)) = 0 then none else some ((a1 / ((σ 113 4) - (σ 113 5))), σ)
set_option maxRecDepth 100000 in
set_option maxHeartbeats 4000000 in
theorem e_X7_part {l : Launch} {G : GX} {K : KX} (X : FX G K cX7_part RX7 (some .int) wsX7_part 3) {Φ : Int32 → MM → Prop} (hR : Ri G K Φ) (a1 : Int32) (σ : MM) (hf : Ok Φ (f_X7_part a1 σ)) : V l G 3 K 3 0 [(0, .ref (G.1 113)), (1, .int a1)] [] σ := by
    unfold f_X7_part at hf
    refine r_aload_n X dX7_part_0 0 rfl isr_ref ?_
    refine r_get (i := 113) (v := .int (σ 113 4)) X in_X7_part_7 rfl 4 (by decide) (kd_in kc_113 (by decide)) (EE_7 _ kc_113) rfl (mem_ix 1 rfl) dX7_part_1 ?_
    refine r_aload_n X dX7_part_4 0 rfl isr_ref ?_
    refine r_get (i := 113) (v := .int (σ 113 5)) X in_X7_part_7 rfl 5 (by decide) (kd_in kc_113 (by decide)) (EE_7 _ kc_113) rfl (mem_ix 2 rfl) dX7_part_5 ?_
    refine r_isub X dX7_part_8 ?_
    refine r_istore_n X dX7_part_9 (i := 2) rfl (by decide) (lv' := [(2, .int ((σ 113 4) - (σ 113 5))), (0, .ref (G.1 113)), (1, .int a1)]) rfl ?_
    refine r_iload_n X dX7_part_10 0 rfl ?_
    refine r_if_ne (tgt := 21) X dX7_part_11 (by decide) (fun h5 => ?_) (fun h5 => ?_)
    · replace hf := okf h5 hf
      refine r_iload_n X dX7_part_21 2 rfl ?_
      refine r_iload_n X dX7_part_22 0 rfl ?_
      obtain ⟨g6, hf⟩ := okg hf
      refine r_idiv X dX7_part_23 g6 ?_
      exact r_iret X rfl hR (ok0 hf) dX7_part_24
    · replace hf := okt h5 hf
      refine r_aload_n X dX7_part_14 1 rfl isr_ref ?_
      refine r_iconst X dX7_part_15 ci_1 ?_
      obtain ⟨σ7, e8, hf⟩ := okl hf
      refine r_put (i := 113) (f := upd (σ 113) 1 (1 : Int32)) X in_X7_part_7 tyX7 tyX7_ok nmX7 rfl 1 (by decide) (kd_in kc_113 (by decide)) (EE_7 _ kc_113) (EU_7_1 _ _ kc_113) rfl (mem_ix 3 rfl) rfl rfl rfl rfl dX7_part_16 ?_
      refine r_sg e8 ?_
      refine r_iconst X dX7_part_19 ci_0 ?_
      exact r_iret X rfl hR (ok0 hf) dX7_part_20
theorem md_X7_part : MD yX7_part wsX7_part cX7_part 3 1 (some .int) := ⟨⟨_, rfl⟩, by decide +kernel, by decide +kernel, by decide⟩
theorem c_X7_part (l : Launch) (G : GX)  (a1 : Int32) (σ : MM) (h : (f_X7_part a1 σ).isSome = true) : CTi l G yX7_part wsX7_part 3 [.ref (G.1 113), .int a1] σ (f_X7_part a1 σ) :=
  CTi_of md_X7_part (Nat.le_of_ble_eq_true rfl) (fun K X hR => e_X7_part X hR a1 σ (ok_is h))
theorem md_X7_begin : MD yX7_begin wsX7_begin cX7_begin 4 3 (some .int) := ⟨⟨_, rfl⟩, by decide +kernel, by decide +kernel, by decide⟩
-- X7_own
theorem in_X7_own_7 : ∀ w ∈ u_ws RX7 TX7 6, w ∈ wsX7_own := fun _ h => List.mem_cons_of_mem _ (List.mem_append_right _ h)
def f_X7_own (bg : Int32 → Int32 → Int32 → MM → Option (Int32 × MM)) (a1 : Int32) (a2 : Int32) (a3 : Int32) (σ : MM) : Option (Int32 × MM) :=
  bd (f_X7_bodyFrom (σ 113 3) a1 σ) (fun r7 σ8 => bd (bg r7 a2 (a3 + (1 : Int32)) σ8) (fun r10 σ11 => some (r10, σ11)))
set_option maxRecDepth 100000 in
set_option maxHeartbeats 4000000 in
theorem e_X7_own {l : Launch} {G : GX} {n0 : Nat} {K : KX} (X : FX G K cX7_own RX7 (some .int) wsX7_own 4) {Φ : Int32 → MM → Prop} (hR : Ri G K Φ) (bg : Int32 → Int32 → Int32 → MM → Option (Int32 × MM)) (hbg : ∀ (b1 b2 b3 : Int32) (σ : MM), (bg b1 b2 b3 σ).isSome = true → CTi l G yX7_begin wsX7_begin n0 [.ref (G.1 113), .int b1, .int b2, .int b3] σ (bg b1 b2 b3 σ)) (hn0 : 4 ≤ n0) (a1 : Int32) (a2 : Int32) (a3 : Int32) (σ : MM) (hf : Ok Φ (f_X7_own bg a1 a2 a3 σ)) : V l G (n0 + 1) K 4 0 [(0, .ref (G.1 113)), (1, .int a1), (2, .int a2), (3, .int a3)] [] σ := by
    unfold f_X7_own at hf
    refine r_aload_n X dX7_own_0 0 rfl isr_ref ?_
    refine r_aload_n X dX7_own_1 0 rfl isr_ref ?_
    refine r_get (i := 113) (v := .int (σ 113 3)) X in_X7_own_7 rfl 3 (by decide) (kd_in kc_113 (by decide)) (EE_7 _ kc_113) rfl (mem_ix 1 rfl) dX7_own_2 ?_
    refine r_iload_n X dX7_own_5 1 rfl ?_
    refine r_callSi (rest := [.ref (G.1 113)]) X (c_X7_bodyFrom l G (σ 113 3) a1 σ (oks hf)) md_X7_bodyFrom gX7_own_X7_bodyFrom (by omega) rfl rfl (Nat.le_of_ble_eq_true rfl) dX7_own_6 (fun r7 σ8 e9 => ?_)
    replace hf := okn e9 hf
    refine r_iload_n X dX7_own_9 2 rfl ?_
    refine r_iload_n X dX7_own_10 3 rfl ?_
    refine r_iconst X dX7_own_11 ci_1 ?_
    refine r_iadd X dX7_own_12 ?_
    refine r_callVi (rest := []) X (hbg r7 a2 (a3 + (1 : Int32)) σ8 (oks hf)) md_X7_begin gX7_own_X7_begin (by omega) rfl rfl (kd_in kc_113 (by decide)) (EE_7 _ kc_113) rfl rfl (Nat.le_of_ble_eq_true rfl) dX7_own_13 (fun r10 σ11 e12 => ?_)
    replace hf := okn e12 hf
    exact r_iret X rfl hR (ok0 hf) dX7_own_16
theorem md_X7_own : MD yX7_own wsX7_own cX7_own 4 3 (some .int) := ⟨⟨_, rfl⟩, by decide +kernel, by decide +kernel, by decide⟩
theorem c_X7_own (l : Launch) (G : GX) {n0 : Nat} (bg : Int32 → Int32 → Int32 → MM → Option (Int32 × MM)) (hbg : ∀ (b1 b2 b3 : Int32) (σ : MM), (bg b1 b2 b3 σ).isSome = true → CTi l G yX7_begin wsX7_begin n0 [.ref (G.1 113), .int b1, .int b2, .int b3] σ (bg b1 b2 b3 σ)) (hn0 : 4 ≤ n0) (a1 : Int32) (a2 : Int32) (a3 : Int32) (σ : MM) (h : (f_X7_own bg a1 a2 a3 σ).isSome = true) : CTi l G yX7_own wsX7_own (n0 + 1) [.ref (G.1 113), .int a1, .int a2, .int a3] σ (f_X7_own bg a1 a2 a3 σ) :=
  CTi_of md_X7_own (Nat.le_of_ble_eq_true rfl) (fun K X hR => e_X7_own X hR bg hbg hn0 a1 a2 a3 σ (ok_is h))
-- X7_above
theorem in_X7_above_7 : ∀ w ∈ u_ws RX7 TX7 6, w ∈ wsX7_above := fun _ h => List.mem_cons_of_mem _ (List.mem_append_right _ h)
def f_X7_above (bg : Int32 → Int32 → Int32 → MM → Option (Int32 × MM)) (a1 : Int32) (a2 : Int32) (a3 : Int32) (a4 : Int32) (σ : MM) : Option (Int32 × MM) :=
  bd (f_X8_kindAbove ((a1 / (10 : Int32)) - (1 : Int32)) σ) (fun r10 σ11 => bd (f_X7_bodyFrom r10 a2 σ11) (fun r13 σ14 => bd (bg r13 a3 (a4 + (1 : Int32)) σ14) (fun r16 σ17 => some (r16, σ17))))
set_option maxRecDepth 100000 in
set_option maxHeartbeats 4000000 in
theorem e_X7_above {l : Launch} {G : GX} {n0 : Nat} {K : KX} (X : FX G K cX7_above RX7 (some .int) wsX7_above 5) {Φ : Int32 → MM → Prop} (hR : Ri G K Φ) (bg : Int32 → Int32 → Int32 → MM → Option (Int32 × MM)) (hbg : ∀ (b1 b2 b3 : Int32) (σ : MM), (bg b1 b2 b3 σ).isSome = true → CTi l G yX7_begin wsX7_begin n0 [.ref (G.1 113), .int b1, .int b2, .int b3] σ (bg b1 b2 b3 σ)) (hn0 : 4 ≤ n0) (a1 : Int32) (a2 : Int32) (a3 : Int32) (a4 : Int32) (σ : MM) (hf : Ok Φ (f_X7_above bg a1 a2 a3 a4 σ)) : V l G (n0 + 1) K 5 0 [(0, .ref (G.1 113)), (1, .int a1), (2, .int a2), (3, .int a3), (4, .int a4)] [] σ := by
    unfold f_X7_above at hf
    refine r_aload_n X dX7_above_0 0 rfl isr_ref ?_
    refine r_iload_n X dX7_above_1 1 rfl ?_
    refine r_bipush X dX7_above_2 cb_10 ?_
    refine r_idiv X dX7_above_4 (by decide) ?_
    refine r_iconst X dX7_above_5 ci_1 ?_
    refine r_isub X dX7_above_6 ?_
    refine r_n_kindAbove (rest := [.ref (G.1 113)]) X rfl (c_X8_kindAbove l G ((a1 / (10 : Int32)) - (1 : Int32)) σ (oks hf)) md_X8_kindAbove gX7_above_X8_kindAbove_n48 (mem_ix 2 rfl) (mem_ix 1 rfl) (by omega) rfl rfl (Nat.le_of_ble_eq_true rfl) dX7_above_7 (fun r10 σ11 e12 => ?_)
    replace hf := okn e12 hf
    refine r_iload_n X dX7_above_10 2 rfl ?_
    refine r_callSi (rest := [.ref (G.1 113)]) X (c_X7_bodyFrom l G r10 a2 σ11 (oks hf)) md_X7_bodyFrom gX7_above_X7_bodyFrom (by omega) rfl rfl (Nat.le_of_ble_eq_true rfl) dX7_above_11 (fun r13 σ14 e15 => ?_)
    replace hf := okn e15 hf
    refine r_iload_n X dX7_above_14 3 rfl ?_
    refine r_iload X dX7_above_15 4 rfl ?_
    refine r_iconst X dX7_above_17 ci_1 ?_
    refine r_iadd X dX7_above_18 ?_
    refine r_callVi (rest := []) X (hbg r13 a3 (a4 + (1 : Int32)) σ14 (oks hf)) md_X7_begin gX7_above_X7_begin (by omega) rfl rfl (kd_in kc_113 (by decide)) (EE_7 _ kc_113) rfl rfl (Nat.le_of_ble_eq_true rfl) dX7_above_19 (fun r16 σ17 e18 => ?_)
    replace hf := okn e18 hf
    exact r_iret X rfl hR (ok0 hf) dX7_above_22
theorem md_X7_above : MD yX7_above wsX7_above cX7_above 5 4 (some .int) := ⟨⟨_, rfl⟩, by decide +kernel, by decide +kernel, by decide⟩
theorem c_X7_above (l : Launch) (G : GX) {n0 : Nat} (bg : Int32 → Int32 → Int32 → MM → Option (Int32 × MM)) (hbg : ∀ (b1 b2 b3 : Int32) (σ : MM), (bg b1 b2 b3 σ).isSome = true → CTi l G yX7_begin wsX7_begin n0 [.ref (G.1 113), .int b1, .int b2, .int b3] σ (bg b1 b2 b3 σ)) (hn0 : 4 ≤ n0) (a1 : Int32) (a2 : Int32) (a3 : Int32) (a4 : Int32) (σ : MM) (h : (f_X7_above bg a1 a2 a3 a4 σ).isSome = true) : CTi l G yX7_above wsX7_above (n0 + 1) [.ref (G.1 113), .int a1, .int a2, .int a3, .int a4] σ (f_X7_above bg a1 a2 a3 a4 σ) :=
  CTi_of md_X7_above (Nat.le_of_ble_eq_true rfl) (fun K X hR => e_X7_above X hR bg hbg hn0 a1 a2 a3 a4 σ (ok_is h))
-- X7_begin
theorem in_X7_begin_7 : ∀ w ∈ u_ws RX7 TX7 6, w ∈ wsX7_begin := fun _ h => List.mem_cons_of_mem _ (List.mem_append_right _ h)
def g_X7_begin (bg : Int32 → Int32 → Int32 → MM → Option (Int32 × MM)) (a1 : Int32) (a2 : Int32) (a3 : Int32) (σ : MM) : Option (Int32 × MM) :=
  if (σ 113 1) = 0 then if a3 ≤ (30 : Int32) then bd (f_X7_note a1 σ) (fun r57 σ58 => if a1 = (10 : Int32) then some ((a2 + (σ58 113 5)), σ58) else if a1 = (11 : Int32) then bd (f_X7_own bg (0 : Int32) a2 a3 σ58) (fun r73 σ74 => some ((r73 * (2 : Int32)), σ74)) else if a1 = (12 : Int32) then bd (f_X7_own bg (1 : Int32) a2 a3 σ58) (fun r76 σ77 => some ((r76 - (σ77 113 4)), σ77)) else if a1 = (13 : Int32) then bd (f_X7_part a2 σ58) (fun r79 σ80 => some (r79, σ80)) else if a1 = (20 : Int32) then bd (f_X7_above bg a1 (0 : Int32) a2 a3 σ58) (fun r82 σ83 => some ((r82 - (4 : Int32)), σ83)) else if a1 = (21 : Int32) then bd (f_X7_above bg a1 (3 : Int32) a2 a3 σ58) (fun r85 σ86 => bd (f_X7_own bg (1 : Int32) (1 : Int32) a3 σ86) (fun r88 σ89 => some ((r85 + r88), σ89))) else if a1 = (30 : Int32) then bd (f_X7_above bg a1 (1 : Int32) a2 a3 σ58) (fun r91 σ92 => some (((0 : Int32) - r91), σ92)) else if a1 = (40 : Int32) then bd (f_X7_above bg a1 (2 : Int32) (a2 / (2 : Int32)) a3 σ58) (fun r94 σ95 => some (r94, σ95)) else if a1 = (50 : Int32) then bd (f_X7_above bg a1 (0 : Int32) a2 a3 σ58) (fun r97 σ98 => some ((r97 * (3 : Int32)), σ98)) else if a1 = (51 : Int32) then bd (f_X7_above bg a1 (2 : Int32) a2 a3 σ58) (fun r100 σ101 => some ((r100 ^^^ (σ101 113 5)), σ101)) else if a1 = (60 : Int32) then bd (f_X7_above bg a1 (1 : Int32) (a2 + (1 : Int32)) a3 σ58) (fun r103 σ104 => some (r103, σ104)) else if a1 = (70 : Int32) then some ((9 : Int32), σ58) else if a1 = (71 : Int32) then bd (f_X7_above bg a1 (1 : Int32) a2 a3 σ58) (fun r106 σ107 => some ((r106 + (σ107 113 4)), σ107)) else some ((0 : Int32), σ58)) else some ((0 : Int32), σ) else some ((0 : Int32), σ)
set_option maxRecDepth 100000 in
set_option maxHeartbeats 4000000 in
theorem e_X7_begin {l : Launch} {G : GX} {n0 : Nat} {K : KX} (X : FX G K cX7_begin RX7 (some .int) wsX7_begin 4) {Φ : Int32 → MM → Prop} (hR : Ri G K Φ) (bg : Int32 → Int32 → Int32 → MM → Option (Int32 × MM)) (hbg : ∀ (b1 b2 b3 : Int32) (σ : MM), (bg b1 b2 b3 σ).isSome = true → CTi l G yX7_begin wsX7_begin n0 [.ref (G.1 113), .int b1, .int b2, .int b3] σ (bg b1 b2 b3 σ)) (hn0 : 4 ≤ n0) (a1 : Int32) (a2 : Int32) (a3 : Int32) (σ : MM) (hf : Ok Φ (g_X7_begin bg a1 a2 a3 σ)) : V l G (n0 + 2) K 4 0 [(0, .ref (G.1 113)), (1, .int a1), (2, .int a2), (3, .int a3)] [] σ := by
    unfold g_X7_begin at hf
    refine r_aload_n X dX7_begin_0 0 rfl isr_ref ?_
    refine r_get (i := 113) (v := .int (σ 113 1)) X in_X7_begin_7 rfl 1 (by decide) (kd_in kc_113 (by decide)) (EE_7 _ kc_113) rfl (mem_ix 1 rfl) dX7_begin_1 ?_
    refine r_if_ne (tgt := 13) X dX7_begin_4 (by decide) (fun h55 => ?_) (fun h55 => ?_)
    · replace hf := okf h55 hf
      refine r_iconst X dX7_begin_13 ci_0 ?_
      exact r_iret X rfl hR (ok0 hf) dX7_begin_14
    · replace hf := okt h55 hf
      refine r_iload_n X dX7_begin_7 3 rfl ?_
      refine r_bipush X dX7_begin_8 cb_30 ?_
      refine r_icmp_le (tgt := 15) X dX7_begin_10 (by decide) (fun h56 => ?_) (fun h56 => ?_)
      · replace hf := okt h56 hf
        refine r_aload_n X dX7_begin_15 0 rfl isr_ref ?_
        refine r_iload_n X dX7_begin_16 1 rfl ?_
        refine r_callVv (rest := []) X (c_X7_note l G a1 σ (oks hf)) md_X7_note gX7_begin_X7_note (by omega) rfl rfl (kd_in kc_113 (by decide)) (EE_7 _ kc_113) rfl rfl (Nat.le_of_ble_eq_true rfl) dX7_begin_17 (fun r57 σ58 e59 => ?_)
        replace hf := okn e59 hf
        refine r_iload_n X dX7_begin_20 1 rfl ?_
        by_cases h60 : a1 = (10 : Int32)
        · replace hf := okt h60 hf
          refine r_lookup (off := 115) (tgt := 136) X dX7_begin_21 (by decide +kernel) (by rw [h60]; rfl) (by decide) ?_
          refine r_iload_n X dX7_begin_136 2 rfl ?_
          refine r_aload_n X dX7_begin_137 0 rfl isr_ref ?_
          refine r_get (i := 113) (v := .int (σ58 113 5)) X in_X7_begin_7 rfl 5 (by decide) (kd_in kc_113 (by decide)) (EE_7 _ kc_113) rfl (mem_ix 2 rfl) dX7_begin_138 ?_
          refine r_iadd X dX7_begin_141 ?_
          exact r_iret X rfl hR (ok0 hf) dX7_begin_142
        replace hf := okf h60 hf
        by_cases h61 : a1 = (11 : Int32)
        · replace hf := okt h61 hf
          refine r_lookup (off := 122) (tgt := 143) X dX7_begin_21 (by decide +kernel) (by rw [h61]; rfl) (by decide) ?_
          refine r_aload_n X dX7_begin_143 0 rfl isr_ref ?_
          refine r_iconst X dX7_begin_144 ci_0 ?_
          refine r_iload_n X dX7_begin_145 2 rfl ?_
          refine r_iload_n X dX7_begin_146 3 rfl ?_
          refine r_callVi (rest := []) X (c_X7_own l G bg hbg hn0 (0 : Int32) a2 a3 σ58 (oks hf)) md_X7_own gX7_begin_X7_own (by omega) rfl rfl (kd_in kc_113 (by decide)) (EE_7 _ kc_113) rfl rfl (Nat.le_of_ble_eq_true rfl) dX7_begin_147 (fun r73 σ74 e75 => ?_)
          replace hf := okn e75 hf
          refine r_iconst X dX7_begin_150 ci_2 ?_
          refine r_imul X dX7_begin_151 ?_
          exact r_iret X rfl hR (ok0 hf) dX7_begin_152
        replace hf := okf h61 hf
        by_cases h62 : a1 = (12 : Int32)
        · replace hf := okt h62 hf
          refine r_lookup (off := 132) (tgt := 153) X dX7_begin_21 (by decide +kernel) (by rw [h62]; rfl) (by decide) ?_
          refine r_aload_n X dX7_begin_153 0 rfl isr_ref ?_
          refine r_iconst X dX7_begin_154 ci_1 ?_
          refine r_iload_n X dX7_begin_155 2 rfl ?_
          refine r_iload_n X dX7_begin_156 3 rfl ?_
          refine r_callVi (rest := []) X (c_X7_own l G bg hbg hn0 (1 : Int32) a2 a3 σ58 (oks hf)) md_X7_own gX7_begin_X7_own (by omega) rfl rfl (kd_in kc_113 (by decide)) (EE_7 _ kc_113) rfl rfl (Nat.le_of_ble_eq_true rfl) dX7_begin_157 (fun r76 σ77 e78 => ?_)
          replace hf := okn e78 hf
          refine r_aload_n X dX7_begin_160 0 rfl isr_ref ?_
          refine r_get (i := 113) (v := .int (σ77 113 4)) X in_X7_begin_7 rfl 4 (by decide) (kd_in kc_113 (by decide)) (EE_7 _ kc_113) rfl (mem_ix 3 rfl) dX7_begin_161 ?_
          refine r_isub X dX7_begin_164 ?_
          exact r_iret X rfl hR (ok0 hf) dX7_begin_165
        replace hf := okf h62 hf
        by_cases h63 : a1 = (13 : Int32)
        · replace hf := okt h63 hf
          refine r_lookup (off := 145) (tgt := 166) X dX7_begin_21 (by decide +kernel) (by rw [h63]; rfl) (by decide) ?_
          refine r_aload_n X dX7_begin_166 0 rfl isr_ref ?_
          refine r_iload_n X dX7_begin_167 2 rfl ?_
          refine r_callVi (rest := []) X (c_X7_part l G a2 σ58 (oks hf)) md_X7_part gX7_begin_X7_part (by omega) rfl rfl (kd_in kc_113 (by decide)) (EE_7 _ kc_113) rfl rfl (Nat.le_of_ble_eq_true rfl) dX7_begin_168 (fun r79 σ80 e81 => ?_)
          replace hf := okn e81 hf
          exact r_iret X rfl hR (ok0 hf) dX7_begin_171
        replace hf := okf h63 hf
        by_cases h64 : a1 = (20 : Int32)
        · replace hf := okt h64 hf
          refine r_lookup (off := 151) (tgt := 172) X dX7_begin_21 (by decide +kernel) (by rw [h64]; rfl) (by decide) ?_
          refine r_aload_n X dX7_begin_172 0 rfl isr_ref ?_
          refine r_iload_n X dX7_begin_173 1 rfl ?_
          refine r_iconst X dX7_begin_174 ci_0 ?_
          refine r_iload_n X dX7_begin_175 2 rfl ?_
          refine r_iload_n X dX7_begin_176 3 rfl ?_
          refine r_callVi (rest := []) X (c_X7_above l G bg hbg hn0 a1 (0 : Int32) a2 a3 σ58 (oks hf)) md_X7_above gX7_begin_X7_above (by omega) rfl rfl (kd_in kc_113 (by decide)) (EE_7 _ kc_113) rfl rfl (Nat.le_of_ble_eq_true rfl) dX7_begin_177 (fun r82 σ83 e84 => ?_)
          replace hf := okn e84 hf
          refine r_iconst X dX7_begin_180 ci_4 ?_
          refine r_isub X dX7_begin_181 ?_
          exact r_iret X rfl hR (ok0 hf) dX7_begin_182
        replace hf := okf h64 hf
        by_cases h65 : a1 = (21 : Int32)
        · replace hf := okt h65 hf
          refine r_lookup (off := 162) (tgt := 183) X dX7_begin_21 (by decide +kernel) (by rw [h65]; rfl) (by decide) ?_
          refine r_aload_n X dX7_begin_183 0 rfl isr_ref ?_
          refine r_iload_n X dX7_begin_184 1 rfl ?_
          refine r_iconst X dX7_begin_185 ci_3 ?_
          refine r_iload_n X dX7_begin_186 2 rfl ?_
          refine r_iload_n X dX7_begin_187 3 rfl ?_
          refine r_callVi (rest := []) X (c_X7_above l G bg hbg hn0 a1 (3 : Int32) a2 a3 σ58 (oks hf)) md_X7_above gX7_begin_X7_above (by omega) rfl rfl (kd_in kc_113 (by decide)) (EE_7 _ kc_113) rfl rfl (Nat.le_of_ble_eq_true rfl) dX7_begin_188 (fun r85 σ86 e87 => ?_)
          replace hf := okn e87 hf
          refine r_aload_n X dX7_begin_191 0 rfl isr_ref ?_
          refine r_iconst X dX7_begin_192 ci_1 ?_
          refine r_iconst X dX7_begin_193 ci_1 ?_
          refine r_iload_n X dX7_begin_194 3 rfl ?_
          refine r_callVi (rest := [.int r85]) X (c_X7_own l G bg hbg hn0 (1 : Int32) (1 : Int32) a3 σ86 (oks hf)) md_X7_own gX7_begin_X7_own (by omega) rfl rfl (kd_in kc_113 (by decide)) (EE_7 _ kc_113) rfl rfl (Nat.le_of_ble_eq_true rfl) dX7_begin_195 (fun r88 σ89 e90 => ?_)
          replace hf := okn e90 hf
          refine r_iadd X dX7_begin_198 ?_
          exact r_iret X rfl hR (ok0 hf) dX7_begin_199
        replace hf := okf h65 hf
        by_cases h66 : a1 = (30 : Int32)
        · replace hf := okt h66 hf
          refine r_lookup (off := 179) (tgt := 200) X dX7_begin_21 (by decide +kernel) (by rw [h66]; rfl) (by decide) ?_
          refine r_iconst X dX7_begin_200 ci_0 ?_
          refine r_aload_n X dX7_begin_201 0 rfl isr_ref ?_
          refine r_iload_n X dX7_begin_202 1 rfl ?_
          refine r_iconst X dX7_begin_203 ci_1 ?_
          refine r_iload_n X dX7_begin_204 2 rfl ?_
          refine r_iload_n X dX7_begin_205 3 rfl ?_
          refine r_callVi (rest := [.int (0 : Int32)]) X (c_X7_above l G bg hbg hn0 a1 (1 : Int32) a2 a3 σ58 (oks hf)) md_X7_above gX7_begin_X7_above (by omega) rfl rfl (kd_in kc_113 (by decide)) (EE_7 _ kc_113) rfl rfl (Nat.le_of_ble_eq_true rfl) dX7_begin_206 (fun r91 σ92 e93 => ?_)
          replace hf := okn e93 hf
          refine r_isub X dX7_begin_209 ?_
          exact r_iret X rfl hR (ok0 hf) dX7_begin_210
        replace hf := okf h66 hf
        by_cases h67 : a1 = (40 : Int32)
        · replace hf := okt h67 hf
          refine r_lookup (off := 190) (tgt := 211) X dX7_begin_21 (by decide +kernel) (by rw [h67]; rfl) (by decide) ?_
          refine r_aload_n X dX7_begin_211 0 rfl isr_ref ?_
          refine r_iload_n X dX7_begin_212 1 rfl ?_
          refine r_iconst X dX7_begin_213 ci_2 ?_
          refine r_iload_n X dX7_begin_214 2 rfl ?_
          refine r_iconst X dX7_begin_215 ci_2 ?_
          refine r_idiv X dX7_begin_216 (by decide) ?_
          refine r_iload_n X dX7_begin_217 3 rfl ?_
          refine r_callVi (rest := []) X (c_X7_above l G bg hbg hn0 a1 (2 : Int32) (a2 / (2 : Int32)) a3 σ58 (oks hf)) md_X7_above gX7_begin_X7_above (by omega) rfl rfl (kd_in kc_113 (by decide)) (EE_7 _ kc_113) rfl rfl (Nat.le_of_ble_eq_true rfl) dX7_begin_218 (fun r94 σ95 e96 => ?_)
          replace hf := okn e96 hf
          exact r_iret X rfl hR (ok0 hf) dX7_begin_221
        replace hf := okf h67 hf
        by_cases h68 : a1 = (50 : Int32)
        · replace hf := okt h68 hf
          refine r_lookup (off := 201) (tgt := 222) X dX7_begin_21 (by decide +kernel) (by rw [h68]; rfl) (by decide) ?_
          refine r_aload_n X dX7_begin_222 0 rfl isr_ref ?_
          refine r_iload_n X dX7_begin_223 1 rfl ?_
          refine r_iconst X dX7_begin_224 ci_0 ?_
          refine r_iload_n X dX7_begin_225 2 rfl ?_
          refine r_iload_n X dX7_begin_226 3 rfl ?_
          refine r_callVi (rest := []) X (c_X7_above l G bg hbg hn0 a1 (0 : Int32) a2 a3 σ58 (oks hf)) md_X7_above gX7_begin_X7_above (by omega) rfl rfl (kd_in kc_113 (by decide)) (EE_7 _ kc_113) rfl rfl (Nat.le_of_ble_eq_true rfl) dX7_begin_227 (fun r97 σ98 e99 => ?_)
          replace hf := okn e99 hf
          refine r_iconst X dX7_begin_230 ci_3 ?_
          refine r_imul X dX7_begin_231 ?_
          exact r_iret X rfl hR (ok0 hf) dX7_begin_232
        replace hf := okf h68 hf
        by_cases h69 : a1 = (51 : Int32)
        · replace hf := okt h69 hf
          refine r_lookup (off := 212) (tgt := 233) X dX7_begin_21 (by decide +kernel) (by rw [h69]; rfl) (by decide) ?_
          refine r_aload_n X dX7_begin_233 0 rfl isr_ref ?_
          refine r_iload_n X dX7_begin_234 1 rfl ?_
          refine r_iconst X dX7_begin_235 ci_2 ?_
          refine r_iload_n X dX7_begin_236 2 rfl ?_
          refine r_iload_n X dX7_begin_237 3 rfl ?_
          refine r_callVi (rest := []) X (c_X7_above l G bg hbg hn0 a1 (2 : Int32) a2 a3 σ58 (oks hf)) md_X7_above gX7_begin_X7_above (by omega) rfl rfl (kd_in kc_113 (by decide)) (EE_7 _ kc_113) rfl rfl (Nat.le_of_ble_eq_true rfl) dX7_begin_238 (fun r100 σ101 e102 => ?_)
          replace hf := okn e102 hf
          refine r_aload_n X dX7_begin_241 0 rfl isr_ref ?_
          refine r_get (i := 113) (v := .int (σ101 113 5)) X in_X7_begin_7 rfl 5 (by decide) (kd_in kc_113 (by decide)) (EE_7 _ kc_113) rfl (mem_ix 2 rfl) dX7_begin_242 ?_
          refine r_ixor X dX7_begin_245 ?_
          exact r_iret X rfl hR (ok0 hf) dX7_begin_246
        replace hf := okf h69 hf
        by_cases h70 : a1 = (60 : Int32)
        · replace hf := okt h70 hf
          refine r_lookup (off := 226) (tgt := 247) X dX7_begin_21 (by decide +kernel) (by rw [h70]; rfl) (by decide) ?_
          refine r_aload_n X dX7_begin_247 0 rfl isr_ref ?_
          refine r_iload_n X dX7_begin_248 1 rfl ?_
          refine r_iconst X dX7_begin_249 ci_1 ?_
          refine r_iload_n X dX7_begin_250 2 rfl ?_
          refine r_iconst X dX7_begin_251 ci_1 ?_
          refine r_iadd X dX7_begin_252 ?_
          refine r_iload_n X dX7_begin_253 3 rfl ?_
          refine r_callVi (rest := []) X (c_X7_above l G bg hbg hn0 a1 (1 : Int32) (a2 + (1 : Int32)) a3 σ58 (oks hf)) md_X7_above gX7_begin_X7_above (by omega) rfl rfl (kd_in kc_113 (by decide)) (EE_7 _ kc_113) rfl rfl (Nat.le_of_ble_eq_true rfl) dX7_begin_254 (fun r103 σ104 e105 => ?_)
          replace hf := okn e105 hf
          exact r_iret X rfl hR (ok0 hf) dX7_begin_257
        replace hf := okf h70 hf
        by_cases h71 : a1 = (70 : Int32)
        · replace hf := okt h71 hf
          refine r_lookup (off := 237) (tgt := 258) X dX7_begin_21 (by decide +kernel) (by rw [h71]; rfl) (by decide) ?_
          refine r_bipush X dX7_begin_258 cb_9 ?_
          exact r_iret X rfl hR (ok0 hf) dX7_begin_260
        replace hf := okf h71 hf
        by_cases h72 : a1 = (71 : Int32)
        · replace hf := okt h72 hf
          refine r_lookup (off := 240) (tgt := 261) X dX7_begin_21 (by decide +kernel) (by rw [h72]; rfl) (by decide) ?_
          refine r_aload_n X dX7_begin_261 0 rfl isr_ref ?_
          refine r_iload_n X dX7_begin_262 1 rfl ?_
          refine r_iconst X dX7_begin_263 ci_1 ?_
          refine r_iload_n X dX7_begin_264 2 rfl ?_
          refine r_iload_n X dX7_begin_265 3 rfl ?_
          refine r_callVi (rest := []) X (c_X7_above l G bg hbg hn0 a1 (1 : Int32) a2 a3 σ58 (oks hf)) md_X7_above gX7_begin_X7_above (by omega) rfl rfl (kd_in kc_113 (by decide)) (EE_7 _ kc_113) rfl rfl (Nat.le_of_ble_eq_true rfl) dX7_begin_266 (fun r106 σ107 e108 => ?_)
          replace hf := okn e108 hf
          refine r_aload_n X dX7_begin_269 0 rfl isr_ref ?_
          refine r_get (i := 113) (v := .int (σ107 113 4)) X in_X7_begin_7 rfl 4 (by decide) (kd_in kc_113 (by decide)) (EE_7 _ kc_113) rfl (mem_ix 3 rfl) dX7_begin_270 ?_
          refine r_iadd X dX7_begin_273 ?_
          exact r_iret X rfl hR (ok0 hf) dX7_begin_274
        replace hf := okf h72 hf
        refine r_lookup (off := 254) (tgt := 275) X dX7_begin_21 (by decide +kernel) (lk_n h60 (by decide) (lk_n h61 (by decide) (lk_n h62 (by decide) (lk_n h63 (by decide) (lk_n h64 (by decide) (lk_n h65 (by decide) (lk_n h66 (by decide) (lk_n h67 (by decide) (lk_n h68 (by decide) (lk_n h69 (by decide) (lk_n h70 (by decide) (lk_n h71 (by decide) (lk_n h72 (by decide) rfl))))))))))))) (by decide) ?_
        refine r_iconst X dX7_begin_275 ci_0 ?_
        exact r_iret X rfl hR (ok0 hf) dX7_begin_276
      · replace hf := okf h56 hf
        refine r_iconst X dX7_begin_13 ci_0 ?_
        exact r_iret X rfl hR (ok0 hf) dX7_begin_14
theorem cg_X7_begin (l : Launch) (G : GX) {n0 : Nat} (bg : Int32 → Int32 → Int32 → MM → Option (Int32 × MM)) (hbg : ∀ (b1 b2 b3 : Int32) (σ : MM), (bg b1 b2 b3 σ).isSome = true → CTi l G yX7_begin wsX7_begin n0 [.ref (G.1 113), .int b1, .int b2, .int b3] σ (bg b1 b2 b3 σ)) (hn0 : 4 ≤ n0) (a1 : Int32) (a2 : Int32) (a3 : Int32) (σ : MM) (h : (g_X7_begin bg a1 a2 a3 σ).isSome = true) : CTi l G yX7_begin wsX7_begin (n0 + 2) [.ref (G.1 113), .int a1, .int a2, .int a3] σ (g_X7_begin bg a1 a2 a3 σ) :=
  CTi_of md_X7_begin (Nat.le_of_ble_eq_true rfl) (fun K X hR => e_X7_begin X hR bg hbg hn0 a1 a2 a3 σ (ok_is h))
def f_X7_begin (d : Nat) : Int32 → Int32 → Int32 → MM → Option (Int32 × MM) := itr (fun _ _ _ _ => none) (fun bg => g_X7_begin bg) d
theorem c_X7_begin (l : Launch) (G : GX) : ∀ (d : Nat) (b1 b2 b3 : Int32) (σ : MM), (f_X7_begin d b1 b2 b3 σ).isSome = true → CTi l G yX7_begin wsX7_begin (4 + 2 * d) [.ref (G.1 113), .int b1, .int b2, .int b3] σ (f_X7_begin d b1 b2 b3 σ) := by
  intro d
  induction d with
  | zero => intro b1 b2 b3 σ h; exact Bool.noConfusion h
  | succ d ih => intro b1 b2 b3 σ h; rw [show 4 + 2 * (d + 1) = (4 + 2 * d) + 2 by omega]; exact cg_X7_begin l G (n0 := 4 + 2 * d) (f_X7_begin d) ih (by omega) b1 b2 b3 σ h
-- X7_sound
theorem in_X7_sound_7 : ∀ w ∈ u_ws RX7 TX7 6, w ∈ wsX7_sound := fun _ h => List.mem_cons_of_mem _ (List.mem_append_left _ (List.mem_append_right _ h))
theorem in_X7_sound_2 : ∀ w ∈ u_ws RX2 TX2 4, w ∈ wsX7_sound := fun _ h => List.mem_cons_of_mem _ (List.mem_append_right _ h)
def f_X7_sound (t1 : Nat) (a2 : Int32) (a3 : Int32) (σ : MM) : Option (Int32 × MM) :=
  lt (mu σ 113 0 (0 : Int32)) (fun σ14 => lt (mu σ14 113 1 (0 : Int32)) (fun σ16 => lt (mu σ16 113 3 (σ16 t1 1)) (fun σ18 => lt (mu σ18 113 4 (σ18 t1 2)) (fun σ20 => lt (mu σ20 113 5 (σ20 t1 0)) (fun σ22 => bd (f_X7_own (f_X7_begin 12) a2 a3 (0 : Int32) σ22) (fun r24 σ25 => some (r24, σ25)))))))
set_option maxRecDepth 100000 in
set_option maxHeartbeats 4000000 in
theorem e_X7_sound {l : Launch} {G : GX} {K : KX} (X : FX G K cX7_sound RX7 (some .int) wsX7_sound 4) {Φ : Int32 → MM → Prop} (hR : Ri G K Φ) (t1 : Nat) (a2 : Int32) (a3 : Int32) (hk1 : kd t1 = 2) (σ : MM) (hf : Ok Φ (f_X7_sound t1 a2 a3 σ)) : V l G 30 K 4 0 [(0, .ref (G.1 113)), (1, .ref (G.1 t1)), (2, .int a2), (3, .int a3)] [] σ := by
    unfold f_X7_sound at hf
    refine r_aload_n X dX7_sound_0 0 rfl isr_ref ?_
    refine r_iconst X dX7_sound_1 ci_0 ?_
    obtain ⟨σ14, e15, hf⟩ := okl hf
    refine r_put (i := 113) (f := upd (σ 113) 0 (0 : Int32)) X in_X7_sound_7 tyX7 tyX7_ok nmX7 rfl 0 (by decide) (kd_in kc_113 (by decide)) (EE_7 _ kc_113) (EU_7_0 _ _ kc_113) rfl (mem_ix 1 rfl) rfl rfl rfl rfl dX7_sound_2 ?_
    refine r_sg e15 ?_
    refine r_aload_n X dX7_sound_5 0 rfl isr_ref ?_
    refine r_iconst X dX7_sound_6 ci_0 ?_
    obtain ⟨σ16, e17, hf⟩ := okl hf
    refine r_put (i := 113) (f := upd (σ14 113) 1 (0 : Int32)) X in_X7_sound_7 tyX7 tyX7_ok nmX7 rfl 1 (by decide) (kd_in kc_113 (by decide)) (EE_7 _ kc_113) (EU_7_1 _ _ kc_113) rfl (mem_ix 2 rfl) rfl rfl rfl rfl dX7_sound_7 ?_
    refine r_sg e17 ?_
    refine r_aload_n X dX7_sound_10 0 rfl isr_ref ?_
    refine r_aload_n X dX7_sound_11 1 rfl isr_ref ?_
    refine r_get (i := t1) (v := .int (σ16 t1 1)) X in_X7_sound_2 rfl 1 (by decide) (kd_in hk1 (by decide)) (EE_2 _ hk1) rfl (mem_ix 3 rfl) dX7_sound_12 ?_
    obtain ⟨σ18, e19, hf⟩ := okl hf
    refine r_put (i := 113) (f := upd (σ16 113) 3 (σ16 t1 1)) X in_X7_sound_7 tyX7 tyX7_ok nmX7 rfl 3 (by decide) (kd_in kc_113 (by decide)) (EE_7 _ kc_113) (EU_7_3 _ _ kc_113) rfl (mem_ix 4 rfl) rfl rfl rfl rfl dX7_sound_15 ?_
    refine r_sg e19 ?_
    refine r_aload_n X dX7_sound_18 0 rfl isr_ref ?_
    refine r_aload_n X dX7_sound_19 1 rfl isr_ref ?_
    refine r_get (i := t1) (v := .int (σ18 t1 2)) X in_X7_sound_2 rfl 2 (by decide) (kd_in hk1 (by decide)) (EE_2 _ hk1) rfl (mem_ix 5 rfl) dX7_sound_20 ?_
    obtain ⟨σ20, e21, hf⟩ := okl hf
    refine r_put (i := 113) (f := upd (σ18 113) 4 (σ18 t1 2)) X in_X7_sound_7 tyX7 tyX7_ok nmX7 rfl 4 (by decide) (kd_in kc_113 (by decide)) (EE_7 _ kc_113) (EU_7_4 _ _ kc_113) rfl (mem_ix 6 rfl) rfl rfl rfl rfl dX7_sound_23 ?_
    refine r_sg e21 ?_
    refine r_aload_n X dX7_sound_26 0 rfl isr_ref ?_
    refine r_aload_n X dX7_sound_27 1 rfl isr_ref ?_
    refine r_get (i := t1) (v := .int (σ20 t1 0)) X in_X7_sound_2 rfl 0 (by decide) (kd_in hk1 (by decide)) (EE_2 _ hk1) rfl (mem_ix 7 rfl) dX7_sound_28 ?_
    obtain ⟨σ22, e23, hf⟩ := okl hf
    refine r_put (i := 113) (f := upd (σ20 113) 5 (σ20 t1 0)) X in_X7_sound_7 tyX7 tyX7_ok nmX7 rfl 5 (by decide) (kd_in kc_113 (by decide)) (EE_7 _ kc_113) (EU_7_5 _ _ kc_113) rfl (mem_ix 8 rfl) rfl rfl rfl rfl dX7_sound_31 ?_
    refine r_sg e23 ?_
    refine r_aload_n X dX7_sound_34 0 rfl isr_ref ?_
    refine r_iload_n X dX7_sound_35 2 rfl ?_
    refine r_iload_n X dX7_sound_36 3 rfl ?_
    refine r_iconst X dX7_sound_37 ci_0 ?_
    refine r_callVi (rest := []) X (c_X7_own l G (n0 := 28) (f_X7_begin 12) (c_X7_begin l G 12) (by decide) a2 a3 (0 : Int32) σ22 (oks hf)) md_X7_own gX7_sound_X7_own (by decide) rfl rfl (kd_in kc_113 (by decide)) (EE_7 _ kc_113) rfl rfl (Nat.le_of_ble_eq_true rfl) dX7_sound_38 (fun r24 σ25 e26 => ?_)
    replace hf := okn e26 hf
    exact r_iret X rfl hR (ok0 hf) dX7_sound_41
theorem md_X7_sound : MD yX7_sound wsX7_sound cX7_sound 4 3 (some .int) := ⟨⟨_, rfl⟩, by decide +kernel, by decide +kernel, by decide⟩
theorem c_X7_sound (l : Launch) (G : GX)  (t1 : Nat) (a2 : Int32) (a3 : Int32) (hk1 : kd t1 = 2) (σ : MM) (h : (f_X7_sound t1 a2 a3 σ).isSome = true) : CTi l G yX7_sound wsX7_sound 30 [.ref (G.1 113), .ref (G.1 t1), .int a2, .int a3] σ (f_X7_sound t1 a2 a3 σ) :=
  CTi_of md_X7_sound (Nat.le_of_ble_eq_true rfl) (fun K X hR => e_X7_sound X hR t1 a2 a3 hk1 σ (ok_is h))
-- X7_bodyAt
theorem in_X7_bodyAt_7 : ∀ w ∈ u_ws RX7 TX7 6, w ∈ wsX7_bodyAt := fun _ h => List.mem_cons_of_mem _ (List.mem_append_right _ h)
def f_X7_bodyAt (a1 : Int32) (σ : MM) : Option (Int32 × MM) :=
  if a1 < 0 then some ((0 : Int32), σ) else if (σ 113 0) ≤ a1 then some ((0 : Int32), σ) else if (30 : Int32) ≤ a1 then some ((0 : Int32), σ) else if a1 < 0 ∨ 30 ≤ a1.toNatClampNeg then none else some ((σ 114 (a1.toNatClampNeg)), σ)
set_option maxRecDepth 100000 in
set_option maxHeartbeats 4000000 in
theorem e_X7_bodyAt {l : Launch} {G : GX} {K : KX} (X : FX G K cX7_bodyAt RX7 (some .int) wsX7_bodyAt 2) {Φ : Int32 → MM → Prop} (hR : Ri G K Φ) (a1 : Int32) (σ : MM) (hf : Ok Φ (f_X7_bodyAt a1 σ)) : V l G 3 K 2 0 [(0, .ref (G.1 113)), (1, .int a1)] [] σ := by
    unfold f_X7_bodyAt at hf
    refine r_iload_n X dX7_bodyAt_0 1 rfl ?_
    refine r_if_lt (tgt := 30) X dX7_bodyAt_1 (by decide) (fun h5 => ?_) (fun h5 => ?_)
    · replace hf := okt h5 hf
      refine r_iconst X dX7_bodyAt_30 ci_0 ?_
      exact r_iret X rfl hR (ok0 hf) dX7_bodyAt_31
    · replace hf := okf h5 hf
      refine r_iload_n X dX7_bodyAt_4 1 rfl ?_
      refine r_aload_n X dX7_bodyAt_5 0 rfl isr_ref ?_
      refine r_get (i := 113) (v := .int (σ 113 0)) X in_X7_bodyAt_7 rfl 0 (by decide) (kd_in kc_113 (by decide)) (EE_7 _ kc_113) rfl (mem_ix 1 rfl) dX7_bodyAt_6 ?_
      refine r_icmp_ge (tgt := 30) X dX7_bodyAt_9 (by decide) (fun h6 => ?_) (fun h6 => ?_)
      · replace hf := okt h6 hf
        refine r_iconst X dX7_bodyAt_30 ci_0 ?_
        exact r_iret X rfl hR (ok0 hf) dX7_bodyAt_31
      · replace hf := okf h6 hf
        refine r_iload_n X dX7_bodyAt_12 1 rfl ?_
        refine r_aload_n X dX7_bodyAt_13 0 rfl isr_ref ?_
        refine r_get (i := 113) (v := .ref (G.1 114)) X in_X7_bodyAt_7 rfl 2 (by decide) (kd_in kc_113 (by decide)) (EE_7 _ kc_113) rfl (mem_ix 2 rfl) dX7_bodyAt_14 ?_
        refine r_alen (i := 114) (t := 0) (v := (30 : Int32)) X (kd_in kc_114 (by decide)) (EE_22 _ kc_114) rfl (by decide) dX7_bodyAt_17 ?_
        refine r_icmp_ge (tgt := 30) X dX7_bodyAt_18 (by decide) (fun h7 => ?_) (fun h7 => ?_)
        · replace hf := okt h7 hf
          refine r_iconst X dX7_bodyAt_30 ci_0 ?_
          exact r_iret X rfl hR (ok0 hf) dX7_bodyAt_31
        · replace hf := okf h7 hf
          refine r_aload_n X dX7_bodyAt_21 0 rfl isr_ref ?_
          refine r_get (i := 113) (v := .ref (G.1 114)) X in_X7_bodyAt_7 rfl 2 (by decide) (kd_in kc_113 (by decide)) (EE_7 _ kc_113) rfl (mem_ix 2 rfl) dX7_bodyAt_22 ?_
          refine r_iload_n X dX7_bodyAt_25 1 rfl ?_
          obtain ⟨g8, hf⟩ := okg hf
          refine r_iald (i := 114) (jn := a1.toNatClampNeg) X (kd_in kc_114 (by decide)) (EE_22 _ kc_114) rfl g8 dX7_bodyAt_26 ?_
          refine r_goto (tgt := 31) X dX7_bodyAt_27 (by decide) ?_
          exact r_iret X rfl hR (ok0 hf) dX7_bodyAt_31
theorem md_X7_bodyAt : MD yX7_bodyAt wsX7_bodyAt cX7_bodyAt 2 1 (some .int) := ⟨⟨_, rfl⟩, by decide +kernel, by decide +kernel, by decide⟩
theorem c_X7_bodyAt (l : Launch) (G : GX)  (a1 : Int32) (σ : MM) (h : (f_X7_bodyAt a1 σ).isSome = true) : CTi l G yX7_bodyAt wsX7_bodyAt 3 [.ref (G.1 113), .int a1] σ (f_X7_bodyAt a1 σ) :=
  CTi_of md_X7_bodyAt (Nat.le_of_ble_eq_true rfl) (fun K X hR => e_X7_bodyAt X hR a1 σ (ok_is h))
-- X8_error
theorem in_X8_error_8 : ∀ w ∈ u_ws RX8 TX8 9, w ∈ wsX8_error := fun _ h => List.mem_cons_of_mem _ (List.mem_append_right _ h)
def f_X8_error (a1 : Int32) (σ : MM) : Option (Int32 × MM) :=
  bd (f_X8_within ((-1000000000 : Int32) - a1) (1 : Int32) (6 : Int32) σ) (fun r8 σ9 => if r8 = 0 then some (a1, σ9) else if ((-1000000000 : Int32) - a1) < 0 ∨ 7 ≤ ((-1000000000 : Int32) - a1).toNatClampNeg then none else lt (mu σ9 128 (((-1000000000 : Int32) - a1).toNatClampNeg) ((σ9 128 (((-1000000000 : Int32) - a1).toNatClampNeg)) + (1 : Int32))) (fun σ13 => some (a1, σ13)))
set_option maxRecDepth 100000 in
set_option maxHeartbeats 4000000 in
theorem e_X8_error {l : Launch} {G : GX} {K : KX} (X : FX G K cX8_error RX8 (some .int) wsX8_error 3) {Φ : Int32 → MM → Prop} (hR : Ri G K Φ) (a1 : Int32) (σ : MM) (hf : Ok Φ (f_X8_error a1 σ)) : V l G 4 K 3 0 [(0, .ref (G.1 108)), (1, .int a1)] [] σ := by
    unfold f_X8_error at hf
    refine r_ldcw (v := (-1000000000 : Int32)) X (mem_ix 1 rfl) dX8_error_0 ?_
    refine r_iload_n X dX8_error_3 1 rfl ?_
    refine r_isub X dX8_error_4 ?_
    refine r_istore_n X dX8_error_5 (i := 2) rfl (by decide) (lv' := [(2, .int ((-1000000000 : Int32) - a1)), (0, .ref (G.1 108)), (1, .int a1)]) rfl ?_
    refine r_iload_n X dX8_error_6 0 rfl ?_
    refine r_iconst X dX8_error_7 ci_1 ?_
    refine r_bipush X dX8_error_8 cb_6 ?_
    refine r_callSi (rest := []) X (c_X8_within l G ((-1000000000 : Int32) - a1) (1 : Int32) (6 : Int32) σ (oks hf)) md_X8_within gX8_error_X8_within (by decide) rfl rfl (Nat.le_of_ble_eq_true rfl) dX8_error_10 (fun r8 σ9 e10 => ?_)
    replace hf := okn e10 hf
    refine r_if_eq (tgt := 26) X dX8_error_13 (by decide) (fun h11 => ?_) (fun h11 => ?_)
    · replace hf := okt h11 hf
      refine r_iload_n X dX8_error_26 2 rfl ?_
      exact r_iret X rfl hR (ok0 hf) dX8_error_27
    · replace hf := okf h11 hf
      refine r_aload_n X dX8_error_16 1 rfl isr_ref ?_
      refine r_get (i := 108) (v := .ref (G.1 128)) X in_X8_error_8 rfl 7 (by decide) (kd_in kc_108 (by decide)) (EE_8 _ kc_108) rfl (mem_ix 2 rfl) dX8_error_17 ?_
      refine r_iload_n X dX8_error_20 0 rfl ?_
      refine r_dup2 X dX8_error_21 rfl rfl ?_
      obtain ⟨g12, hf⟩ := okg hf
      refine r_iald (i := 128) (jn := ((-1000000000 : Int32) - a1).toNatClampNeg) X (kd_in kc_128 (by decide)) (EE_25 _ kc_128) rfl g12 dX8_error_22 ?_
      refine r_iconst X dX8_error_23 ci_1 ?_
      refine r_iadd X dX8_error_24 ?_
      obtain ⟨σ13, e14, hf⟩ := okl hf
      refine r_iast (i := 128) (jn := ((-1000000000 : Int32) - a1).toNatClampNeg) X (kd_in kc_128 (by decide)) (fun _ => EE_25 _ kc_128) rfl g12 dX8_error_25 ?_
      refine r_sg e14 ?_
      refine r_iload_n X dX8_error_26 2 rfl ?_
      exact r_iret X rfl hR (ok0 hf) dX8_error_27
theorem md_X8_error : MD yX8_error wsX8_error cX8_error 3 1 (some .int) := ⟨⟨_, rfl⟩, by decide +kernel, by decide +kernel, by decide⟩
theorem c_X8_error (l : Launch) (G : GX)  (a1 : Int32) (σ : MM) (h : (f_X8_error a1 σ).isSome = true) : CTi l G yX8_error wsX8_error 4 [.ref (G.1 108), .int a1] σ (f_X8_error a1 σ) :=
  CTi_of md_X8_error (Nat.le_of_ble_eq_true rfl) (fun K X hR => e_X8_error X hR a1 σ (ok_is h))
-- X8_step
theorem in_X8_step_8 : ∀ w ∈ u_ws RX8 TX8 9, w ∈ wsX8_step := fun _ h => List.mem_cons_of_mem _ (List.mem_append_left _ (List.mem_append_left _ (List.mem_append_right _ h)))
theorem in_X8_step_0 : ∀ w ∈ u_ws RX0 TX0 12, w ∈ wsX8_step := fun _ h => List.mem_cons_of_mem _ (List.mem_append_left _ (List.mem_append_right _ h))
theorem in_X8_step_2 : ∀ w ∈ u_ws RX2 TX2 4, w ∈ wsX8_step := fun _ h => List.mem_cons_of_mem _ (List.mem_append_right _ h)
def f_X8_step (a1 : Int32) (σ : MM) : Option (Int32 × MM) :=
  bd (f_X8_within a1 (0 : Int32) (69 : Int32) σ) (fun r15 σ16 => if r15 = 0 then bd (f_X8_error (-1000000001 : Int32) σ16) (fun r26 σ27 => some (r26, σ27)) else if (σ16 0 1) < (20 : Int32) then bd (f_X0_addStep 0 (a1 / (10 : Int32)) (a1 - a1 / (10 : Int32) * (10 : Int32)) σ16) (fun r20 σ21 => some (r20, σ21)) else bd (f_X8_error (-1000000004 : Int32) σ16) (fun r23 σ24 => some (r23, σ24)))
set_option maxRecDepth 100000 in
set_option maxHeartbeats 4000000 in
theorem e_X8_step {l : Launch} {G : GX} {K : KX} (X : FX G K cX8_step RX8 (some .int) wsX8_step 2) {Φ : Int32 → MM → Prop} (hR : Ri G K Φ) (a1 : Int32) (σ : MM) (hf : Ok Φ (f_X8_step a1 σ)) : V l G 5 K 2 0 [(0, .ref (G.1 108)), (1, .int a1)] [] σ := by
    unfold f_X8_step at hf
    refine r_iload_n X dX8_step_0 1 rfl ?_
    refine r_iconst X dX8_step_1 ci_0 ?_
    refine r_bipush X dX8_step_2 cb_69 ?_
    refine r_callSi (rest := []) X (c_X8_within l G a1 (0 : Int32) (69 : Int32) σ (oks hf)) md_X8_within gX8_step_X8_within (by decide) rfl rfl (Nat.le_of_ble_eq_true rfl) dX8_step_4 (fun r15 σ16 e17 => ?_)
    replace hf := okn e17 hf
    refine r_if_ne (tgt := 17) X dX8_step_7 (by decide) (fun h18 => ?_) (fun h18 => ?_)
    · replace hf := okf h18 hf
      refine r_aload_n X dX8_step_17 0 rfl isr_ref ?_
      refine r_get (i := 108) (v := .ref (G.1 0)) X in_X8_step_8 rfl 0 (by decide) (kd_in kc_108 (by decide)) (EE_8 _ kc_108) rfl (mem_ix 2 rfl) dX8_step_18 ?_
      refine r_get (i := 0) (v := .int (σ16 0 1)) X in_X8_step_0 rfl 1 (by decide) (kd_in kc_0 (by decide)) (EE_0 _ kc_0) rfl (mem_ix 3 rfl) dX8_step_21 ?_
      refine r_bipush X dX8_step_24 cb_20 ?_
      refine r_icmp_lt (tgt := 36) X dX8_step_26 (by decide) (fun h19 => ?_) (fun h19 => ?_)
      · replace hf := okt h19 hf
        refine r_aload_n X dX8_step_36 0 rfl isr_ref ?_
        refine r_get (i := 108) (v := .ref (G.1 0)) X in_X8_step_8 rfl 0 (by decide) (kd_in kc_108 (by decide)) (EE_8 _ kc_108) rfl (mem_ix 2 rfl) dX8_step_37 ?_
        refine r_iload_n X dX8_step_40 1 rfl ?_
        refine r_bipush X dX8_step_41 cb_10 ?_
        refine r_idiv X dX8_step_43 (by decide) ?_
        refine r_iload_n X dX8_step_44 1 rfl ?_
        refine r_bipush X dX8_step_45 cb_10 ?_
        refine r_irem X dX8_step_47 (by decide) ?_
        refine r_callVi (rest := []) X (c_X0_addStep l G 0 (a1 / (10 : Int32)) (a1 - a1 / (10 : Int32) * (10 : Int32)) kc_0 σ16 (oks hf)) md_X0_addStep gX8_step_X0_addStep (by decide) rfl rfl (kd_in kc_0 (by decide)) (EE_0 _ kc_0) rfl rfl (Nat.le_of_ble_eq_true rfl) dX8_step_48 (fun r20 σ21 e22 => ?_)
        replace hf := okn e22 hf
        exact r_iret X rfl hR (ok0 hf) dX8_step_51
      · replace hf := okf h19 hf
        refine r_aload_n X dX8_step_29 0 rfl isr_ref ?_
        refine r_ldc (v := (-1000000004 : Int32)) X (mem_ix 4 rfl) dX8_step_30 ?_
        refine r_callVi (rest := []) X (c_X8_error l G (-1000000004 : Int32) σ16 (oks hf)) md_X8_error gX8_step_X8_error (by decide) rfl rfl (kd_in kc_108 (by decide)) (EE_8 _ kc_108) rfl rfl (Nat.le_of_ble_eq_true rfl) dX8_step_32 (fun r23 σ24 e25 => ?_)
        replace hf := okn e25 hf
        exact r_iret X rfl hR (ok0 hf) dX8_step_35
    · replace hf := okt h18 hf
      refine r_aload_n X dX8_step_10 0 rfl isr_ref ?_
      refine r_ldc (v := (-1000000001 : Int32)) X (mem_ix 1 rfl) dX8_step_11 ?_
      refine r_callVi (rest := []) X (c_X8_error l G (-1000000001 : Int32) σ16 (oks hf)) md_X8_error gX8_step_X8_error (by decide) rfl rfl (kd_in kc_108 (by decide)) (EE_8 _ kc_108) rfl rfl (Nat.le_of_ble_eq_true rfl) dX8_step_13 (fun r26 σ27 e28 => ?_)
      replace hf := okn e28 hf
      exact r_iret X rfl hR (ok0 hf) dX8_step_16
theorem md_X8_step : MD yX8_step wsX8_step cX8_step 2 1 (some .int) := ⟨⟨_, rfl⟩, by decide +kernel, by decide +kernel, by decide⟩
theorem c_X8_step (l : Launch) (G : GX)  (a1 : Int32) (σ : MM) (h : (f_X8_step a1 σ).isSome = true) : CTi l G yX8_step wsX8_step 5 [.ref (G.1 108), .int a1] σ (f_X8_step a1 σ) :=
  CTi_of md_X8_step (Nat.le_of_ble_eq_true rfl) (fun K X hR => e_X8_step X hR a1 σ (ok_is h))
-- X8_stepIs
theorem in_X8_stepIs_8 : ∀ w ∈ u_ws RX8 TX8 9, w ∈ wsX8_stepIs := fun _ h => List.mem_cons_of_mem _ (List.mem_append_left _ (List.mem_append_left _ (List.mem_append_left _ (List.mem_append_right _ h))))
theorem in_X8_stepIs_2 : ∀ w ∈ u_ws RX2 TX2 4, w ∈ wsX8_stepIs := fun _ h => List.mem_cons_of_mem _ (List.mem_append_left _ (List.mem_append_left _ (List.mem_append_right _ h)))
theorem in_X8_stepIs_0 : ∀ w ∈ u_ws RX0 TX0 12, w ∈ wsX8_stepIs := fun _ h => List.mem_cons_of_mem _ (List.mem_append_left _ (List.mem_append_right _ h))
theorem in_X8_stepIs_6 : ∀ w ∈ u_ws RX6 TX6 3, w ∈ wsX8_stepIs := fun _ h => List.mem_cons_of_mem _ (List.mem_append_right _ h)
def u_X8_stepIs_22  (σ : MM) : Option (Int32 × MM) :=
  bd (f_X8_error (-1000000001 : Int32) σ) (fun r24 σ25 => some (r24, σ25))
def f_X8_stepIs (a1 : Int32) (a2 : Int32) (σ : MM) : Option (Int32 × MM) :=
  bd (f_X0_judgeOn 0 a1 σ) (fun r19 σ20 => onO r19 (u_X8_stepIs_22 σ20) (fun i22 => if kd i22 = 2 then bd (f_X8_within a2 (0 : Int32) (3 : Int32) σ20) (fun r27 σ28 => if r27 = 0 then u_X8_stepIs_22 σ28 else if a2 = (0 : Int32) then some ((σ28 i22 1), σ28) else if a2 = (1 : Int32) then some ((σ28 i22 2), σ28) else if a2 = (2 : Int32) then some ((σ28 i22 3), σ28) else bd (f_X0_bribeOf 0 i22 σ28) (fun r34 σ35 => some (r34, σ35))) else none))
set_option maxRecDepth 100000 in
set_option maxHeartbeats 4000000 in
theorem t_X8_stepIs_22 {l : Launch} {G : GX} {K : KX} (X : FX G K cX8_stepIs RX8 (some .int) wsX8_stepIs 4) {Φ : Int32 → MM → Prop} (hR : Ri G K Φ)  (σ : MM) (hf : Ok Φ (u_X8_stepIs_22  σ)) : V l G 7 K 4 22 [(0, .ref (G.1 108))] [] σ := by
    unfold u_X8_stepIs_22 at hf
    refine r_aload_n X dX8_stepIs_22 0 rfl isr_ref ?_
    refine r_ldc (v := (-1000000001 : Int32)) X (mem_ix 2 rfl) dX8_stepIs_23 ?_
    refine r_callVi (rest := []) X (c_X8_error l G (-1000000001 : Int32) σ (oks hf)) md_X8_error gX8_stepIs_X8_error (by decide) rfl rfl (kd_in kc_108 (by decide)) (EE_8 _ kc_108) rfl rfl (Nat.le_of_ble_eq_true rfl) dX8_stepIs_25 (fun r24 σ25 e26 => ?_)
    replace hf := okn e26 hf
    exact r_iret X rfl hR (ok0 hf) dX8_stepIs_28
set_option maxRecDepth 100000 in
set_option maxHeartbeats 4000000 in
theorem e_X8_stepIs {l : Launch} {G : GX} {K : KX} (X : FX G K cX8_stepIs RX8 (some .int) wsX8_stepIs 4) {Φ : Int32 → MM → Prop} (hR : Ri G K Φ) (a1 : Int32) (a2 : Int32) (σ : MM) (hf : Ok Φ (f_X8_stepIs a1 a2 σ)) : V l G 7 K 4 0 [(0, .ref (G.1 108)), (1, .int a1), (2, .int a2)] [] σ := by
    unfold f_X8_stepIs at hf
    refine r_aload_n X dX8_stepIs_0 0 rfl isr_ref ?_
    refine r_get (i := 108) (v := .ref (G.1 0)) X in_X8_stepIs_8 rfl 0 (by decide) (kd_in kc_108 (by decide)) (EE_8 _ kc_108) rfl (mem_ix 1 rfl) dX8_stepIs_1 ?_
    refine r_iload_n X dX8_stepIs_4 1 rfl ?_
    refine r_callVq (rest := []) X (c_X0_judgeOn l G 0 a1 kc_0 σ (oks hf)) md_X0_judgeOn gX8_stepIs_X0_judgeOn (by decide) rfl rfl (kd_in kc_0 (by decide)) (EE_0 _ kc_0) rfl rfl (Nat.le_of_ble_eq_true rfl) dX8_stepIs_5 (fun r19 σ20 e21 => ?_)
    replace hf := okn e21 hf
    rcases r19 with _ | i22
    · replace hf := okz hf
      refine r_astore_n X dX8_stepIs_8 (i := 3) rfl (by decide) isr_null (lv' := [(3, .null), (0, .ref (G.1 108)), (1, .int a1), (2, .int a2)]) rfl ?_
      refine r_aload_n X dX8_stepIs_9 0 rfl isr_null ?_
      refine r_ifnullN (tgt := 22) X dX8_stepIs_10 (by decide) ?_
      refine r_sub [1] rfl ?_
      exact t_X8_stepIs_22 X hR σ20 hf
    · replace hf := oky hf
      obtain ⟨hi23, hf⟩ := okp hf
      refine r_astore_n X dX8_stepIs_8 (i := 3) rfl (by decide) isr_ref (lv' := [(3, .ref (G.1 i22)), (0, .ref (G.1 108)), (1, .int a1), (2, .int a2)]) rfl ?_
      refine r_aload_n X dX8_stepIs_9 0 rfl isr_ref ?_
      refine r_ifnull X dX8_stepIs_10 ?_
      refine r_iload_n X dX8_stepIs_13 3 rfl ?_
      refine r_iconst X dX8_stepIs_14 ci_0 ?_
      refine r_iconst X dX8_stepIs_15 ci_3 ?_
      refine r_callSi (rest := []) X (c_X8_within l G a2 (0 : Int32) (3 : Int32) σ20 (oks hf)) md_X8_within gX8_stepIs_X8_within (by decide) rfl rfl (Nat.le_of_ble_eq_true rfl) dX8_stepIs_16 (fun r27 σ28 e29 => ?_)
      replace hf := okn e29 hf
      refine r_if_ne (tgt := 29) X dX8_stepIs_19 (by decide) (fun h30 => ?_) (fun h30 => ?_)
      · replace hf := okf h30 hf
        refine r_iload_n X dX8_stepIs_29 3 rfl ?_
        by_cases h31 : a2 = (0 : Int32)
        · replace hf := okt h31 hf
          refine r_table (off := 26) (tgt := 56) X [(0, 26), (1, 31), (2, 36)] 3 dX8_stepIs_30 (by decide) (by decide +kernel) (by decide +kernel) (by rw [h31]; rfl) (by decide) ?_
          refine r_aload_n X dX8_stepIs_56 0 rfl isr_ref ?_
          refine r_get (i := i22) (v := .int (σ28 i22 1)) X in_X8_stepIs_2 rfl 1 (by decide) (kd_in hi23 (by decide)) (EE_2 _ hi23) rfl (mem_ix 3 rfl) dX8_stepIs_57 ?_
          exact r_iret X rfl hR (ok0 hf) dX8_stepIs_60
        replace hf := okf h31 hf
        by_cases h32 : a2 = (1 : Int32)
        · replace hf := okt h32 hf
          refine r_table (off := 31) (tgt := 61) X [(0, 26), (1, 31), (2, 36)] 3 dX8_stepIs_30 (by decide) (by decide +kernel) (by decide +kernel) (by rw [h32]; rfl) (by decide) ?_
          refine r_aload_n X dX8_stepIs_61 0 rfl isr_ref ?_
          refine r_get (i := i22) (v := .int (σ28 i22 2)) X in_X8_stepIs_2 rfl 2 (by decide) (kd_in hi23 (by decide)) (EE_2 _ hi23) rfl (mem_ix 4 rfl) dX8_stepIs_62 ?_
          exact r_iret X rfl hR (ok0 hf) dX8_stepIs_65
        replace hf := okf h32 hf
        by_cases h33 : a2 = (2 : Int32)
        · replace hf := okt h33 hf
          refine r_table (off := 36) (tgt := 66) X [(0, 26), (1, 31), (2, 36)] 3 dX8_stepIs_30 (by decide) (by decide +kernel) (by decide +kernel) (by rw [h33]; rfl) (by decide) ?_
          refine r_aload_n X dX8_stepIs_66 0 rfl isr_ref ?_
          refine r_get (i := i22) (v := .int (σ28 i22 3)) X in_X8_stepIs_2 rfl 3 (by decide) (kd_in hi23 (by decide)) (EE_2 _ hi23) rfl (mem_ix 5 rfl) dX8_stepIs_67 ?_
          exact r_iret X rfl hR (ok0 hf) dX8_stepIs_70
        replace hf := okf h33 hf
        refine r_table (off := 41) (tgt := 71) X [(0, 26), (1, 31), (2, 36)] 3 dX8_stepIs_30 (by decide) (by decide +kernel) (by decide +kernel) (lk_n h31 (by decide) (lk_n h32 (by decide) (lk_n h33 (by decide) rfl))) (by decide) ?_
        refine r_aload_n X dX8_stepIs_71 1 rfl isr_ref ?_
        refine r_get (i := 108) (v := .ref (G.1 0)) X in_X8_stepIs_8 rfl 0 (by decide) (kd_in kc_108 (by decide)) (EE_8 _ kc_108) rfl (mem_ix 1 rfl) dX8_stepIs_72 ?_
        refine r_aload_n X dX8_stepIs_75 0 rfl isr_ref ?_
        refine r_callVi (rest := []) X (c_X0_bribeOf l G 0 i22 kc_0 hi23 σ28 (oks hf)) md_X0_bribeOf gX8_stepIs_X0_bribeOf (by decide) rfl rfl (kd_in kc_0 (by decide)) (EE_0 _ kc_0) rfl rfl (Nat.le_of_ble_eq_true rfl) dX8_stepIs_76 (fun r34 σ35 e36 => ?_)
        replace hf := okn e36 hf
        exact r_iret X rfl hR (ok0 hf) dX8_stepIs_79
      · replace hf := okt h30 hf
        refine r_sub [1] rfl ?_
        exact t_X8_stepIs_22 X hR σ28 hf
theorem md_X8_stepIs : MD yX8_stepIs wsX8_stepIs cX8_stepIs 4 2 (some .int) := ⟨⟨_, rfl⟩, by decide +kernel, by decide +kernel, by decide⟩
theorem c_X8_stepIs (l : Launch) (G : GX)  (a1 : Int32) (a2 : Int32) (σ : MM) (h : (f_X8_stepIs a1 a2 σ).isSome = true) : CTi l G yX8_stepIs wsX8_stepIs 7 [.ref (G.1 108), .int a1, .int a2] σ (f_X8_stepIs a1 a2 σ) :=
  CTi_of md_X8_stepIs (Nat.le_of_ble_eq_true rfl) (fun K X hR => e_X8_stepIs X hR a1 a2 σ (ok_is h))

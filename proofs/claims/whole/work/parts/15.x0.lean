-- X2_copyFrom
theorem in_X2_copyFrom_2 : ∀ w ∈ u_ws RX2 TX2 4, w ∈ wsX2_copyFrom := fun _ h => List.mem_cons_of_mem _ (List.mem_append_right _ h)
def f_X2_copyFrom (t0 : Nat) (t1 : Nat) (σ : MM) : Option (Unit × MM) :=
  lt (mu σ t0 1 (σ t1 1)) (fun σ7 => lt (mu σ7 t0 2 (σ7 t1 2)) (fun σ9 => lt (mu σ9 t0 3 (σ9 t1 3)) (fun σ11 => some ((), σ11))))
set_option maxRecDepth 100000 in
set_option maxHeartbeats 4000000 in
theorem e_X2_copyFrom {l : Launch} {G : GX} {K : KX} (X : FX G K cX2_copyFrom RX2 (none) wsX2_copyFrom 2) {Φ : Unit → MM → Prop} (hR : Rv G K Φ) (t0 : Nat) (t1 : Nat) (hk0 : kd t0 = 2) (hk1 : kd t1 = 2) (σ : MM) (hf : Ok Φ (f_X2_copyFrom t0 t1 σ)) : V l G 3 K 2 0 [(0, .ref (G.1 t0)), (1, .ref (G.1 t1))] [] σ := by
    unfold f_X2_copyFrom at hf
    refine r_aload_n X dX2_copyFrom_0 0 rfl isr_ref ?_
    refine r_aload_n X dX2_copyFrom_1 1 rfl isr_ref ?_
    refine r_get (i := t1) (v := .int (σ t1 1)) X in_X2_copyFrom_2 rfl 1 (by decide) (kd_in hk1 (by decide)) (EE_2 _ hk1) rfl (mem_ix 1 rfl) dX2_copyFrom_2 ?_
    obtain ⟨σ7, e8, hf⟩ := okl hf
    refine r_put (i := t0) (f := upd (σ t0) 1 (σ t1 1)) X in_X2_copyFrom_2 tyX2 tyX2_ok nmX2 rfl 1 (by decide) (kd_in hk0 (by decide)) (EE_2 _ hk0) (EU_2_1 _ _ hk0) rfl (mem_ix 1 rfl) rfl rfl rfl rfl dX2_copyFrom_5 ?_
    refine r_sg e8 ?_
    refine r_aload_n X dX2_copyFrom_8 0 rfl isr_ref ?_
    refine r_aload_n X dX2_copyFrom_9 1 rfl isr_ref ?_
    refine r_get (i := t1) (v := .int (σ7 t1 2)) X in_X2_copyFrom_2 rfl 2 (by decide) (kd_in hk1 (by decide)) (EE_2 _ hk1) rfl (mem_ix 2 rfl) dX2_copyFrom_10 ?_
    obtain ⟨σ9, e10, hf⟩ := okl hf
    refine r_put (i := t0) (f := upd (σ7 t0) 2 (σ7 t1 2)) X in_X2_copyFrom_2 tyX2 tyX2_ok nmX2 rfl 2 (by decide) (kd_in hk0 (by decide)) (EE_2 _ hk0) (EU_2_2 _ _ hk0) rfl (mem_ix 2 rfl) rfl rfl rfl rfl dX2_copyFrom_13 ?_
    refine r_sg e10 ?_
    refine r_aload_n X dX2_copyFrom_16 0 rfl isr_ref ?_
    refine r_aload_n X dX2_copyFrom_17 1 rfl isr_ref ?_
    refine r_get (i := t1) (v := .int (σ9 t1 3)) X in_X2_copyFrom_2 rfl 3 (by decide) (kd_in hk1 (by decide)) (EE_2 _ hk1) rfl (mem_ix 3 rfl) dX2_copyFrom_18 ?_
    obtain ⟨σ11, e12, hf⟩ := okl hf
    refine r_put (i := t0) (f := upd (σ9 t0) 3 (σ9 t1 3)) X in_X2_copyFrom_2 tyX2 tyX2_ok nmX2 rfl 3 (by decide) (kd_in hk0 (by decide)) (EE_2 _ hk0) (EU_2_3 _ _ hk0) rfl (mem_ix 3 rfl) rfl rfl rfl rfl dX2_copyFrom_21 ?_
    refine r_sg e12 ?_
    exact r_vret X rfl hR (ok0 hf) dX2_copyFrom_24
theorem md_X2_copyFrom : MD yX2_copyFrom wsX2_copyFrom cX2_copyFrom 2 1 (none) := ⟨⟨_, rfl⟩, by decide +kernel, by decide +kernel, by decide⟩
theorem c_X2_copyFrom (l : Launch) (G : GX)  (t0 : Nat) (t1 : Nat) (hk0 : kd t0 = 2) (hk1 : kd t1 = 2) (σ : MM) (h : (f_X2_copyFrom t0 t1 σ).isSome = true) : CTv l G yX2_copyFrom wsX2_copyFrom 3 [.ref (G.1 t0), .ref (G.1 t1)] σ (f_X2_copyFrom t0 t1 σ) :=
  CTv_of md_X2_copyFrom (Nat.le_of_ble_eq_true rfl) (fun K X hR => e_X2_copyFrom X hR t0 t1 hk0 hk1 σ (ok_is h))
-- X3_copyFrom
theorem in_X3_copyFrom_3 : ∀ w ∈ u_ws RX3 TX3 4, w ∈ wsX3_copyFrom := fun _ h => List.mem_cons_of_mem _ (List.mem_append_right _ h)
def f_X3_copyFrom (t0 : Nat) (t1 : Nat) (σ : MM) : Option (Unit × MM) :=
  lt (mu σ t0 0 (σ t1 0)) (fun σ9 => lt (mu σ9 t0 1 (σ9 t1 1)) (fun σ11 => lt (mu σ11 t0 2 (σ11 t1 2)) (fun σ13 => lt (mu σ13 t0 3 (σ13 t1 3)) (fun σ15 => some ((), σ15)))))
set_option maxRecDepth 100000 in
set_option maxHeartbeats 4000000 in
theorem e_X3_copyFrom {l : Launch} {G : GX} {K : KX} (X : FX G K cX3_copyFrom RX3 (none) wsX3_copyFrom 2) {Φ : Unit → MM → Prop} (hR : Rv G K Φ) (t0 : Nat) (t1 : Nat) (hk0 : kd t0 = 3) (hk1 : kd t1 = 3) (σ : MM) (hf : Ok Φ (f_X3_copyFrom t0 t1 σ)) : V l G 3 K 2 0 [(0, .ref (G.1 t0)), (1, .ref (G.1 t1))] [] σ := by
    unfold f_X3_copyFrom at hf
    refine r_aload_n X dX3_copyFrom_0 0 rfl isr_ref ?_
    refine r_aload_n X dX3_copyFrom_1 1 rfl isr_ref ?_
    refine r_get (i := t1) (v := .int (σ t1 0)) X in_X3_copyFrom_3 rfl 0 (by decide) (kd_in hk1 (by decide)) (EE_3 _ hk1) rfl (mem_ix 1 rfl) dX3_copyFrom_2 ?_
    obtain ⟨σ9, e10, hf⟩ := okl hf
    refine r_put (i := t0) (f := upd (σ t0) 0 (σ t1 0)) X in_X3_copyFrom_3 tyX3 tyX3_ok nmX3 rfl 0 (by decide) (kd_in hk0 (by decide)) (EE_3 _ hk0) (EU_3_0 _ _ hk0) rfl (mem_ix 1 rfl) rfl rfl rfl rfl dX3_copyFrom_5 ?_
    refine r_sg e10 ?_
    refine r_aload_n X dX3_copyFrom_8 0 rfl isr_ref ?_
    refine r_aload_n X dX3_copyFrom_9 1 rfl isr_ref ?_
    refine r_get (i := t1) (v := .int (σ9 t1 1)) X in_X3_copyFrom_3 rfl 1 (by decide) (kd_in hk1 (by decide)) (EE_3 _ hk1) rfl (mem_ix 2 rfl) dX3_copyFrom_10 ?_
    obtain ⟨σ11, e12, hf⟩ := okl hf
    refine r_put (i := t0) (f := upd (σ9 t0) 1 (σ9 t1 1)) X in_X3_copyFrom_3 tyX3 tyX3_ok nmX3 rfl 1 (by decide) (kd_in hk0 (by decide)) (EE_3 _ hk0) (EU_3_1 _ _ hk0) rfl (mem_ix 2 rfl) rfl rfl rfl rfl dX3_copyFrom_13 ?_
    refine r_sg e12 ?_
    refine r_aload_n X dX3_copyFrom_16 0 rfl isr_ref ?_
    refine r_aload_n X dX3_copyFrom_17 1 rfl isr_ref ?_
    refine r_get (i := t1) (v := .int (σ11 t1 2)) X in_X3_copyFrom_3 rfl 2 (by decide) (kd_in hk1 (by decide)) (EE_3 _ hk1) rfl (mem_ix 3 rfl) dX3_copyFrom_18 ?_
    obtain ⟨σ13, e14, hf⟩ := okl hf
    refine r_put (i := t0) (f := upd (σ11 t0) 2 (σ11 t1 2)) X in_X3_copyFrom_3 tyX3 tyX3_ok nmX3 rfl 2 (by decide) (kd_in hk0 (by decide)) (EE_3 _ hk0) (EU_3_2 _ _ hk0) rfl (mem_ix 3 rfl) rfl rfl rfl rfl dX3_copyFrom_21 ?_
    refine r_sg e14 ?_
    refine r_aload_n X dX3_copyFrom_24 0 rfl isr_ref ?_
    refine r_aload_n X dX3_copyFrom_25 1 rfl isr_ref ?_
    refine r_get (i := t1) (v := .int (σ13 t1 3)) X in_X3_copyFrom_3 rfl 3 (by decide) (kd_in hk1 (by decide)) (EE_3 _ hk1) rfl (mem_ix 4 rfl) dX3_copyFrom_26 ?_
    obtain ⟨σ15, e16, hf⟩ := okl hf
    refine r_put (i := t0) (f := upd (σ13 t0) 3 (σ13 t1 3)) X in_X3_copyFrom_3 tyX3 tyX3_ok nmX3 rfl 3 (by decide) (kd_in hk0 (by decide)) (EE_3 _ hk0) (EU_3_3 _ _ hk0) rfl (mem_ix 4 rfl) rfl rfl rfl rfl dX3_copyFrom_29 ?_
    refine r_sg e16 ?_
    exact r_vret X rfl hR (ok0 hf) dX3_copyFrom_32
theorem md_X3_copyFrom : MD yX3_copyFrom wsX3_copyFrom cX3_copyFrom 2 1 (none) := ⟨⟨_, rfl⟩, by decide +kernel, by decide +kernel, by decide⟩
theorem c_X3_copyFrom (l : Launch) (G : GX)  (t0 : Nat) (t1 : Nat) (hk0 : kd t0 = 3) (hk1 : kd t1 = 3) (σ : MM) (h : (f_X3_copyFrom t0 t1 σ).isSome = true) : CTv l G yX3_copyFrom wsX3_copyFrom 3 [.ref (G.1 t0), .ref (G.1 t1)] σ (f_X3_copyFrom t0 t1 σ) :=
  CTv_of md_X3_copyFrom (Nat.le_of_ble_eq_true rfl) (fun K X hR => e_X3_copyFrom X hR t0 t1 hk0 hk1 σ (ok_is h))
-- X6_copyFrom
theorem in_X6_copyFrom_6 : ∀ w ∈ u_ws RX6 TX6 3, w ∈ wsX6_copyFrom := fun _ h => List.mem_cons_of_mem _ (List.mem_append_right _ h)
def f_X6_copyFrom (t0 : Nat) (t1 : Nat) (σ : MM) : Option (Unit × MM) :=
  lt (ma σ (t0 + 1) (va_cpy (σ (t1 + 1)) (σ (t0 + 1)) (0) (0) (60))) (fun σ5 => lt (mu σ5 t0 2 (σ5 t1 2)) (fun σ7 => some ((), σ7)))
set_option maxRecDepth 100000 in
set_option maxHeartbeats 4000000 in
theorem e_X6_copyFrom {l : Launch} {G : GX} {K : KX} (X : FX G K cX6_copyFrom RX6 (none) wsX6_copyFrom 2) {Φ : Unit → MM → Prop} (hR : Rv G K Φ) (t0 : Nat) (t1 : Nat) (hk0 : kd t0 = 6) (hk1 : kd t1 = 6) (σ : MM) (hf : Ok Φ (f_X6_copyFrom t0 t1 σ)) : V l G 3 K 2 0 [(0, .ref (G.1 t0)), (1, .ref (G.1 t1))] [] σ := by
    unfold f_X6_copyFrom at hf
    refine r_aload_n X dX6_copyFrom_0 1 rfl isr_ref ?_
    refine r_get (i := t1) (v := .ref (G.1 (t1 + 1))) X in_X6_copyFrom_6 rfl 0 (by decide) (kd_in hk1 (by decide)) (EE_6 _ hk1) rfl (mem_ix 1 rfl) dX6_copyFrom_1 ?_
    refine r_iconst X dX6_copyFrom_4 ci_0 ?_
    refine r_aload_n X dX6_copyFrom_5 0 rfl isr_ref ?_
    refine r_get (i := t0) (v := .ref (G.1 (t0 + 1))) X in_X6_copyFrom_6 rfl 0 (by decide) (kd_in hk0 (by decide)) (EE_6 _ hk0) rfl (mem_ix 1 rfl) dX6_copyFrom_6 ?_
    refine r_iconst X dX6_copyFrom_9 ci_0 ?_
    refine r_bipush X dX6_copyFrom_10 cb_60 ?_
    obtain ⟨σ5, e6, hf⟩ := okl hf
    refine r_copy (i := (t1 + 1)) (i2 := (t0 + 1)) (spn := 0) (dpn := 0) (nnn := 60) X (mem_ix 2 rfl) (mem_ix 3 rfl) (mem_ix 4 rfl) (mem_ix 5 rfl) (kd_in (kf_6_1 hk1) (by decide)) (kd_in (kf_6_1 hk0) (by decide)) (EE_20 _ (kf_6_1 hk1)) (fun _ => EE_20 _ (kf_6_1 hk0)) (by decide) (by decide) (by decide) (by decide) (by decide) (by decide) (by decide) (by decide) (Nat.le_of_ble_eq_true rfl) (by decide) dX6_copyFrom_12 ?_
    refine r_sg e6 ?_
    refine r_aload_n X dX6_copyFrom_15 0 rfl isr_ref ?_
    refine r_aload_n X dX6_copyFrom_16 1 rfl isr_ref ?_
    refine r_get (i := t1) (v := .int (σ5 t1 2)) X in_X6_copyFrom_6 rfl 2 (by decide) (kd_in hk1 (by decide)) (EE_6 _ hk1) rfl (mem_ix 6 rfl) dX6_copyFrom_17 ?_
    obtain ⟨σ7, e8, hf⟩ := okl hf
    refine r_put (i := t0) (f := upd (σ5 t0) 2 (σ5 t1 2)) X in_X6_copyFrom_6 tyX6 tyX6_ok nmX6 rfl 2 (by decide) (kd_in hk0 (by decide)) (EE_6 _ hk0) (EU_6_2 _ _ hk0) rfl (mem_ix 6 rfl) rfl rfl rfl rfl dX6_copyFrom_20 ?_
    refine r_sg e8 ?_
    exact r_vret X rfl hR (ok0 hf) dX6_copyFrom_23
theorem md_X6_copyFrom : MD yX6_copyFrom wsX6_copyFrom cX6_copyFrom 2 1 (none) := ⟨⟨_, rfl⟩, by decide +kernel, by decide +kernel, by decide⟩
theorem c_X6_copyFrom (l : Launch) (G : GX)  (t0 : Nat) (t1 : Nat) (hk0 : kd t0 = 6) (hk1 : kd t1 = 6) (σ : MM) (h : (f_X6_copyFrom t0 t1 σ).isSome = true) : CTv l G yX6_copyFrom wsX6_copyFrom 3 [.ref (G.1 t0), .ref (G.1 t1)] σ (f_X6_copyFrom t0 t1 σ) :=
  CTv_of md_X6_copyFrom (Nat.le_of_ble_eq_true rfl) (fun K X hR => e_X6_copyFrom X hR t0 t1 hk0 hk1 σ (ok_is h))
-- X0_copyFrom
theorem in_X0_copyFrom_0 : ∀ w ∈ u_ws RX0 TX0 12, w ∈ wsX0_copyFrom := fun _ h => List.mem_cons_of_mem _ (List.mem_append_left _ (List.mem_append_left _ (List.mem_append_left _ (List.mem_append_right _ h))))
theorem in_X0_copyFrom_2 : ∀ w ∈ u_ws RX2 TX2 4, w ∈ wsX0_copyFrom := fun _ h => List.mem_cons_of_mem _ (List.mem_append_left _ (List.mem_append_left _ (List.mem_append_right _ h)))
theorem in_X0_copyFrom_3 : ∀ w ∈ u_ws RX3 TX3 4, w ∈ wsX0_copyFrom := fun _ h => List.mem_cons_of_mem _ (List.mem_append_left _ (List.mem_append_right _ h))
theorem in_X0_copyFrom_6 : ∀ w ∈ u_ws RX6 TX6 3, w ∈ wsX0_copyFrom := fun _ h => List.mem_cons_of_mem _ (List.mem_append_right _ h)
def u_X0_copyFrom_98 (t0 : Nat) (t1 : Nat) (σ : MM) : Option (Unit × MM) :=
  bd (f_X6_copyFrom (t0 + 3) (t1 + 3) σ) (fun r41 σ42 => bd (f_X6_copyFrom (t0 + 6) (t1 + 6) σ42) (fun r44 σ45 => lt (ma σ45 (t0 + 9) (va_cpy (σ45 (t1 + 9)) (σ45 (t0 + 9)) (0) (0) (60))) (fun σ47 => lt (mu σ47 t0 7 (σ47 t1 7)) (fun σ49 => lt (ma σ49 (t0 + 10) (va_cpy (σ49 (t1 + 10)) (σ49 (t0 + 10)) (0) (0) (24))) (fun σ51 => lt (mu σ51 t0 9 (σ51 t1 9)) (fun σ53 => lt (mu σ53 t0 10 (σ53 t1 10)) (fun σ55 => lt (mu σ55 t0 11 (σ55 t1 11)) (fun σ57 => some ((), σ57)))))))))
def u_X0_copyFrom_59 (k59 : Nat → Nat → Int32 → MM → Option (Unit × MM)) (t0 : Nat) (t1 : Nat) (v2 : Int32) (σ : MM) : Option (Unit × MM) :=
  if (5 : Int32) ≤ v2 then u_X0_copyFrom_98 t0 t1 σ else if (5 : Int32) ≤ v2 then u_X0_copyFrom_98 t0 t1 σ else if v2 < 0 ∨ 5 ≤ v2.toNatClampNeg then none else bd (f_X3_copyFrom ((t0 + 2) + 29 + v2.toNatClampNeg) ((t1 + 2) + 29 + v2.toNatClampNeg) σ) (fun r61 σ62 => k59 t0 t1 (v2 + (1 : Int32)) σ62)
def l_X0_copyFrom_59 (t0 : Nat) (t1 : Nat) (v2 : Int32) (σ : MM) : Option (Unit × MM) :=
  itr (fun _ _ _ _ => none) (u_X0_copyFrom_59) FU t0 t1 v2 σ
def u_X0_copyFrom_49 (t0 : Nat) (t1 : Nat) (σ : MM) : Option (Unit × MM) :=
  lt (mu σ t0 3 (σ t1 3)) (fun σ38 => l_X0_copyFrom_59 t0 t1 (0 : Int32) σ38)
def u_X0_copyFrom_10 (k10 : Nat → Nat → Int32 → MM → Option (Unit × MM)) (t0 : Nat) (t1 : Nat) (v2 : Int32) (σ : MM) : Option (Unit × MM) :=
  if (20 : Int32) ≤ v2 then u_X0_copyFrom_49 t0 t1 σ else if (20 : Int32) ≤ v2 then u_X0_copyFrom_49 t0 t1 σ else if v2 < 0 ∨ 20 ≤ v2.toNatClampNeg then none else bd (f_X2_copyFrom ((t0 + 1) + 10 + v2.toNatClampNeg) ((t1 + 1) + 10 + v2.toNatClampNeg) σ) (fun r66 σ67 => k10 t0 t1 (v2 + (1 : Int32)) σ67)
def l_X0_copyFrom_10 (t0 : Nat) (t1 : Nat) (v2 : Int32) (σ : MM) : Option (Unit × MM) :=
  itr (fun _ _ _ _ => none) (u_X0_copyFrom_10) FU t0 t1 v2 σ
def f_X0_copyFrom (t0 : Nat) (t1 : Nat) (σ : MM) : Option (Unit × MM) :=
  lt (mu σ t0 1 (σ t1 1)) (fun σ35 => l_X0_copyFrom_10 t0 t1 (0 : Int32) σ35)
set_option maxRecDepth 100000 in
set_option maxHeartbeats 4000000 in
theorem t_X0_copyFrom_98 {l : Launch} {G : GX} {K : KX} (X : FX G K cX0_copyFrom RX0 (none) wsX0_copyFrom 3) {Φ : Unit → MM → Prop} (hR : Rv G K Φ) (t0 : Nat) (t1 : Nat) (hk0 : kd t0 = 0) (hk1 : kd t1 = 0) (σ : MM) (hf : Ok Φ (u_X0_copyFrom_98 t0 t1 σ)) : V l G 4 K 3 98 [(0, .ref (G.1 t0)), (1, .ref (G.1 t1))] [] σ := by
    unfold u_X0_copyFrom_98 at hf
    refine r_aload_n X dX0_copyFrom_98 0 rfl isr_ref ?_
    refine r_get (i := t0) (v := .ref (G.1 (t0 + 3))) X in_X0_copyFrom_0 rfl 4 (by decide) (kd_in hk0 (by decide)) (EE_0 _ hk0) rfl (mem_ix 5 rfl) dX0_copyFrom_99 ?_
    refine r_aload_n X dX0_copyFrom_102 1 rfl isr_ref ?_
    refine r_get (i := t1) (v := .ref (G.1 (t1 + 3))) X in_X0_copyFrom_0 rfl 4 (by decide) (kd_in hk1 (by decide)) (EE_0 _ hk1) rfl (mem_ix 5 rfl) dX0_copyFrom_103 ?_
    refine r_callVv (rest := []) X (c_X6_copyFrom l G (t0 + 3) (t1 + 3) (kf_0_3 hk0) (kf_0_3 hk1) σ (oks hf)) md_X6_copyFrom gX0_copyFrom_X6_copyFrom (by decide) rfl rfl (kd_in (kf_0_3 hk0) (by decide)) (EE_6 _ (kf_0_3 hk0)) rfl rfl (Nat.le_of_ble_eq_true rfl) dX0_copyFrom_106 (fun r41 σ42 e43 => ?_)
    replace hf := okn e43 hf
    refine r_aload_n X dX0_copyFrom_109 0 rfl isr_ref ?_
    refine r_get (i := t0) (v := .ref (G.1 (t0 + 6))) X in_X0_copyFrom_0 rfl 5 (by decide) (kd_in hk0 (by decide)) (EE_0 _ hk0) rfl (mem_ix 6 rfl) dX0_copyFrom_110 ?_
    refine r_aload_n X dX0_copyFrom_113 1 rfl isr_ref ?_
    refine r_get (i := t1) (v := .ref (G.1 (t1 + 6))) X in_X0_copyFrom_0 rfl 5 (by decide) (kd_in hk1 (by decide)) (EE_0 _ hk1) rfl (mem_ix 6 rfl) dX0_copyFrom_114 ?_
    refine r_callVv (rest := []) X (c_X6_copyFrom l G (t0 + 6) (t1 + 6) (kf_0_6 hk0) (kf_0_6 hk1) σ42 (oks hf)) md_X6_copyFrom gX0_copyFrom_X6_copyFrom (by decide) rfl rfl (kd_in (kf_0_6 hk0) (by decide)) (EE_6 _ (kf_0_6 hk0)) rfl rfl (Nat.le_of_ble_eq_true rfl) dX0_copyFrom_117 (fun r44 σ45 e46 => ?_)
    replace hf := okn e46 hf
    refine r_aload_n X dX0_copyFrom_120 1 rfl isr_ref ?_
    refine r_get (i := t1) (v := .ref (G.1 (t1 + 9))) X in_X0_copyFrom_0 rfl 6 (by decide) (kd_in hk1 (by decide)) (EE_0 _ hk1) rfl (mem_ix 7 rfl) dX0_copyFrom_121 ?_
    refine r_iconst X dX0_copyFrom_124 ci_0 ?_
    refine r_aload_n X dX0_copyFrom_125 0 rfl isr_ref ?_
    refine r_get (i := t0) (v := .ref (G.1 (t0 + 9))) X in_X0_copyFrom_0 rfl 6 (by decide) (kd_in hk0 (by decide)) (EE_0 _ hk0) rfl (mem_ix 7 rfl) dX0_copyFrom_126 ?_
    refine r_iconst X dX0_copyFrom_129 ci_0 ?_
    refine r_bipush X dX0_copyFrom_130 cb_60 ?_
    obtain ⟨σ47, e48, hf⟩ := okl hf
    refine r_copy (i := (t1 + 9)) (i2 := (t0 + 9)) (spn := 0) (dpn := 0) (nnn := 60) X (mem_ix 8 rfl) (mem_ix 9 rfl) (mem_ix 10 rfl) (mem_ix 11 rfl) (kd_in (kf_0_9 hk1) (by decide)) (kd_in (kf_0_9 hk0) (by decide)) (EE_20 _ (kf_0_9 hk1)) (fun _ => EE_20 _ (kf_0_9 hk0)) (by decide) (by decide) (by decide) (by decide) (by decide) (by decide) (by decide) (by decide) (Nat.le_of_ble_eq_true rfl) (by decide) dX0_copyFrom_132 ?_
    refine r_sg e48 ?_
    refine r_aload_n X dX0_copyFrom_135 0 rfl isr_ref ?_
    refine r_aload_n X dX0_copyFrom_136 1 rfl isr_ref ?_
    refine r_get (i := t1) (v := .int (σ47 t1 7)) X in_X0_copyFrom_0 rfl 7 (by decide) (kd_in hk1 (by decide)) (EE_0 _ hk1) rfl (mem_ix 12 rfl) dX0_copyFrom_137 ?_
    obtain ⟨σ49, e50, hf⟩ := okl hf
    refine r_put (i := t0) (f := upd (σ47 t0) 7 (σ47 t1 7)) X in_X0_copyFrom_0 tyX0 tyX0_ok nmX0 rfl 7 (by decide) (kd_in hk0 (by decide)) (EE_0 _ hk0) (EU_0_7 _ _ hk0) rfl (mem_ix 12 rfl) rfl rfl rfl rfl dX0_copyFrom_140 ?_
    refine r_sg e50 ?_
    refine r_aload_n X dX0_copyFrom_143 1 rfl isr_ref ?_
    refine r_get (i := t1) (v := .ref (G.1 (t1 + 10))) X in_X0_copyFrom_0 rfl 8 (by decide) (kd_in hk1 (by decide)) (EE_0 _ hk1) rfl (mem_ix 13 rfl) dX0_copyFrom_144 ?_
    refine r_iconst X dX0_copyFrom_147 ci_0 ?_
    refine r_aload_n X dX0_copyFrom_148 0 rfl isr_ref ?_
    refine r_get (i := t0) (v := .ref (G.1 (t0 + 10))) X in_X0_copyFrom_0 rfl 8 (by decide) (kd_in hk0 (by decide)) (EE_0 _ hk0) rfl (mem_ix 13 rfl) dX0_copyFrom_149 ?_
    refine r_iconst X dX0_copyFrom_152 ci_0 ?_
    refine r_bipush X dX0_copyFrom_153 cb_24 ?_
    obtain ⟨σ51, e52, hf⟩ := okl hf
    refine r_copy (i := (t1 + 10)) (i2 := (t0 + 10)) (spn := 0) (dpn := 0) (nnn := 24) X (mem_ix 8 rfl) (mem_ix 9 rfl) (mem_ix 10 rfl) (mem_ix 11 rfl) (kd_in (kf_0_10 hk1) (by decide)) (kd_in (kf_0_10 hk0) (by decide)) (EE_21 _ (kf_0_10 hk1)) (fun _ => EE_21 _ (kf_0_10 hk0)) (by decide) (by decide) (by decide) (by decide) (by decide) (by decide) (by decide) (by decide) (Nat.le_of_ble_eq_true rfl) (by decide) dX0_copyFrom_155 ?_
    refine r_sg e52 ?_
    refine r_aload_n X dX0_copyFrom_158 0 rfl isr_ref ?_
    refine r_aload_n X dX0_copyFrom_159 1 rfl isr_ref ?_
    refine r_get (i := t1) (v := .int (σ51 t1 9)) X in_X0_copyFrom_0 rfl 9 (by decide) (kd_in hk1 (by decide)) (EE_0 _ hk1) rfl (mem_ix 14 rfl) dX0_copyFrom_160 ?_
    obtain ⟨σ53, e54, hf⟩ := okl hf
    refine r_put (i := t0) (f := upd (σ51 t0) 9 (σ51 t1 9)) X in_X0_copyFrom_0 tyX0 tyX0_ok nmX0 rfl 9 (by decide) (kd_in hk0 (by decide)) (EE_0 _ hk0) (EU_0_9 _ _ hk0) rfl (mem_ix 14 rfl) rfl rfl rfl rfl dX0_copyFrom_163 ?_
    refine r_sg e54 ?_
    refine r_aload_n X dX0_copyFrom_166 0 rfl isr_ref ?_
    refine r_aload_n X dX0_copyFrom_167 1 rfl isr_ref ?_
    refine r_get (i := t1) (v := .int (σ53 t1 10)) X in_X0_copyFrom_0 rfl 10 (by decide) (kd_in hk1 (by decide)) (EE_0 _ hk1) rfl (mem_ix 15 rfl) dX0_copyFrom_168 ?_
    obtain ⟨σ55, e56, hf⟩ := okl hf
    refine r_put (i := t0) (f := upd (σ53 t0) 10 (σ53 t1 10)) X in_X0_copyFrom_0 tyX0 tyX0_ok nmX0 rfl 10 (by decide) (kd_in hk0 (by decide)) (EE_0 _ hk0) (EU_0_10 _ _ hk0) rfl (mem_ix 15 rfl) rfl rfl rfl rfl dX0_copyFrom_171 ?_
    refine r_sg e56 ?_
    refine r_aload_n X dX0_copyFrom_174 0 rfl isr_ref ?_
    refine r_aload_n X dX0_copyFrom_175 1 rfl isr_ref ?_
    refine r_get (i := t1) (v := .int (σ55 t1 11)) X in_X0_copyFrom_0 rfl 11 (by decide) (kd_in hk1 (by decide)) (EE_0 _ hk1) rfl (mem_ix 16 rfl) dX0_copyFrom_176 ?_
    obtain ⟨σ57, e58, hf⟩ := okl hf
    refine r_put (i := t0) (f := upd (σ55 t0) 11 (σ55 t1 11)) X in_X0_copyFrom_0 tyX0 tyX0_ok nmX0 rfl 11 (by decide) (kd_in hk0 (by decide)) (EE_0 _ hk0) (EU_0_11 _ _ hk0) rfl (mem_ix 16 rfl) rfl rfl rfl rfl dX0_copyFrom_179 ?_
    refine r_sg e58 ?_
    exact r_vret X rfl hR (ok0 hf) dX0_copyFrom_182
set_option maxRecDepth 100000 in
set_option maxHeartbeats 4000000 in
theorem t_X0_copyFrom_59 {l : Launch} {G : GX} {K : KX} (X : FX G K cX0_copyFrom RX0 (none) wsX0_copyFrom 3) {Φ : Unit → MM → Prop} (hR : Rv G K Φ) (k59 : Nat → Nat → Int32 → MM → Option (Unit × MM)) (hk59c : ∀ (t0 : Nat) (t1 : Nat) (v2 : Int32) (hk0 : kd t0 = 0) (hk1 : kd t1 = 0) (σ : MM), Ok Φ (k59 t0 t1 v2 σ) → V l G 4 K 3 59 [(0, .ref (G.1 t0)), (1, .ref (G.1 t1)), (2, .int v2)] [] σ) (t0 : Nat) (t1 : Nat) (v2 : Int32) (hk0 : kd t0 = 0) (hk1 : kd t1 = 0) (σ : MM) (hf : Ok Φ (u_X0_copyFrom_59 k59 t0 t1 v2 σ)) : V l G 4 K 3 59 [(0, .ref (G.1 t0)), (1, .ref (G.1 t1)), (2, .int v2)] [] σ := by
    unfold u_X0_copyFrom_59 at hf
    refine r_iload_n X dX0_copyFrom_59 2 rfl ?_
    refine r_aload_n X dX0_copyFrom_60 0 rfl isr_ref ?_
    refine r_get (i := t0) (v := .ref (G.1 (t0 + 2))) X in_X0_copyFrom_0 rfl 2 (by decide) (kd_in hk0 (by decide)) (EE_0 _ hk0) rfl (mem_ix 4 rfl) dX0_copyFrom_61 ?_
    refine r_alen (i := (t0 + 2)) (t := 2) (v := (5 : Int32)) X (kd_in (kf_0_2 hk0) (by decide)) (EE_31 _ (kf_0_2 hk0)) rfl (by decide) dX0_copyFrom_64 ?_
    refine r_icmp_ge (tgt := 98) X dX0_copyFrom_65 (by decide) (fun h40 => ?_) (fun h40 => ?_)
    · replace hf := okt h40 hf
      refine r_sub [0, 1] rfl ?_
      exact t_X0_copyFrom_98 X hR t0 t1 hk0 hk1 σ hf
    · replace hf := okf h40 hf
      refine r_iload_n X dX0_copyFrom_68 2 rfl ?_
      refine r_aload_n X dX0_copyFrom_69 1 rfl isr_ref ?_
      refine r_get (i := t1) (v := .ref (G.1 (t1 + 2))) X in_X0_copyFrom_0 rfl 2 (by decide) (kd_in hk1 (by decide)) (EE_0 _ hk1) rfl (mem_ix 4 rfl) dX0_copyFrom_70 ?_
      refine r_alen (i := (t1 + 2)) (t := 2) (v := (5 : Int32)) X (kd_in (kf_0_2 hk1) (by decide)) (EE_31 _ (kf_0_2 hk1)) rfl (by decide) dX0_copyFrom_73 ?_
      refine r_icmp_ge (tgt := 98) X dX0_copyFrom_74 (by decide) (fun h59 => ?_) (fun h59 => ?_)
      · replace hf := okt h59 hf
        refine r_sub [0, 1] rfl ?_
        exact t_X0_copyFrom_98 X hR t0 t1 hk0 hk1 σ hf
      · replace hf := okf h59 hf
        refine r_aload_n X dX0_copyFrom_77 0 rfl isr_ref ?_
        refine r_get (i := t0) (v := .ref (G.1 (t0 + 2))) X in_X0_copyFrom_0 rfl 2 (by decide) (kd_in hk0 (by decide)) (EE_0 _ hk0) rfl (mem_ix 4 rfl) dX0_copyFrom_78 ?_
        refine r_iload_n X dX0_copyFrom_81 2 rfl ?_
        obtain ⟨g60, hf⟩ := okg hf
        refine r_aald (i := (t0 + 2)) (t := 2) (d := 29) (jn := v2.toNatClampNeg) X (kd_in (kf_0_2 hk0) (by decide)) (EE_31 _ (kf_0_2 hk0)) rfl rfl g60 dX0_copyFrom_82 ?_
        refine r_aload_n X dX0_copyFrom_83 1 rfl isr_ref ?_
        refine r_get (i := t1) (v := .ref (G.1 (t1 + 2))) X in_X0_copyFrom_0 rfl 2 (by decide) (kd_in hk1 (by decide)) (EE_0 _ hk1) rfl (mem_ix 4 rfl) dX0_copyFrom_84 ?_
        refine r_iload_n X dX0_copyFrom_87 2 rfl ?_
        refine r_aald (i := (t1 + 2)) (t := 2) (d := 29) (jn := v2.toNatClampNeg) X (kd_in (kf_0_2 hk1) (by decide)) (EE_31 _ (kf_0_2 hk1)) rfl rfl g60 dX0_copyFrom_88 ?_
        refine r_callVv (rest := []) X (c_X3_copyFrom l G ((t0 + 2) + 29 + v2.toNatClampNeg) ((t1 + 2) + 29 + v2.toNatClampNeg) (ke_31 (kf_0_2 hk0) (inr_lt g60)) (ke_31 (kf_0_2 hk1) (inr_lt g60)) σ (oks hf)) md_X3_copyFrom gX0_copyFrom_X3_copyFrom (by decide) rfl rfl (kd_in (ke_31 (kf_0_2 hk0) (inr_lt g60)) (by decide)) (EE_3 _ (ke_31 (kf_0_2 hk0) (inr_lt g60))) rfl rfl (Nat.le_of_ble_eq_true rfl) dX0_copyFrom_89 (fun r61 σ62 e63 => ?_)
        replace hf := okn e63 hf
        refine r_iinc (v := (v2 + (1 : Int32))) X dX0_copyFrom_92 2 rfl (congrArg _ ci_1) (by decide) (lv' := [(2, .int (v2 + (1 : Int32))), (0, .ref (G.1 t0)), (1, .ref (G.1 t1))]) rfl ?_
        refine r_goto (tgt := 59) X dX0_copyFrom_95 (by decide) ?_
        refine r_sub [1, 2, 0] rfl ?_
        exact hk59c t0 t1 (v2 + (1 : Int32)) hk0 hk1 σ62 hf
theorem tl_X0_copyFrom_59 {l : Launch} {G : GX} {K : KX} (X : FX G K cX0_copyFrom RX0 (none) wsX0_copyFrom 3) {Φ : Unit → MM → Prop} (hR : Rv G K Φ) : ∀ (m : Nat) (t0 : Nat) (t1 : Nat) (v2 : Int32) (hk0 : kd t0 = 0) (hk1 : kd t1 = 0) (σ : MM), Ok Φ (itr (fun _ _ _ _ => none) (u_X0_copyFrom_59) m t0 t1 v2 σ) → V l G 4 K 3 59 [(0, .ref (G.1 t0)), (1, .ref (G.1 t1)), (2, .int v2)] [] σ := by
  intro m
  induction m with
  | zero => intro t0 t1 v2 hk0 hk1 σ hf; exact (okx hf).elim
  | succ m ih => intro t0 t1 v2 hk0 hk1 σ hf; exact t_X0_copyFrom_59 X hR _ ih t0 t1 v2 hk0 hk1 σ hf
set_option maxRecDepth 100000 in
set_option maxHeartbeats 4000000 in
theorem t_X0_copyFrom_49 {l : Launch} {G : GX} {K : KX} (X : FX G K cX0_copyFrom RX0 (none) wsX0_copyFrom 3) {Φ : Unit → MM → Prop} (hR : Rv G K Φ) (t0 : Nat) (t1 : Nat) (hk0 : kd t0 = 0) (hk1 : kd t1 = 0) (σ : MM) (hf : Ok Φ (u_X0_copyFrom_49 t0 t1 σ)) : V l G 4 K 3 49 [(0, .ref (G.1 t0)), (1, .ref (G.1 t1))] [] σ := by
    unfold u_X0_copyFrom_49 at hf
    refine r_aload_n X dX0_copyFrom_49 0 rfl isr_ref ?_
    refine r_aload_n X dX0_copyFrom_50 1 rfl isr_ref ?_
    refine r_get (i := t1) (v := .int (σ t1 3)) X in_X0_copyFrom_0 rfl 3 (by decide) (kd_in hk1 (by decide)) (EE_0 _ hk1) rfl (mem_ix 3 rfl) dX0_copyFrom_51 ?_
    obtain ⟨σ38, e39, hf⟩ := okl hf
    refine r_put (i := t0) (f := upd (σ t0) 3 (σ t1 3)) X in_X0_copyFrom_0 tyX0 tyX0_ok nmX0 rfl 3 (by decide) (kd_in hk0 (by decide)) (EE_0 _ hk0) (EU_0_3 _ _ hk0) rfl (mem_ix 3 rfl) rfl rfl rfl rfl dX0_copyFrom_54 ?_
    refine r_sg e39 ?_
    refine r_iconst X dX0_copyFrom_57 ci_0 ?_
    refine r_istore_n X dX0_copyFrom_58 (i := 2) rfl (by decide) (lv' := [(2, .int (0 : Int32)), (0, .ref (G.1 t0)), (1, .ref (G.1 t1))]) rfl ?_
    refine r_sub [1, 2, 0] rfl ?_
    exact tl_X0_copyFrom_59 X hR FU t0 t1 (0 : Int32) hk0 hk1 σ38 hf
set_option maxRecDepth 100000 in
set_option maxHeartbeats 4000000 in
theorem t_X0_copyFrom_10 {l : Launch} {G : GX} {K : KX} (X : FX G K cX0_copyFrom RX0 (none) wsX0_copyFrom 3) {Φ : Unit → MM → Prop} (hR : Rv G K Φ) (k10 : Nat → Nat → Int32 → MM → Option (Unit × MM)) (hk10c : ∀ (t0 : Nat) (t1 : Nat) (v2 : Int32) (hk0 : kd t0 = 0) (hk1 : kd t1 = 0) (σ : MM), Ok Φ (k10 t0 t1 v2 σ) → V l G 4 K 3 10 [(0, .ref (G.1 t0)), (1, .ref (G.1 t1)), (2, .int v2)] [] σ) (t0 : Nat) (t1 : Nat) (v2 : Int32) (hk0 : kd t0 = 0) (hk1 : kd t1 = 0) (σ : MM) (hf : Ok Φ (u_X0_copyFrom_10 k10 t0 t1 v2 σ)) : V l G 4 K 3 10 [(0, .ref (G.1 t0)), (1, .ref (G.1 t1)), (2, .int v2)] [] σ := by
    unfold u_X0_copyFrom_10 at hf
    refine r_iload_n X dX0_copyFrom_10 2 rfl ?_
    refine r_aload_n X dX0_copyFrom_11 0 rfl isr_ref ?_
    refine r_get (i := t0) (v := .ref (G.1 (t0 + 1))) X in_X0_copyFrom_0 rfl 0 (by decide) (kd_in hk0 (by decide)) (EE_0 _ hk0) rfl (mem_ix 2 rfl) dX0_copyFrom_12 ?_
    refine r_alen (i := (t0 + 1)) (t := 1) (v := (20 : Int32)) X (kd_in (kf_0_1 hk0) (by decide)) (EE_30 _ (kf_0_1 hk0)) rfl (by decide) dX0_copyFrom_15 ?_
    refine r_icmp_ge (tgt := 49) X dX0_copyFrom_16 (by decide) (fun h37 => ?_) (fun h37 => ?_)
    · replace hf := okt h37 hf
      refine r_sub [0, 1] rfl ?_
      exact t_X0_copyFrom_49 X hR t0 t1 hk0 hk1 σ hf
    · replace hf := okf h37 hf
      refine r_iload_n X dX0_copyFrom_19 2 rfl ?_
      refine r_aload_n X dX0_copyFrom_20 1 rfl isr_ref ?_
      refine r_get (i := t1) (v := .ref (G.1 (t1 + 1))) X in_X0_copyFrom_0 rfl 0 (by decide) (kd_in hk1 (by decide)) (EE_0 _ hk1) rfl (mem_ix 2 rfl) dX0_copyFrom_21 ?_
      refine r_alen (i := (t1 + 1)) (t := 1) (v := (20 : Int32)) X (kd_in (kf_0_1 hk1) (by decide)) (EE_30 _ (kf_0_1 hk1)) rfl (by decide) dX0_copyFrom_24 ?_
      refine r_icmp_ge (tgt := 49) X dX0_copyFrom_25 (by decide) (fun h64 => ?_) (fun h64 => ?_)
      · replace hf := okt h64 hf
        refine r_sub [0, 1] rfl ?_
        exact t_X0_copyFrom_49 X hR t0 t1 hk0 hk1 σ hf
      · replace hf := okf h64 hf
        refine r_aload_n X dX0_copyFrom_28 0 rfl isr_ref ?_
        refine r_get (i := t0) (v := .ref (G.1 (t0 + 1))) X in_X0_copyFrom_0 rfl 0 (by decide) (kd_in hk0 (by decide)) (EE_0 _ hk0) rfl (mem_ix 2 rfl) dX0_copyFrom_29 ?_
        refine r_iload_n X dX0_copyFrom_32 2 rfl ?_
        obtain ⟨g65, hf⟩ := okg hf
        refine r_aald (i := (t0 + 1)) (t := 1) (d := 10) (jn := v2.toNatClampNeg) X (kd_in (kf_0_1 hk0) (by decide)) (EE_30 _ (kf_0_1 hk0)) rfl rfl g65 dX0_copyFrom_33 ?_
        refine r_aload_n X dX0_copyFrom_34 1 rfl isr_ref ?_
        refine r_get (i := t1) (v := .ref (G.1 (t1 + 1))) X in_X0_copyFrom_0 rfl 0 (by decide) (kd_in hk1 (by decide)) (EE_0 _ hk1) rfl (mem_ix 2 rfl) dX0_copyFrom_35 ?_
        refine r_iload_n X dX0_copyFrom_38 2 rfl ?_
        refine r_aald (i := (t1 + 1)) (t := 1) (d := 10) (jn := v2.toNatClampNeg) X (kd_in (kf_0_1 hk1) (by decide)) (EE_30 _ (kf_0_1 hk1)) rfl rfl g65 dX0_copyFrom_39 ?_
        refine r_callVv (rest := []) X (c_X2_copyFrom l G ((t0 + 1) + 10 + v2.toNatClampNeg) ((t1 + 1) + 10 + v2.toNatClampNeg) (ke_30 (kf_0_1 hk0) (inr_lt g65)) (ke_30 (kf_0_1 hk1) (inr_lt g65)) σ (oks hf)) md_X2_copyFrom gX0_copyFrom_X2_copyFrom (by decide) rfl rfl (kd_in (ke_30 (kf_0_1 hk0) (inr_lt g65)) (by decide)) (EE_2 _ (ke_30 (kf_0_1 hk0) (inr_lt g65))) rfl rfl (Nat.le_of_ble_eq_true rfl) dX0_copyFrom_40 (fun r66 σ67 e68 => ?_)
        replace hf := okn e68 hf
        refine r_iinc (v := (v2 + (1 : Int32))) X dX0_copyFrom_43 2 rfl (congrArg _ ci_1) (by decide) (lv' := [(2, .int (v2 + (1 : Int32))), (0, .ref (G.1 t0)), (1, .ref (G.1 t1))]) rfl ?_
        refine r_goto (tgt := 10) X dX0_copyFrom_46 (by decide) ?_
        refine r_sub [1, 2, 0] rfl ?_
        exact hk10c t0 t1 (v2 + (1 : Int32)) hk0 hk1 σ67 hf
theorem tl_X0_copyFrom_10 {l : Launch} {G : GX} {K : KX} (X : FX G K cX0_copyFrom RX0 (none) wsX0_copyFrom 3) {Φ : Unit → MM → Prop} (hR : Rv G K Φ) : ∀ (m : Nat) (t0 : Nat) (t1 : Nat) (v2 : Int32) (hk0 : kd t0 = 0) (hk1 : kd t1 = 0) (σ : MM), Ok Φ (itr (fun _ _ _ _ => none) (u_X0_copyFrom_10) m t0 t1 v2 σ) → V l G 4 K 3 10 [(0, .ref (G.1 t0)), (1, .ref (G.1 t1)), (2, .int v2)] [] σ := by
  intro m
  induction m with
  | zero => intro t0 t1 v2 hk0 hk1 σ hf; exact (okx hf).elim
  | succ m ih => intro t0 t1 v2 hk0 hk1 σ hf; exact t_X0_copyFrom_10 X hR _ ih t0 t1 v2 hk0 hk1 σ hf
set_option maxRecDepth 100000 in
set_option maxHeartbeats 4000000 in
theorem e_X0_copyFrom {l : Launch} {G : GX} {K : KX} (X : FX G K cX0_copyFrom RX0 (none) wsX0_copyFrom 3) {Φ : Unit → MM → Prop} (hR : Rv G K Φ) (t0 : Nat) (t1 : Nat) (hk0 : kd t0 = 0) (hk1 : kd t1 = 0) (σ : MM) (hf : Ok Φ (f_X0_copyFrom t0 t1 σ)) : V l G 4 K 3 0 [(0, .ref (G.1 t0)), (1, .ref (G.1 t1))] [] σ := by
    unfold f_X0_copyFrom at hf
    refine r_aload_n X dX0_copyFrom_0 0 rfl isr_ref ?_
    refine r_aload_n X dX0_copyFrom_1 1 rfl isr_ref ?_
    refine r_get (i := t1) (v := .int (σ t1 1)) X in_X0_copyFrom_0 rfl 1 (by decide) (kd_in hk1 (by decide)) (EE_0 _ hk1) rfl (mem_ix 1 rfl) dX0_copyFrom_2 ?_
    obtain ⟨σ35, e36, hf⟩ := okl hf
    refine r_put (i := t0) (f := upd (σ t0) 1 (σ t1 1)) X in_X0_copyFrom_0 tyX0 tyX0_ok nmX0 rfl 1 (by decide) (kd_in hk0 (by decide)) (EE_0 _ hk0) (EU_0_1 _ _ hk0) rfl (mem_ix 1 rfl) rfl rfl rfl rfl dX0_copyFrom_5 ?_
    refine r_sg e36 ?_
    refine r_iconst X dX0_copyFrom_8 ci_0 ?_
    refine r_istore_n X dX0_copyFrom_9 (i := 2) rfl (by decide) (lv' := [(2, .int (0 : Int32)), (0, .ref (G.1 t0)), (1, .ref (G.1 t1))]) rfl ?_
    refine r_sub [1, 2, 0] rfl ?_
    exact tl_X0_copyFrom_10 X hR FU t0 t1 (0 : Int32) hk0 hk1 σ35 hf
theorem md_X0_copyFrom : MD yX0_copyFrom wsX0_copyFrom cX0_copyFrom 3 1 (none) := ⟨⟨_, rfl⟩, by decide +kernel, by decide +kernel, by decide⟩
theorem c_X0_copyFrom (l : Launch) (G : GX)  (t0 : Nat) (t1 : Nat) (hk0 : kd t0 = 0) (hk1 : kd t1 = 0) (σ : MM) (h : (f_X0_copyFrom t0 t1 σ).isSome = true) : CTv l G yX0_copyFrom wsX0_copyFrom 4 [.ref (G.1 t0), .ref (G.1 t1)] σ (f_X0_copyFrom t0 t1 σ) :=
  CTv_of md_X0_copyFrom (Nat.le_of_ble_eq_true rfl) (fun K X hR => e_X0_copyFrom X hR t0 t1 hk0 hk1 σ (ok_is h))
-- X0_judgeOn
theorem in_X0_judgeOn_0 : ∀ w ∈ u_ws RX0 TX0 12, w ∈ wsX0_judgeOn := fun _ h => List.mem_cons_of_mem _ (List.mem_append_right _ h)
def f_X0_judgeOn (t0 : Nat) (a1 : Int32) (σ : MM) : Option (Option Nat × MM) :=
  if a1 < 0 then some ((none : Option Nat), σ) else if (σ t0 1) ≤ a1 then some ((none : Option Nat), σ) else if (20 : Int32) ≤ a1 then some ((none : Option Nat), σ) else if a1 < 0 ∨ 20 ≤ a1.toNatClampNeg then none else some ((some ((t0 + 1) + 10 + a1.toNatClampNeg) : Option Nat), σ)
set_option maxRecDepth 100000 in
set_option maxHeartbeats 4000000 in
theorem e_X0_judgeOn {l : Launch} {G : GX} {K : KX} (X : FX G K cX0_judgeOn RX0 (some (.object "StairCourt$Judge")) wsX0_judgeOn 2) {Φ : Option Nat → MM → Prop} (hR : Rq G K Φ) (t0 : Nat) (a1 : Int32) (hk0 : kd t0 = 0) (σ : MM) (hf : Ok Φ (f_X0_judgeOn t0 a1 σ)) : V l G 3 K 2 0 [(0, .ref (G.1 t0)), (1, .int a1)] [] σ := by
    unfold f_X0_judgeOn at hf
    refine r_iload_n X dX0_judgeOn_0 1 rfl ?_
    refine r_if_lt (tgt := 30) X dX0_judgeOn_1 (by decide) (fun h5 => ?_) (fun h5 => ?_)
    · replace hf := okt h5 hf
      refine r_null X dX0_judgeOn_30 ?_
      exact r_qret (r := none) X rfl hR rfl (ok0 hf) dX0_judgeOn_31
    · replace hf := okf h5 hf
      refine r_iload_n X dX0_judgeOn_4 1 rfl ?_
      refine r_aload_n X dX0_judgeOn_5 0 rfl isr_ref ?_
      refine r_get (i := t0) (v := .int (σ t0 1)) X in_X0_judgeOn_0 rfl 1 (by decide) (kd_in hk0 (by decide)) (EE_0 _ hk0) rfl (mem_ix 1 rfl) dX0_judgeOn_6 ?_
      refine r_icmp_ge (tgt := 30) X dX0_judgeOn_9 (by decide) (fun h6 => ?_) (fun h6 => ?_)
      · replace hf := okt h6 hf
        refine r_null X dX0_judgeOn_30 ?_
        exact r_qret (r := none) X rfl hR rfl (ok0 hf) dX0_judgeOn_31
      · replace hf := okf h6 hf
        refine r_iload_n X dX0_judgeOn_12 1 rfl ?_
        refine r_aload_n X dX0_judgeOn_13 0 rfl isr_ref ?_
        refine r_get (i := t0) (v := .ref (G.1 (t0 + 1))) X in_X0_judgeOn_0 rfl 0 (by decide) (kd_in hk0 (by decide)) (EE_0 _ hk0) rfl (mem_ix 2 rfl) dX0_judgeOn_14 ?_
        refine r_alen (i := (t0 + 1)) (t := 1) (v := (20 : Int32)) X (kd_in (kf_0_1 hk0) (by decide)) (EE_30 _ (kf_0_1 hk0)) rfl (by decide) dX0_judgeOn_17 ?_
        refine r_icmp_ge (tgt := 30) X dX0_judgeOn_18 (by decide) (fun h7 => ?_) (fun h7 => ?_)
        · replace hf := okt h7 hf
          refine r_null X dX0_judgeOn_30 ?_
          exact r_qret (r := none) X rfl hR rfl (ok0 hf) dX0_judgeOn_31
        · replace hf := okf h7 hf
          refine r_aload_n X dX0_judgeOn_21 0 rfl isr_ref ?_
          refine r_get (i := t0) (v := .ref (G.1 (t0 + 1))) X in_X0_judgeOn_0 rfl 0 (by decide) (kd_in hk0 (by decide)) (EE_0 _ hk0) rfl (mem_ix 2 rfl) dX0_judgeOn_22 ?_
          refine r_iload_n X dX0_judgeOn_25 1 rfl ?_
          obtain ⟨g8, hf⟩ := okg hf
          refine r_aald (i := (t0 + 1)) (t := 1) (d := 10) (jn := a1.toNatClampNeg) X (kd_in (kf_0_1 hk0) (by decide)) (EE_30 _ (kf_0_1 hk0)) rfl rfl g8 dX0_judgeOn_26 ?_
          refine r_goto (tgt := 31) X dX0_judgeOn_27 (by decide) ?_
          exact r_qret (r := some ((t0 + 1) + 10 + a1.toNatClampNeg)) X rfl hR rfl (ok0 hf) dX0_judgeOn_31
theorem md_X0_judgeOn : MD yX0_judgeOn wsX0_judgeOn cX0_judgeOn 2 1 (some (.object "StairCourt$Judge")) := ⟨⟨_, rfl⟩, by decide +kernel, by decide +kernel, by decide⟩
theorem c_X0_judgeOn (l : Launch) (G : GX)  (t0 : Nat) (a1 : Int32) (hk0 : kd t0 = 0) (σ : MM) (h : (f_X0_judgeOn t0 a1 σ).isSome = true) : CTq l G yX0_judgeOn wsX0_judgeOn 3 [.ref (G.1 t0), .int a1] σ (f_X0_judgeOn t0 a1 σ) :=
  CTq_of md_X0_judgeOn (Nat.le_of_ble_eq_true rfl) (fun K X hR => e_X0_judgeOn X hR t0 a1 hk0 σ (ok_is h))
-- X0_personOf
theorem in_X0_personOf_0 : ∀ w ∈ u_ws RX0 TX0 12, w ∈ wsX0_personOf := fun _ h => List.mem_cons_of_mem _ (List.mem_append_right _ h)
def f_X0_personOf (t0 : Nat) (a1 : Int32) (σ : MM) : Option (Option Nat × MM) :=
  if a1 < 0 then some ((none : Option Nat), σ) else if (σ t0 3) ≤ a1 then some ((none : Option Nat), σ) else if (5 : Int32) ≤ a1 then some ((none : Option Nat), σ) else if a1 < 0 ∨ 5 ≤ a1.toNatClampNeg then none else some ((some ((t0 + 2) + 29 + a1.toNatClampNeg) : Option Nat), σ)
set_option maxRecDepth 100000 in
set_option maxHeartbeats 4000000 in
theorem e_X0_personOf {l : Launch} {G : GX} {K : KX} (X : FX G K cX0_personOf RX0 (some (.object "StairCourt$Person")) wsX0_personOf 2) {Φ : Option Nat → MM → Prop} (hR : Rq G K Φ) (t0 : Nat) (a1 : Int32) (hk0 : kd t0 = 0) (σ : MM) (hf : Ok Φ (f_X0_personOf t0 a1 σ)) : V l G 3 K 2 0 [(0, .ref (G.1 t0)), (1, .int a1)] [] σ := by
    unfold f_X0_personOf at hf
    refine r_iload_n X dX0_personOf_0 1 rfl ?_
    refine r_if_lt (tgt := 30) X dX0_personOf_1 (by decide) (fun h5 => ?_) (fun h5 => ?_)
    · replace hf := okt h5 hf
      refine r_null X dX0_personOf_30 ?_
      exact r_qret (r := none) X rfl hR rfl (ok0 hf) dX0_personOf_31
    · replace hf := okf h5 hf
      refine r_iload_n X dX0_personOf_4 1 rfl ?_
      refine r_aload_n X dX0_personOf_5 0 rfl isr_ref ?_
      refine r_get (i := t0) (v := .int (σ t0 3)) X in_X0_personOf_0 rfl 3 (by decide) (kd_in hk0 (by decide)) (EE_0 _ hk0) rfl (mem_ix 1 rfl) dX0_personOf_6 ?_
      refine r_icmp_ge (tgt := 30) X dX0_personOf_9 (by decide) (fun h6 => ?_) (fun h6 => ?_)
      · replace hf := okt h6 hf
        refine r_null X dX0_personOf_30 ?_
        exact r_qret (r := none) X rfl hR rfl (ok0 hf) dX0_personOf_31
      · replace hf := okf h6 hf
        refine r_iload_n X dX0_personOf_12 1 rfl ?_
        refine r_aload_n X dX0_personOf_13 0 rfl isr_ref ?_
        refine r_get (i := t0) (v := .ref (G.1 (t0 + 2))) X in_X0_personOf_0 rfl 2 (by decide) (kd_in hk0 (by decide)) (EE_0 _ hk0) rfl (mem_ix 2 rfl) dX0_personOf_14 ?_
        refine r_alen (i := (t0 + 2)) (t := 2) (v := (5 : Int32)) X (kd_in (kf_0_2 hk0) (by decide)) (EE_31 _ (kf_0_2 hk0)) rfl (by decide) dX0_personOf_17 ?_
        refine r_icmp_ge (tgt := 30) X dX0_personOf_18 (by decide) (fun h7 => ?_) (fun h7 => ?_)
        · replace hf := okt h7 hf
          refine r_null X dX0_personOf_30 ?_
          exact r_qret (r := none) X rfl hR rfl (ok0 hf) dX0_personOf_31
        · replace hf := okf h7 hf
          refine r_aload_n X dX0_personOf_21 0 rfl isr_ref ?_
          refine r_get (i := t0) (v := .ref (G.1 (t0 + 2))) X in_X0_personOf_0 rfl 2 (by decide) (kd_in hk0 (by decide)) (EE_0 _ hk0) rfl (mem_ix 2 rfl) dX0_personOf_22 ?_
          refine r_iload_n X dX0_personOf_25 1 rfl ?_
          obtain ⟨g8, hf⟩ := okg hf
          refine r_aald (i := (t0 + 2)) (t := 2) (d := 29) (jn := a1.toNatClampNeg) X (kd_in (kf_0_2 hk0) (by decide)) (EE_31 _ (kf_0_2 hk0)) rfl rfl g8 dX0_personOf_26 ?_
          refine r_goto (tgt := 31) X dX0_personOf_27 (by decide) ?_
          exact r_qret (r := some ((t0 + 2) + 29 + a1.toNatClampNeg)) X rfl hR rfl (ok0 hf) dX0_personOf_31
theorem md_X0_personOf : MD yX0_personOf wsX0_personOf cX0_personOf 2 1 (some (.object "StairCourt$Person")) := ⟨⟨_, rfl⟩, by decide +kernel, by decide +kernel, by decide⟩
theorem c_X0_personOf (l : Launch) (G : GX)  (t0 : Nat) (a1 : Int32) (hk0 : kd t0 = 0) (σ : MM) (h : (f_X0_personOf t0 a1 σ).isSome = true) : CTq l G yX0_personOf wsX0_personOf 3 [.ref (G.1 t0), .int a1] σ (f_X0_personOf t0 a1 σ) :=
  CTq_of md_X0_personOf (Nat.le_of_ble_eq_true rfl) (fun K X hR => e_X0_personOf X hR t0 a1 hk0 σ (ok_is h))
-- X0_textOf
theorem in_X0_textOf_0 : ∀ w ∈ u_ws RX0 TX0 12, w ∈ wsX0_textOf := fun _ h => List.mem_cons_of_mem _ (List.mem_append_right _ h)
def f_X0_textOf (t0 : Nat) (a1 : Int32) (σ : MM) : Option (Option Nat × MM) :=
  if a1 = 0 then some ((some (t0 + 3) : Option Nat), σ) else if a1 = (1 : Int32) then some ((some (t0 + 6) : Option Nat), σ) else some ((none : Option Nat), σ)
set_option maxRecDepth 100000 in
set_option maxHeartbeats 4000000 in
theorem e_X0_textOf {l : Launch} {G : GX} {K : KX} (X : FX G K cX0_textOf RX0 (some (.object "StairCourt$Text")) wsX0_textOf 2) {Φ : Option Nat → MM → Prop} (hR : Rq G K Φ) (t0 : Nat) (a1 : Int32) (hk0 : kd t0 = 0) (σ : MM) (hf : Ok Φ (f_X0_textOf t0 a1 σ)) : V l G 3 K 2 0 [(0, .ref (G.1 t0)), (1, .int a1)] [] σ := by
    unfold f_X0_textOf at hf
    refine r_iload_n X dX0_textOf_0 1 rfl ?_
    refine r_if_ne (tgt := 9) X dX0_textOf_1 (by decide) (fun h3 => ?_) (fun h3 => ?_)
    · replace hf := okf h3 hf
      refine r_iload_n X dX0_textOf_9 1 rfl ?_
      refine r_iconst X dX0_textOf_10 ci_1 ?_
      refine r_icmp_ne (tgt := 21) X dX0_textOf_11 (by decide) (fun h4 => ?_) (fun h4 => ?_)
      · replace hf := okf h4 hf
        refine r_null X dX0_textOf_21 ?_
        exact r_qret (r := none) X rfl hR rfl (ok0 hf) dX0_textOf_22
      · replace hf := okt h4 hf
        refine r_aload_n X dX0_textOf_14 0 rfl isr_ref ?_
        refine r_get (i := t0) (v := .ref (G.1 (t0 + 6))) X in_X0_textOf_0 rfl 5 (by decide) (kd_in hk0 (by decide)) (EE_0 _ hk0) rfl (mem_ix 2 rfl) dX0_textOf_15 ?_
        refine r_goto (tgt := 22) X dX0_textOf_18 (by decide) ?_
        exact r_qret (r := some (t0 + 6)) X rfl hR rfl (ok0 hf) dX0_textOf_22
    · replace hf := okt h3 hf
      refine r_aload_n X dX0_textOf_4 0 rfl isr_ref ?_
      refine r_get (i := t0) (v := .ref (G.1 (t0 + 3))) X in_X0_textOf_0 rfl 4 (by decide) (kd_in hk0 (by decide)) (EE_0 _ hk0) rfl (mem_ix 1 rfl) dX0_textOf_5 ?_
      exact r_qret (r := some (t0 + 3)) X rfl hR rfl (ok0 hf) dX0_textOf_8
theorem md_X0_textOf : MD yX0_textOf wsX0_textOf cX0_textOf 2 1 (some (.object "StairCourt$Text")) := ⟨⟨_, rfl⟩, by decide +kernel, by decide +kernel, by decide⟩
theorem c_X0_textOf (l : Launch) (G : GX)  (t0 : Nat) (a1 : Int32) (hk0 : kd t0 = 0) (σ : MM) (h : (f_X0_textOf t0 a1 σ).isSome = true) : CTq l G yX0_textOf wsX0_textOf 3 [.ref (G.1 t0), .int a1] σ (f_X0_textOf t0 a1 σ) :=
  CTq_of md_X0_textOf (Nat.le_of_ble_eq_true rfl) (fun K X hR => e_X0_textOf X hR t0 a1 hk0 σ (ok_is h))
-- X0_addStep
theorem in_X0_addStep_0 : ∀ w ∈ u_ws RX0 TX0 12, w ∈ wsX0_addStep := fun _ h => List.mem_cons_of_mem _ (List.mem_append_left _ (List.mem_append_right _ h))
theorem in_X0_addStep_2 : ∀ w ∈ u_ws RX2 TX2 4, w ∈ wsX0_addStep := fun _ h => List.mem_cons_of_mem _ (List.mem_append_right _ h)
def f_X0_addStep (t0 : Nat) (a1 : Int32) (a2 : Int32) (σ : MM) : Option (Int32 × MM) :=
  if (σ t0 1) < 0 then some ((σ t0 1), σ) else if (20 : Int32) ≤ (σ t0 1) then some ((σ t0 1), σ) else if (σ t0 1) < 0 ∨ 20 ≤ (σ t0 1).toNatClampNeg then none else lt (mu σ ((t0 + 1) + 10 + (σ t0 1).toNatClampNeg) 1 a1) (fun σ15 => lt (mu σ15 ((t0 + 1) + 10 + (σ t0 1).toNatClampNeg) 2 a2) (fun σ17 => lt (mu σ17 ((t0 + 1) + 10 + (σ t0 1).toNatClampNeg) 3 (0 : Int32)) (fun σ19 => lt (mu σ19 t0 1 ((σ19 t0 1) + (1 : Int32))) (fun σ21 => some ((σ t0 1), σ21)))))
set_option maxRecDepth 100000 in
set_option maxHeartbeats 4000000 in
theorem e_X0_addStep {l : Launch} {G : GX} {K : KX} (X : FX G K cX0_addStep RX0 (some .int) wsX0_addStep 5) {Φ : Int32 → MM → Prop} (hR : Ri G K Φ) (t0 : Nat) (a1 : Int32) (a2 : Int32) (hk0 : kd t0 = 0) (σ : MM) (hf : Ok Φ (f_X0_addStep t0 a1 a2 σ)) : V l G 3 K 5 0 [(0, .ref (G.1 t0)), (1, .int a1), (2, .int a2)] [] σ := by
    unfold f_X0_addStep at hf
    refine r_aload_n X dX0_addStep_0 0 rfl isr_ref ?_
    refine r_get (i := t0) (v := .int (σ t0 1)) X in_X0_addStep_0 rfl 1 (by decide) (kd_in hk0 (by decide)) (EE_0 _ hk0) rfl (mem_ix 1 rfl) dX0_addStep_1 ?_
    refine r_istore_n X dX0_addStep_4 (i := 3) rfl (by decide) (lv' := [(3, .int (σ t0 1)), (0, .ref (G.1 t0)), (1, .int a1), (2, .int a2)]) rfl ?_
    refine r_iload_n X dX0_addStep_5 0 rfl ?_
    refine r_if_lt (tgt := 54) X dX0_addStep_6 (by decide) (fun h12 => ?_) (fun h12 => ?_)
    · replace hf := okt h12 hf
      refine r_iload_n X dX0_addStep_54 0 rfl ?_
      exact r_iret X rfl hR (ok0 hf) dX0_addStep_55
    · replace hf := okf h12 hf
      refine r_iload_n X dX0_addStep_9 0 rfl ?_
      refine r_aload_n X dX0_addStep_10 1 rfl isr_ref ?_
      refine r_get (i := t0) (v := .ref (G.1 (t0 + 1))) X in_X0_addStep_0 rfl 0 (by decide) (kd_in hk0 (by decide)) (EE_0 _ hk0) rfl (mem_ix 2 rfl) dX0_addStep_11 ?_
      refine r_alen (i := (t0 + 1)) (t := 1) (v := (20 : Int32)) X (kd_in (kf_0_1 hk0) (by decide)) (EE_30 _ (kf_0_1 hk0)) rfl (by decide) dX0_addStep_14 ?_
      refine r_icmp_ge (tgt := 54) X dX0_addStep_15 (by decide) (fun h13 => ?_) (fun h13 => ?_)
      · replace hf := okt h13 hf
        refine r_iload_n X dX0_addStep_54 0 rfl ?_
        exact r_iret X rfl hR (ok0 hf) dX0_addStep_55
      · replace hf := okf h13 hf
        refine r_aload_n X dX0_addStep_18 1 rfl isr_ref ?_
        refine r_get (i := t0) (v := .ref (G.1 (t0 + 1))) X in_X0_addStep_0 rfl 0 (by decide) (kd_in hk0 (by decide)) (EE_0 _ hk0) rfl (mem_ix 2 rfl) dX0_addStep_19 ?_
        refine r_iload_n X dX0_addStep_22 0 rfl ?_
        obtain ⟨g14, hf⟩ := okg hf
        refine r_aald (i := (t0 + 1)) (t := 1) (d := 10) (jn := (σ t0 1).toNatClampNeg) X (kd_in (kf_0_1 hk0) (by decide)) (EE_30 _ (kf_0_1 hk0)) rfl rfl g14 dX0_addStep_23 ?_
        refine r_astore X dX0_addStep_24 (by decide) isr_ref (lv' := [(4, .ref (G.1 ((t0 + 1) + 10 + (σ t0 1).toNatClampNeg))), (3, .int (σ t0 1)), (0, .ref (G.1 t0)), (1, .int a1), (2, .int a2)]) rfl ?_
        refine r_aload X dX0_addStep_26 0 rfl isr_ref ?_
        refine r_iload_n X dX0_addStep_28 3 rfl ?_
        obtain ⟨σ15, e16, hf⟩ := okl hf
        refine r_put (i := ((t0 + 1) + 10 + (σ t0 1).toNatClampNeg)) (f := upd (σ ((t0 + 1) + 10 + (σ t0 1).toNatClampNeg)) 1 a1) X in_X0_addStep_2 tyX2 tyX2_ok nmX2 rfl 1 (by decide) (kd_in (ke_30 (kf_0_1 hk0) (inr_lt g14)) (by decide)) (EE_2 _ (ke_30 (kf_0_1 hk0) (inr_lt g14))) (EU_2_1 _ _ (ke_30 (kf_0_1 hk0) (inr_lt g14))) rfl (mem_ix 3 rfl) rfl rfl rfl rfl dX0_addStep_29 ?_
        refine r_sg e16 ?_
        refine r_aload X dX0_addStep_32 0 rfl isr_ref ?_
        refine r_iload_n X dX0_addStep_34 4 rfl ?_
        obtain ⟨σ17, e18, hf⟩ := okl hf
        refine r_put (i := ((t0 + 1) + 10 + (σ t0 1).toNatClampNeg)) (f := upd (σ15 ((t0 + 1) + 10 + (σ t0 1).toNatClampNeg)) 2 a2) X in_X0_addStep_2 tyX2 tyX2_ok nmX2 rfl 2 (by decide) (kd_in (ke_30 (kf_0_1 hk0) (inr_lt g14)) (by decide)) (EE_2 _ (ke_30 (kf_0_1 hk0) (inr_lt g14))) (EU_2_2 _ _ (ke_30 (kf_0_1 hk0) (inr_lt g14))) rfl (mem_ix 4 rfl) rfl rfl rfl rfl dX0_addStep_35 ?_
        refine r_sg e18 ?_
        refine r_aload X dX0_addStep_38 0 rfl isr_ref ?_
        refine r_iconst X dX0_addStep_40 ci_0 ?_
        obtain ⟨σ19, e20, hf⟩ := okl hf
        refine r_put (i := ((t0 + 1) + 10 + (σ t0 1).toNatClampNeg)) (f := upd (σ17 ((t0 + 1) + 10 + (σ t0 1).toNatClampNeg)) 3 (0 : Int32)) X in_X0_addStep_2 tyX2 tyX2_ok nmX2 rfl 3 (by decide) (kd_in (ke_30 (kf_0_1 hk0) (inr_lt g14)) (by decide)) (EE_2 _ (ke_30 (kf_0_1 hk0) (inr_lt g14))) (EU_2_3 _ _ (ke_30 (kf_0_1 hk0) (inr_lt g14))) rfl (mem_ix 5 rfl) rfl rfl rfl rfl dX0_addStep_41 ?_
        refine r_sg e20 ?_
        refine r_aload_n X dX0_addStep_44 2 rfl isr_ref ?_
        refine r_dup X dX0_addStep_45 rfl ?_
        refine r_get (i := t0) (v := .int (σ19 t0 1)) X in_X0_addStep_0 rfl 1 (by decide) (kd_in hk0 (by decide)) (EE_0 _ hk0) rfl (mem_ix 1 rfl) dX0_addStep_46 ?_
        refine r_iconst X dX0_addStep_49 ci_1 ?_
        refine r_iadd X dX0_addStep_50 ?_
        obtain ⟨σ21, e22, hf⟩ := okl hf
        refine r_put (i := t0) (f := upd (σ19 t0) 1 ((σ19 t0 1) + (1 : Int32))) X in_X0_addStep_0 tyX0 tyX0_ok nmX0 rfl 1 (by decide) (kd_in hk0 (by decide)) (EE_0 _ hk0) (EU_0_1 _ _ hk0) rfl (mem_ix 1 rfl) rfl rfl rfl rfl dX0_addStep_51 ?_
        refine r_sg e22 ?_
        refine r_iload_n X dX0_addStep_54 1 rfl ?_
        exact r_iret X rfl hR (ok0 hf) dX0_addStep_55
theorem md_X0_addStep : MD yX0_addStep wsX0_addStep cX0_addStep 5 2 (some .int) := ⟨⟨_, rfl⟩, by decide +kernel, by decide +kernel, by decide⟩
theorem c_X0_addStep (l : Launch) (G : GX)  (t0 : Nat) (a1 : Int32) (a2 : Int32) (hk0 : kd t0 = 0) (σ : MM) (h : (f_X0_addStep t0 a1 a2 σ).isSome = true) : CTi l G yX0_addStep wsX0_addStep 3 [.ref (G.1 t0), .int a1, .int a2] σ (f_X0_addStep t0 a1 a2 σ) :=
  CTi_of md_X0_addStep (Nat.le_of_ble_eq_true rfl) (fun K X hR => e_X0_addStep X hR t0 a1 a2 hk0 σ (ok_is h))
-- X0_addPerson
theorem in_X0_addPerson_0 : ∀ w ∈ u_ws RX0 TX0 12, w ∈ wsX0_addPerson := fun _ h => List.mem_cons_of_mem _ (List.mem_append_left _ (List.mem_append_right _ h))
theorem in_X0_addPerson_3 : ∀ w ∈ u_ws RX3 TX3 4, w ∈ wsX0_addPerson := fun _ h => List.mem_cons_of_mem _ (List.mem_append_right _ h)
def f_X0_addPerson (t0 : Nat) (a1 : Int32) (σ : MM) : Option (Int32 × MM) :=
  if (σ t0 3) < 0 then some ((σ t0 3), σ) else if (5 : Int32) ≤ (σ t0 3) then some ((σ t0 3), σ) else if (σ t0 3) < 0 ∨ 5 ≤ (σ t0 3).toNatClampNeg then none else lt (mu σ ((t0 + 2) + 29 + (σ t0 3).toNatClampNeg) 0 (0 : Int32)) (fun σ17 => lt (mu σ17 ((t0 + 2) + 29 + (σ t0 3).toNatClampNeg) 1 a1) (fun σ19 => lt (mu σ19 ((t0 + 2) + 29 + (σ t0 3).toNatClampNeg) 2 (0 : Int32)) (fun σ21 => lt (mu σ21 ((t0 + 2) + 29 + (σ t0 3).toNatClampNeg) 3 (0 : Int32)) (fun σ23 => lt (mu σ23 t0 3 ((σ23 t0 3) + (1 : Int32))) (fun σ25 => some ((σ t0 3), σ25))))))
set_option maxRecDepth 100000 in
set_option maxHeartbeats 4000000 in
theorem e_X0_addPerson {l : Launch} {G : GX} {K : KX} (X : FX G K cX0_addPerson RX0 (some .int) wsX0_addPerson 4) {Φ : Int32 → MM → Prop} (hR : Ri G K Φ) (t0 : Nat) (a1 : Int32) (hk0 : kd t0 = 0) (σ : MM) (hf : Ok Φ (f_X0_addPerson t0 a1 σ)) : V l G 3 K 4 0 [(0, .ref (G.1 t0)), (1, .int a1)] [] σ := by
    unfold f_X0_addPerson at hf
    refine r_aload_n X dX0_addPerson_0 0 rfl isr_ref ?_
    refine r_get (i := t0) (v := .int (σ t0 3)) X in_X0_addPerson_0 rfl 3 (by decide) (kd_in hk0 (by decide)) (EE_0 _ hk0) rfl (mem_ix 1 rfl) dX0_addPerson_1 ?_
    refine r_istore_n X dX0_addPerson_4 (i := 2) rfl (by decide) (lv' := [(2, .int (σ t0 3)), (0, .ref (G.1 t0)), (1, .int a1)]) rfl ?_
    refine r_iload_n X dX0_addPerson_5 0 rfl ?_
    refine r_if_lt (tgt := 55) X dX0_addPerson_6 (by decide) (fun h14 => ?_) (fun h14 => ?_)
    · replace hf := okt h14 hf
      refine r_iload_n X dX0_addPerson_55 0 rfl ?_
      exact r_iret X rfl hR (ok0 hf) dX0_addPerson_56
    · replace hf := okf h14 hf
      refine r_iload_n X dX0_addPerson_9 0 rfl ?_
      refine r_aload_n X dX0_addPerson_10 1 rfl isr_ref ?_
      refine r_get (i := t0) (v := .ref (G.1 (t0 + 2))) X in_X0_addPerson_0 rfl 2 (by decide) (kd_in hk0 (by decide)) (EE_0 _ hk0) rfl (mem_ix 2 rfl) dX0_addPerson_11 ?_
      refine r_alen (i := (t0 + 2)) (t := 2) (v := (5 : Int32)) X (kd_in (kf_0_2 hk0) (by decide)) (EE_31 _ (kf_0_2 hk0)) rfl (by decide) dX0_addPerson_14 ?_
      refine r_icmp_ge (tgt := 55) X dX0_addPerson_15 (by decide) (fun h15 => ?_) (fun h15 => ?_)
      · replace hf := okt h15 hf
        refine r_iload_n X dX0_addPerson_55 0 rfl ?_
        exact r_iret X rfl hR (ok0 hf) dX0_addPerson_56
      · replace hf := okf h15 hf
        refine r_aload_n X dX0_addPerson_18 1 rfl isr_ref ?_
        refine r_get (i := t0) (v := .ref (G.1 (t0 + 2))) X in_X0_addPerson_0 rfl 2 (by decide) (kd_in hk0 (by decide)) (EE_0 _ hk0) rfl (mem_ix 2 rfl) dX0_addPerson_19 ?_
        refine r_iload_n X dX0_addPerson_22 0 rfl ?_
        obtain ⟨g16, hf⟩ := okg hf
        refine r_aald (i := (t0 + 2)) (t := 2) (d := 29) (jn := (σ t0 3).toNatClampNeg) X (kd_in (kf_0_2 hk0) (by decide)) (EE_31 _ (kf_0_2 hk0)) rfl rfl g16 dX0_addPerson_23 ?_
        refine r_astore_n X dX0_addPerson_24 (i := 3) rfl (by decide) isr_ref (lv' := [(3, .ref (G.1 ((t0 + 2) + 29 + (σ t0 3).toNatClampNeg))), (2, .int (σ t0 3)), (0, .ref (G.1 t0)), (1, .int a1)]) rfl ?_
        refine r_aload_n X dX0_addPerson_25 0 rfl isr_ref ?_
        refine r_iconst X dX0_addPerson_26 ci_0 ?_
        obtain ⟨σ17, e18, hf⟩ := okl hf
        refine r_put (i := ((t0 + 2) + 29 + (σ t0 3).toNatClampNeg)) (f := upd (σ ((t0 + 2) + 29 + (σ t0 3).toNatClampNeg)) 0 (0 : Int32)) X in_X0_addPerson_3 tyX3 tyX3_ok nmX3 rfl 0 (by decide) (kd_in (ke_31 (kf_0_2 hk0) (inr_lt g16)) (by decide)) (EE_3 _ (ke_31 (kf_0_2 hk0) (inr_lt g16))) (EU_3_0 _ _ (ke_31 (kf_0_2 hk0) (inr_lt g16))) rfl (mem_ix 3 rfl) rfl rfl rfl rfl dX0_addPerson_27 ?_
        refine r_sg e18 ?_
        refine r_aload_n X dX0_addPerson_30 0 rfl isr_ref ?_
        refine r_iload_n X dX0_addPerson_31 3 rfl ?_
        obtain ⟨σ19, e20, hf⟩ := okl hf
        refine r_put (i := ((t0 + 2) + 29 + (σ t0 3).toNatClampNeg)) (f := upd (σ17 ((t0 + 2) + 29 + (σ t0 3).toNatClampNeg)) 1 a1) X in_X0_addPerson_3 tyX3 tyX3_ok nmX3 rfl 1 (by decide) (kd_in (ke_31 (kf_0_2 hk0) (inr_lt g16)) (by decide)) (EE_3 _ (ke_31 (kf_0_2 hk0) (inr_lt g16))) (EU_3_1 _ _ (ke_31 (kf_0_2 hk0) (inr_lt g16))) rfl (mem_ix 4 rfl) rfl rfl rfl rfl dX0_addPerson_32 ?_
        refine r_sg e20 ?_
        refine r_aload_n X dX0_addPerson_35 0 rfl isr_ref ?_
        refine r_iconst X dX0_addPerson_36 ci_0 ?_
        obtain ⟨σ21, e22, hf⟩ := okl hf
        refine r_put (i := ((t0 + 2) + 29 + (σ t0 3).toNatClampNeg)) (f := upd (σ19 ((t0 + 2) + 29 + (σ t0 3).toNatClampNeg)) 2 (0 : Int32)) X in_X0_addPerson_3 tyX3 tyX3_ok nmX3 rfl 2 (by decide) (kd_in (ke_31 (kf_0_2 hk0) (inr_lt g16)) (by decide)) (EE_3 _ (ke_31 (kf_0_2 hk0) (inr_lt g16))) (EU_3_2 _ _ (ke_31 (kf_0_2 hk0) (inr_lt g16))) rfl (mem_ix 5 rfl) rfl rfl rfl rfl dX0_addPerson_37 ?_
        refine r_sg e22 ?_
        refine r_aload_n X dX0_addPerson_40 0 rfl isr_ref ?_
        refine r_iconst X dX0_addPerson_41 ci_0 ?_
        obtain ⟨σ23, e24, hf⟩ := okl hf
        refine r_put (i := ((t0 + 2) + 29 + (σ t0 3).toNatClampNeg)) (f := upd (σ21 ((t0 + 2) + 29 + (σ t0 3).toNatClampNeg)) 3 (0 : Int32)) X in_X0_addPerson_3 tyX3 tyX3_ok nmX3 rfl 3 (by decide) (kd_in (ke_31 (kf_0_2 hk0) (inr_lt g16)) (by decide)) (EE_3 _ (ke_31 (kf_0_2 hk0) (inr_lt g16))) (EU_3_3 _ _ (ke_31 (kf_0_2 hk0) (inr_lt g16))) rfl (mem_ix 6 rfl) rfl rfl rfl rfl dX0_addPerson_42 ?_
        refine r_sg e24 ?_
        refine r_aload_n X dX0_addPerson_45 2 rfl isr_ref ?_
        refine r_dup X dX0_addPerson_46 rfl ?_
        refine r_get (i := t0) (v := .int (σ23 t0 3)) X in_X0_addPerson_0 rfl 3 (by decide) (kd_in hk0 (by decide)) (EE_0 _ hk0) rfl (mem_ix 1 rfl) dX0_addPerson_47 ?_
        refine r_iconst X dX0_addPerson_50 ci_1 ?_
        refine r_iadd X dX0_addPerson_51 ?_
        obtain ⟨σ25, e26, hf⟩ := okl hf
        refine r_put (i := t0) (f := upd (σ23 t0) 3 ((σ23 t0 3) + (1 : Int32))) X in_X0_addPerson_0 tyX0 tyX0_ok nmX0 rfl 3 (by decide) (kd_in hk0 (by decide)) (EE_0 _ hk0) (EU_0_3 _ _ hk0) rfl (mem_ix 1 rfl) rfl rfl rfl rfl dX0_addPerson_52 ?_
        refine r_sg e26 ?_
        refine r_iload_n X dX0_addPerson_55 1 rfl ?_
        exact r_iret X rfl hR (ok0 hf) dX0_addPerson_56
theorem md_X0_addPerson : MD yX0_addPerson wsX0_addPerson cX0_addPerson 4 1 (some .int) := ⟨⟨_, rfl⟩, by decide +kernel, by decide +kernel, by decide⟩
theorem c_X0_addPerson (l : Launch) (G : GX)  (t0 : Nat) (a1 : Int32) (hk0 : kd t0 = 0) (σ : MM) (h : (f_X0_addPerson t0 a1 σ).isSome = true) : CTi l G yX0_addPerson wsX0_addPerson 3 [.ref (G.1 t0), .int a1] σ (f_X0_addPerson t0 a1 σ) :=
  CTi_of md_X0_addPerson (Nat.le_of_ble_eq_true rfl) (fun K X hR => e_X0_addPerson X hR t0 a1 hk0 σ (ok_is h))
-- X0_isUp
theorem in_X0_isUp_3 : ∀ w ∈ u_ws RX3 TX3 4, w ∈ wsX0_isUp := fun _ h => List.mem_cons_of_mem _ (List.mem_append_left _ (List.mem_append_right _ h))
theorem in_X0_isUp_0 : ∀ w ∈ u_ws RX0 TX0 12, w ∈ wsX0_isUp := fun _ h => List.mem_cons_of_mem _ (List.mem_append_right _ h)
def f_X0_isUp (t0 : Nat) (t1 : Nat) (σ : MM) : Option (Int32 × MM) :=
  if (σ t1 0) < (σ t0 1) then some ((0 : Int32), σ) else some ((1 : Int32), σ)
set_option maxRecDepth 100000 in
set_option maxHeartbeats 4000000 in
theorem e_X0_isUp {l : Launch} {G : GX} {K : KX} (X : FX G K cX0_isUp RX0 (some .boolean) wsX0_isUp 2) {Φ : Int32 → MM → Prop} (hR : Ri G K Φ) (t0 : Nat) (t1 : Nat) (hk0 : kd t0 = 0) (hk1 : kd t1 = 3) (σ : MM) (hf : Ok Φ (f_X0_isUp t0 t1 σ)) : V l G 3 K 2 0 [(0, .ref (G.1 t0)), (1, .ref (G.1 t1))] [] σ := by
    unfold f_X0_isUp at hf
    refine r_aload_n X dX0_isUp_0 1 rfl isr_ref ?_
    refine r_get (i := t1) (v := .int (σ t1 0)) X in_X0_isUp_3 rfl 0 (by decide) (kd_in hk1 (by decide)) (EE_3 _ hk1) rfl (mem_ix 1 rfl) dX0_isUp_1 ?_
    refine r_aload_n X dX0_isUp_4 0 rfl isr_ref ?_
    refine r_get (i := t0) (v := .int (σ t0 1)) X in_X0_isUp_0 rfl 1 (by decide) (kd_in hk0 (by decide)) (EE_0 _ hk0) rfl (mem_ix 2 rfl) dX0_isUp_5 ?_
    refine r_icmp_lt (tgt := 15) X dX0_isUp_8 (by decide) (fun h2 => ?_) (fun h2 => ?_)
    · replace hf := okt h2 hf
      refine r_iconst X dX0_isUp_15 ci_0 ?_
      exact r_zret X rfl hR (by decide) (ok0 hf) dX0_isUp_16
    · replace hf := okf h2 hf
      refine r_iconst X dX0_isUp_11 ci_1 ?_
      refine r_goto (tgt := 16) X dX0_isUp_12 (by decide) ?_
      exact r_zret X rfl hR (by decide) (ok0 hf) dX0_isUp_16
theorem md_X0_isUp : MD yX0_isUp wsX0_isUp cX0_isUp 2 1 (some .boolean) := ⟨⟨_, rfl⟩, by decide +kernel, by decide +kernel, by decide⟩
theorem c_X0_isUp (l : Launch) (G : GX)  (t0 : Nat) (t1 : Nat) (hk0 : kd t0 = 0) (hk1 : kd t1 = 3) (σ : MM) (h : (f_X0_isUp t0 t1 σ).isSome = true) : CTi l G yX0_isUp wsX0_isUp 3 [.ref (G.1 t0), .ref (G.1 t1)] σ (f_X0_isUp t0 t1 σ) :=
  CTi_of md_X0_isUp (Nat.le_of_ble_eq_true rfl) (fun K X hR => e_X0_isUp X hR t0 t1 hk0 hk1 σ (ok_is h))
-- X0_canGo
theorem in_X0_canGo_3 : ∀ w ∈ u_ws RX3 TX3 4, w ∈ wsX0_canGo := fun _ h => List.mem_cons_of_mem _ (List.mem_append_left _ (List.mem_append_right _ h))
theorem in_X0_canGo_0 : ∀ w ∈ u_ws RX0 TX0 12, w ∈ wsX0_canGo := fun _ h => List.mem_cons_of_mem _ (List.mem_append_right _ h)
def f_X0_canGo (t0 : Nat) (t1 : Nat) (σ : MM) : Option (Int32 × MM) :=
  bd (f_X0_isUp t0 t1 σ) (fun r6 σ7 => if r6 = 0 then if (σ7 t1 1) ≤ 0 then some ((0 : Int32), σ7) else some ((1 : Int32), σ7) else some ((0 : Int32), σ7))
set_option maxRecDepth 100000 in
set_option maxHeartbeats 4000000 in
theorem e_X0_canGo {l : Launch} {G : GX} {K : KX} (X : FX G K cX0_canGo RX0 (some .boolean) wsX0_canGo 2) {Φ : Int32 → MM → Prop} (hR : Ri G K Φ) (t0 : Nat) (t1 : Nat) (hk0 : kd t0 = 0) (hk1 : kd t1 = 3) (σ : MM) (hf : Ok Φ (f_X0_canGo t0 t1 σ)) : V l G 4 K 2 0 [(0, .ref (G.1 t0)), (1, .ref (G.1 t1))] [] σ := by
    unfold f_X0_canGo at hf
    refine r_aload_n X dX0_canGo_0 0 rfl isr_ref ?_
    refine r_aload_n X dX0_canGo_1 1 rfl isr_ref ?_
    refine r_callVi (rest := []) X (c_X0_isUp l G t0 t1 hk0 hk1 σ (oks hf)) md_X0_isUp gX0_canGo_X0_isUp (by decide) rfl rfl (kd_in hk0 (by decide)) (EE_0 _ hk0) rfl rfl (Nat.le_of_ble_eq_true rfl) dX0_canGo_2 (fun r6 σ7 e8 => ?_)
    replace hf := okn e8 hf
    refine r_if_ne (tgt := 19) X dX0_canGo_5 (by decide) (fun h9 => ?_) (fun h9 => ?_)
    · replace hf := okf h9 hf
      refine r_iconst X dX0_canGo_19 ci_0 ?_
      exact r_zret X rfl hR (by decide) (ok0 hf) dX0_canGo_20
    · replace hf := okt h9 hf
      refine r_aload_n X dX0_canGo_8 1 rfl isr_ref ?_
      refine r_get (i := t1) (v := .int (σ7 t1 1)) X in_X0_canGo_3 rfl 1 (by decide) (kd_in hk1 (by decide)) (EE_3 _ hk1) rfl (mem_ix 1 rfl) dX0_canGo_9 ?_
      refine r_if_le (tgt := 19) X dX0_canGo_12 (by decide) (fun h10 => ?_) (fun h10 => ?_)
      · replace hf := okt h10 hf
        refine r_iconst X dX0_canGo_19 ci_0 ?_
        exact r_zret X rfl hR (by decide) (ok0 hf) dX0_canGo_20
      · replace hf := okf h10 hf
        refine r_iconst X dX0_canGo_15 ci_1 ?_
        refine r_goto (tgt := 20) X dX0_canGo_16 (by decide) ?_
        exact r_zret X rfl hR (by decide) (ok0 hf) dX0_canGo_20
theorem md_X0_canGo : MD yX0_canGo wsX0_canGo cX0_canGo 2 1 (some .boolean) := ⟨⟨_, rfl⟩, by decide +kernel, by decide +kernel, by decide⟩
theorem c_X0_canGo (l : Launch) (G : GX)  (t0 : Nat) (t1 : Nat) (hk0 : kd t0 = 0) (hk1 : kd t1 = 3) (σ : MM) (h : (f_X0_canGo t0 t1 σ).isSome = true) : CTi l G yX0_canGo wsX0_canGo 4 [.ref (G.1 t0), .ref (G.1 t1)] σ (f_X0_canGo t0 t1 σ) :=
  CTi_of md_X0_canGo (Nat.le_of_ble_eq_true rfl) (fun K X hR => e_X0_canGo X hR t0 t1 hk0 hk1 σ (ok_is h))
-- X6_isThere
theorem in_X6_isThere_6 : ∀ w ∈ u_ws RX6 TX6 3, w ∈ wsX6_isThere := fun _ h => List.mem_cons_of_mem _ (List.mem_append_right _ h)
def f_X6_isThere (t0 : Nat) (σ : MM) : Option (Int32 × MM) :=
  if (σ t0 2) ≤ 0 then some ((0 : Int32), σ) else some ((1 : Int32), σ)
set_option maxRecDepth 100000 in
set_option maxHeartbeats 4000000 in
theorem e_X6_isThere {l : Launch} {G : GX} {K : KX} (X : FX G K cX6_isThere RX6 (some .boolean) wsX6_isThere 1) {Φ : Int32 → MM → Prop} (hR : Ri G K Φ) (t0 : Nat) (hk0 : kd t0 = 6) (σ : MM) (hf : Ok Φ (f_X6_isThere t0 σ)) : V l G 3 K 1 0 [(0, .ref (G.1 t0))] [] σ := by
    unfold f_X6_isThere at hf
    refine r_aload_n X dX6_isThere_0 0 rfl isr_ref ?_
    refine r_get (i := t0) (v := .int (σ t0 2)) X in_X6_isThere_6 rfl 2 (by decide) (kd_in hk0 (by decide)) (EE_6 _ hk0) rfl (mem_ix 1 rfl) dX6_isThere_1 ?_
    refine r_if_le (tgt := 11) X dX6_isThere_4 (by decide) (fun h2 => ?_) (fun h2 => ?_)
    · replace hf := okt h2 hf
      refine r_iconst X dX6_isThere_11 ci_0 ?_
      exact r_zret X rfl hR (by decide) (ok0 hf) dX6_isThere_12
    · replace hf := okf h2 hf
      refine r_iconst X dX6_isThere_7 ci_1 ?_
      refine r_goto (tgt := 12) X dX6_isThere_8 (by decide) ?_
      exact r_zret X rfl hR (by decide) (ok0 hf) dX6_isThere_12
theorem md_X6_isThere : MD yX6_isThere wsX6_isThere cX6_isThere 1 0 (some .boolean) := ⟨⟨_, rfl⟩, by decide +kernel, by decide +kernel, by decide⟩
theorem c_X6_isThere (l : Launch) (G : GX)  (t0 : Nat) (hk0 : kd t0 = 6) (σ : MM) (h : (f_X6_isThere t0 σ).isSome = true) : CTi l G yX6_isThere wsX6_isThere 3 [.ref (G.1 t0)] σ (f_X6_isThere t0 σ) :=
  CTi_of md_X6_isThere (Nat.le_of_ble_eq_true rfl) (fun K X hR => e_X6_isThere X hR t0 hk0 σ (ok_is h))
-- X6_nameAt
def f_X6_nameAt (a0 : Int32) (a1 : Int32) (a2 : Int32) (a3 : Int32) (σ : MM) : Option (Int32 × MM) :=
  if a0 = (0 : Int32) then some (a1, σ) else if a0 = (1 : Int32) then some (a2, σ) else some (a3, σ)
set_option maxRecDepth 100000 in
set_option maxHeartbeats 4000000 in
theorem e_X6_nameAt {l : Launch} {G : GX} {K : KX} (X : FX G K cX6_nameAt RX6 (some .int) wsX6_nameAt 4) {Φ : Int32 → MM → Prop} (hR : Ri G K Φ) (a0 : Int32) (a1 : Int32) (a2 : Int32) (a3 : Int32) (σ : MM) (hf : Ok Φ (f_X6_nameAt a0 a1 a2 a3 σ)) : V l G 3 K 4 0 [(0, .int a0), (1, .int a1), (2, .int a2), (3, .int a3)] [] σ := by
    unfold f_X6_nameAt at hf
    refine r_iload_n X dX6_nameAt_0 0 rfl ?_
    by_cases h3 : a0 = (0 : Int32)
    · replace hf := okt h3 hf
      refine r_lookup (off := 27) (tgt := 28) X dX6_nameAt_1 (by decide +kernel) (by rw [h3]; rfl) (by decide) ?_
      refine r_iload_n X dX6_nameAt_28 1 rfl ?_
      exact r_iret X rfl hR (ok0 hf) dX6_nameAt_29
    replace hf := okf h3 hf
    by_cases h4 : a0 = (1 : Int32)
    · replace hf := okt h4 hf
      refine r_lookup (off := 29) (tgt := 30) X dX6_nameAt_1 (by decide +kernel) (by rw [h4]; rfl) (by decide) ?_
      refine r_iload_n X dX6_nameAt_30 2 rfl ?_
      exact r_iret X rfl hR (ok0 hf) dX6_nameAt_31
    replace hf := okf h4 hf
    refine r_lookup (off := 31) (tgt := 32) X dX6_nameAt_1 (by decide +kernel) (lk_n h3 (by decide) (lk_n h4 (by decide) rfl)) (by decide) ?_
    refine r_iload_n X dX6_nameAt_32 3 rfl ?_
    exact r_iret X rfl hR (ok0 hf) dX6_nameAt_33
theorem md_X6_nameAt : MD yX6_nameAt wsX6_nameAt cX6_nameAt 4 4 (some .int) := ⟨⟨_, rfl⟩, by decide +kernel, by decide +kernel, by decide⟩
theorem c_X6_nameAt (l : Launch) (G : GX)  (a0 : Int32) (a1 : Int32) (a2 : Int32) (a3 : Int32) (σ : MM) (h : (f_X6_nameAt a0 a1 a2 a3 σ).isSome = true) : CTi l G yX6_nameAt wsX6_nameAt 3 [.int a0, .int a1, .int a2, .int a3] σ (f_X6_nameAt a0 a1 a2 a3 σ) :=
  CTi_of md_X6_nameAt (Nat.le_of_ble_eq_true rfl) (fun K X hR => e_X6_nameAt X hR a0 a1 a2 a3 σ (ok_is h))
-- X6_join
def f_X6_join (a0 : Int32) (a1 : Int32) (a2 : Int32) (σ : MM) : Option (Int32 × MM) :=
  if a0 = (38 : Int32) then if a1 = 0 then some ((0 : Int32), σ) else if a2 = 0 then some ((0 : Int32), σ) else some ((1 : Int32), σ) else if a0 = (42 : Int32) then some ((a1 * a2), σ) else if a0 = (43 : Int32) then some ((a1 + a2), σ) else if a0 = (45 : Int32) then some ((a1 - a2), σ) else if a0 = (47 : Int32) then if a2 = 0 then some ((0 : Int32), σ) else if a2 = 0 then none else some ((a1 / a2), σ) else if a0 = (60 : Int32) then if a2 ≤ a1 then some ((0 : Int32), σ) else some ((1 : Int32), σ) else if a0 = (61 : Int32) then if a1 = a2 then some ((1 : Int32), σ) else some ((0 : Int32), σ) else if a0 = (62 : Int32) then if a1 ≤ a2 then some ((0 : Int32), σ) else some ((1 : Int32), σ) else if a0 = (124 : Int32) then if a1 = 0 then if a2 = 0 then some ((0 : Int32), σ) else some ((1 : Int32), σ) else some ((1 : Int32), σ) else if a2 = 0 then some ((0 : Int32), σ) else if a2 = 0 then none else some ((a1 - a1 / a2 * a2), σ)
set_option maxRecDepth 100000 in
set_option maxHeartbeats 4000000 in
theorem e_X6_join {l : Launch} {G : GX} {K : KX} (X : FX G K cX6_join RX6 (some .int) wsX6_join 3) {Φ : Int32 → MM → Prop} (hR : Ri G K Φ) (a0 : Int32) (a1 : Int32) (a2 : Int32) (σ : MM) (hf : Ok Φ (f_X6_join a0 a1 a2 σ)) : V l G 3 K 3 0 [(0, .int a0), (1, .int a1), (2, .int a2)] [] σ := by
    unfold f_X6_join at hf
    refine r_iload_n X dX6_join_0 0 rfl ?_
    by_cases h21 : a0 = (38 : Int32)
    · replace hf := okt h21 hf
      refine r_lookup (off := 97) (tgt := 98) X dX6_join_1 (by decide +kernel) (by rw [h21]; rfl) (by decide) ?_
      refine r_iload_n X dX6_join_98 1 rfl ?_
      refine r_if_eq (tgt := 110) X dX6_join_99 (by decide) (fun h30 => ?_) (fun h30 => ?_)
      · replace hf := okt h30 hf
        refine r_iconst X dX6_join_110 ci_0 ?_
        exact r_iret X rfl hR (ok0 hf) dX6_join_111
      · replace hf := okf h30 hf
        refine r_iload_n X dX6_join_102 2 rfl ?_
        refine r_if_eq (tgt := 110) X dX6_join_103 (by decide) (fun h31 => ?_) (fun h31 => ?_)
        · replace hf := okt h31 hf
          refine r_iconst X dX6_join_110 ci_0 ?_
          exact r_iret X rfl hR (ok0 hf) dX6_join_111
        · replace hf := okf h31 hf
          refine r_iconst X dX6_join_106 ci_1 ?_
          refine r_goto (tgt := 111) X dX6_join_107 (by decide) ?_
          exact r_iret X rfl hR (ok0 hf) dX6_join_111
    replace hf := okf h21 hf
    by_cases h22 : a0 = (42 : Int32)
    · replace hf := okt h22 hf
      refine r_lookup (off := 152) (tgt := 153) X dX6_join_1 (by decide +kernel) (by rw [h22]; rfl) (by decide) ?_
      refine r_iload_n X dX6_join_153 1 rfl ?_
      refine r_iload_n X dX6_join_154 2 rfl ?_
      refine r_imul X dX6_join_155 ?_
      exact r_iret X rfl hR (ok0 hf) dX6_join_156
    replace hf := okf h22 hf
    by_cases h23 : a0 = (43 : Int32)
    · replace hf := okt h23 hf
      refine r_lookup (off := 144) (tgt := 145) X dX6_join_1 (by decide +kernel) (by rw [h23]; rfl) (by decide) ?_
      refine r_iload_n X dX6_join_145 1 rfl ?_
      refine r_iload_n X dX6_join_146 2 rfl ?_
      refine r_iadd X dX6_join_147 ?_
      exact r_iret X rfl hR (ok0 hf) dX6_join_148
    replace hf := okf h23 hf
    by_cases h24 : a0 = (45 : Int32)
    · replace hf := okt h24 hf
      refine r_lookup (off := 148) (tgt := 149) X dX6_join_1 (by decide +kernel) (by rw [h24]; rfl) (by decide) ?_
      refine r_iload_n X dX6_join_149 1 rfl ?_
      refine r_iload_n X dX6_join_150 2 rfl ?_
      refine r_isub X dX6_join_151 ?_
      exact r_iret X rfl hR (ok0 hf) dX6_join_152
    replace hf := okf h24 hf
    by_cases h25 : a0 = (47 : Int32)
    · replace hf := okt h25 hf
      refine r_lookup (off := 156) (tgt := 157) X dX6_join_1 (by decide +kernel) (by rw [h25]; rfl) (by decide) ?_
      refine r_iload_n X dX6_join_157 2 rfl ?_
      refine r_if_ne (tgt := 165) X dX6_join_158 (by decide) (fun h32 => ?_) (fun h32 => ?_)
      · replace hf := okf h32 hf
        refine r_iload_n X dX6_join_165 1 rfl ?_
        refine r_iload_n X dX6_join_166 2 rfl ?_
        obtain ⟨g33, hf⟩ := okg hf
        refine r_idiv X dX6_join_167 g33 ?_
        exact r_iret X rfl hR (ok0 hf) dX6_join_168
      · replace hf := okt h32 hf
        refine r_iconst X dX6_join_161 ci_0 ?_
        refine r_goto (tgt := 168) X dX6_join_162 (by decide) ?_
        exact r_iret X rfl hR (ok0 hf) dX6_join_168
    replace hf := okf h25 hf
    by_cases h26 : a0 = (60 : Int32)
    · replace hf := okt h26 hf
      refine r_lookup (off := 111) (tgt := 112) X dX6_join_1 (by decide +kernel) (by rw [h26]; rfl) (by decide) ?_
      refine r_iload_n X dX6_join_112 1 rfl ?_
      refine r_iload_n X dX6_join_113 2 rfl ?_
      refine r_icmp_ge (tgt := 121) X dX6_join_114 (by decide) (fun h34 => ?_) (fun h34 => ?_)
      · replace hf := okt h34 hf
        refine r_iconst X dX6_join_121 ci_0 ?_
        exact r_iret X rfl hR (ok0 hf) dX6_join_122
      · replace hf := okf h34 hf
        refine r_iconst X dX6_join_117 ci_1 ?_
        refine r_goto (tgt := 122) X dX6_join_118 (by decide) ?_
        exact r_iret X rfl hR (ok0 hf) dX6_join_122
    replace hf := okf h26 hf
    by_cases h27 : a0 = (61 : Int32)
    · replace hf := okt h27 hf
      refine r_lookup (off := 122) (tgt := 123) X dX6_join_1 (by decide +kernel) (by rw [h27]; rfl) (by decide) ?_
      refine r_iload_n X dX6_join_123 1 rfl ?_
      refine r_iload_n X dX6_join_124 2 rfl ?_
      refine r_icmp_ne (tgt := 132) X dX6_join_125 (by decide) (fun h35 => ?_) (fun h35 => ?_)
      · replace hf := okf h35 hf
        refine r_iconst X dX6_join_132 ci_0 ?_
        exact r_iret X rfl hR (ok0 hf) dX6_join_133
      · replace hf := okt h35 hf
        refine r_iconst X dX6_join_128 ci_1 ?_
        refine r_goto (tgt := 133) X dX6_join_129 (by decide) ?_
        exact r_iret X rfl hR (ok0 hf) dX6_join_133
    replace hf := okf h27 hf
    by_cases h28 : a0 = (62 : Int32)
    · replace hf := okt h28 hf
      refine r_lookup (off := 133) (tgt := 134) X dX6_join_1 (by decide +kernel) (by rw [h28]; rfl) (by decide) ?_
      refine r_iload_n X dX6_join_134 1 rfl ?_
      refine r_iload_n X dX6_join_135 2 rfl ?_
      refine r_icmp_le (tgt := 143) X dX6_join_136 (by decide) (fun h36 => ?_) (fun h36 => ?_)
      · replace hf := okt h36 hf
        refine r_iconst X dX6_join_143 ci_0 ?_
        exact r_iret X rfl hR (ok0 hf) dX6_join_144
      · replace hf := okf h36 hf
        refine r_iconst X dX6_join_139 ci_1 ?_
        refine r_goto (tgt := 144) X dX6_join_140 (by decide) ?_
        exact r_iret X rfl hR (ok0 hf) dX6_join_144
    replace hf := okf h28 hf
    by_cases h29 : a0 = (124 : Int32)
    · replace hf := okt h29 hf
      refine r_lookup (off := 83) (tgt := 84) X dX6_join_1 (by decide +kernel) (by rw [h29]; rfl) (by decide) ?_
      refine r_iload_n X dX6_join_84 1 rfl ?_
      refine r_if_ne (tgt := 92) X dX6_join_85 (by decide) (fun h37 => ?_) (fun h37 => ?_)
      · replace hf := okf h37 hf
        refine r_iconst X dX6_join_92 ci_1 ?_
        refine r_goto (tgt := 97) X dX6_join_93 (by decide) ?_
        exact r_iret X rfl hR (ok0 hf) dX6_join_97
      · replace hf := okt h37 hf
        refine r_iload_n X dX6_join_88 2 rfl ?_
        refine r_if_eq (tgt := 96) X dX6_join_89 (by decide) (fun h38 => ?_) (fun h38 => ?_)
        · replace hf := okt h38 hf
          refine r_iconst X dX6_join_96 ci_0 ?_
          exact r_iret X rfl hR (ok0 hf) dX6_join_97
        · replace hf := okf h38 hf
          refine r_iconst X dX6_join_92 ci_1 ?_
          refine r_goto (tgt := 97) X dX6_join_93 (by decide) ?_
          exact r_iret X rfl hR (ok0 hf) dX6_join_97
    replace hf := okf h29 hf
    refine r_lookup (off := 168) (tgt := 169) X dX6_join_1 (by decide +kernel) (lk_n h21 (by decide) (lk_n h22 (by decide) (lk_n h23 (by decide) (lk_n h24 (by decide) (lk_n h25 (by decide) (lk_n h26 (by decide) (lk_n h27 (by decide) (lk_n h28 (by decide) (lk_n h29 (by decide) rfl))))))))) (by decide) ?_
    refine r_iload_n X dX6_join_169 2 rfl ?_
    refine r_if_ne (tgt := 177) X dX6_join_170 (by decide) (fun h39 => ?_) (fun h39 => ?_)
    · replace hf := okf h39 hf
      refine r_iload_n X dX6_join_177 1 rfl ?_
      refine r_iload_n X dX6_join_178 2 rfl ?_
      obtain ⟨g40, hf⟩ := okg hf
      refine r_irem X dX6_join_179 g40 ?_
      exact r_iret X rfl hR (ok0 hf) dX6_join_180
    · replace hf := okt h39 hf
      refine r_iconst X dX6_join_173 ci_0 ?_
      refine r_goto (tgt := 180) X dX6_join_174 (by decide) ?_
      exact r_iret X rfl hR (ok0 hf) dX6_join_180
theorem md_X6_join : MD yX6_join wsX6_join cX6_join 3 3 (some .int) := ⟨⟨_, rfl⟩, by decide +kernel, by decide +kernel, by decide⟩
theorem c_X6_join (l : Launch) (G : GX)  (a0 : Int32) (a1 : Int32) (a2 : Int32) (σ : MM) (h : (f_X6_join a0 a1 a2 σ).isSome = true) : CTi l G yX6_join wsX6_join 3 [.int a0, .int a1, .int a2] σ (f_X6_join a0 a1 a2 σ) :=
  CTi_of md_X6_join (Nat.le_of_ble_eq_true rfl) (fun K X hR => e_X6_join X hR a0 a1 a2 σ (ok_is h))
-- X6_work
theorem in_X6_work_6 : ∀ w ∈ u_ws RX6 TX6 3, w ∈ wsX6_work := fun _ h => List.mem_cons_of_mem _ (List.mem_append_right _ h)
def u_X6_work_128 (k6 : Nat → Int32 → Int32 → Int32 → Int32 → Int32 → MM → Option (Int32 × MM)) (t0 : Nat) (v1 : Int32) (v2 : Int32) (v3 : Int32) (v4 : Int32) (v5 : Int32) (v6 : Int32) (σ : MM) : Option (Int32 × MM) :=
  if v4 < (2 : Int32) then k6 t0 v1 v2 v3 v4 (v5 + (1 : Int32)) σ else if (v4 - (2 : Int32)) < 0 ∨ 60 ≤ (v4 - (2 : Int32)).toNatClampNeg then none else if (v4 - (1 : Int32)) < 0 ∨ 60 ≤ (v4 - (1 : Int32)).toNatClampNeg then none else bd (f_X6_join (v6 - (10000 : Int32)) (σ (t0 + 2) ((v4 - (2 : Int32)).toNatClampNeg)) (σ (t0 + 2) ((v4 - (1 : Int32)).toNatClampNeg)) σ) (fun r36 σ37 => lt (mu σ37 (t0 + 2) ((v4 - (2 : Int32)).toNatClampNeg) r36) (fun σ39 => k6 t0 v1 v2 v3 (v4 + (-1 : Int32)) (v5 + (1 : Int32)) σ39))
def u_X6_work_124 (k6 : Nat → Int32 → Int32 → Int32 → Int32 → Int32 → MM → Option (Int32 × MM)) (t0 : Nat) (v1 : Int32) (v2 : Int32) (v3 : Int32) (v4 : Int32) (v5 : Int32) (vs0 : Int32) (vs1 : Int32) (ts2 : Nat) (σ : MM) : Option (Int32 × MM) :=
  if vs1 < 0 ∨ 60 ≤ vs1.toNatClampNeg then none else lt (mu σ ts2 (vs1.toNatClampNeg) vs0) (fun σ45 => k6 t0 v1 v2 v3 v4 (v5 + (1 : Int32)) σ45)
def u_X6_work_85 (k6 : Nat → Int32 → Int32 → Int32 → Int32 → Int32 → MM → Option (Int32 × MM)) (t0 : Nat) (v1 : Int32) (v2 : Int32) (v3 : Int32) (v4 : Int32) (v5 : Int32) (v6 : Int32) (σ : MM) : Option (Int32 × MM) :=
  if v6 = (10033 : Int32) then if v4 < (1 : Int32) then u_X6_work_128 k6 t0 v1 v2 v3 v4 v5 v6 σ else if (v4 - (1 : Int32)) < 0 ∨ 60 ≤ (v4 - (1 : Int32)).toNatClampNeg then none else if (σ (t0 + 2) ((v4 - (1 : Int32)).toNatClampNeg)) = 0 then u_X6_work_124 k6 t0 v1 v2 v3 v4 v5 (1 : Int32) (v4 - (1 : Int32)) (t0 + 2) σ else u_X6_work_124 k6 t0 v1 v2 v3 v4 v5 (0 : Int32) (v4 - (1 : Int32)) (t0 + 2) σ else u_X6_work_128 k6 t0 v1 v2 v3 v4 v5 v6 σ
def u_X6_work_78 (k6 : Nat → Int32 → Int32 → Int32 → Int32 → Int32 → MM → Option (Int32 × MM)) (t0 : Nat) (v1 : Int32) (v2 : Int32) (v3 : Int32) (v4 : Int32) (v5 : Int32) (vs0 : Int32) (vs1 : Int32) (ts2 : Nat) (σ : MM) : Option (Int32 × MM) :=
  if vs1 < 0 ∨ 60 ≤ vs1.toNatClampNeg then none else lt (mu σ ts2 (vs1.toNatClampNeg) vs0) (fun σ53 => k6 t0 v1 v2 v3 (v4 + (1 : Int32)) (v5 + (1 : Int32)) σ53)
def u_X6_work_6 (k6 : Nat → Int32 → Int32 → Int32 → Int32 → Int32 → MM → Option (Int32 × MM)) (t0 : Nat) (v1 : Int32) (v2 : Int32) (v3 : Int32) (v4 : Int32) (v5 : Int32) (σ : MM) : Option (Int32 × MM) :=
  if (σ t0 2) ≤ v5 then some ((σ (t0 + 2) 0), σ) else if (60 : Int32) ≤ v5 then some ((σ (t0 + 2) 0), σ) else if v5 < 0 ∨ 60 ≤ v5.toNatClampNeg then none else if (10000 : Int32) ≤ (σ (t0 + 1) (v5.toNatClampNeg)) then u_X6_work_85 k6 t0 v1 v2 v3 v4 v5 (σ (t0 + 1) (v5.toNatClampNeg)) σ else if (60 : Int32) ≤ v4 then u_X6_work_85 k6 t0 v1 v2 v3 v4 v5 (σ (t0 + 1) (v5.toNatClampNeg)) σ else if (σ (t0 + 1) (v5.toNatClampNeg)) < 0 then bd (f_X6_nameAt ((-1 : Int32) - (σ (t0 + 1) (v5.toNatClampNeg))) v1 v2 v3 σ) (fun r49 σ50 => u_X6_work_78 k6 t0 v1 v2 v3 v4 v5 r49 v4 (t0 + 2) σ50) else u_X6_work_78 k6 t0 v1 v2 v3 v4 v5 (σ (t0 + 1) (v5.toNatClampNeg)) v4 (t0 + 2) σ
def l_X6_work_6 (t0 : Nat) (v1 : Int32) (v2 : Int32) (v3 : Int32) (v4 : Int32) (v5 : Int32) (σ : MM) : Option (Int32 × MM) :=
  itr (fun _ _ _ _ _ _ _ => none) (u_X6_work_6) FU t0 v1 v2 v3 v4 v5 σ
def f_X6_work (t0 : Nat) (a1 : Int32) (a2 : Int32) (a3 : Int32) (σ : MM) : Option (Int32 × MM) :=
  l_X6_work_6 t0 a1 a2 a3 (0 : Int32) (0 : Int32) σ
set_option maxRecDepth 100000 in
set_option maxHeartbeats 4000000 in
theorem t_X6_work_128 {l : Launch} {G : GX} {K : KX} (X : FX G K cX6_work RX6 (some .int) wsX6_work 7) {Φ : Int32 → MM → Prop} (hR : Ri G K Φ) (k6 : Nat → Int32 → Int32 → Int32 → Int32 → Int32 → MM → Option (Int32 × MM)) (hk6c : ∀ (t0 : Nat) (v1 : Int32) (v2 : Int32) (v3 : Int32) (v4 : Int32) (v5 : Int32) (hk0 : kd t0 = 6) (σ : MM), Ok Φ (k6 t0 v1 v2 v3 v4 v5 σ) → V l G 4 K 7 6 [(0, .ref (G.1 t0)), (1, .int v1), (2, .int v2), (3, .int v3), (4, .int v4), (5, .int v5)] [] σ) (t0 : Nat) (v1 : Int32) (v2 : Int32) (v3 : Int32) (v4 : Int32) (v5 : Int32) (v6 : Int32) (hk0 : kd t0 = 6) (σ : MM) (hf : Ok Φ (u_X6_work_128 k6 t0 v1 v2 v3 v4 v5 v6 σ)) : V l G 4 K 7 128 [(0, .ref (G.1 t0)), (1, .int v1), (2, .int v2), (3, .int v3), (4, .int v4), (5, .int v5), (6, .int v6)] [] σ := by
    unfold u_X6_work_128 at hf
    refine r_iload X dX6_work_128 4 rfl ?_
    refine r_iconst X dX6_work_130 ci_2 ?_
    refine r_icmp_lt (tgt := 173) X dX6_work_131 (by decide) (fun h33 => ?_) (fun h33 => ?_)
    · replace hf := okt h33 hf
      refine r_iinc (v := (v5 + (1 : Int32))) X dX6_work_173 5 rfl (congrArg _ ci_1) (by decide) (lv' := [(5, .int (v5 + (1 : Int32))), (0, .ref (G.1 t0)), (1, .int v1), (2, .int v2), (3, .int v3), (4, .int v4), (6, .int v6)]) rfl ?_
      refine r_goto (tgt := 6) X dX6_work_176 (by decide) ?_
      refine r_sub [1, 2, 3, 4, 5, 0] rfl ?_
      exact hk6c t0 v1 v2 v3 v4 (v5 + (1 : Int32)) hk0 σ hf
    · replace hf := okf h33 hf
      refine r_aload_n X dX6_work_134 0 rfl isr_ref ?_
      refine r_get (i := t0) (v := .ref (G.1 (t0 + 2))) X in_X6_work_6 rfl 1 (by decide) (kd_in hk0 (by decide)) (EE_6 _ hk0) rfl (mem_ix 3 rfl) dX6_work_135 ?_
      refine r_iload X dX6_work_138 4 rfl ?_
      refine r_iconst X dX6_work_140 ci_2 ?_
      refine r_isub X dX6_work_141 ?_
      refine r_iload X dX6_work_142 6 rfl ?_
      refine r_sipush X dX6_work_144 cs_10000 ?_
      refine r_isub X dX6_work_147 ?_
      refine r_aload_n X dX6_work_148 0 rfl isr_ref ?_
      refine r_get (i := t0) (v := .ref (G.1 (t0 + 2))) X in_X6_work_6 rfl 1 (by decide) (kd_in hk0 (by decide)) (EE_6 _ hk0) rfl (mem_ix 3 rfl) dX6_work_149 ?_
      refine r_iload X dX6_work_152 4 rfl ?_
      refine r_iconst X dX6_work_154 ci_2 ?_
      refine r_isub X dX6_work_155 ?_
      obtain ⟨g34, hf⟩ := okg hf
      refine r_iald (i := (t0 + 2)) (jn := (v4 - (2 : Int32)).toNatClampNeg) X (kd_in (kf_6_2 hk0) (by decide)) (EE_20 _ (kf_6_2 hk0)) rfl g34 dX6_work_156 ?_
      refine r_aload_n X dX6_work_157 0 rfl isr_ref ?_
      refine r_get (i := t0) (v := .ref (G.1 (t0 + 2))) X in_X6_work_6 rfl 1 (by decide) (kd_in hk0 (by decide)) (EE_6 _ hk0) rfl (mem_ix 3 rfl) dX6_work_158 ?_
      refine r_iload X dX6_work_161 4 rfl ?_
      refine r_iconst X dX6_work_163 ci_1 ?_
      refine r_isub X dX6_work_164 ?_
      obtain ⟨g35, hf⟩ := okg hf
      refine r_iald (i := (t0 + 2)) (jn := (v4 - (1 : Int32)).toNatClampNeg) X (kd_in (kf_6_2 hk0) (by decide)) (EE_20 _ (kf_6_2 hk0)) rfl g35 dX6_work_165 ?_
      refine r_callSi (rest := [.int (v4 - (2 : Int32)), .ref (G.1 (t0 + 2))]) X (c_X6_join l G (v6 - (10000 : Int32)) (σ (t0 + 2) ((v4 - (2 : Int32)).toNatClampNeg)) (σ (t0 + 2) ((v4 - (1 : Int32)).toNatClampNeg)) σ (oks hf)) md_X6_join gX6_work_X6_join (by decide) rfl rfl (Nat.le_of_ble_eq_true rfl) dX6_work_166 (fun r36 σ37 e38 => ?_)
      replace hf := okn e38 hf
      obtain ⟨σ39, e40, hf⟩ := okl hf
      refine r_iast (i := (t0 + 2)) (jn := (v4 - (2 : Int32)).toNatClampNeg) X (kd_in (kf_6_2 hk0) (by decide)) (fun _ => EE_20 _ (kf_6_2 hk0)) rfl g34 dX6_work_169 ?_
      refine r_sg e40 ?_
      refine r_iinc (v := (v4 + (-1 : Int32))) X dX6_work_170 4 rfl (congrArg _ ci_m1) (by decide) (lv' := [(4, .int (v4 + (-1 : Int32))), (0, .ref (G.1 t0)), (1, .int v1), (2, .int v2), (3, .int v3), (5, .int v5), (6, .int v6)]) rfl ?_
      refine r_iinc (v := (v5 + (1 : Int32))) X dX6_work_173 5 rfl (congrArg _ ci_1) (by decide) (lv' := [(5, .int (v5 + (1 : Int32))), (4, .int (v4 + (-1 : Int32))), (0, .ref (G.1 t0)), (1, .int v1), (2, .int v2), (3, .int v3), (6, .int v6)]) rfl ?_
      refine r_goto (tgt := 6) X dX6_work_176 (by decide) ?_
      refine r_sub [2, 3, 4, 5, 1, 0] rfl ?_
      exact hk6c t0 v1 v2 v3 (v4 + (-1 : Int32)) (v5 + (1 : Int32)) hk0 σ39 hf
set_option maxRecDepth 100000 in
set_option maxHeartbeats 4000000 in
theorem t_X6_work_124 {l : Launch} {G : GX} {K : KX} (X : FX G K cX6_work RX6 (some .int) wsX6_work 7) {Φ : Int32 → MM → Prop} (hR : Ri G K Φ) (k6 : Nat → Int32 → Int32 → Int32 → Int32 → Int32 → MM → Option (Int32 × MM)) (hk6c : ∀ (t0 : Nat) (v1 : Int32) (v2 : Int32) (v3 : Int32) (v4 : Int32) (v5 : Int32) (hk0 : kd t0 = 6) (σ : MM), Ok Φ (k6 t0 v1 v2 v3 v4 v5 σ) → V l G 4 K 7 6 [(0, .ref (G.1 t0)), (1, .int v1), (2, .int v2), (3, .int v3), (4, .int v4), (5, .int v5)] [] σ) (t0 : Nat) (v1 : Int32) (v2 : Int32) (v3 : Int32) (v4 : Int32) (v5 : Int32) (vs0 : Int32) (vs1 : Int32) (ts2 : Nat) (hk0 : kd t0 = 6) (hks2 : kd ts2 = 20) (σ : MM) (hf : Ok Φ (u_X6_work_124 k6 t0 v1 v2 v3 v4 v5 vs0 vs1 ts2 σ)) : V l G 4 K 7 124 [(0, .ref (G.1 t0)), (1, .int v1), (2, .int v2), (3, .int v3), (4, .int v4), (5, .int v5)] [.int vs0, .int vs1, .ref (G.1 ts2)] σ := by
    unfold u_X6_work_124 at hf
    obtain ⟨g44, hf⟩ := okg hf
    obtain ⟨σ45, e46, hf⟩ := okl hf
    refine r_iast (i := ts2) (jn := vs1.toNatClampNeg) X (kd_in hks2 (by decide)) (fun _ => EE_20 _ hks2) rfl g44 dX6_work_124 ?_
    refine r_sg e46 ?_
    refine r_goto (tgt := 173) X dX6_work_125 (by decide) ?_
    refine r_iinc (v := (v5 + (1 : Int32))) X dX6_work_173 5 rfl (congrArg _ ci_1) (by decide) (lv' := [(5, .int (v5 + (1 : Int32))), (0, .ref (G.1 t0)), (1, .int v1), (2, .int v2), (3, .int v3), (4, .int v4)]) rfl ?_
    refine r_goto (tgt := 6) X dX6_work_176 (by decide) ?_
    refine r_sub [1, 2, 3, 4, 5, 0] rfl ?_
    exact hk6c t0 v1 v2 v3 v4 (v5 + (1 : Int32)) hk0 σ45 hf
set_option maxRecDepth 100000 in
set_option maxHeartbeats 4000000 in
theorem t_X6_work_85 {l : Launch} {G : GX} {K : KX} (X : FX G K cX6_work RX6 (some .int) wsX6_work 7) {Φ : Int32 → MM → Prop} (hR : Ri G K Φ) (k6 : Nat → Int32 → Int32 → Int32 → Int32 → Int32 → MM → Option (Int32 × MM)) (hk6c : ∀ (t0 : Nat) (v1 : Int32) (v2 : Int32) (v3 : Int32) (v4 : Int32) (v5 : Int32) (hk0 : kd t0 = 6) (σ : MM), Ok Φ (k6 t0 v1 v2 v3 v4 v5 σ) → V l G 4 K 7 6 [(0, .ref (G.1 t0)), (1, .int v1), (2, .int v2), (3, .int v3), (4, .int v4), (5, .int v5)] [] σ) (t0 : Nat) (v1 : Int32) (v2 : Int32) (v3 : Int32) (v4 : Int32) (v5 : Int32) (v6 : Int32) (hk0 : kd t0 = 6) (σ : MM) (hf : Ok Φ (u_X6_work_85 k6 t0 v1 v2 v3 v4 v5 v6 σ)) : V l G 4 K 7 85 [(0, .ref (G.1 t0)), (1, .int v1), (2, .int v2), (3, .int v3), (4, .int v4), (5, .int v5), (6, .int v6)] [] σ := by
    unfold u_X6_work_85 at hf
    refine r_iload X dX6_work_85 6 rfl ?_
    refine r_sipush X dX6_work_87 cs_10033 ?_
    refine r_icmp_ne (tgt := 128) X dX6_work_90 (by decide) (fun h32 => ?_) (fun h32 => ?_)
    · replace hf := okf h32 hf
      exact t_X6_work_128 X hR k6 hk6c t0 v1 v2 v3 v4 v5 v6 hk0 σ hf
    · replace hf := okt h32 hf
      refine r_iload X dX6_work_93 4 rfl ?_
      refine r_iconst X dX6_work_95 ci_1 ?_
      refine r_icmp_lt (tgt := 128) X dX6_work_96 (by decide) (fun h41 => ?_) (fun h41 => ?_)
      · replace hf := okt h41 hf
        exact t_X6_work_128 X hR k6 hk6c t0 v1 v2 v3 v4 v5 v6 hk0 σ hf
      · replace hf := okf h41 hf
        refine r_aload_n X dX6_work_99 0 rfl isr_ref ?_
        refine r_get (i := t0) (v := .ref (G.1 (t0 + 2))) X in_X6_work_6 rfl 1 (by decide) (kd_in hk0 (by decide)) (EE_6 _ hk0) rfl (mem_ix 3 rfl) dX6_work_100 ?_
        refine r_iload X dX6_work_103 4 rfl ?_
        refine r_iconst X dX6_work_105 ci_1 ?_
        refine r_isub X dX6_work_106 ?_
        refine r_aload_n X dX6_work_107 0 rfl isr_ref ?_
        refine r_get (i := t0) (v := .ref (G.1 (t0 + 2))) X in_X6_work_6 rfl 1 (by decide) (kd_in hk0 (by decide)) (EE_6 _ hk0) rfl (mem_ix 3 rfl) dX6_work_108 ?_
        refine r_iload X dX6_work_111 4 rfl ?_
        refine r_iconst X dX6_work_113 ci_1 ?_
        refine r_isub X dX6_work_114 ?_
        obtain ⟨g42, hf⟩ := okg hf
        refine r_iald (i := (t0 + 2)) (jn := (v4 - (1 : Int32)).toNatClampNeg) X (kd_in (kf_6_2 hk0) (by decide)) (EE_20 _ (kf_6_2 hk0)) rfl g42 dX6_work_115 ?_
        refine r_if_ne (tgt := 123) X dX6_work_116 (by decide) (fun h43 => ?_) (fun h43 => ?_)
        · replace hf := okf h43 hf
          refine r_iconst X dX6_work_123 ci_0 ?_
          refine r_sub [0, 1, 2, 3, 4, 5] rfl ?_
          exact t_X6_work_124 X hR k6 hk6c t0 v1 v2 v3 v4 v5 (0 : Int32) (v4 - (1 : Int32)) (t0 + 2) hk0 (kf_6_2 hk0) σ hf
        · replace hf := okt h43 hf
          refine r_iconst X dX6_work_119 ci_1 ?_
          refine r_goto (tgt := 124) X dX6_work_120 (by decide) ?_
          refine r_sub [0, 1, 2, 3, 4, 5] rfl ?_
          exact t_X6_work_124 X hR k6 hk6c t0 v1 v2 v3 v4 v5 (1 : Int32) (v4 - (1 : Int32)) (t0 + 2) hk0 (kf_6_2 hk0) σ hf
set_option maxRecDepth 100000 in
set_option maxHeartbeats 4000000 in
theorem t_X6_work_78 {l : Launch} {G : GX} {K : KX} (X : FX G K cX6_work RX6 (some .int) wsX6_work 7) {Φ : Int32 → MM → Prop} (hR : Ri G K Φ) (k6 : Nat → Int32 → Int32 → Int32 → Int32 → Int32 → MM → Option (Int32 × MM)) (hk6c : ∀ (t0 : Nat) (v1 : Int32) (v2 : Int32) (v3 : Int32) (v4 : Int32) (v5 : Int32) (hk0 : kd t0 = 6) (σ : MM), Ok Φ (k6 t0 v1 v2 v3 v4 v5 σ) → V l G 4 K 7 6 [(0, .ref (G.1 t0)), (1, .int v1), (2, .int v2), (3, .int v3), (4, .int v4), (5, .int v5)] [] σ) (t0 : Nat) (v1 : Int32) (v2 : Int32) (v3 : Int32) (v4 : Int32) (v5 : Int32) (vs0 : Int32) (vs1 : Int32) (ts2 : Nat) (hk0 : kd t0 = 6) (hks2 : kd ts2 = 20) (σ : MM) (hf : Ok Φ (u_X6_work_78 k6 t0 v1 v2 v3 v4 v5 vs0 vs1 ts2 σ)) : V l G 4 K 7 78 [(0, .ref (G.1 t0)), (1, .int v1), (2, .int v2), (3, .int v3), (4, .int v4), (5, .int v5)] [.int vs0, .int vs1, .ref (G.1 ts2)] σ := by
    unfold u_X6_work_78 at hf
    obtain ⟨g52, hf⟩ := okg hf
    obtain ⟨σ53, e54, hf⟩ := okl hf
    refine r_iast (i := ts2) (jn := vs1.toNatClampNeg) X (kd_in hks2 (by decide)) (fun _ => EE_20 _ hks2) rfl g52 dX6_work_78 ?_
    refine r_sg e54 ?_
    refine r_iinc (v := (v4 + (1 : Int32))) X dX6_work_79 4 rfl (congrArg _ ci_1) (by decide) (lv' := [(4, .int (v4 + (1 : Int32))), (0, .ref (G.1 t0)), (1, .int v1), (2, .int v2), (3, .int v3), (5, .int v5)]) rfl ?_
    refine r_goto (tgt := 173) X dX6_work_82 (by decide) ?_
    refine r_iinc (v := (v5 + (1 : Int32))) X dX6_work_173 5 rfl (congrArg _ ci_1) (by decide) (lv' := [(5, .int (v5 + (1 : Int32))), (4, .int (v4 + (1 : Int32))), (0, .ref (G.1 t0)), (1, .int v1), (2, .int v2), (3, .int v3)]) rfl ?_
    refine r_goto (tgt := 6) X dX6_work_176 (by decide) ?_
    refine r_sub [2, 3, 4, 5, 1, 0] rfl ?_
    exact hk6c t0 v1 v2 v3 (v4 + (1 : Int32)) (v5 + (1 : Int32)) hk0 σ53 hf
set_option maxRecDepth 100000 in
set_option maxHeartbeats 4000000 in
theorem t_X6_work_6 {l : Launch} {G : GX} {K : KX} (X : FX G K cX6_work RX6 (some .int) wsX6_work 7) {Φ : Int32 → MM → Prop} (hR : Ri G K Φ) (k6 : Nat → Int32 → Int32 → Int32 → Int32 → Int32 → MM → Option (Int32 × MM)) (hk6c : ∀ (t0 : Nat) (v1 : Int32) (v2 : Int32) (v3 : Int32) (v4 : Int32) (v5 : Int32) (hk0 : kd t0 = 6) (σ : MM), Ok Φ (k6 t0 v1 v2 v3 v4 v5 σ) → V l G 4 K 7 6 [(0, .ref (G.1 t0)), (1, .int v1), (2, .int v2), (3, .int v3), (4, .int v4), (5, .int v5)] [] σ) (t0 : Nat) (v1 : Int32) (v2 : Int32) (v3 : Int32) (v4 : Int32) (v5 : Int32) (hk0 : kd t0 = 6) (σ : MM) (hf : Ok Φ (u_X6_work_6 k6 t0 v1 v2 v3 v4 v5 σ)) : V l G 4 K 7 6 [(0, .ref (G.1 t0)), (1, .int v1), (2, .int v2), (3, .int v3), (4, .int v4), (5, .int v5)] [] σ := by
    unfold u_X6_work_6 at hf
    refine r_iload X dX6_work_6 5 rfl ?_
    refine r_aload_n X dX6_work_8 0 rfl isr_ref ?_
    refine r_get (i := t0) (v := .int (σ t0 2)) X in_X6_work_6 rfl 2 (by decide) (kd_in hk0 (by decide)) (EE_6 _ hk0) rfl (mem_ix 1 rfl) dX6_work_9 ?_
    refine r_icmp_ge (tgt := 179) X dX6_work_12 (by decide) (fun h28 => ?_) (fun h28 => ?_)
    · replace hf := okt h28 hf
      refine r_aload_n X dX6_work_179 0 rfl isr_ref ?_
      refine r_get (i := t0) (v := .ref (G.1 (t0 + 2))) X in_X6_work_6 rfl 1 (by decide) (kd_in hk0 (by decide)) (EE_6 _ hk0) rfl (mem_ix 3 rfl) dX6_work_180 ?_
      refine r_iconst X dX6_work_183 ci_0 ?_
      refine r_iald (i := (t0 + 2)) (jn := 0) X (kd_in (kf_6_2 hk0) (by decide)) (EE_20 _ (kf_6_2 hk0)) (by decide) (by decide) dX6_work_184 ?_
      exact r_iret X rfl hR (ok0 hf) dX6_work_185
    · replace hf := okf h28 hf
      refine r_iload X dX6_work_15 5 rfl ?_
      refine r_aload_n X dX6_work_17 0 rfl isr_ref ?_
      refine r_get (i := t0) (v := .ref (G.1 (t0 + 1))) X in_X6_work_6 rfl 0 (by decide) (kd_in hk0 (by decide)) (EE_6 _ hk0) rfl (mem_ix 2 rfl) dX6_work_18 ?_
      refine r_alen (i := (t0 + 1)) (t := 0) (v := (60 : Int32)) X (kd_in (kf_6_1 hk0) (by decide)) (EE_20 _ (kf_6_1 hk0)) rfl (by decide) dX6_work_21 ?_
      refine r_icmp_ge (tgt := 179) X dX6_work_22 (by decide) (fun h29 => ?_) (fun h29 => ?_)
      · replace hf := okt h29 hf
        refine r_aload_n X dX6_work_179 0 rfl isr_ref ?_
        refine r_get (i := t0) (v := .ref (G.1 (t0 + 2))) X in_X6_work_6 rfl 1 (by decide) (kd_in hk0 (by decide)) (EE_6 _ hk0) rfl (mem_ix 3 rfl) dX6_work_180 ?_
        refine r_iconst X dX6_work_183 ci_0 ?_
        refine r_iald (i := (t0 + 2)) (jn := 0) X (kd_in (kf_6_2 hk0) (by decide)) (EE_20 _ (kf_6_2 hk0)) (by decide) (by decide) dX6_work_184 ?_
        exact r_iret X rfl hR (ok0 hf) dX6_work_185
      · replace hf := okf h29 hf
        refine r_aload_n X dX6_work_25 0 rfl isr_ref ?_
        refine r_get (i := t0) (v := .ref (G.1 (t0 + 1))) X in_X6_work_6 rfl 0 (by decide) (kd_in hk0 (by decide)) (EE_6 _ hk0) rfl (mem_ix 2 rfl) dX6_work_26 ?_
        refine r_iload X dX6_work_29 5 rfl ?_
        obtain ⟨g30, hf⟩ := okg hf
        refine r_iald (i := (t0 + 1)) (jn := v5.toNatClampNeg) X (kd_in (kf_6_1 hk0) (by decide)) (EE_20 _ (kf_6_1 hk0)) rfl g30 dX6_work_31 ?_
        refine r_istore X dX6_work_32 (by decide) (lv' := [(6, .int (σ (t0 + 1) (v5.toNatClampNeg))), (0, .ref (G.1 t0)), (1, .int v1), (2, .int v2), (3, .int v3), (4, .int v4), (5, .int v5)]) rfl ?_
        refine r_iload X dX6_work_34 0 rfl ?_
        refine r_sipush X dX6_work_36 cs_10000 ?_
        refine r_icmp_ge (tgt := 85) X dX6_work_39 (by decide) (fun h31 => ?_) (fun h31 => ?_)
        · replace hf := okt h31 hf
          refine r_sub [1, 2, 3, 4, 5, 6, 0] rfl ?_
          exact t_X6_work_85 X hR k6 hk6c t0 v1 v2 v3 v4 v5 (σ (t0 + 1) (v5.toNatClampNeg)) hk0 σ hf
        · replace hf := okf h31 hf
          refine r_iload X dX6_work_42 5 rfl ?_
          refine r_aload_n X dX6_work_44 1 rfl isr_ref ?_
          refine r_get (i := t0) (v := .ref (G.1 (t0 + 2))) X in_X6_work_6 rfl 1 (by decide) (kd_in hk0 (by decide)) (EE_6 _ hk0) rfl (mem_ix 3 rfl) dX6_work_45 ?_
          refine r_alen (i := (t0 + 2)) (t := 0) (v := (60 : Int32)) X (kd_in (kf_6_2 hk0) (by decide)) (EE_20 _ (kf_6_2 hk0)) rfl (by decide) dX6_work_48 ?_
          refine r_icmp_ge (tgt := 85) X dX6_work_49 (by decide) (fun h47 => ?_) (fun h47 => ?_)
          · replace hf := okt h47 hf
            refine r_sub [1, 2, 3, 4, 5, 6, 0] rfl ?_
            exact t_X6_work_85 X hR k6 hk6c t0 v1 v2 v3 v4 v5 (σ (t0 + 1) (v5.toNatClampNeg)) hk0 σ hf
          · replace hf := okf h47 hf
            refine r_aload_n X dX6_work_52 1 rfl isr_ref ?_
            refine r_get (i := t0) (v := .ref (G.1 (t0 + 2))) X in_X6_work_6 rfl 1 (by decide) (kd_in hk0 (by decide)) (EE_6 _ hk0) rfl (mem_ix 3 rfl) dX6_work_53 ?_
            refine r_iload X dX6_work_56 5 rfl ?_
            refine r_iload X dX6_work_58 0 rfl ?_
            refine r_if_lt (tgt := 68) X dX6_work_60 (by decide) (fun h48 => ?_) (fun h48 => ?_)
            · replace hf := okt h48 hf
              refine r_iconst X dX6_work_68 ci_m1 ?_
              refine r_iload X dX6_work_69 0 rfl ?_
              refine r_isub X dX6_work_71 ?_
              refine r_iload_n X dX6_work_72 2 rfl ?_
              refine r_iload_n X dX6_work_73 3 rfl ?_
              refine r_iload_n X dX6_work_74 4 rfl ?_
              refine r_callSi (rest := [.int v4, .ref (G.1 (t0 + 2))]) X (c_X6_nameAt l G ((-1 : Int32) - (σ (t0 + 1) (v5.toNatClampNeg))) v1 v2 v3 σ (oks hf)) md_X6_nameAt gX6_work_X6_nameAt (by decide) rfl rfl (Nat.le_of_ble_eq_true rfl) dX6_work_75 (fun r49 σ50 e51 => ?_)
              replace hf := okn e51 hf
              refine r_sub [1, 2, 3, 4, 5, 6] rfl ?_
              exact t_X6_work_78 X hR k6 hk6c t0 v1 v2 v3 v4 v5 r49 v4 (t0 + 2) hk0 (kf_6_2 hk0) σ50 hf
            · replace hf := okf h48 hf
              refine r_iload X dX6_work_63 0 rfl ?_
              refine r_goto (tgt := 78) X dX6_work_65 (by decide) ?_
              refine r_sub [1, 2, 3, 4, 5, 6] rfl ?_
              exact t_X6_work_78 X hR k6 hk6c t0 v1 v2 v3 v4 v5 (σ (t0 + 1) (v5.toNatClampNeg)) v4 (t0 + 2) hk0 (kf_6_2 hk0) σ hf
theorem tl_X6_work_6 {l : Launch} {G : GX} {K : KX} (X : FX G K cX6_work RX6 (some .int) wsX6_work 7) {Φ : Int32 → MM → Prop} (hR : Ri G K Φ) : ∀ (m : Nat) (t0 : Nat) (v1 : Int32) (v2 : Int32) (v3 : Int32) (v4 : Int32) (v5 : Int32) (hk0 : kd t0 = 6) (σ : MM), Ok Φ (itr (fun _ _ _ _ _ _ _ => none) (u_X6_work_6) m t0 v1 v2 v3 v4 v5 σ) → V l G 4 K 7 6 [(0, .ref (G.1 t0)), (1, .int v1), (2, .int v2), (3, .int v3), (4, .int v4), (5, .int v5)] [] σ := by
  intro m
  induction m with
  | zero => intro t0 v1 v2 v3 v4 v5 hk0 σ hf; exact (okx hf).elim
  | succ m ih => intro t0 v1 v2 v3 v4 v5 hk0 σ hf; exact t_X6_work_6 X hR _ ih t0 v1 v2 v3 v4 v5 hk0 σ hf
set_option maxRecDepth 100000 in
set_option maxHeartbeats 4000000 in
theorem e_X6_work {l : Launch} {G : GX} {K : KX} (X : FX G K cX6_work RX6 (some .int) wsX6_work 7) {Φ : Int32 → MM → Prop} (hR : Ri G K Φ) (t0 : Nat) (a1 : Int32) (a2 : Int32) (a3 : Int32) (hk0 : kd t0 = 6) (σ : MM) (hf : Ok Φ (f_X6_work t0 a1 a2 a3 σ)) : V l G 4 K 7 0 [(0, .ref (G.1 t0)), (1, .int a1), (2, .int a2), (3, .int a3)] [] σ := by
    unfold f_X6_work at hf
    refine r_iconst X dX6_work_0 ci_0 ?_
    refine r_istore X dX6_work_1 (by decide) (lv' := [(4, .int (0 : Int32)), (0, .ref (G.1 t0)), (1, .int a1), (2, .int a2), (3, .int a3)]) rfl ?_
    refine r_iconst X dX6_work_3 ci_0 ?_
    refine r_istore X dX6_work_4 (by decide) (lv' := [(5, .int (0 : Int32)), (4, .int (0 : Int32)), (0, .ref (G.1 t0)), (1, .int a1), (2, .int a2), (3, .int a3)]) rfl ?_
    refine r_sub [2, 3, 4, 5, 1, 0] rfl ?_
    exact tl_X6_work_6 X hR FU t0 a1 a2 a3 (0 : Int32) (0 : Int32) hk0 σ hf
theorem md_X6_work : MD yX6_work wsX6_work cX6_work 7 3 (some .int) := ⟨⟨_, rfl⟩, by decide +kernel, by decide +kernel, by decide⟩
theorem c_X6_work (l : Launch) (G : GX)  (t0 : Nat) (a1 : Int32) (a2 : Int32) (a3 : Int32) (hk0 : kd t0 = 6) (σ : MM) (h : (f_X6_work t0 a1 a2 a3 σ).isSome = true) : CTi l G yX6_work wsX6_work 4 [.ref (G.1 t0), .int a1, .int a2, .int a3] σ (f_X6_work t0 a1 a2 a3 σ) :=
  CTi_of md_X6_work (Nat.le_of_ble_eq_true rfl) (fun K X hR => e_X6_work X hR t0 a1 a2 a3 hk0 σ (ok_is h))

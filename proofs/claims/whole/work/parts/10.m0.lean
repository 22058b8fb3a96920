-- X9_error
theorem in_X9_error_9 : ∀ w ∈ u_ws RX9 TX9 21, w ∈ wsX9_error := fun _ h => List.mem_cons_of_mem _ (List.mem_append_right _ h)
def f_X9_error (a1 : Int32) (σ : MM) : Option (Int32 × MM) :=
  if ((-1000000000 : Int32) - a1) < 0 ∨ 7 ≤ ((-1000000000 : Int32) - a1).toNatClampNeg then none else lt (mu σ 133 (((-1000000000 : Int32) - a1).toNatClampNeg) ((σ 133 (((-1000000000 : Int32) - a1).toNatClampNeg)) + (1 : Int32))) (fun σ5 => some (a1, σ5))
set_option maxRecDepth 100000 in
set_option maxHeartbeats 4000000 in
theorem e_X9_error {l : Launch} {G : GX} {K : KX} (X : FX G K cX9_error RX9 (some .int) wsX9_error 2) {Φ : Int32 → MM → Prop} (hR : Ri G K Φ) (a1 : Int32) (σ : MM) (hf : Ok Φ (f_X9_error a1 σ)) : V l G 3 K 2 0 [(0, .ref (G.1 129)), (1, .int a1)] [] σ := by
    unfold f_X9_error at hf
    refine r_aload_n X dX9_error_0 0 rfl isr_ref ?_
    refine r_get (i := 129) (v := .ref (G.1 133)) X in_X9_error_9 rfl 4 (by decide) (kd_in kc_129 (by decide)) (EE_9 _ kc_129) rfl (mem_ix 1 rfl) dX9_error_1 ?_
    refine r_ldc (v := (-1000000000 : Int32)) X (mem_ix 2 rfl) dX9_error_4 ?_
    refine r_iload_n X dX9_error_6 1 rfl ?_
    refine r_isub X dX9_error_7 ?_
    refine r_dup2 X dX9_error_8 rfl rfl ?_
    obtain ⟨g4, hf⟩ := okg hf
    refine r_iald (i := 133) (jn := ((-1000000000 : Int32) - a1).toNatClampNeg) X (kd_in kc_133 (by decide)) (EE_25 _ kc_133) rfl g4 dX9_error_9 ?_
    refine r_iconst X dX9_error_10 ci_1 ?_
    refine r_iadd X dX9_error_11 ?_
    obtain ⟨σ5, e6, hf⟩ := okl hf
    refine r_iast (i := 133) (jn := ((-1000000000 : Int32) - a1).toNatClampNeg) X (kd_in kc_133 (by decide)) (fun _ => EE_25 _ kc_133) rfl g4 dX9_error_12 ?_
    refine r_sg e6 ?_
    refine r_iload_n X dX9_error_13 1 rfl ?_
    exact r_iret X rfl hR (ok0 hf) dX9_error_14
theorem md_X9_error : MD yX9_error wsX9_error cX9_error 2 1 (some .int) := ⟨⟨_, rfl⟩, by decide +kernel, by decide +kernel, by decide⟩
theorem c_X9_error (l : Launch) (G : GX)  (a1 : Int32) (σ : MM) (h : (f_X9_error a1 σ).isSome = true) : CTi l G yX9_error wsX9_error 3 [.ref (G.1 129), .int a1] σ (f_X9_error a1 σ) :=
  CTi_of md_X9_error (Nat.le_of_ble_eq_true rfl) (fun K X hR => e_X9_error X hR a1 σ (ok_is h))
-- X9_in
def f_X9_in (a0 : Int32) (a1 : Int32) (a2 : Int32) (σ : MM) : Option (Int32 × MM) :=
  if a0 < a1 then some ((0 : Int32), σ) else if a2 < a0 then some ((0 : Int32), σ) else some ((1 : Int32), σ)
set_option maxRecDepth 100000 in
set_option maxHeartbeats 4000000 in
theorem e_X9_in {l : Launch} {G : GX} {K : KX} (X : FX G K cX9_in RX9 (some .boolean) wsX9_in 3) {Φ : Int32 → MM → Prop} (hR : Ri G K Φ) (a0 : Int32) (a1 : Int32) (a2 : Int32) (σ : MM) (hf : Ok Φ (f_X9_in a0 a1 a2 σ)) : V l G 3 K 3 0 [(0, .int a0), (1, .int a1), (2, .int a2)] [] σ := by
    unfold f_X9_in at hf
    refine r_iload_n X dX9_in_0 0 rfl ?_
    refine r_iload_n X dX9_in_1 1 rfl ?_
    refine r_icmp_lt (tgt := 14) X dX9_in_2 (by decide) (fun h3 => ?_) (fun h3 => ?_)
    · replace hf := okt h3 hf
      refine r_iconst X dX9_in_14 ci_0 ?_
      exact r_zret X rfl hR (by decide) (ok0 hf) dX9_in_15
    · replace hf := okf h3 hf
      refine r_iload_n X dX9_in_5 0 rfl ?_
      refine r_iload_n X dX9_in_6 2 rfl ?_
      refine r_icmp_gt (tgt := 14) X dX9_in_7 (by decide) (fun h4 => ?_) (fun h4 => ?_)
      · replace hf := okt h4 hf
        refine r_iconst X dX9_in_14 ci_0 ?_
        exact r_zret X rfl hR (by decide) (ok0 hf) dX9_in_15
      · replace hf := okf h4 hf
        refine r_iconst X dX9_in_10 ci_1 ?_
        refine r_goto (tgt := 15) X dX9_in_11 (by decide) ?_
        exact r_zret X rfl hR (by decide) (ok0 hf) dX9_in_15
theorem md_X9_in : MD yX9_in wsX9_in cX9_in 3 3 (some .boolean) := ⟨⟨_, rfl⟩, by decide +kernel, by decide +kernel, by decide⟩
theorem c_X9_in (l : Launch) (G : GX)  (a0 : Int32) (a1 : Int32) (a2 : Int32) (σ : MM) (h : (f_X9_in a0 a1 a2 σ).isSome = true) : CTi l G yX9_in wsX9_in 3 [.int a0, .int a1, .int a2] σ (f_X9_in a0 a1 a2 σ) :=
  CTi_of md_X9_in (Nat.le_of_ble_eq_true rfl) (fun K X hR => e_X9_in X hR a0 a1 a2 σ (ok_is h))
-- X9_held
def f_X9_held (a0 : Int32) (a1 : Int32) (a2 : Int32) (σ : MM) : Option (Int32 × MM) :=
  if a1 ≤ a0 then if a0 ≤ a2 then some (a0, σ) else some (a2, σ) else some (a1, σ)
set_option maxRecDepth 100000 in
set_option maxHeartbeats 4000000 in
theorem e_X9_held {l : Launch} {G : GX} {K : KX} (X : FX G K cX9_held RX9 (some .int) wsX9_held 3) {Φ : Int32 → MM → Prop} (hR : Ri G K Φ) (a0 : Int32) (a1 : Int32) (a2 : Int32) (σ : MM) (hf : Ok Φ (f_X9_held a0 a1 a2 σ)) : V l G 3 K 3 0 [(0, .int a0), (1, .int a1), (2, .int a2)] [] σ := by
    unfold f_X9_held at hf
    refine r_iload_n X dX9_held_0 0 rfl ?_
    refine r_iload_n X dX9_held_1 1 rfl ?_
    refine r_icmp_ge (tgt := 9) X dX9_held_2 (by decide) (fun h3 => ?_) (fun h3 => ?_)
    · replace hf := okt h3 hf
      refine r_iload_n X dX9_held_9 0 rfl ?_
      refine r_iload_n X dX9_held_10 2 rfl ?_
      refine r_icmp_le (tgt := 18) X dX9_held_11 (by decide) (fun h4 => ?_) (fun h4 => ?_)
      · replace hf := okt h4 hf
        refine r_iload_n X dX9_held_18 0 rfl ?_
        exact r_iret X rfl hR (ok0 hf) dX9_held_19
      · replace hf := okf h4 hf
        refine r_iload_n X dX9_held_14 2 rfl ?_
        refine r_goto (tgt := 19) X dX9_held_15 (by decide) ?_
        exact r_iret X rfl hR (ok0 hf) dX9_held_19
    · replace hf := okf h3 hf
      refine r_iload_n X dX9_held_5 1 rfl ?_
      refine r_goto (tgt := 19) X dX9_held_6 (by decide) ?_
      exact r_iret X rfl hR (ok0 hf) dX9_held_19
theorem md_X9_held : MD yX9_held wsX9_held cX9_held 3 3 (some .int) := ⟨⟨_, rfl⟩, by decide +kernel, by decide +kernel, by decide⟩
theorem c_X9_held (l : Launch) (G : GX)  (a0 : Int32) (a1 : Int32) (a2 : Int32) (σ : MM) (h : (f_X9_held a0 a1 a2 σ).isSome = true) : CTi l G yX9_held wsX9_held 3 [.int a0, .int a1, .int a2] σ (f_X9_held a0 a1 a2 σ) :=
  CTi_of md_X9_held (Nat.le_of_ble_eq_true rfl) (fun K X hR => e_X9_held X hR a0 a1 a2 σ (ok_is h))
-- X9_copyAll
def u_X9_copyAll_2 (k2 : Nat → Nat → Int32 → MM → Option (Unit × MM)) (t0 : Nat) (t1 : Nat) (v2 : Int32) (σ : MM) : Option (Unit × MM) :=
  if (412 : Int32) ≤ v2 then some ((), σ) else if v2 < 0 ∨ 412 ≤ v2.toNatClampNeg then none else lt (mu σ t1 (v2.toNatClampNeg) (σ t0 (v2.toNatClampNeg))) (fun σ7 => k2 t0 t1 (v2 + (1 : Int32)) σ7)
def l_X9_copyAll_2 (t0 : Nat) (t1 : Nat) (v2 : Int32) (σ : MM) : Option (Unit × MM) :=
  itr (fun _ _ _ _ => none) (u_X9_copyAll_2) FU t0 t1 v2 σ
def f_X9_copyAll (t0 : Nat) (t1 : Nat) (σ : MM) : Option (Unit × MM) :=
  l_X9_copyAll_2 t0 t1 (0 : Int32) σ
set_option maxRecDepth 100000 in
set_option maxHeartbeats 4000000 in
theorem t_X9_copyAll_2 {l : Launch} {G : GX} {K : KX} (X : FX G K cX9_copyAll RX9 (none) wsX9_copyAll 3) {Φ : Unit → MM → Prop} (hR : Rv G K Φ) (k2 : Nat → Nat → Int32 → MM → Option (Unit × MM)) (hk2c : ∀ (t0 : Nat) (t1 : Nat) (v2 : Int32) (hk0 : kd t0 = 26) (hk1 : kd t1 = 26) (σ : MM), Ok Φ (k2 t0 t1 v2 σ) → V l G 3 K 3 2 [(0, .ref (G.1 t0)), (1, .ref (G.1 t1)), (2, .int v2)] [] σ) (t0 : Nat) (t1 : Nat) (v2 : Int32) (hk0 : kd t0 = 26) (hk1 : kd t1 = 26) (σ : MM) (hf : Ok Φ (u_X9_copyAll_2 k2 t0 t1 v2 σ)) : V l G 3 K 3 2 [(0, .ref (G.1 t0)), (1, .ref (G.1 t1)), (2, .int v2)] [] σ := by
    unfold u_X9_copyAll_2 at hf
    refine r_iload_n X dX9_copyAll_2 2 rfl ?_
    refine r_sipush X dX9_copyAll_3 cs_412 ?_
    refine r_icmp_ge (tgt := 21) X dX9_copyAll_6 (by decide) (fun h5 => ?_) (fun h5 => ?_)
    · replace hf := okt h5 hf
      exact r_vret X rfl hR (ok0 hf) dX9_copyAll_21
    · replace hf := okf h5 hf
      refine r_aload_n X dX9_copyAll_9 1 rfl isr_ref ?_
      refine r_iload_n X dX9_copyAll_10 2 rfl ?_
      refine r_aload_n X dX9_copyAll_11 0 rfl isr_ref ?_
      refine r_iload_n X dX9_copyAll_12 2 rfl ?_
      obtain ⟨g6, hf⟩ := okg hf
      refine r_iald (i := t0) (jn := v2.toNatClampNeg) X (kd_in hk0 (by decide)) (EE_26 _ hk0) rfl g6 dX9_copyAll_13 ?_
      obtain ⟨σ7, e8, hf⟩ := okl hf
      refine r_iast (i := t1) (jn := v2.toNatClampNeg) X (kd_in hk1 (by decide)) (fun _ => EE_26 _ hk1) rfl g6 dX9_copyAll_14 ?_
      refine r_sg e8 ?_
      refine r_iinc (v := (v2 + (1 : Int32))) X dX9_copyAll_15 2 rfl (congrArg _ ci_1) (by decide) (lv' := [(2, .int (v2 + (1 : Int32))), (0, .ref (G.1 t0)), (1, .ref (G.1 t1))]) rfl ?_
      refine r_goto (tgt := 2) X dX9_copyAll_18 (by decide) ?_
      refine r_sub [1, 2, 0] rfl ?_
      exact hk2c t0 t1 (v2 + (1 : Int32)) hk0 hk1 σ7 hf
theorem tl_X9_copyAll_2 {l : Launch} {G : GX} {K : KX} (X : FX G K cX9_copyAll RX9 (none) wsX9_copyAll 3) {Φ : Unit → MM → Prop} (hR : Rv G K Φ) : ∀ (m : Nat) (t0 : Nat) (t1 : Nat) (v2 : Int32) (hk0 : kd t0 = 26) (hk1 : kd t1 = 26) (σ : MM), Ok Φ (itr (fun _ _ _ _ => none) (u_X9_copyAll_2) m t0 t1 v2 σ) → V l G 3 K 3 2 [(0, .ref (G.1 t0)), (1, .ref (G.1 t1)), (2, .int v2)] [] σ := by
  intro m
  induction m with
  | zero => intro t0 t1 v2 hk0 hk1 σ hf; exact (okx hf).elim
  | succ m ih => intro t0 t1 v2 hk0 hk1 σ hf; exact t_X9_copyAll_2 X hR _ ih t0 t1 v2 hk0 hk1 σ hf
set_option maxRecDepth 100000 in
set_option maxHeartbeats 4000000 in
theorem e_X9_copyAll {l : Launch} {G : GX} {K : KX} (X : FX G K cX9_copyAll RX9 (none) wsX9_copyAll 3) {Φ : Unit → MM → Prop} (hR : Rv G K Φ) (t0 : Nat) (t1 : Nat) (hk0 : kd t0 = 26) (hk1 : kd t1 = 26) (σ : MM) (hf : Ok Φ (f_X9_copyAll t0 t1 σ)) : V l G 3 K 3 0 [(0, .ref (G.1 t0)), (1, .ref (G.1 t1))] [] σ := by
    unfold f_X9_copyAll at hf
    refine r_iconst X dX9_copyAll_0 ci_0 ?_
    refine r_istore_n X dX9_copyAll_1 (i := 2) rfl (by decide) (lv' := [(2, .int (0 : Int32)), (0, .ref (G.1 t0)), (1, .ref (G.1 t1))]) rfl ?_
    refine r_sub [1, 2, 0] rfl ?_
    exact tl_X9_copyAll_2 X hR FU t0 t1 (0 : Int32) hk0 hk1 σ hf
theorem md_X9_copyAll : MD yX9_copyAll wsX9_copyAll cX9_copyAll 3 2 (none) := ⟨⟨_, rfl⟩, by decide +kernel, by decide +kernel, by decide⟩
theorem c_X9_copyAll (l : Launch) (G : GX)  (t0 : Nat) (t1 : Nat) (hk0 : kd t0 = 26) (hk1 : kd t1 = 26) (σ : MM) (h : (f_X9_copyAll t0 t1 σ).isSome = true) : CTv l G yX9_copyAll wsX9_copyAll 3 [.ref (G.1 t0), .ref (G.1 t1)] σ (f_X9_copyAll t0 t1 σ) :=
  CTv_of md_X9_copyAll (Nat.le_of_ble_eq_true rfl) (fun K X hR => e_X9_copyAll X hR t0 t1 hk0 hk1 σ (ok_is h))
-- X9_thinks
theorem in_X9_thinks_9 : ∀ w ∈ u_ws RX9 TX9 21, w ∈ wsX9_thinks := fun _ h => List.mem_cons_of_mem _ (List.mem_append_right _ h)
def f_X9_thinks  (σ : MM) : Option (Unit × MM) :=
  bd (f_X9_copyAll 130 132 σ) (fun r4 σ5 => some ((), σ5))
set_option maxRecDepth 100000 in
set_option maxHeartbeats 4000000 in
theorem e_X9_thinks {l : Launch} {G : GX} {K : KX} (X : FX G K cX9_thinks RX9 (none) wsX9_thinks 1) {Φ : Unit → MM → Prop} (hR : Rv G K Φ)  (σ : MM) (hf : Ok Φ (f_X9_thinks  σ)) : V l G 4 K 1 0 [(0, .ref (G.1 129))] [] σ := by
    unfold f_X9_thinks at hf
    refine r_aload_n X dX9_thinks_0 0 rfl isr_ref ?_
    refine r_get (i := 129) (v := .ref (G.1 130)) X in_X9_thinks_9 rfl 0 (by decide) (kd_in kc_129 (by decide)) (EE_9 _ kc_129) rfl (mem_ix 1 rfl) dX9_thinks_1 ?_
    refine r_aload_n X dX9_thinks_4 0 rfl isr_ref ?_
    refine r_get (i := 129) (v := .ref (G.1 132)) X in_X9_thinks_9 rfl 2 (by decide) (kd_in kc_129 (by decide)) (EE_9 _ kc_129) rfl (mem_ix 2 rfl) dX9_thinks_5 ?_
    refine r_callSv (rest := []) X (c_X9_copyAll l G 130 132 kc_130 kc_132 σ (oks hf)) md_X9_copyAll gX9_thinks_X9_copyAll (by decide) rfl rfl (Nat.le_of_ble_eq_true rfl) dX9_thinks_8 (fun r4 σ5 e6 => ?_)
    replace hf := okn e6 hf
    exact r_vret X rfl hR (ok0 hf) dX9_thinks_11
theorem md_X9_thinks : MD yX9_thinks wsX9_thinks cX9_thinks 1 0 (none) := ⟨⟨_, rfl⟩, by decide +kernel, by decide +kernel, by decide⟩
theorem c_X9_thinks (l : Launch) (G : GX)   (σ : MM) (h : (f_X9_thinks  σ).isSome = true) : CTv l G yX9_thinks wsX9_thinks 4 [.ref (G.1 129)] σ (f_X9_thinks  σ) :=
  CTv_of md_X9_thinks (Nat.le_of_ble_eq_true rfl) (fun K X hR => e_X9_thinks X hR  σ (ok_is h))
-- X9_putsBack
theorem in_X9_putsBack_9 : ∀ w ∈ u_ws RX9 TX9 21, w ∈ wsX9_putsBack := fun _ h => List.mem_cons_of_mem _ (List.mem_append_right _ h)
def f_X9_putsBack  (σ : MM) : Option (Unit × MM) :=
  bd (f_X9_copyAll 132 130 σ) (fun r4 σ5 => some ((), σ5))
set_option maxRecDepth 100000 in
set_option maxHeartbeats 4000000 in
theorem e_X9_putsBack {l : Launch} {G : GX} {K : KX} (X : FX G K cX9_putsBack RX9 (none) wsX9_putsBack 1) {Φ : Unit → MM → Prop} (hR : Rv G K Φ)  (σ : MM) (hf : Ok Φ (f_X9_putsBack  σ)) : V l G 4 K 1 0 [(0, .ref (G.1 129))] [] σ := by
    unfold f_X9_putsBack at hf
    refine r_aload_n X dX9_putsBack_0 0 rfl isr_ref ?_
    refine r_get (i := 129) (v := .ref (G.1 132)) X in_X9_putsBack_9 rfl 2 (by decide) (kd_in kc_129 (by decide)) (EE_9 _ kc_129) rfl (mem_ix 1 rfl) dX9_putsBack_1 ?_
    refine r_aload_n X dX9_putsBack_4 0 rfl isr_ref ?_
    refine r_get (i := 129) (v := .ref (G.1 130)) X in_X9_putsBack_9 rfl 0 (by decide) (kd_in kc_129 (by decide)) (EE_9 _ kc_129) rfl (mem_ix 2 rfl) dX9_putsBack_5 ?_
    refine r_callSv (rest := []) X (c_X9_copyAll l G 132 130 kc_132 kc_130 σ (oks hf)) md_X9_copyAll gX9_putsBack_X9_copyAll (by decide) rfl rfl (Nat.le_of_ble_eq_true rfl) dX9_putsBack_8 (fun r4 σ5 e6 => ?_)
    replace hf := okn e6 hf
    exact r_vret X rfl hR (ok0 hf) dX9_putsBack_11
theorem md_X9_putsBack : MD yX9_putsBack wsX9_putsBack cX9_putsBack 1 0 (none) := ⟨⟨_, rfl⟩, by decide +kernel, by decide +kernel, by decide⟩
theorem c_X9_putsBack (l : Launch) (G : GX)   (σ : MM) (h : (f_X9_putsBack  σ).isSome = true) : CTv l G yX9_putsBack wsX9_putsBack 4 [.ref (G.1 129)] σ (f_X9_putsBack  σ) :=
  CTv_of md_X9_putsBack (Nat.le_of_ble_eq_true rfl) (fun K X hR => e_X9_putsBack X hR  σ (ok_is h))
-- X9_isStep
theorem in_X9_isStep_9 : ∀ w ∈ u_ws RX9 TX9 21, w ∈ wsX9_isStep := fun _ h => List.mem_cons_of_mem _ (List.mem_append_right _ h)
def f_X9_isStep (a1 : Int32) (σ : MM) : Option (Int32 × MM) :=
  bd (f_X9_in a1 (0 : Int32) ((σ 130 2) - (1 : Int32)) σ) (fun r4 σ5 => if r4 = 0 ∨ r4 = 1 then some (r4, σ5) else none)
set_option maxRecDepth 100000 in
set_option maxHeartbeats 4000000 in
theorem e_X9_isStep {l : Launch} {G : GX} {K : KX} (X : FX G K cX9_isStep RX9 (some .boolean) wsX9_isStep 2) {Φ : Int32 → MM → Prop} (hR : Ri G K Φ) (a1 : Int32) (σ : MM) (hf : Ok Φ (f_X9_isStep a1 σ)) : V l G 4 K 2 0 [(0, .ref (G.1 129)), (1, .int a1)] [] σ := by
    unfold f_X9_isStep at hf
    refine r_iload_n X dX9_isStep_0 1 rfl ?_
    refine r_iconst X dX9_isStep_1 ci_0 ?_
    refine r_aload_n X dX9_isStep_2 0 rfl isr_ref ?_
    refine r_get (i := 129) (v := .ref (G.1 130)) X in_X9_isStep_9 rfl 0 (by decide) (kd_in kc_129 (by decide)) (EE_9 _ kc_129) rfl (mem_ix 1 rfl) dX9_isStep_3 ?_
    refine r_iconst X dX9_isStep_6 ci_2 ?_
    refine r_iald (i := 130) (jn := 2) X (kd_in kc_130 (by decide)) (EE_26 _ kc_130) (by decide) (by decide) dX9_isStep_7 ?_
    refine r_iconst X dX9_isStep_8 ci_1 ?_
    refine r_isub X dX9_isStep_9 ?_
    refine r_callSi (rest := []) X (c_X9_in l G a1 (0 : Int32) ((σ 130 2) - (1 : Int32)) σ (oks hf)) md_X9_in gX9_isStep_X9_in (by decide) rfl rfl (Nat.le_of_ble_eq_true rfl) dX9_isStep_10 (fun r4 σ5 e6 => ?_)
    replace hf := okn e6 hf
    obtain ⟨g7, hf⟩ := okp hf
    exact r_zret X rfl hR g7 (ok0 hf) dX9_isStep_13
theorem md_X9_isStep : MD yX9_isStep wsX9_isStep cX9_isStep 2 1 (some .boolean) := ⟨⟨_, rfl⟩, by decide +kernel, by decide +kernel, by decide⟩
theorem c_X9_isStep (l : Launch) (G : GX)  (a1 : Int32) (σ : MM) (h : (f_X9_isStep a1 σ).isSome = true) : CTi l G yX9_isStep wsX9_isStep 4 [.ref (G.1 129), .int a1] σ (f_X9_isStep a1 σ) :=
  CTi_of md_X9_isStep (Nat.le_of_ble_eq_true rfl) (fun K X hR => e_X9_isStep X hR a1 σ (ok_is h))
-- X9_isPerson
theorem in_X9_isPerson_9 : ∀ w ∈ u_ws RX9 TX9 21, w ∈ wsX9_isPerson := fun _ h => List.mem_cons_of_mem _ (List.mem_append_right _ h)
def f_X9_isPerson (a1 : Int32) (σ : MM) : Option (Int32 × MM) :=
  bd (f_X9_in a1 (0 : Int32) ((σ 130 3) - (1 : Int32)) σ) (fun r4 σ5 => if r4 = 0 ∨ r4 = 1 then some (r4, σ5) else none)
set_option maxRecDepth 100000 in
set_option maxHeartbeats 4000000 in
theorem e_X9_isPerson {l : Launch} {G : GX} {K : KX} (X : FX G K cX9_isPerson RX9 (some .boolean) wsX9_isPerson 2) {Φ : Int32 → MM → Prop} (hR : Ri G K Φ) (a1 : Int32) (σ : MM) (hf : Ok Φ (f_X9_isPerson a1 σ)) : V l G 4 K 2 0 [(0, .ref (G.1 129)), (1, .int a1)] [] σ := by
    unfold f_X9_isPerson at hf
    refine r_iload_n X dX9_isPerson_0 1 rfl ?_
    refine r_iconst X dX9_isPerson_1 ci_0 ?_
    refine r_aload_n X dX9_isPerson_2 0 rfl isr_ref ?_
    refine r_get (i := 129) (v := .ref (G.1 130)) X in_X9_isPerson_9 rfl 0 (by decide) (kd_in kc_129 (by decide)) (EE_9 _ kc_129) rfl (mem_ix 1 rfl) dX9_isPerson_3 ?_
    refine r_iconst X dX9_isPerson_6 ci_3 ?_
    refine r_iald (i := 130) (jn := 3) X (kd_in kc_130 (by decide)) (EE_26 _ kc_130) (by decide) (by decide) dX9_isPerson_7 ?_
    refine r_iconst X dX9_isPerson_8 ci_1 ?_
    refine r_isub X dX9_isPerson_9 ?_
    refine r_callSi (rest := []) X (c_X9_in l G a1 (0 : Int32) ((σ 130 3) - (1 : Int32)) σ (oks hf)) md_X9_in gX9_isPerson_X9_in (by decide) rfl rfl (Nat.le_of_ble_eq_true rfl) dX9_isPerson_10 (fun r4 σ5 e6 => ?_)
    replace hf := okn e6 hf
    obtain ⟨g7, hf⟩ := okp hf
    exact r_zret X rfl hR g7 (ok0 hf) dX9_isPerson_13
theorem md_X9_isPerson : MD yX9_isPerson wsX9_isPerson cX9_isPerson 2 1 (some .boolean) := ⟨⟨_, rfl⟩, by decide +kernel, by decide +kernel, by decide⟩
theorem c_X9_isPerson (l : Launch) (G : GX)  (a1 : Int32) (σ : MM) (h : (f_X9_isPerson a1 σ).isSome = true) : CTi l G yX9_isPerson wsX9_isPerson 4 [.ref (G.1 129), .int a1] σ (f_X9_isPerson a1 σ) :=
  CTi_of md_X9_isPerson (Nat.le_of_ble_eq_true rfl) (fun K X hR => e_X9_isPerson X hR a1 σ (ok_is h))
-- X9_isWord
def f_X9_isWord (a0 : Int32) (σ : MM) : Option (Int32 × MM) :=
  bd (f_X9_in a0 (0 : Int32) (99 : Int32) σ) (fun r4 σ5 => if r4 = 0 ∨ r4 = 1 then some (r4, σ5) else none)
set_option maxRecDepth 100000 in
set_option maxHeartbeats 4000000 in
theorem e_X9_isWord {l : Launch} {G : GX} {K : KX} (X : FX G K cX9_isWord RX9 (some .boolean) wsX9_isWord 1) {Φ : Int32 → MM → Prop} (hR : Ri G K Φ) (a0 : Int32) (σ : MM) (hf : Ok Φ (f_X9_isWord a0 σ)) : V l G 4 K 1 0 [(0, .int a0)] [] σ := by
    unfold f_X9_isWord at hf
    refine r_iload_n X dX9_isWord_0 0 rfl ?_
    refine r_iconst X dX9_isWord_1 ci_0 ?_
    refine r_bipush X dX9_isWord_2 cb_99 ?_
    refine r_callSi (rest := []) X (c_X9_in l G a0 (0 : Int32) (99 : Int32) σ (oks hf)) md_X9_in gX9_isWord_X9_in (by decide) rfl rfl (Nat.le_of_ble_eq_true rfl) dX9_isWord_4 (fun r4 σ5 e6 => ?_)
    replace hf := okn e6 hf
    obtain ⟨g7, hf⟩ := okp hf
    exact r_zret X rfl hR g7 (ok0 hf) dX9_isWord_7
theorem md_X9_isWord : MD yX9_isWord wsX9_isWord cX9_isWord 1 1 (some .boolean) := ⟨⟨_, rfl⟩, by decide +kernel, by decide +kernel, by decide⟩
theorem c_X9_isWord (l : Launch) (G : GX)  (a0 : Int32) (σ : MM) (h : (f_X9_isWord a0 σ).isSome = true) : CTi l G yX9_isWord wsX9_isWord 4 [.int a0] σ (f_X9_isWord a0 σ) :=
  CTi_of md_X9_isWord (Nat.le_of_ble_eq_true rfl) (fun K X hR => e_X9_isWord X hR a0 σ (ok_is h))
-- X9_becomes
theorem in_X9_becomes_9 : ∀ w ∈ u_ws RX9 TX9 21, w ∈ wsX9_becomes := fun _ h => List.mem_cons_of_mem _ (List.mem_append_right _ h)
def f_X9_becomes (a1 : Int32) (a2 : Int32) (σ : MM) : Option (Int32 × MM) :=
  if a1 < 0 ∨ 412 ≤ a1.toNatClampNeg then none else lt (mu σ 130 (a1.toNatClampNeg) a2) (fun σ5 => some ((σ 130 (a1.toNatClampNeg)), σ5))
set_option maxRecDepth 100000 in
set_option maxHeartbeats 4000000 in
theorem e_X9_becomes {l : Launch} {G : GX} {K : KX} (X : FX G K cX9_becomes RX9 (some .int) wsX9_becomes 4) {Φ : Int32 → MM → Prop} (hR : Ri G K Φ) (a1 : Int32) (a2 : Int32) (σ : MM) (hf : Ok Φ (f_X9_becomes a1 a2 σ)) : V l G 3 K 4 0 [(0, .ref (G.1 129)), (1, .int a1), (2, .int a2)] [] σ := by
    unfold f_X9_becomes at hf
    refine r_aload_n X dX9_becomes_0 0 rfl isr_ref ?_
    refine r_get (i := 129) (v := .ref (G.1 130)) X in_X9_becomes_9 rfl 0 (by decide) (kd_in kc_129 (by decide)) (EE_9 _ kc_129) rfl (mem_ix 1 rfl) dX9_becomes_1 ?_
    refine r_iload_n X dX9_becomes_4 1 rfl ?_
    obtain ⟨g4, hf⟩ := okg hf
    refine r_iald (i := 130) (jn := a1.toNatClampNeg) X (kd_in kc_130 (by decide)) (EE_26 _ kc_130) rfl g4 dX9_becomes_5 ?_
    refine r_istore_n X dX9_becomes_6 (i := 3) rfl (by decide) (lv' := [(3, .int (σ 130 (a1.toNatClampNeg))), (0, .ref (G.1 129)), (1, .int a1), (2, .int a2)]) rfl ?_
    refine r_aload_n X dX9_becomes_7 1 rfl isr_ref ?_
    refine r_get (i := 129) (v := .ref (G.1 130)) X in_X9_becomes_9 rfl 0 (by decide) (kd_in kc_129 (by decide)) (EE_9 _ kc_129) rfl (mem_ix 1 rfl) dX9_becomes_8 ?_
    refine r_iload_n X dX9_becomes_11 2 rfl ?_
    refine r_iload_n X dX9_becomes_12 3 rfl ?_
    obtain ⟨σ5, e6, hf⟩ := okl hf
    refine r_iast (i := 130) (jn := a1.toNatClampNeg) X (kd_in kc_130 (by decide)) (fun _ => EE_26 _ kc_130) rfl g4 dX9_becomes_13 ?_
    refine r_sg e6 ?_
    refine r_iload_n X dX9_becomes_14 0 rfl ?_
    exact r_iret X rfl hR (ok0 hf) dX9_becomes_15
theorem md_X9_becomes : MD yX9_becomes wsX9_becomes cX9_becomes 4 2 (some .int) := ⟨⟨_, rfl⟩, by decide +kernel, by decide +kernel, by decide⟩
theorem c_X9_becomes (l : Launch) (G : GX)  (a1 : Int32) (a2 : Int32) (σ : MM) (h : (f_X9_becomes a1 a2 σ).isSome = true) : CTi l G yX9_becomes wsX9_becomes 3 [.ref (G.1 129), .int a1, .int a2] σ (f_X9_becomes a1 a2 σ) :=
  CTi_of md_X9_becomes (Nat.le_of_ble_eq_true rfl) (fun K X hR => e_X9_becomes X hR a1 a2 σ (ok_is h))
-- X9_of
theorem in_X9_of_9 : ∀ w ∈ u_ws RX9 TX9 21, w ∈ wsX9_of := fun _ h => List.mem_cons_of_mem _ (List.mem_append_right _ h)
def f_X9_of (a1 : Int32) (a2 : Int32) (σ : MM) : Option (Int32 × MM) :=
  if (((6 : Int32) + ((3 : Int32) * a1)) + a2) < 0 ∨ 412 ≤ (((6 : Int32) + ((3 : Int32) * a1)) + a2).toNatClampNeg then none else some ((σ 130 ((((6 : Int32) + ((3 : Int32) * a1)) + a2).toNatClampNeg)), σ)
set_option maxRecDepth 100000 in
set_option maxHeartbeats 4000000 in
theorem e_X9_of {l : Launch} {G : GX} {K : KX} (X : FX G K cX9_of RX9 (some .int) wsX9_of 3) {Φ : Int32 → MM → Prop} (hR : Ri G K Φ) (a1 : Int32) (a2 : Int32) (σ : MM) (hf : Ok Φ (f_X9_of a1 a2 σ)) : V l G 3 K 3 0 [(0, .ref (G.1 129)), (1, .int a1), (2, .int a2)] [] σ := by
    unfold f_X9_of at hf
    refine r_aload_n X dX9_of_0 0 rfl isr_ref ?_
    refine r_get (i := 129) (v := .ref (G.1 130)) X in_X9_of_9 rfl 0 (by decide) (kd_in kc_129 (by decide)) (EE_9 _ kc_129) rfl (mem_ix 1 rfl) dX9_of_1 ?_
    refine r_bipush X dX9_of_4 cb_6 ?_
    refine r_iconst X dX9_of_6 ci_3 ?_
    refine r_iload_n X dX9_of_7 1 rfl ?_
    refine r_imul X dX9_of_8 ?_
    refine r_iadd X dX9_of_9 ?_
    refine r_iload_n X dX9_of_10 2 rfl ?_
    refine r_iadd X dX9_of_11 ?_
    obtain ⟨g2, hf⟩ := okg hf
    refine r_iald (i := 130) (jn := (((6 : Int32) + ((3 : Int32) * a1)) + a2).toNatClampNeg) X (kd_in kc_130 (by decide)) (EE_26 _ kc_130) rfl g2 dX9_of_12 ?_
    exact r_iret X rfl hR (ok0 hf) dX9_of_13
theorem md_X9_of : MD yX9_of wsX9_of cX9_of 3 2 (some .int) := ⟨⟨_, rfl⟩, by decide +kernel, by decide +kernel, by decide⟩
theorem c_X9_of (l : Launch) (G : GX)  (a1 : Int32) (a2 : Int32) (σ : MM) (h : (f_X9_of a1 a2 σ).isSome = true) : CTi l G yX9_of wsX9_of 3 [.ref (G.1 129), .int a1, .int a2] σ (f_X9_of a1 a2 σ) :=
  CTi_of md_X9_of (Nat.le_of_ble_eq_true rfl) (fun K X hR => e_X9_of X hR a1 a2 σ (ok_is h))
-- X9_about
theorem in_X9_about_9 : ∀ w ∈ u_ws RX9 TX9 21, w ∈ wsX9_about := fun _ h => List.mem_cons_of_mem _ (List.mem_append_right _ h)
def f_X9_about (a1 : Int32) (a2 : Int32) (σ : MM) : Option (Int32 × MM) :=
  if (((66 : Int32) + ((4 : Int32) * a1)) + a2) < 0 ∨ 412 ≤ (((66 : Int32) + ((4 : Int32) * a1)) + a2).toNatClampNeg then none else some ((σ 130 ((((66 : Int32) + ((4 : Int32) * a1)) + a2).toNatClampNeg)), σ)
set_option maxRecDepth 100000 in
set_option maxHeartbeats 4000000 in
theorem e_X9_about {l : Launch} {G : GX} {K : KX} (X : FX G K cX9_about RX9 (some .int) wsX9_about 3) {Φ : Int32 → MM → Prop} (hR : Ri G K Φ) (a1 : Int32) (a2 : Int32) (σ : MM) (hf : Ok Φ (f_X9_about a1 a2 σ)) : V l G 3 K 3 0 [(0, .ref (G.1 129)), (1, .int a1), (2, .int a2)] [] σ := by
    unfold f_X9_about at hf
    refine r_aload_n X dX9_about_0 0 rfl isr_ref ?_
    refine r_get (i := 129) (v := .ref (G.1 130)) X in_X9_about_9 rfl 0 (by decide) (kd_in kc_129 (by decide)) (EE_9 _ kc_129) rfl (mem_ix 1 rfl) dX9_about_1 ?_
    refine r_bipush X dX9_about_4 cb_66 ?_
    refine r_iconst X dX9_about_6 ci_4 ?_
    refine r_iload_n X dX9_about_7 1 rfl ?_
    refine r_imul X dX9_about_8 ?_
    refine r_iadd X dX9_about_9 ?_
    refine r_iload_n X dX9_about_10 2 rfl ?_
    refine r_iadd X dX9_about_11 ?_
    obtain ⟨g2, hf⟩ := okg hf
    refine r_iald (i := 130) (jn := (((66 : Int32) + ((4 : Int32) * a1)) + a2).toNatClampNeg) X (kd_in kc_130 (by decide)) (EE_26 _ kc_130) rfl g2 dX9_about_12 ?_
    exact r_iret X rfl hR (ok0 hf) dX9_about_13
theorem md_X9_about : MD yX9_about wsX9_about cX9_about 3 2 (some .int) := ⟨⟨_, rfl⟩, by decide +kernel, by decide +kernel, by decide⟩
theorem c_X9_about (l : Launch) (G : GX)  (a1 : Int32) (a2 : Int32) (σ : MM) (h : (f_X9_about a1 a2 σ).isSome = true) : CTi l G yX9_about wsX9_about 3 [.ref (G.1 129), .int a1, .int a2] σ (f_X9_about a1 a2 σ) :=
  CTi_of md_X9_about (Nat.le_of_ble_eq_true rfl) (fun K X hR => e_X9_about X hR a1 a2 σ (ok_is h))
-- X9_lets
theorem in_X9_lets_9 : ∀ w ∈ u_ws RX9 TX9 21, w ∈ wsX9_lets := fun _ h => List.mem_cons_of_mem _ (List.mem_append_right _ h)
def f_X9_lets (a1 : Int32) (a2 : Int32) (a3 : Int32) (σ : MM) : Option (Unit × MM) :=
  if (((66 : Int32) + ((4 : Int32) * a1)) + a2) < 0 ∨ 412 ≤ (((66 : Int32) + ((4 : Int32) * a1)) + a2).toNatClampNeg then none else lt (mu σ 130 ((((66 : Int32) + ((4 : Int32) * a1)) + a2).toNatClampNeg) a3) (fun σ5 => some ((), σ5))
set_option maxRecDepth 100000 in
set_option maxHeartbeats 4000000 in
theorem e_X9_lets {l : Launch} {G : GX} {K : KX} (X : FX G K cX9_lets RX9 (none) wsX9_lets 4) {Φ : Unit → MM → Prop} (hR : Rv G K Φ) (a1 : Int32) (a2 : Int32) (a3 : Int32) (σ : MM) (hf : Ok Φ (f_X9_lets a1 a2 a3 σ)) : V l G 3 K 4 0 [(0, .ref (G.1 129)), (1, .int a1), (2, .int a2), (3, .int a3)] [] σ := by
    unfold f_X9_lets at hf
    refine r_aload_n X dX9_lets_0 0 rfl isr_ref ?_
    refine r_get (i := 129) (v := .ref (G.1 130)) X in_X9_lets_9 rfl 0 (by decide) (kd_in kc_129 (by decide)) (EE_9 _ kc_129) rfl (mem_ix 1 rfl) dX9_lets_1 ?_
    refine r_bipush X dX9_lets_4 cb_66 ?_
    refine r_iconst X dX9_lets_6 ci_4 ?_
    refine r_iload_n X dX9_lets_7 1 rfl ?_
    refine r_imul X dX9_lets_8 ?_
    refine r_iadd X dX9_lets_9 ?_
    refine r_iload_n X dX9_lets_10 2 rfl ?_
    refine r_iadd X dX9_lets_11 ?_
    refine r_iload_n X dX9_lets_12 3 rfl ?_
    obtain ⟨g4, hf⟩ := okg hf
    obtain ⟨σ5, e6, hf⟩ := okl hf
    refine r_iast (i := 130) (jn := (((66 : Int32) + ((4 : Int32) * a1)) + a2).toNatClampNeg) X (kd_in kc_130 (by decide)) (fun _ => EE_26 _ kc_130) rfl g4 dX9_lets_13 ?_
    refine r_sg e6 ?_
    exact r_vret X rfl hR (ok0 hf) dX9_lets_14
theorem md_X9_lets : MD yX9_lets wsX9_lets cX9_lets 4 3 (none) := ⟨⟨_, rfl⟩, by decide +kernel, by decide +kernel, by decide⟩
theorem c_X9_lets (l : Launch) (G : GX)  (a1 : Int32) (a2 : Int32) (a3 : Int32) (σ : MM) (h : (f_X9_lets a1 a2 a3 σ).isSome = true) : CTv l G yX9_lets wsX9_lets 3 [.ref (G.1 129), .int a1, .int a2, .int a3] σ (f_X9_lets a1 a2 a3 σ) :=
  CTv_of md_X9_lets (Nat.le_of_ble_eq_true rfl) (fun K X hR => e_X9_lets X hR a1 a2 a3 σ (ok_is h))
-- X9_doesNod
theorem in_X9_doesNod_9 : ∀ w ∈ u_ws RX9 TX9 21, w ∈ wsX9_doesNod := fun _ h => List.mem_cons_of_mem _ (List.mem_append_right _ h)
def u_X9_doesNod_60 (v1 : Int32) (v2 : Int32) (v3 : Int32) (v4 : Int32) (v5 : Int32) (vs0 : Int32) (σ : MM) : Option (Int32 × MM) :=
  bd (f_X9_of v1 (0 : Int32) σ) (fun r34 σ35 => if r34 = (1 : Int32) then if v5 = 0 ∨ v5 = 1 then some (v5, σ35) else none else if r34 = (2 : Int32) then if vs0 = 0 ∨ vs0 = 1 then some (vs0, σ35) else none else if r34 = (3 : Int32) then if v2 = ((7 : Int32) * v3) then some ((1 : Int32), σ35) else some ((0 : Int32), σ35) else if r34 = (4 : Int32) then if v5 = 0 then some ((0 : Int32), σ35) else if ((σ35 130 0) - (σ35 130 0) / (24 : Int32) * (24 : Int32)) < (12 : Int32) then some ((0 : Int32), σ35) else some ((1 : Int32), σ35) else if r34 = (5 : Int32) then if vs0 = 0 then some ((0 : Int32), σ35) else if ((90 : Int32) - v1) ≤ v2 then some ((0 : Int32), σ35) else some ((1 : Int32), σ35) else if r34 = (6 : Int32) then if v4 = 0 then some ((0 : Int32), σ35) else bd (f_X9_of v1 (2 : Int32) σ35) (fun r51 σ52 => if (r51 - r51 / (2 : Int32) * (2 : Int32)) = 0 then some ((1 : Int32), σ52) else some ((0 : Int32), σ52)) else if v4 = 0 ∨ v4 = 1 then some (v4, σ35) else none)
def u_X9_doesNod_40 (v1 : Int32) (v2 : Int32) (v3 : Int32) (v4 : Int32) (vs0 : Int32) (σ : MM) : Option (Int32 × MM) :=
  if v4 = 0 then if (v2 - v2 / (10 : Int32) * (10 : Int32)) = v3 then u_X9_doesNod_60 v1 v2 v3 v4 vs0 (1 : Int32) σ else u_X9_doesNod_60 v1 v2 v3 v4 vs0 (0 : Int32) σ else u_X9_doesNod_60 v1 v2 v3 v4 vs0 (1 : Int32) σ
def u_X9_doesNod_19 (v1 : Int32) (v2 : Int32) (v3 : Int32) (vs0 : Int32) (σ : MM) : Option (Int32 × MM) :=
  if vs0 = 0 then u_X9_doesNod_40 v1 v2 v3 vs0 (0 : Int32) σ else if (v2 - v2 / (3 : Int32) * (3 : Int32)) = (v3 - v3 / (3 : Int32) * (3 : Int32)) then u_X9_doesNod_40 v1 v2 v3 vs0 (1 : Int32) σ else u_X9_doesNod_40 v1 v2 v3 vs0 (0 : Int32) σ
def f_X9_doesNod (a1 : Int32) (a2 : Int32) (σ : MM) : Option (Int32 × MM) :=
  bd (f_X9_of a1 (1 : Int32) σ) (fun r28 σ29 => if a2 < ((5 : Int32) * r28) then u_X9_doesNod_19 a1 a2 r28 (0 : Int32) σ29 else u_X9_doesNod_19 a1 a2 r28 (1 : Int32) σ29)
set_option maxRecDepth 100000 in
set_option maxHeartbeats 4000000 in
theorem t_X9_doesNod_60 {l : Launch} {G : GX} {K : KX} (X : FX G K cX9_doesNod RX9 (some .boolean) wsX9_doesNod 7) {Φ : Int32 → MM → Prop} (hR : Ri G K Φ) (v1 : Int32) (v2 : Int32) (v3 : Int32) (v4 : Int32) (v5 : Int32) (vs0 : Int32) (σ : MM) (hf : Ok Φ (u_X9_doesNod_60 v1 v2 v3 v4 v5 vs0 σ)) : V l G 4 K 7 60 [(0, .ref (G.1 129)), (1, .int v1), (2, .int v2), (3, .int v3), (4, .int v4), (5, .int v5)] [.int vs0] σ := by
    unfold u_X9_doesNod_60 at hf
    refine r_istore X dX9_doesNod_60 (by decide) (lv' := [(6, .int vs0), (0, .ref (G.1 129)), (1, .int v1), (2, .int v2), (3, .int v3), (4, .int v4), (5, .int v5)]) rfl ?_
    refine r_aload_n X dX9_doesNod_62 1 rfl isr_ref ?_
    refine r_iload_n X dX9_doesNod_63 2 rfl ?_
    refine r_iconst X dX9_doesNod_64 ci_0 ?_
    refine r_callVi (rest := []) X (c_X9_of l G v1 (0 : Int32) σ (oks hf)) md_X9_of gX9_doesNod_X9_of (by decide) rfl rfl (kd_in kc_129 (by decide)) (EE_9 _ kc_129) rfl rfl (Nat.le_of_ble_eq_true rfl) dX9_doesNod_65 (fun r34 σ35 e36 => ?_)
    replace hf := okn e36 hf
    by_cases h37 : r34 = (1 : Int32)
    · replace hf := okt h37 hf
      refine r_table (off := 40) (tgt := 108) X [(1, 40), (2, 43), (3, 46), (4, 60), (5, 85), (6, 104)] 6 dX9_doesNod_68 (by decide) (by decide +kernel) (by decide +kernel) (by rw [h37]; rfl) (by decide) ?_
      refine r_iload X dX9_doesNod_108 6 rfl ?_
      obtain ⟨g43, hf⟩ := okp hf
      exact r_zret X rfl hR g43 (ok0 hf) dX9_doesNod_110
    replace hf := okf h37 hf
    by_cases h38 : r34 = (2 : Int32)
    · replace hf := okt h38 hf
      refine r_table (off := 43) (tgt := 111) X [(1, 40), (2, 43), (3, 46), (4, 60), (5, 85), (6, 104)] 6 dX9_doesNod_68 (by decide) (by decide +kernel) (by decide +kernel) (by rw [h38]; rfl) (by decide) ?_
      refine r_iload X dX9_doesNod_111 0 rfl ?_
      obtain ⟨g44, hf⟩ := okp hf
      exact r_zret X rfl hR g44 (ok0 hf) dX9_doesNod_113
    replace hf := okf h38 hf
    by_cases h39 : r34 = (3 : Int32)
    · replace hf := okt h39 hf
      refine r_table (off := 46) (tgt := 114) X [(1, 40), (2, 43), (3, 46), (4, 60), (5, 85), (6, 104)] 6 dX9_doesNod_68 (by decide) (by decide +kernel) (by decide +kernel) (by rw [h39]; rfl) (by decide) ?_
      refine r_iload_n X dX9_doesNod_114 3 rfl ?_
      refine r_bipush X dX9_doesNod_115 cb_7 ?_
      refine r_iload_n X dX9_doesNod_117 4 rfl ?_
      refine r_imul X dX9_doesNod_118 ?_
      refine r_icmp_ne (tgt := 126) X dX9_doesNod_119 (by decide) (fun h45 => ?_) (fun h45 => ?_)
      · replace hf := okf h45 hf
        refine r_iconst X dX9_doesNod_126 ci_0 ?_
        exact r_zret X rfl hR (by decide) (ok0 hf) dX9_doesNod_127
      · replace hf := okt h45 hf
        refine r_iconst X dX9_doesNod_122 ci_1 ?_
        refine r_goto (tgt := 127) X dX9_doesNod_123 (by decide) ?_
        exact r_zret X rfl hR (by decide) (ok0 hf) dX9_doesNod_127
    replace hf := okf h39 hf
    by_cases h40 : r34 = (4 : Int32)
    · replace hf := okt h40 hf
      refine r_table (off := 60) (tgt := 128) X [(1, 40), (2, 43), (3, 46), (4, 60), (5, 85), (6, 104)] 6 dX9_doesNod_68 (by decide) (by decide +kernel) (by decide +kernel) (by rw [h40]; rfl) (by decide) ?_
      refine r_iload X dX9_doesNod_128 6 rfl ?_
      refine r_if_eq (tgt := 151) X dX9_doesNod_130 (by decide) (fun h46 => ?_) (fun h46 => ?_)
      · replace hf := okt h46 hf
        refine r_iconst X dX9_doesNod_151 ci_0 ?_
        exact r_zret X rfl hR (by decide) (ok0 hf) dX9_doesNod_152
      · replace hf := okf h46 hf
        refine r_aload_n X dX9_doesNod_133 1 rfl isr_ref ?_
        refine r_get (i := 129) (v := .ref (G.1 130)) X in_X9_doesNod_9 rfl 0 (by decide) (kd_in kc_129 (by decide)) (EE_9 _ kc_129) rfl (mem_ix 1 rfl) dX9_doesNod_134 ?_
        refine r_iconst X dX9_doesNod_137 ci_0 ?_
        refine r_iald (i := 130) (jn := 0) X (kd_in kc_130 (by decide)) (EE_26 _ kc_130) (by decide) (by decide) dX9_doesNod_138 ?_
        refine r_bipush X dX9_doesNod_139 cb_24 ?_
        refine r_irem X dX9_doesNod_141 (by decide) ?_
        refine r_bipush X dX9_doesNod_142 cb_12 ?_
        refine r_icmp_lt (tgt := 151) X dX9_doesNod_144 (by decide) (fun h47 => ?_) (fun h47 => ?_)
        · replace hf := okt h47 hf
          refine r_iconst X dX9_doesNod_151 ci_0 ?_
          exact r_zret X rfl hR (by decide) (ok0 hf) dX9_doesNod_152
        · replace hf := okf h47 hf
          refine r_iconst X dX9_doesNod_147 ci_1 ?_
          refine r_goto (tgt := 152) X dX9_doesNod_148 (by decide) ?_
          exact r_zret X rfl hR (by decide) (ok0 hf) dX9_doesNod_152
    replace hf := okf h40 hf
    by_cases h41 : r34 = (5 : Int32)
    · replace hf := okt h41 hf
      refine r_table (off := 85) (tgt := 153) X [(1, 40), (2, 43), (3, 46), (4, 60), (5, 85), (6, 104)] 6 dX9_doesNod_68 (by decide) (by decide +kernel) (by decide +kernel) (by rw [h41]; rfl) (by decide) ?_
      refine r_iload X dX9_doesNod_153 0 rfl ?_
      refine r_if_eq (tgt := 170) X dX9_doesNod_155 (by decide) (fun h48 => ?_) (fun h48 => ?_)
      · replace hf := okt h48 hf
        refine r_iconst X dX9_doesNod_170 ci_0 ?_
        exact r_zret X rfl hR (by decide) (ok0 hf) dX9_doesNod_171
      · replace hf := okf h48 hf
        refine r_iload_n X dX9_doesNod_158 3 rfl ?_
        refine r_bipush X dX9_doesNod_159 cb_90 ?_
        refine r_iload_n X dX9_doesNod_161 2 rfl ?_
        refine r_isub X dX9_doesNod_162 ?_
        refine r_icmp_ge (tgt := 170) X dX9_doesNod_163 (by decide) (fun h49 => ?_) (fun h49 => ?_)
        · replace hf := okt h49 hf
          refine r_iconst X dX9_doesNod_170 ci_0 ?_
          exact r_zret X rfl hR (by decide) (ok0 hf) dX9_doesNod_171
        · replace hf := okf h49 hf
          refine r_iconst X dX9_doesNod_166 ci_1 ?_
          refine r_goto (tgt := 171) X dX9_doesNod_167 (by decide) ?_
          exact r_zret X rfl hR (by decide) (ok0 hf) dX9_doesNod_171
    replace hf := okf h41 hf
    by_cases h42 : r34 = (6 : Int32)
    · replace hf := okt h42 hf
      refine r_table (off := 104) (tgt := 172) X [(1, 40), (2, 43), (3, 46), (4, 60), (5, 85), (6, 104)] 6 dX9_doesNod_68 (by decide) (by decide +kernel) (by decide +kernel) (by rw [h42]; rfl) (by decide) ?_
      refine r_iload X dX9_doesNod_172 5 rfl ?_
      refine r_if_eq (tgt := 192) X dX9_doesNod_174 (by decide) (fun h50 => ?_) (fun h50 => ?_)
      · replace hf := okt h50 hf
        refine r_iconst X dX9_doesNod_192 ci_0 ?_
        exact r_zret X rfl hR (by decide) (ok0 hf) dX9_doesNod_193
      · replace hf := okf h50 hf
        refine r_aload_n X dX9_doesNod_177 1 rfl isr_ref ?_
        refine r_iload_n X dX9_doesNod_178 2 rfl ?_
        refine r_iconst X dX9_doesNod_179 ci_2 ?_
        refine r_callVi (rest := []) X (c_X9_of l G v1 (2 : Int32) σ35 (oks hf)) md_X9_of gX9_doesNod_X9_of (by decide) rfl rfl (kd_in kc_129 (by decide)) (EE_9 _ kc_129) rfl rfl (Nat.le_of_ble_eq_true rfl) dX9_doesNod_180 (fun r51 σ52 e53 => ?_)
        replace hf := okn e53 hf
        refine r_iconst X dX9_doesNod_183 ci_2 ?_
        refine r_irem X dX9_doesNod_184 (by decide) ?_
        refine r_if_ne (tgt := 192) X dX9_doesNod_185 (by decide) (fun h54 => ?_) (fun h54 => ?_)
        · replace hf := okf h54 hf
          refine r_iconst X dX9_doesNod_192 ci_0 ?_
          exact r_zret X rfl hR (by decide) (ok0 hf) dX9_doesNod_193
        · replace hf := okt h54 hf
          refine r_iconst X dX9_doesNod_188 ci_1 ?_
          refine r_goto (tgt := 193) X dX9_doesNod_189 (by decide) ?_
          exact r_zret X rfl hR (by decide) (ok0 hf) dX9_doesNod_193
    replace hf := okf h42 hf
    refine r_table (off := 126) (tgt := 194) X [(1, 40), (2, 43), (3, 46), (4, 60), (5, 85), (6, 104)] 6 dX9_doesNod_68 (by decide) (by decide +kernel) (by decide +kernel) (lk_n h37 (by decide) (lk_n h38 (by decide) (lk_n h39 (by decide) (lk_n h40 (by decide) (lk_n h41 (by decide) (lk_n h42 (by decide) rfl)))))) (by decide) ?_
    refine r_iload X dX9_doesNod_194 5 rfl ?_
    obtain ⟨g55, hf⟩ := okp hf
    exact r_zret X rfl hR g55 (ok0 hf) dX9_doesNod_196
set_option maxRecDepth 100000 in
set_option maxHeartbeats 4000000 in
theorem t_X9_doesNod_40 {l : Launch} {G : GX} {K : KX} (X : FX G K cX9_doesNod RX9 (some .boolean) wsX9_doesNod 7) {Φ : Int32 → MM → Prop} (hR : Ri G K Φ) (v1 : Int32) (v2 : Int32) (v3 : Int32) (v4 : Int32) (vs0 : Int32) (σ : MM) (hf : Ok Φ (u_X9_doesNod_40 v1 v2 v3 v4 vs0 σ)) : V l G 4 K 7 40 [(0, .ref (G.1 129)), (1, .int v1), (2, .int v2), (3, .int v3), (4, .int v4)] [.int vs0] σ := by
    unfold u_X9_doesNod_40 at hf
    refine r_istore X dX9_doesNod_40 (by decide) (lv' := [(5, .int vs0), (0, .ref (G.1 129)), (1, .int v1), (2, .int v2), (3, .int v3), (4, .int v4)]) rfl ?_
    refine r_iload X dX9_doesNod_42 5 rfl ?_
    refine r_if_ne (tgt := 55) X dX9_doesNod_44 (by decide) (fun h33 => ?_) (fun h33 => ?_)
    · replace hf := okf h33 hf
      refine r_iconst X dX9_doesNod_55 ci_1 ?_
      refine r_goto (tgt := 60) X dX9_doesNod_56 (by decide) ?_
      refine r_sub [1, 2, 3, 4, 5, 0] rfl ?_
      exact t_X9_doesNod_60 X hR v1 v2 v3 v4 vs0 (1 : Int32) σ hf
    · replace hf := okt h33 hf
      refine r_iload_n X dX9_doesNod_47 3 rfl ?_
      refine r_bipush X dX9_doesNod_48 cb_10 ?_
      refine r_irem X dX9_doesNod_50 (by decide) ?_
      refine r_iload_n X dX9_doesNod_51 4 rfl ?_
      refine r_icmp_ne (tgt := 59) X dX9_doesNod_52 (by decide) (fun h56 => ?_) (fun h56 => ?_)
      · replace hf := okf h56 hf
        refine r_iconst X dX9_doesNod_59 ci_0 ?_
        refine r_sub [1, 2, 3, 4, 5, 0] rfl ?_
        exact t_X9_doesNod_60 X hR v1 v2 v3 v4 vs0 (0 : Int32) σ hf
      · replace hf := okt h56 hf
        refine r_iconst X dX9_doesNod_55 ci_1 ?_
        refine r_goto (tgt := 60) X dX9_doesNod_56 (by decide) ?_
        refine r_sub [1, 2, 3, 4, 5, 0] rfl ?_
        exact t_X9_doesNod_60 X hR v1 v2 v3 v4 vs0 (1 : Int32) σ hf
set_option maxRecDepth 100000 in
set_option maxHeartbeats 4000000 in
theorem t_X9_doesNod_19 {l : Launch} {G : GX} {K : KX} (X : FX G K cX9_doesNod RX9 (some .boolean) wsX9_doesNod 7) {Φ : Int32 → MM → Prop} (hR : Ri G K Φ) (v1 : Int32) (v2 : Int32) (v3 : Int32) (vs0 : Int32) (σ : MM) (hf : Ok Φ (u_X9_doesNod_19 v1 v2 v3 vs0 σ)) : V l G 4 K 7 19 [(0, .ref (G.1 129)), (1, .int v1), (2, .int v2), (3, .int v3)] [.int vs0] σ := by
    unfold u_X9_doesNod_19 at hf
    refine r_istore X dX9_doesNod_19 (by decide) (lv' := [(4, .int vs0), (0, .ref (G.1 129)), (1, .int v1), (2, .int v2), (3, .int v3)]) rfl ?_
    refine r_iload X dX9_doesNod_21 0 rfl ?_
    refine r_if_eq (tgt := 39) X dX9_doesNod_23 (by decide) (fun h32 => ?_) (fun h32 => ?_)
    · replace hf := okt h32 hf
      refine r_iconst X dX9_doesNod_39 ci_0 ?_
      refine r_sub [1, 2, 3, 4, 0] rfl ?_
      exact t_X9_doesNod_40 X hR v1 v2 v3 vs0 (0 : Int32) σ hf
    · replace hf := okf h32 hf
      refine r_iload_n X dX9_doesNod_26 3 rfl ?_
      refine r_iconst X dX9_doesNod_27 ci_3 ?_
      refine r_irem X dX9_doesNod_28 (by decide) ?_
      refine r_iload_n X dX9_doesNod_29 4 rfl ?_
      refine r_iconst X dX9_doesNod_30 ci_3 ?_
      refine r_irem X dX9_doesNod_31 (by decide) ?_
      refine r_icmp_ne (tgt := 39) X dX9_doesNod_32 (by decide) (fun h57 => ?_) (fun h57 => ?_)
      · replace hf := okf h57 hf
        refine r_iconst X dX9_doesNod_39 ci_0 ?_
        refine r_sub [1, 2, 3, 4, 0] rfl ?_
        exact t_X9_doesNod_40 X hR v1 v2 v3 vs0 (0 : Int32) σ hf
      · replace hf := okt h57 hf
        refine r_iconst X dX9_doesNod_35 ci_1 ?_
        refine r_goto (tgt := 40) X dX9_doesNod_36 (by decide) ?_
        refine r_sub [1, 2, 3, 4, 0] rfl ?_
        exact t_X9_doesNod_40 X hR v1 v2 v3 vs0 (1 : Int32) σ hf
set_option maxRecDepth 100000 in
set_option maxHeartbeats 4000000 in
theorem e_X9_doesNod {l : Launch} {G : GX} {K : KX} (X : FX G K cX9_doesNod RX9 (some .boolean) wsX9_doesNod 7) {Φ : Int32 → MM → Prop} (hR : Ri G K Φ) (a1 : Int32) (a2 : Int32) (σ : MM) (hf : Ok Φ (f_X9_doesNod a1 a2 σ)) : V l G 4 K 7 0 [(0, .ref (G.1 129)), (1, .int a1), (2, .int a2)] [] σ := by
    unfold f_X9_doesNod at hf
    refine r_aload_n X dX9_doesNod_0 0 rfl isr_ref ?_
    refine r_iload_n X dX9_doesNod_1 1 rfl ?_
    refine r_iconst X dX9_doesNod_2 ci_1 ?_
    refine r_callVi (rest := []) X (c_X9_of l G a1 (1 : Int32) σ (oks hf)) md_X9_of gX9_doesNod_X9_of (by decide) rfl rfl (kd_in kc_129 (by decide)) (EE_9 _ kc_129) rfl rfl (Nat.le_of_ble_eq_true rfl) dX9_doesNod_3 (fun r28 σ29 e30 => ?_)
    replace hf := okn e30 hf
    refine r_istore_n X dX9_doesNod_6 (i := 3) rfl (by decide) (lv' := [(3, .int r28), (0, .ref (G.1 129)), (1, .int a1), (2, .int a2)]) rfl ?_
    refine r_iload_n X dX9_doesNod_7 3 rfl ?_
    refine r_iconst X dX9_doesNod_8 ci_5 ?_
    refine r_iload_n X dX9_doesNod_9 0 rfl ?_
    refine r_imul X dX9_doesNod_10 ?_
    refine r_icmp_lt (tgt := 18) X dX9_doesNod_11 (by decide) (fun h31 => ?_) (fun h31 => ?_)
    · replace hf := okt h31 hf
      refine r_iconst X dX9_doesNod_18 ci_0 ?_
      refine r_sub [1, 2, 3, 0] rfl ?_
      exact t_X9_doesNod_19 X hR a1 a2 r28 (0 : Int32) σ29 hf
    · replace hf := okf h31 hf
      refine r_iconst X dX9_doesNod_14 ci_1 ?_
      refine r_goto (tgt := 19) X dX9_doesNod_15 (by decide) ?_
      refine r_sub [1, 2, 3, 0] rfl ?_
      exact t_X9_doesNod_19 X hR a1 a2 r28 (1 : Int32) σ29 hf
theorem md_X9_doesNod : MD yX9_doesNod wsX9_doesNod cX9_doesNod 7 2 (some .boolean) := ⟨⟨_, rfl⟩, by decide +kernel, by decide +kernel, by decide⟩
theorem c_X9_doesNod (l : Launch) (G : GX)  (a1 : Int32) (a2 : Int32) (σ : MM) (h : (f_X9_doesNod a1 a2 σ).isSome = true) : CTi l G yX9_doesNod wsX9_doesNod 4 [.ref (G.1 129), .int a1, .int a2] σ (f_X9_doesNod a1 a2 σ) :=
  CTi_of md_X9_doesNod (Nat.le_of_ble_eq_true rfl) (fun K X hR => e_X9_doesNod X hR a1 a2 σ (ok_is h))
-- X9_twoOf
def u_X9_twoOf_203 (v1 : Int32) (v2 : Int32) (σ : MM) : Option (Int32 × MM) :=
  if v1 = 0 then if v2 = 0 then some ((0 : Int32), σ) else some ((1 : Int32), σ) else some ((1 : Int32), σ)
def f_X9_twoOf (a0 : Int32) (a1 : Int32) (a2 : Int32) (σ : MM) : Option (Int32 × MM) :=
  if a0 = (37 : Int32) then if a2 = 0 then some ((0 : Int32), σ) else if a2 = 0 then none else some ((a1 - a1 / a2 * a2), σ) else if a0 = (38 : Int32) then if a1 = 0 then some ((0 : Int32), σ) else if a2 = 0 then some ((0 : Int32), σ) else some ((1 : Int32), σ) else if a0 = (42 : Int32) then some ((a1 * a2), σ) else if a0 = (43 : Int32) then some ((a1 + a2), σ) else if a0 = (45 : Int32) then some ((a1 - a2), σ) else if a0 = (47 : Int32) then if a2 = 0 then some ((0 : Int32), σ) else if a2 = 0 then none else some ((a1 / a2), σ) else if a0 = (60 : Int32) then if a2 ≤ a1 then some ((0 : Int32), σ) else some ((1 : Int32), σ) else if a0 = (61 : Int32) then if a1 = a2 then some ((1 : Int32), σ) else some ((0 : Int32), σ) else if a0 = (62 : Int32) then if a1 ≤ a2 then some ((0 : Int32), σ) else some ((1 : Int32), σ) else u_X9_twoOf_203 a1 a2 σ
set_option maxRecDepth 100000 in
set_option maxHeartbeats 4000000 in
theorem t_X9_twoOf_203 {l : Launch} {G : GX} {K : KX} (X : FX G K cX9_twoOf RX9 (some .int) wsX9_twoOf 3) {Φ : Int32 → MM → Prop} (hR : Ri G K Φ) (v1 : Int32) (v2 : Int32) (σ : MM) (hf : Ok Φ (u_X9_twoOf_203 v1 v2 σ)) : V l G 3 K 3 203 [(1, .int v1), (2, .int v2)] [] σ := by
    unfold u_X9_twoOf_203 at hf
    refine r_iload_n X dX9_twoOf_203 0 rfl ?_
    refine r_if_ne (tgt := 211) X dX9_twoOf_204 (by decide) (fun h39 => ?_) (fun h39 => ?_)
    · replace hf := okf h39 hf
      refine r_iconst X dX9_twoOf_211 ci_1 ?_
      refine r_goto (tgt := 216) X dX9_twoOf_212 (by decide) ?_
      exact r_iret X rfl hR (ok0 hf) dX9_twoOf_216
    · replace hf := okt h39 hf
      refine r_iload_n X dX9_twoOf_207 1 rfl ?_
      refine r_if_eq (tgt := 215) X dX9_twoOf_208 (by decide) (fun h40 => ?_) (fun h40 => ?_)
      · replace hf := okt h40 hf
        refine r_iconst X dX9_twoOf_215 ci_0 ?_
        exact r_iret X rfl hR (ok0 hf) dX9_twoOf_216
      · replace hf := okf h40 hf
        refine r_iconst X dX9_twoOf_211 ci_1 ?_
        refine r_goto (tgt := 216) X dX9_twoOf_212 (by decide) ?_
        exact r_iret X rfl hR (ok0 hf) dX9_twoOf_216
set_option maxRecDepth 100000 in
set_option maxHeartbeats 4000000 in
theorem e_X9_twoOf {l : Launch} {G : GX} {K : KX} (X : FX G K cX9_twoOf RX9 (some .int) wsX9_twoOf 3) {Φ : Int32 → MM → Prop} (hR : Ri G K Φ) (a0 : Int32) (a1 : Int32) (a2 : Int32) (σ : MM) (hf : Ok Φ (f_X9_twoOf a0 a1 a2 σ)) : V l G 3 K 3 0 [(0, .int a0), (1, .int a1), (2, .int a2)] [] σ := by
    unfold f_X9_twoOf at hf
    refine r_iload_n X dX9_twoOf_0 0 rfl ?_
    by_cases h21 : a0 = (37 : Int32)
    · replace hf := okt h21 hf
      refine r_table (off := 143) (tgt := 144) X [(37, 143), (38, 188), (42, 127), (43, 119), (45, 123), (47, 131), (60, 155), (61, 166), (62, 177)] 26 dX9_twoOf_1 (by decide) (by decide +kernel) (by decide +kernel) (by rw [h21]; rfl) (by decide) ?_
      refine r_iload_n X dX9_twoOf_144 2 rfl ?_
      refine r_if_ne (tgt := 152) X dX9_twoOf_145 (by decide) (fun h30 => ?_) (fun h30 => ?_)
      · replace hf := okf h30 hf
        refine r_iload_n X dX9_twoOf_152 1 rfl ?_
        refine r_iload_n X dX9_twoOf_153 2 rfl ?_
        obtain ⟨g31, hf⟩ := okg hf
        refine r_irem X dX9_twoOf_154 g31 ?_
        exact r_iret X rfl hR (ok0 hf) dX9_twoOf_155
      · replace hf := okt h30 hf
        refine r_iconst X dX9_twoOf_148 ci_0 ?_
        refine r_goto (tgt := 155) X dX9_twoOf_149 (by decide) ?_
        exact r_iret X rfl hR (ok0 hf) dX9_twoOf_155
    replace hf := okf h21 hf
    by_cases h22 : a0 = (38 : Int32)
    · replace hf := okt h22 hf
      refine r_table (off := 188) (tgt := 189) X [(37, 143), (38, 188), (42, 127), (43, 119), (45, 123), (47, 131), (60, 155), (61, 166), (62, 177)] 26 dX9_twoOf_1 (by decide) (by decide +kernel) (by decide +kernel) (by rw [h22]; rfl) (by decide) ?_
      refine r_iload_n X dX9_twoOf_189 1 rfl ?_
      refine r_if_eq (tgt := 201) X dX9_twoOf_190 (by decide) (fun h32 => ?_) (fun h32 => ?_)
      · replace hf := okt h32 hf
        refine r_iconst X dX9_twoOf_201 ci_0 ?_
        exact r_iret X rfl hR (ok0 hf) dX9_twoOf_202
      · replace hf := okf h32 hf
        refine r_iload_n X dX9_twoOf_193 2 rfl ?_
        refine r_if_eq (tgt := 201) X dX9_twoOf_194 (by decide) (fun h33 => ?_) (fun h33 => ?_)
        · replace hf := okt h33 hf
          refine r_iconst X dX9_twoOf_201 ci_0 ?_
          exact r_iret X rfl hR (ok0 hf) dX9_twoOf_202
        · replace hf := okf h33 hf
          refine r_iconst X dX9_twoOf_197 ci_1 ?_
          refine r_goto (tgt := 202) X dX9_twoOf_198 (by decide) ?_
          exact r_iret X rfl hR (ok0 hf) dX9_twoOf_202
    replace hf := okf h22 hf
    by_cases h23 : a0 = (42 : Int32)
    · replace hf := okt h23 hf
      refine r_table (off := 127) (tgt := 128) X [(37, 143), (38, 188), (42, 127), (43, 119), (45, 123), (47, 131), (60, 155), (61, 166), (62, 177)] 26 dX9_twoOf_1 (by decide) (by decide +kernel) (by decide +kernel) (by rw [h23]; rfl) (by decide) ?_
      refine r_iload_n X dX9_twoOf_128 1 rfl ?_
      refine r_iload_n X dX9_twoOf_129 2 rfl ?_
      refine r_imul X dX9_twoOf_130 ?_
      exact r_iret X rfl hR (ok0 hf) dX9_twoOf_131
    replace hf := okf h23 hf
    by_cases h24 : a0 = (43 : Int32)
    · replace hf := okt h24 hf
      refine r_table (off := 119) (tgt := 120) X [(37, 143), (38, 188), (42, 127), (43, 119), (45, 123), (47, 131), (60, 155), (61, 166), (62, 177)] 26 dX9_twoOf_1 (by decide) (by decide +kernel) (by decide +kernel) (by rw [h24]; rfl) (by decide) ?_
      refine r_iload_n X dX9_twoOf_120 1 rfl ?_
      refine r_iload_n X dX9_twoOf_121 2 rfl ?_
      refine r_iadd X dX9_twoOf_122 ?_
      exact r_iret X rfl hR (ok0 hf) dX9_twoOf_123
    replace hf := okf h24 hf
    by_cases h25 : a0 = (45 : Int32)
    · replace hf := okt h25 hf
      refine r_table (off := 123) (tgt := 124) X [(37, 143), (38, 188), (42, 127), (43, 119), (45, 123), (47, 131), (60, 155), (61, 166), (62, 177)] 26 dX9_twoOf_1 (by decide) (by decide +kernel) (by decide +kernel) (by rw [h25]; rfl) (by decide) ?_
      refine r_iload_n X dX9_twoOf_124 1 rfl ?_
      refine r_iload_n X dX9_twoOf_125 2 rfl ?_
      refine r_isub X dX9_twoOf_126 ?_
      exact r_iret X rfl hR (ok0 hf) dX9_twoOf_127
    replace hf := okf h25 hf
    by_cases h26 : a0 = (47 : Int32)
    · replace hf := okt h26 hf
      refine r_table (off := 131) (tgt := 132) X [(37, 143), (38, 188), (42, 127), (43, 119), (45, 123), (47, 131), (60, 155), (61, 166), (62, 177)] 26 dX9_twoOf_1 (by decide) (by decide +kernel) (by decide +kernel) (by rw [h26]; rfl) (by decide) ?_
      refine r_iload_n X dX9_twoOf_132 2 rfl ?_
      refine r_if_ne (tgt := 140) X dX9_twoOf_133 (by decide) (fun h34 => ?_) (fun h34 => ?_)
      · replace hf := okf h34 hf
        refine r_iload_n X dX9_twoOf_140 1 rfl ?_
        refine r_iload_n X dX9_twoOf_141 2 rfl ?_
        obtain ⟨g35, hf⟩ := okg hf
        refine r_idiv X dX9_twoOf_142 g35 ?_
        exact r_iret X rfl hR (ok0 hf) dX9_twoOf_143
      · replace hf := okt h34 hf
        refine r_iconst X dX9_twoOf_136 ci_0 ?_
        refine r_goto (tgt := 143) X dX9_twoOf_137 (by decide) ?_
        exact r_iret X rfl hR (ok0 hf) dX9_twoOf_143
    replace hf := okf h26 hf
    by_cases h27 : a0 = (60 : Int32)
    · replace hf := okt h27 hf
      refine r_table (off := 155) (tgt := 156) X [(37, 143), (38, 188), (42, 127), (43, 119), (45, 123), (47, 131), (60, 155), (61, 166), (62, 177)] 26 dX9_twoOf_1 (by decide) (by decide +kernel) (by decide +kernel) (by rw [h27]; rfl) (by decide) ?_
      refine r_iload_n X dX9_twoOf_156 1 rfl ?_
      refine r_iload_n X dX9_twoOf_157 2 rfl ?_
      refine r_icmp_ge (tgt := 165) X dX9_twoOf_158 (by decide) (fun h36 => ?_) (fun h36 => ?_)
      · replace hf := okt h36 hf
        refine r_iconst X dX9_twoOf_165 ci_0 ?_
        exact r_iret X rfl hR (ok0 hf) dX9_twoOf_166
      · replace hf := okf h36 hf
        refine r_iconst X dX9_twoOf_161 ci_1 ?_
        refine r_goto (tgt := 166) X dX9_twoOf_162 (by decide) ?_
        exact r_iret X rfl hR (ok0 hf) dX9_twoOf_166
    replace hf := okf h27 hf
    by_cases h28 : a0 = (61 : Int32)
    · replace hf := okt h28 hf
      refine r_table (off := 166) (tgt := 167) X [(37, 143), (38, 188), (42, 127), (43, 119), (45, 123), (47, 131), (60, 155), (61, 166), (62, 177)] 26 dX9_twoOf_1 (by decide) (by decide +kernel) (by decide +kernel) (by rw [h28]; rfl) (by decide) ?_
      refine r_iload_n X dX9_twoOf_167 1 rfl ?_
      refine r_iload_n X dX9_twoOf_168 2 rfl ?_
      refine r_icmp_ne (tgt := 176) X dX9_twoOf_169 (by decide) (fun h37 => ?_) (fun h37 => ?_)
      · replace hf := okf h37 hf
        refine r_iconst X dX9_twoOf_176 ci_0 ?_
        exact r_iret X rfl hR (ok0 hf) dX9_twoOf_177
      · replace hf := okt h37 hf
        refine r_iconst X dX9_twoOf_172 ci_1 ?_
        refine r_goto (tgt := 177) X dX9_twoOf_173 (by decide) ?_
        exact r_iret X rfl hR (ok0 hf) dX9_twoOf_177
    replace hf := okf h28 hf
    by_cases h29 : a0 = (62 : Int32)
    · replace hf := okt h29 hf
      refine r_table (off := 177) (tgt := 178) X [(37, 143), (38, 188), (42, 127), (43, 119), (45, 123), (47, 131), (60, 155), (61, 166), (62, 177)] 26 dX9_twoOf_1 (by decide) (by decide +kernel) (by decide +kernel) (by rw [h29]; rfl) (by decide) ?_
      refine r_iload_n X dX9_twoOf_178 1 rfl ?_
      refine r_iload_n X dX9_twoOf_179 2 rfl ?_
      refine r_icmp_le (tgt := 187) X dX9_twoOf_180 (by decide) (fun h38 => ?_) (fun h38 => ?_)
      · replace hf := okt h38 hf
        refine r_iconst X dX9_twoOf_187 ci_0 ?_
        exact r_iret X rfl hR (ok0 hf) dX9_twoOf_188
      · replace hf := okf h38 hf
        refine r_iconst X dX9_twoOf_183 ci_1 ?_
        refine r_goto (tgt := 188) X dX9_twoOf_184 (by decide) ?_
        exact r_iret X rfl hR (ok0 hf) dX9_twoOf_188
    replace hf := okf h29 hf
    refine r_table (off := 202) (tgt := 203) X [(37, 143), (38, 188), (42, 127), (43, 119), (45, 123), (47, 131), (60, 155), (61, 166), (62, 177)] 26 dX9_twoOf_1 (by decide) (by decide +kernel) (by decide +kernel) (lk_n h21 (by decide) (lk_n h22 (by decide) (lk_n h23 (by decide) (lk_n h24 (by decide) (lk_n h25 (by decide) (lk_n h26 (by decide) (lk_n h27 (by decide) (lk_n h28 (by decide) (lk_n h29 (by decide) rfl))))))))) (by decide) ?_
    refine r_sub [1, 2] rfl ?_
    exact t_X9_twoOf_203 X hR a1 a2 σ hf
theorem md_X9_twoOf : MD yX9_twoOf wsX9_twoOf cX9_twoOf 3 3 (some .int) := ⟨⟨_, rfl⟩, by decide +kernel, by decide +kernel, by decide⟩
theorem c_X9_twoOf (l : Launch) (G : GX)  (a0 : Int32) (a1 : Int32) (a2 : Int32) (σ : MM) (h : (f_X9_twoOf a0 a1 a2 σ).isSome = true) : CTi l G yX9_twoOf wsX9_twoOf 3 [.int a0, .int a1, .int a2] σ (f_X9_twoOf a0 a1 a2 σ) :=
  CTi_of md_X9_twoOf (Nat.le_of_ble_eq_true rfl) (fun K X hR => e_X9_twoOf X hR a0 a1 a2 σ (ok_is h))
-- X9_works
theorem in_X9_works_9 : ∀ w ∈ u_ws RX9 TX9 21, w ∈ wsX9_works := fun _ h => List.mem_cons_of_mem _ (List.mem_append_right _ h)
def u_X9_works_79 (k4 : Int32 → Int32 → Int32 → MM → Option (Int32 × MM)) (v1 : Int32) (v2 : Int32) (v3 : Int32) (vs0 : Int32) (vs1 : Int32) (σ : MM) : Option (Int32 × MM) :=
  if vs1 < 0 ∨ 60 ≤ vs1.toNatClampNeg then none else lt (mu σ 140 (vs1.toNatClampNeg) vs0) (fun σ38 => k4 v1 (v2 + (1 : Int32)) (v3 + (1 : Int32)) σ38)
def u_X9_works_38 (k4 : Int32 → Int32 → Int32 → MM → Option (Int32 × MM)) (v1 : Int32) (v2 : Int32) (v3 : Int32) (v4 : Int32) (σ : MM) : Option (Int32 × MM) :=
  if v4 = (1 : Int32) then if ((v1 + (61 : Int32)) + v3) < 0 ∨ 412 ≤ ((v1 + (61 : Int32)) + v3).toNatClampNeg then none else u_X9_works_79 k4 v1 v2 v3 (σ 130 (((v1 + (61 : Int32)) + v3).toNatClampNeg)) v2 σ else if ((v1 + (61 : Int32)) + v3) < 0 ∨ 412 ≤ ((v1 + (61 : Int32)) + v3).toNatClampNeg then none else if (σ 130 (((v1 + (61 : Int32)) + v3).toNatClampNeg)) < 0 ∨ 3 ≤ (σ 130 (((v1 + (61 : Int32)) + v3).toNatClampNeg)).toNatClampNeg then none else u_X9_works_79 k4 v1 v2 v3 (σ 139 ((σ 130 (((v1 + (61 : Int32)) + v3).toNatClampNeg)).toNatClampNeg)) v2 σ
def u_X9_works_115 (k4 : Int32 → Int32 → Int32 → MM → Option (Int32 × MM)) (v1 : Int32) (v2 : Int32) (v3 : Int32) (vs0 : Int32) (vs1 : Int32) (σ : MM) : Option (Int32 × MM) :=
  if vs1 < 0 ∨ 60 ≤ vs1.toNatClampNeg then none else lt (mu σ 140 (vs1.toNatClampNeg) vs0) (fun σ53 => k4 v1 v2 (v3 + (1 : Int32)) σ53)
def u_X9_works_4 (k4 : Int32 → Int32 → Int32 → MM → Option (Int32 × MM)) (v1 : Int32) (v2 : Int32) (v3 : Int32) (σ : MM) : Option (Int32 × MM) :=
  if v1 < 0 ∨ 412 ≤ v1.toNatClampNeg then none else if (σ 130 (v1.toNatClampNeg)) ≤ v3 then some ((σ 140 0), σ) else if ((v1 + (1 : Int32)) + v3) < 0 ∨ 412 ≤ ((v1 + (1 : Int32)) + v3).toNatClampNeg then none else lt (σ 130 (((v1 + (1 : Int32)) + v3).toNatClampNeg)) (fun y31 => if y31 = (1 : Int32) then u_X9_works_38 k4 v1 v2 v3 y31 σ else if y31 = (2 : Int32) then u_X9_works_38 k4 v1 v2 v3 y31 σ else if y31 = (3 : Int32) then if (v2 - (1 : Int32)) < 0 ∨ 60 ≤ (v2 - (1 : Int32)).toNatClampNeg then none else if (σ 140 ((v2 - (1 : Int32)).toNatClampNeg)) = 0 then u_X9_works_115 k4 v1 v2 v3 (1 : Int32) (v2 - (1 : Int32)) σ else u_X9_works_115 k4 v1 v2 v3 (0 : Int32) (v2 - (1 : Int32)) σ else if ((v2 + (-1 : Int32)) - (1 : Int32)) < 0 ∨ 60 ≤ ((v2 + (-1 : Int32)) - (1 : Int32)).toNatClampNeg then none else if (v2 + (-1 : Int32)) < 0 ∨ 60 ≤ (v2 + (-1 : Int32)).toNatClampNeg then none else bd (f_X9_twoOf y31 (σ 140 (((v2 + (-1 : Int32)) - (1 : Int32)).toNatClampNeg)) (σ 140 ((v2 + (-1 : Int32)).toNatClampNeg)) σ) (fun r45 σ46 => lt (mu σ46 140 (((v2 + (-1 : Int32)) - (1 : Int32)).toNatClampNeg) r45) (fun σ48 => k4 v1 (v2 + (-1 : Int32)) (v3 + (1 : Int32)) σ48)))
def l_X9_works_4 (v1 : Int32) (v2 : Int32) (v3 : Int32) (σ : MM) : Option (Int32 × MM) :=
  itr (fun _ _ _ _ => none) (u_X9_works_4) FU v1 v2 v3 σ
def f_X9_works (a1 : Int32) (σ : MM) : Option (Int32 × MM) :=
  l_X9_works_4 a1 (0 : Int32) (0 : Int32) σ
set_option maxRecDepth 100000 in
set_option maxHeartbeats 4000000 in
theorem t_X9_works_79 {l : Launch} {G : GX} {K : KX} (X : FX G K cX9_works RX9 (some .int) wsX9_works 5) {Φ : Int32 → MM → Prop} (hR : Ri G K Φ) (k4 : Int32 → Int32 → Int32 → MM → Option (Int32 × MM)) (hk4c : ∀ (v1 : Int32) (v2 : Int32) (v3 : Int32) (σ : MM), Ok Φ (k4 v1 v2 v3 σ) → V l G 4 K 5 4 [(0, .ref (G.1 129)), (1, .int v1), (2, .int v2), (3, .int v3)] [] σ) (v1 : Int32) (v2 : Int32) (v3 : Int32) (vs0 : Int32) (vs1 : Int32) (σ : MM) (hf : Ok Φ (u_X9_works_79 k4 v1 v2 v3 vs0 vs1 σ)) : V l G 4 K 5 79 [(0, .ref (G.1 129)), (1, .int v1), (2, .int v2), (3, .int v3)] [.int vs0, .int vs1, .ref (G.1 140)] σ := by
    unfold u_X9_works_79 at hf
    obtain ⟨g37, hf⟩ := okg hf
    obtain ⟨σ38, e39, hf⟩ := okl hf
    refine r_iast (i := 140) (jn := vs1.toNatClampNeg) X (kd_in kc_140 (by decide)) (fun _ => EE_20 _ kc_140) rfl g37 dX9_works_79 ?_
    refine r_sg e39 ?_
    refine r_iinc (v := (v2 + (1 : Int32))) X dX9_works_80 2 rfl (congrArg _ ci_1) (by decide) (lv' := [(2, .int (v2 + (1 : Int32))), (0, .ref (G.1 129)), (1, .int v1), (3, .int v3)]) rfl ?_
    refine r_goto (tgt := 149) X dX9_works_83 (by decide) ?_
    refine r_iinc (v := (v3 + (1 : Int32))) X dX9_works_149 3 rfl (congrArg _ ci_1) (by decide) (lv' := [(3, .int (v3 + (1 : Int32))), (2, .int (v2 + (1 : Int32))), (0, .ref (G.1 129)), (1, .int v1)]) rfl ?_
    refine r_goto (tgt := 4) X dX9_works_152 (by decide) ?_
    refine r_sub [2, 3, 1, 0] rfl ?_
    exact hk4c v1 (v2 + (1 : Int32)) (v3 + (1 : Int32)) σ38 hf
set_option maxRecDepth 100000 in
set_option maxHeartbeats 4000000 in
theorem t_X9_works_38 {l : Launch} {G : GX} {K : KX} (X : FX G K cX9_works RX9 (some .int) wsX9_works 5) {Φ : Int32 → MM → Prop} (hR : Ri G K Φ) (k4 : Int32 → Int32 → Int32 → MM → Option (Int32 × MM)) (hk4c : ∀ (v1 : Int32) (v2 : Int32) (v3 : Int32) (σ : MM), Ok Φ (k4 v1 v2 v3 σ) → V l G 4 K 5 4 [(0, .ref (G.1 129)), (1, .int v1), (2, .int v2), (3, .int v3)] [] σ) (v1 : Int32) (v2 : Int32) (v3 : Int32) (v4 : Int32) (σ : MM) (hf : Ok Φ (u_X9_works_38 k4 v1 v2 v3 v4 σ)) : V l G 4 K 5 38 [(0, .ref (G.1 129)), (1, .int v1), (2, .int v2), (3, .int v3), (4, .int v4)] [] σ := by
    unfold u_X9_works_38 at hf
    refine r_aload_n X dX9_works_38 0 rfl isr_ref ?_
    refine r_get (i := 129) (v := .ref (G.1 140)) X in_X9_works_9 rfl 11 (by decide) (kd_in kc_129 (by decide)) (EE_9 _ kc_129) rfl (mem_ix 2 rfl) dX9_works_39 ?_
    refine r_iload_n X dX9_works_42 2 rfl ?_
    refine r_iload X dX9_works_43 4 rfl ?_
    refine r_iconst X dX9_works_45 ci_1 ?_
    refine r_icmp_ne (tgt := 63) X dX9_works_46 (by decide) (fun h34 => ?_) (fun h34 => ?_)
    · replace hf := okf h34 hf
      refine r_aload_n X dX9_works_63 0 rfl isr_ref ?_
      refine r_get (i := 129) (v := .ref (G.1 139)) X in_X9_works_9 rfl 10 (by decide) (kd_in kc_129 (by decide)) (EE_9 _ kc_129) rfl (mem_ix 3 rfl) dX9_works_64 ?_
      refine r_aload_n X dX9_works_67 0 rfl isr_ref ?_
      refine r_get (i := 129) (v := .ref (G.1 130)) X in_X9_works_9 rfl 0 (by decide) (kd_in kc_129 (by decide)) (EE_9 _ kc_129) rfl (mem_ix 1 rfl) dX9_works_68 ?_
      refine r_iload_n X dX9_works_71 1 rfl ?_
      refine r_bipush X dX9_works_72 cb_61 ?_
      refine r_iadd X dX9_works_74 ?_
      refine r_iload_n X dX9_works_75 3 rfl ?_
      refine r_iadd X dX9_works_76 ?_
      obtain ⟨g35, hf⟩ := okg hf
      refine r_iald (i := 130) (jn := ((v1 + (61 : Int32)) + v3).toNatClampNeg) X (kd_in kc_130 (by decide)) (EE_26 _ kc_130) rfl g35 dX9_works_77 ?_
      obtain ⟨g36, hf⟩ := okg hf
      refine r_iald (i := 139) (jn := (σ 130 (((v1 + (61 : Int32)) + v3).toNatClampNeg)).toNatClampNeg) X (kd_in kc_139 (by decide)) (EE_24 _ kc_139) rfl g36 dX9_works_78 ?_
      refine r_sub [0, 1, 2, 3] rfl ?_
      exact t_X9_works_79 X hR k4 hk4c v1 v2 v3 (σ 139 ((σ 130 (((v1 + (61 : Int32)) + v3).toNatClampNeg)).toNatClampNeg)) v2 σ hf
    · replace hf := okt h34 hf
      refine r_aload_n X dX9_works_49 0 rfl isr_ref ?_
      refine r_get (i := 129) (v := .ref (G.1 130)) X in_X9_works_9 rfl 0 (by decide) (kd_in kc_129 (by decide)) (EE_9 _ kc_129) rfl (mem_ix 1 rfl) dX9_works_50 ?_
      refine r_iload_n X dX9_works_53 1 rfl ?_
      refine r_bipush X dX9_works_54 cb_61 ?_
      refine r_iadd X dX9_works_56 ?_
      refine r_iload_n X dX9_works_57 3 rfl ?_
      refine r_iadd X dX9_works_58 ?_
      obtain ⟨g40, hf⟩ := okg hf
      refine r_iald (i := 130) (jn := ((v1 + (61 : Int32)) + v3).toNatClampNeg) X (kd_in kc_130 (by decide)) (EE_26 _ kc_130) rfl g40 dX9_works_59 ?_
      refine r_goto (tgt := 79) X dX9_works_60 (by decide) ?_
      refine r_sub [0, 1, 2, 3] rfl ?_
      exact t_X9_works_79 X hR k4 hk4c v1 v2 v3 (σ 130 (((v1 + (61 : Int32)) + v3).toNatClampNeg)) v2 σ hf
set_option maxRecDepth 100000 in
set_option maxHeartbeats 4000000 in
theorem t_X9_works_115 {l : Launch} {G : GX} {K : KX} (X : FX G K cX9_works RX9 (some .int) wsX9_works 5) {Φ : Int32 → MM → Prop} (hR : Ri G K Φ) (k4 : Int32 → Int32 → Int32 → MM → Option (Int32 × MM)) (hk4c : ∀ (v1 : Int32) (v2 : Int32) (v3 : Int32) (σ : MM), Ok Φ (k4 v1 v2 v3 σ) → V l G 4 K 5 4 [(0, .ref (G.1 129)), (1, .int v1), (2, .int v2), (3, .int v3)] [] σ) (v1 : Int32) (v2 : Int32) (v3 : Int32) (vs0 : Int32) (vs1 : Int32) (σ : MM) (hf : Ok Φ (u_X9_works_115 k4 v1 v2 v3 vs0 vs1 σ)) : V l G 4 K 5 115 [(0, .ref (G.1 129)), (1, .int v1), (2, .int v2), (3, .int v3)] [.int vs0, .int vs1, .ref (G.1 140)] σ := by
    unfold u_X9_works_115 at hf
    obtain ⟨g52, hf⟩ := okg hf
    obtain ⟨σ53, e54, hf⟩ := okl hf
    refine r_iast (i := 140) (jn := vs1.toNatClampNeg) X (kd_in kc_140 (by decide)) (fun _ => EE_20 _ kc_140) rfl g52 dX9_works_115 ?_
    refine r_sg e54 ?_
    refine r_goto (tgt := 149) X dX9_works_116 (by decide) ?_
    refine r_iinc (v := (v3 + (1 : Int32))) X dX9_works_149 3 rfl (congrArg _ ci_1) (by decide) (lv' := [(3, .int (v3 + (1 : Int32))), (0, .ref (G.1 129)), (1, .int v1), (2, .int v2)]) rfl ?_
    refine r_goto (tgt := 4) X dX9_works_152 (by decide) ?_
    refine r_sub [1, 2, 3, 0] rfl ?_
    exact hk4c v1 v2 (v3 + (1 : Int32)) σ53 hf
set_option maxRecDepth 100000 in
set_option maxHeartbeats 4000000 in
theorem t_X9_works_4 {l : Launch} {G : GX} {K : KX} (X : FX G K cX9_works RX9 (some .int) wsX9_works 5) {Φ : Int32 → MM → Prop} (hR : Ri G K Φ) (k4 : Int32 → Int32 → Int32 → MM → Option (Int32 × MM)) (hk4c : ∀ (v1 : Int32) (v2 : Int32) (v3 : Int32) (σ : MM), Ok Φ (k4 v1 v2 v3 σ) → V l G 4 K 5 4 [(0, .ref (G.1 129)), (1, .int v1), (2, .int v2), (3, .int v3)] [] σ) (v1 : Int32) (v2 : Int32) (v3 : Int32) (σ : MM) (hf : Ok Φ (u_X9_works_4 k4 v1 v2 v3 σ)) : V l G 4 K 5 4 [(0, .ref (G.1 129)), (1, .int v1), (2, .int v2), (3, .int v3)] [] σ := by
    unfold u_X9_works_4 at hf
    refine r_iload_n X dX9_works_4 3 rfl ?_
    refine r_aload_n X dX9_works_5 0 rfl isr_ref ?_
    refine r_get (i := 129) (v := .ref (G.1 130)) X in_X9_works_9 rfl 0 (by decide) (kd_in kc_129 (by decide)) (EE_9 _ kc_129) rfl (mem_ix 1 rfl) dX9_works_6 ?_
    refine r_iload_n X dX9_works_9 1 rfl ?_
    obtain ⟨g28, hf⟩ := okg hf
    refine r_iald (i := 130) (jn := v1.toNatClampNeg) X (kd_in kc_130 (by decide)) (EE_26 _ kc_130) rfl g28 dX9_works_10 ?_
    refine r_icmp_ge (tgt := 155) X dX9_works_11 (by decide) (fun h29 => ?_) (fun h29 => ?_)
    · replace hf := okt h29 hf
      refine r_aload_n X dX9_works_155 0 rfl isr_ref ?_
      refine r_get (i := 129) (v := .ref (G.1 140)) X in_X9_works_9 rfl 11 (by decide) (kd_in kc_129 (by decide)) (EE_9 _ kc_129) rfl (mem_ix 2 rfl) dX9_works_156 ?_
      refine r_iconst X dX9_works_159 ci_0 ?_
      refine r_iald (i := 140) (jn := 0) X (kd_in kc_140 (by decide)) (EE_20 _ kc_140) (by decide) (by decide) dX9_works_160 ?_
      exact r_iret X rfl hR (ok0 hf) dX9_works_161
    · replace hf := okf h29 hf
      refine r_aload_n X dX9_works_14 0 rfl isr_ref ?_
      refine r_get (i := 129) (v := .ref (G.1 130)) X in_X9_works_9 rfl 0 (by decide) (kd_in kc_129 (by decide)) (EE_9 _ kc_129) rfl (mem_ix 1 rfl) dX9_works_15 ?_
      refine r_iload_n X dX9_works_18 1 rfl ?_
      refine r_iconst X dX9_works_19 ci_1 ?_
      refine r_iadd X dX9_works_20 ?_
      refine r_iload_n X dX9_works_21 3 rfl ?_
      refine r_iadd X dX9_works_22 ?_
      obtain ⟨g30, hf⟩ := okg hf
      refine r_iald (i := 130) (jn := ((v1 + (1 : Int32)) + v3).toNatClampNeg) X (kd_in kc_130 (by decide)) (EE_26 _ kc_130) rfl g30 dX9_works_23 ?_
      obtain ⟨y31, e32, hf⟩ := okl hf
      refine r_topi e32 ?_
      refine r_istore X dX9_works_24 (by decide) (lv' := [(4, .int y31), (0, .ref (G.1 129)), (1, .int v1), (2, .int v2), (3, .int v3)]) rfl ?_
      refine r_iload X dX9_works_26 0 rfl ?_
      refine r_iconst X dX9_works_28 ci_1 ?_
      refine r_icmp_eq (tgt := 38) X dX9_works_29 (by decide) (fun h33 => ?_) (fun h33 => ?_)
      · replace hf := okt h33 hf
        refine r_sub [1, 2, 3, 4, 0] rfl ?_
        exact t_X9_works_38 X hR k4 hk4c v1 v2 v3 y31 σ hf
      · replace hf := okf h33 hf
        refine r_iload X dX9_works_32 0 rfl ?_
        refine r_iconst X dX9_works_34 ci_2 ?_
        refine r_icmp_ne (tgt := 86) X dX9_works_35 (by decide) (fun h41 => ?_) (fun h41 => ?_)
        · replace hf := okf h41 hf
          refine r_iload X dX9_works_86 0 rfl ?_
          refine r_iconst X dX9_works_88 ci_3 ?_
          refine r_icmp_ne (tgt := 119) X dX9_works_89 (by decide) (fun h42 => ?_) (fun h42 => ?_)
          · replace hf := okf h42 hf
            refine r_iinc (v := (v2 + (-1 : Int32))) X dX9_works_119 3 rfl (congrArg _ ci_m1) (by decide) (lv' := [(2, .int (v2 + (-1 : Int32))), (4, .int y31), (0, .ref (G.1 129)), (1, .int v1), (3, .int v3)]) rfl ?_
            refine r_aload_n X dX9_works_122 2 rfl isr_ref ?_
            refine r_get (i := 129) (v := .ref (G.1 140)) X in_X9_works_9 rfl 11 (by decide) (kd_in kc_129 (by decide)) (EE_9 _ kc_129) rfl (mem_ix 2 rfl) dX9_works_123 ?_
            refine r_iload_n X dX9_works_126 0 rfl ?_
            refine r_iconst X dX9_works_127 ci_1 ?_
            refine r_isub X dX9_works_128 ?_
            refine r_iload X dX9_works_129 1 rfl ?_
            refine r_aload_n X dX9_works_131 2 rfl isr_ref ?_
            refine r_get (i := 129) (v := .ref (G.1 140)) X in_X9_works_9 rfl 11 (by decide) (kd_in kc_129 (by decide)) (EE_9 _ kc_129) rfl (mem_ix 2 rfl) dX9_works_132 ?_
            refine r_iload_n X dX9_works_135 0 rfl ?_
            refine r_iconst X dX9_works_136 ci_1 ?_
            refine r_isub X dX9_works_137 ?_
            obtain ⟨g43, hf⟩ := okg hf
            refine r_iald (i := 140) (jn := ((v2 + (-1 : Int32)) - (1 : Int32)).toNatClampNeg) X (kd_in kc_140 (by decide)) (EE_20 _ kc_140) rfl g43 dX9_works_138 ?_
            refine r_aload_n X dX9_works_139 2 rfl isr_ref ?_
            refine r_get (i := 129) (v := .ref (G.1 140)) X in_X9_works_9 rfl 11 (by decide) (kd_in kc_129 (by decide)) (EE_9 _ kc_129) rfl (mem_ix 2 rfl) dX9_works_140 ?_
            refine r_iload_n X dX9_works_143 0 rfl ?_
            obtain ⟨g44, hf⟩ := okg hf
            refine r_iald (i := 140) (jn := (v2 + (-1 : Int32)).toNatClampNeg) X (kd_in kc_140 (by decide)) (EE_20 _ kc_140) rfl g44 dX9_works_144 ?_
            refine r_callSi (rest := [.int ((v2 + (-1 : Int32)) - (1 : Int32)), .ref (G.1 140)]) X (c_X9_twoOf l G y31 (σ 140 (((v2 + (-1 : Int32)) - (1 : Int32)).toNatClampNeg)) (σ 140 ((v2 + (-1 : Int32)).toNatClampNeg)) σ (oks hf)) md_X9_twoOf gX9_works_X9_twoOf (by decide) rfl rfl (Nat.le_of_ble_eq_true rfl) dX9_works_145 (fun r45 σ46 e47 => ?_)
            replace hf := okn e47 hf
            obtain ⟨σ48, e49, hf⟩ := okl hf
            refine r_iast (i := 140) (jn := ((v2 + (-1 : Int32)) - (1 : Int32)).toNatClampNeg) X (kd_in kc_140 (by decide)) (fun _ => EE_20 _ kc_140) rfl g43 dX9_works_148 ?_
            refine r_sg e49 ?_
            refine r_iinc (v := (v3 + (1 : Int32))) X dX9_works_149 4 rfl (congrArg _ ci_1) (by decide) (lv' := [(3, .int (v3 + (1 : Int32))), (2, .int (v2 + (-1 : Int32))), (4, .int y31), (0, .ref (G.1 129)), (1, .int v1)]) rfl ?_
            refine r_goto (tgt := 4) X dX9_works_152 (by decide) ?_
            refine r_sub [3, 4, 1, 0] rfl ?_
            exact hk4c v1 (v2 + (-1 : Int32)) (v3 + (1 : Int32)) σ48 hf
          · replace hf := okt h42 hf
            refine r_aload_n X dX9_works_92 1 rfl isr_ref ?_
            refine r_get (i := 129) (v := .ref (G.1 140)) X in_X9_works_9 rfl 11 (by decide) (kd_in kc_129 (by decide)) (EE_9 _ kc_129) rfl (mem_ix 2 rfl) dX9_works_93 ?_
            refine r_iload_n X dX9_works_96 3 rfl ?_
            refine r_iconst X dX9_works_97 ci_1 ?_
            refine r_isub X dX9_works_98 ?_
            refine r_aload_n X dX9_works_99 1 rfl isr_ref ?_
            refine r_get (i := 129) (v := .ref (G.1 140)) X in_X9_works_9 rfl 11 (by decide) (kd_in kc_129 (by decide)) (EE_9 _ kc_129) rfl (mem_ix 2 rfl) dX9_works_100 ?_
            refine r_iload_n X dX9_works_103 3 rfl ?_
            refine r_iconst X dX9_works_104 ci_1 ?_
            refine r_isub X dX9_works_105 ?_
            obtain ⟨g50, hf⟩ := okg hf
            refine r_iald (i := 140) (jn := (v2 - (1 : Int32)).toNatClampNeg) X (kd_in kc_140 (by decide)) (EE_20 _ kc_140) rfl g50 dX9_works_106 ?_
            refine r_if_ne (tgt := 114) X dX9_works_107 (by decide) (fun h51 => ?_) (fun h51 => ?_)
            · replace hf := okf h51 hf
              refine r_iconst X dX9_works_114 ci_0 ?_
              refine r_sub [1, 2, 3, 4] rfl ?_
              exact t_X9_works_115 X hR k4 hk4c v1 v2 v3 (0 : Int32) (v2 - (1 : Int32)) σ hf
            · replace hf := okt h51 hf
              refine r_iconst X dX9_works_110 ci_1 ?_
              refine r_goto (tgt := 115) X dX9_works_111 (by decide) ?_
              refine r_sub [1, 2, 3, 4] rfl ?_
              exact t_X9_works_115 X hR k4 hk4c v1 v2 v3 (1 : Int32) (v2 - (1 : Int32)) σ hf
        · replace hf := okt h41 hf
          refine r_sub [1, 2, 3, 4, 0] rfl ?_
          exact t_X9_works_38 X hR k4 hk4c v1 v2 v3 y31 σ hf
theorem tl_X9_works_4 {l : Launch} {G : GX} {K : KX} (X : FX G K cX9_works RX9 (some .int) wsX9_works 5) {Φ : Int32 → MM → Prop} (hR : Ri G K Φ) : ∀ (m : Nat) (v1 : Int32) (v2 : Int32) (v3 : Int32) (σ : MM), Ok Φ (itr (fun _ _ _ _ => none) (u_X9_works_4) m v1 v2 v3 σ) → V l G 4 K 5 4 [(0, .ref (G.1 129)), (1, .int v1), (2, .int v2), (3, .int v3)] [] σ := by
  intro m
  induction m with
  | zero => intro v1 v2 v3 σ hf; exact (okx hf).elim
  | succ m ih => intro v1 v2 v3 σ hf; exact t_X9_works_4 X hR _ ih v1 v2 v3 σ hf
set_option maxRecDepth 100000 in
set_option maxHeartbeats 4000000 in
theorem e_X9_works {l : Launch} {G : GX} {K : KX} (X : FX G K cX9_works RX9 (some .int) wsX9_works 5) {Φ : Int32 → MM → Prop} (hR : Ri G K Φ) (a1 : Int32) (σ : MM) (hf : Ok Φ (f_X9_works a1 σ)) : V l G 4 K 5 0 [(0, .ref (G.1 129)), (1, .int a1)] [] σ := by
    unfold f_X9_works at hf
    refine r_iconst X dX9_works_0 ci_0 ?_
    refine r_istore_n X dX9_works_1 (i := 2) rfl (by decide) (lv' := [(2, .int (0 : Int32)), (0, .ref (G.1 129)), (1, .int a1)]) rfl ?_
    refine r_iconst X dX9_works_2 ci_0 ?_
    refine r_istore_n X dX9_works_3 (i := 3) rfl (by decide) (lv' := [(3, .int (0 : Int32)), (2, .int (0 : Int32)), (0, .ref (G.1 129)), (1, .int a1)]) rfl ?_
    refine r_sub [2, 3, 1, 0] rfl ?_
    exact tl_X9_works_4 X hR FU a1 (0 : Int32) (0 : Int32) σ hf
theorem md_X9_works : MD yX9_works wsX9_works cX9_works 5 1 (some .int) := ⟨⟨_, rfl⟩, by decide +kernel, by decide +kernel, by decide⟩
theorem c_X9_works (l : Launch) (G : GX)  (a1 : Int32) (σ : MM) (h : (f_X9_works a1 σ).isSome = true) : CTi l G yX9_works wsX9_works 4 [.ref (G.1 129), .int a1] σ (f_X9_works a1 σ) :=
  CTi_of md_X9_works (Nat.le_of_ble_eq_true rfl) (fun K X hR => e_X9_works X hR a1 σ (ok_is h))
-- X9_gives
theorem in_X9_gives_9 : ∀ w ∈ u_ws RX9 TX9 21, w ∈ wsX9_gives := fun _ h => List.mem_cons_of_mem _ (List.mem_append_right _ h)
def u_X9_gives_60 (v1 : Int32) (vs0 : Int32) (σ : MM) : Option (Int32 × MM) :=
  if v1 = 0 then bd (f_X9_held vs0 (0 : Int32) (1 : Int32) σ) (fun r33 σ34 => some (r33, σ34)) else bd (f_X9_held vs0 (0 : Int32) (99 : Int32) σ) (fun r30 σ31 => some (r30, σ31))
def f_X9_gives (a1 : Int32) (a2 : Int32) (a3 : Int32) (a4 : Int32) (σ : MM) : Option (Int32 × MM) :=
  lt (mu σ 139 0 a2) (fun σ20 => lt (mu σ20 139 1 a3) (fun σ22 => lt (mu σ22 139 2 a4) (fun σ24 => if ((170 : Int32) + ((121 : Int32) * a1)) < 0 ∨ 412 ≤ ((170 : Int32) + ((121 : Int32) * a1)).toNatClampNeg then none else if (σ24 130 (((170 : Int32) + ((121 : Int32) * a1)).toNatClampNeg)) ≤ 0 then if a1 = 0 then u_X9_gives_60 a1 (1 : Int32) σ24 else u_X9_gives_60 a1 a2 σ24 else bd (f_X9_works ((170 : Int32) + ((121 : Int32) * a1)) σ24) (fun r36 σ37 => u_X9_gives_60 a1 r36 σ37))))
set_option maxRecDepth 100000 in
set_option maxHeartbeats 4000000 in
theorem t_X9_gives_60 {l : Launch} {G : GX} {K : KX} (X : FX G K cX9_gives RX9 (some .int) wsX9_gives 7) {Φ : Int32 → MM → Prop} (hR : Ri G K Φ) (v1 : Int32) (vs0 : Int32) (σ : MM) (hf : Ok Φ (u_X9_gives_60 v1 vs0 σ)) : V l G 5 K 7 60 [(1, .int v1)] [.int vs0] σ := by
    unfold u_X9_gives_60 at hf
    refine r_istore X dX9_gives_60 (by decide) (lv' := [(6, .int vs0), (1, .int v1)]) rfl ?_
    refine r_iload_n X dX9_gives_62 1 rfl ?_
    refine r_if_ne (tgt := 76) X dX9_gives_63 (by decide) (fun h29 => ?_) (fun h29 => ?_)
    · replace hf := okf h29 hf
      refine r_iload X dX9_gives_76 0 rfl ?_
      refine r_iconst X dX9_gives_78 ci_0 ?_
      refine r_bipush X dX9_gives_79 cb_99 ?_
      refine r_callSi (rest := []) X (c_X9_held l G vs0 (0 : Int32) (99 : Int32) σ (oks hf)) md_X9_held gX9_gives_X9_held (by decide) rfl rfl (Nat.le_of_ble_eq_true rfl) dX9_gives_81 (fun r30 σ31 e32 => ?_)
      replace hf := okn e32 hf
      exact r_iret X rfl hR (ok0 hf) dX9_gives_84
    · replace hf := okt h29 hf
      refine r_iload X dX9_gives_66 0 rfl ?_
      refine r_iconst X dX9_gives_68 ci_0 ?_
      refine r_iconst X dX9_gives_69 ci_1 ?_
      refine r_callSi (rest := []) X (c_X9_held l G vs0 (0 : Int32) (1 : Int32) σ (oks hf)) md_X9_held gX9_gives_X9_held (by decide) rfl rfl (Nat.le_of_ble_eq_true rfl) dX9_gives_70 (fun r33 σ34 e35 => ?_)
      replace hf := okn e35 hf
      refine r_goto (tgt := 84) X dX9_gives_73 (by decide) ?_
      exact r_iret X rfl hR (ok0 hf) dX9_gives_84
set_option maxRecDepth 100000 in
set_option maxHeartbeats 4000000 in
theorem e_X9_gives {l : Launch} {G : GX} {K : KX} (X : FX G K cX9_gives RX9 (some .int) wsX9_gives 7) {Φ : Int32 → MM → Prop} (hR : Ri G K Φ) (a1 : Int32) (a2 : Int32) (a3 : Int32) (a4 : Int32) (σ : MM) (hf : Ok Φ (f_X9_gives a1 a2 a3 a4 σ)) : V l G 5 K 7 0 [(0, .ref (G.1 129)), (1, .int a1), (2, .int a2), (3, .int a3), (4, .int a4)] [] σ := by
    unfold f_X9_gives at hf
    refine r_sipush X dX9_gives_0 cs_170 ?_
    refine r_bipush X dX9_gives_3 cb_121 ?_
    refine r_iload_n X dX9_gives_5 1 rfl ?_
    refine r_imul X dX9_gives_6 ?_
    refine r_iadd X dX9_gives_7 ?_
    refine r_istore X dX9_gives_8 (by decide) (lv' := [(5, .int ((170 : Int32) + ((121 : Int32) * a1))), (0, .ref (G.1 129)), (1, .int a1), (2, .int a2), (3, .int a3), (4, .int a4)]) rfl ?_
    refine r_aload_n X dX9_gives_10 1 rfl isr_ref ?_
    refine r_get (i := 129) (v := .ref (G.1 139)) X in_X9_gives_9 rfl 10 (by decide) (kd_in kc_129 (by decide)) (EE_9 _ kc_129) rfl (mem_ix 1 rfl) dX9_gives_11 ?_
    refine r_iconst X dX9_gives_14 ci_0 ?_
    refine r_iload_n X dX9_gives_15 3 rfl ?_
    obtain ⟨σ20, e21, hf⟩ := okl hf
    refine r_iast (i := 139) (jn := 0) X (kd_in kc_139 (by decide)) (fun _ => EE_24 _ kc_139) (by decide) (by decide) dX9_gives_16 ?_
    refine r_sg e21 ?_
    refine r_aload_n X dX9_gives_17 1 rfl isr_ref ?_
    refine r_get (i := 129) (v := .ref (G.1 139)) X in_X9_gives_9 rfl 10 (by decide) (kd_in kc_129 (by decide)) (EE_9 _ kc_129) rfl (mem_ix 1 rfl) dX9_gives_18 ?_
    refine r_iconst X dX9_gives_21 ci_1 ?_
    refine r_iload_n X dX9_gives_22 4 rfl ?_
    obtain ⟨σ22, e23, hf⟩ := okl hf
    refine r_iast (i := 139) (jn := 1) X (kd_in kc_139 (by decide)) (fun _ => EE_24 _ kc_139) (by decide) (by decide) dX9_gives_23 ?_
    refine r_sg e23 ?_
    refine r_aload_n X dX9_gives_24 1 rfl isr_ref ?_
    refine r_get (i := 129) (v := .ref (G.1 139)) X in_X9_gives_9 rfl 10 (by decide) (kd_in kc_129 (by decide)) (EE_9 _ kc_129) rfl (mem_ix 1 rfl) dX9_gives_25 ?_
    refine r_iconst X dX9_gives_28 ci_2 ?_
    refine r_iload X dX9_gives_29 5 rfl ?_
    obtain ⟨σ24, e25, hf⟩ := okl hf
    refine r_iast (i := 139) (jn := 2) X (kd_in kc_139 (by decide)) (fun _ => EE_24 _ kc_139) (by decide) (by decide) dX9_gives_31 ?_
    refine r_sg e25 ?_
    refine r_aload_n X dX9_gives_32 1 rfl isr_ref ?_
    refine r_get (i := 129) (v := .ref (G.1 130)) X in_X9_gives_9 rfl 0 (by decide) (kd_in kc_129 (by decide)) (EE_9 _ kc_129) rfl (mem_ix 2 rfl) dX9_gives_33 ?_
    refine r_iload X dX9_gives_36 0 rfl ?_
    obtain ⟨g26, hf⟩ := okg hf
    refine r_iald (i := 130) (jn := ((170 : Int32) + ((121 : Int32) * a1)).toNatClampNeg) X (kd_in kc_130 (by decide)) (EE_26 _ kc_130) rfl g26 dX9_gives_38 ?_
    refine r_if_le (tgt := 51) X dX9_gives_39 (by decide) (fun h27 => ?_) (fun h27 => ?_)
    · replace hf := okt h27 hf
      refine r_iload_n X dX9_gives_51 2 rfl ?_
      refine r_if_ne (tgt := 59) X dX9_gives_52 (by decide) (fun h28 => ?_) (fun h28 => ?_)
      · replace hf := okf h28 hf
        refine r_iload_n X dX9_gives_59 3 rfl ?_
        refine r_sub [2] rfl ?_
        exact t_X9_gives_60 X hR a1 a2 σ24 hf
      · replace hf := okt h28 hf
        refine r_iconst X dX9_gives_55 ci_1 ?_
        refine r_goto (tgt := 60) X dX9_gives_56 (by decide) ?_
        refine r_sub [2] rfl ?_
        exact t_X9_gives_60 X hR a1 (1 : Int32) σ24 hf
    · replace hf := okf h27 hf
      refine r_aload_n X dX9_gives_42 1 rfl isr_ref ?_
      refine r_iload X dX9_gives_43 0 rfl ?_
      refine r_callVi (rest := []) X (c_X9_works l G ((170 : Int32) + ((121 : Int32) * a1)) σ24 (oks hf)) md_X9_works gX9_gives_X9_works (by decide) rfl rfl (kd_in kc_129 (by decide)) (EE_9 _ kc_129) rfl rfl (Nat.le_of_ble_eq_true rfl) dX9_gives_45 (fun r36 σ37 e38 => ?_)
      replace hf := okn e38 hf
      refine r_goto (tgt := 60) X dX9_gives_48 (by decide) ?_
      refine r_sub [2] rfl ?_
      exact t_X9_gives_60 X hR a1 r36 σ37 hf
theorem md_X9_gives : MD yX9_gives wsX9_gives cX9_gives 7 4 (some .int) := ⟨⟨_, rfl⟩, by decide +kernel, by decide +kernel, by decide⟩
theorem c_X9_gives (l : Launch) (G : GX)  (a1 : Int32) (a2 : Int32) (a3 : Int32) (a4 : Int32) (σ : MM) (h : (f_X9_gives a1 a2 a3 a4 σ).isSome = true) : CTi l G yX9_gives wsX9_gives 5 [.ref (G.1 129), .int a1, .int a2, .int a3, .int a4] σ (f_X9_gives a1 a2 a3 a4 σ) :=
  CTi_of md_X9_gives (Nat.le_of_ble_eq_true rfl) (fun K X hR => e_X9_gives X hR a1 a2 a3 a4 σ (ok_is h))
-- X9_isContent
theorem in_X9_isContent_9 : ∀ w ∈ u_ws RX9 TX9 21, w ∈ wsX9_isContent := fun _ h => List.mem_cons_of_mem _ (List.mem_append_right _ h)
def f_X9_isContent (a1 : Int32) (a2 : Int32) (σ : MM) : Option (Int32 × MM) :=
  bd (f_X9_doesNod a1 a2 σ) (fun r12 σ13 => if r12 = 0 then some ((0 : Int32), σ13) else bd (f_X9_of a1 (1 : Int32) σ13) (fun r16 σ17 => bd (f_X9_gives (0 : Int32) a2 a1 r16 σ17) (fun r19 σ20 => if r19 = (1 : Int32) then some ((1 : Int32), σ20) else some ((0 : Int32), σ20))))
set_option maxRecDepth 100000 in
set_option maxHeartbeats 4000000 in
theorem e_X9_isContent {l : Launch} {G : GX} {K : KX} (X : FX G K cX9_isContent RX9 (some .boolean) wsX9_isContent 3) {Φ : Int32 → MM → Prop} (hR : Ri G K Φ) (a1 : Int32) (a2 : Int32) (σ : MM) (hf : Ok Φ (f_X9_isContent a1 a2 σ)) : V l G 6 K 3 0 [(0, .ref (G.1 129)), (1, .int a1), (2, .int a2)] [] σ := by
    unfold f_X9_isContent at hf
    refine r_aload_n X dX9_isContent_0 0 rfl isr_ref ?_
    refine r_iload_n X dX9_isContent_1 1 rfl ?_
    refine r_iload_n X dX9_isContent_2 2 rfl ?_
    refine r_callVi (rest := []) X (c_X9_doesNod l G a1 a2 σ (oks hf)) md_X9_doesNod gX9_isContent_X9_doesNod (by decide) rfl rfl (kd_in kc_129 (by decide)) (EE_9 _ kc_129) rfl rfl (Nat.le_of_ble_eq_true rfl) dX9_isContent_3 (fun r12 σ13 e14 => ?_)
    replace hf := okn e14 hf
    refine r_if_eq (tgt := 30) X dX9_isContent_6 (by decide) (fun h15 => ?_) (fun h15 => ?_)
    · replace hf := okt h15 hf
      refine r_iconst X dX9_isContent_30 ci_0 ?_
      exact r_zret X rfl hR (by decide) (ok0 hf) dX9_isContent_31
    · replace hf := okf h15 hf
      refine r_aload_n X dX9_isContent_9 0 rfl isr_ref ?_
      refine r_iconst X dX9_isContent_10 ci_0 ?_
      refine r_iload_n X dX9_isContent_11 2 rfl ?_
      refine r_iload_n X dX9_isContent_12 1 rfl ?_
      refine r_aload_n X dX9_isContent_13 0 rfl isr_ref ?_
      refine r_iload_n X dX9_isContent_14 1 rfl ?_
      refine r_iconst X dX9_isContent_15 ci_1 ?_
      refine r_callVi (rest := [.int a1, .int a2, .int (0 : Int32), .ref (G.1 129)]) X (c_X9_of l G a1 (1 : Int32) σ13 (oks hf)) md_X9_of gX9_isContent_X9_of (by decide) rfl rfl (kd_in kc_129 (by decide)) (EE_9 _ kc_129) rfl rfl (Nat.le_of_ble_eq_true rfl) dX9_isContent_16 (fun r16 σ17 e18 => ?_)
      replace hf := okn e18 hf
      refine r_callVi (rest := []) X (c_X9_gives l G (0 : Int32) a2 a1 r16 σ17 (oks hf)) md_X9_gives gX9_isContent_X9_gives (by decide) rfl rfl (kd_in kc_129 (by decide)) (EE_9 _ kc_129) rfl rfl (Nat.le_of_ble_eq_true rfl) dX9_isContent_19 (fun r19 σ20 e21 => ?_)
      replace hf := okn e21 hf
      refine r_iconst X dX9_isContent_22 ci_1 ?_
      refine r_icmp_ne (tgt := 30) X dX9_isContent_23 (by decide) (fun h22 => ?_) (fun h22 => ?_)
      · replace hf := okf h22 hf
        refine r_iconst X dX9_isContent_30 ci_0 ?_
        exact r_zret X rfl hR (by decide) (ok0 hf) dX9_isContent_31
      · replace hf := okt h22 hf
        refine r_iconst X dX9_isContent_26 ci_1 ?_
        refine r_goto (tgt := 31) X dX9_isContent_27 (by decide) ?_
        exact r_zret X rfl hR (by decide) (ok0 hf) dX9_isContent_31
theorem md_X9_isContent : MD yX9_isContent wsX9_isContent cX9_isContent 3 2 (some .boolean) := ⟨⟨_, rfl⟩, by decide +kernel, by decide +kernel, by decide⟩
theorem c_X9_isContent (l : Launch) (G : GX)  (a1 : Int32) (a2 : Int32) (σ : MM) (h : (f_X9_isContent a1 a2 σ).isSome = true) : CTi l G yX9_isContent wsX9_isContent 6 [.ref (G.1 129), .int a1, .int a2] σ (f_X9_isContent a1 a2 σ) :=
  CTi_of md_X9_isContent (Nat.le_of_ble_eq_true rfl) (fun K X hR => e_X9_isContent X hR a1 a2 σ (ok_is h))
-- X9_wantsOf
theorem in_X9_wantsOf_9 : ∀ w ∈ u_ws RX9 TX9 21, w ∈ wsX9_wantsOf := fun _ h => List.mem_cons_of_mem _ (List.mem_append_right _ h)
def f_X9_wantsOf (a1 : Int32) (σ : MM) : Option (Int32 × MM) :=
  bd (f_X9_of a1 (2 : Int32) σ) (fun r18 σ19 => lt ((10 : Int32) + (r18 - r18 / (10 : Int32) * (10 : Int32))) (fun y21 => bd (f_X9_of a1 (1 : Int32) σ19) (fun r23 σ24 => bd (f_X9_of a1 (0 : Int32) σ24) (fun r26 σ27 => if r26 = (1 : Int32) then some ((y21 + r23), σ27) else if r26 = (2 : Int32) then some ((y21 / (2 : Int32)), σ27) else if r26 = (3 : Int32) then some (((2 : Int32) * y21), σ27) else if r26 = (4 : Int32) then some (((y21 + r23) + a1), σ27) else if r26 = (5 : Int32) then some (((y21 / (2 : Int32)) - (1 : Int32)), σ27) else if r26 = (6 : Int32) then some ((0 : Int32), σ27) else some (y21, σ27)))))
set_option maxRecDepth 100000 in
set_option maxHeartbeats 4000000 in
theorem e_X9_wantsOf {l : Launch} {G : GX} {K : KX} (X : FX G K cX9_wantsOf RX9 (some .int) wsX9_wantsOf 4) {Φ : Int32 → MM → Prop} (hR : Ri G K Φ) (a1 : Int32) (σ : MM) (hf : Ok Φ (f_X9_wantsOf a1 σ)) : V l G 4 K 4 0 [(0, .ref (G.1 129)), (1, .int a1)] [] σ := by
    unfold f_X9_wantsOf at hf
    refine r_bipush X dX9_wantsOf_0 cb_10 ?_
    refine r_aload_n X dX9_wantsOf_2 0 rfl isr_ref ?_
    refine r_iload_n X dX9_wantsOf_3 1 rfl ?_
    refine r_iconst X dX9_wantsOf_4 ci_2 ?_
    refine r_callVi (rest := [.int (10 : Int32)]) X (c_X9_of l G a1 (2 : Int32) σ (oks hf)) md_X9_of gX9_wantsOf_X9_of (by decide) rfl rfl (kd_in kc_129 (by decide)) (EE_9 _ kc_129) rfl rfl (Nat.le_of_ble_eq_true rfl) dX9_wantsOf_5 (fun r18 σ19 e20 => ?_)
    replace hf := okn e20 hf
    refine r_bipush X dX9_wantsOf_8 cb_10 ?_
    refine r_irem X dX9_wantsOf_10 (by decide) ?_
    refine r_iadd X dX9_wantsOf_11 ?_
    obtain ⟨y21, e22, hf⟩ := okl hf
    refine r_topi e22 ?_
    refine r_istore_n X dX9_wantsOf_12 (i := 2) rfl (by decide) (lv' := [(2, .int y21), (0, .ref (G.1 129)), (1, .int a1)]) rfl ?_
    refine r_iload_n X dX9_wantsOf_13 0 rfl ?_
    refine r_aload_n X dX9_wantsOf_14 1 rfl isr_ref ?_
    refine r_iload_n X dX9_wantsOf_15 2 rfl ?_
    refine r_iconst X dX9_wantsOf_16 ci_1 ?_
    refine r_callVi (rest := [.int y21]) X (c_X9_of l G a1 (1 : Int32) σ19 (oks hf)) md_X9_of gX9_wantsOf_X9_of (by decide) rfl rfl (kd_in kc_129 (by decide)) (EE_9 _ kc_129) rfl rfl (Nat.le_of_ble_eq_true rfl) dX9_wantsOf_17 (fun r23 σ24 e25 => ?_)
    replace hf := okn e25 hf
    refine r_iadd X dX9_wantsOf_20 ?_
    refine r_istore_n X dX9_wantsOf_21 (i := 3) rfl (by decide) (lv' := [(3, .int (y21 + r23)), (2, .int y21), (0, .ref (G.1 129)), (1, .int a1)]) rfl ?_
    refine r_aload_n X dX9_wantsOf_22 2 rfl isr_ref ?_
    refine r_iload_n X dX9_wantsOf_23 3 rfl ?_
    refine r_iconst X dX9_wantsOf_24 ci_0 ?_
    refine r_callVi (rest := []) X (c_X9_of l G a1 (0 : Int32) σ24 (oks hf)) md_X9_of gX9_wantsOf_X9_of (by decide) rfl rfl (kd_in kc_129 (by decide)) (EE_9 _ kc_129) rfl rfl (Nat.le_of_ble_eq_true rfl) dX9_wantsOf_25 (fun r26 σ27 e28 => ?_)
    replace hf := okn e28 hf
    by_cases h29 : r26 = (1 : Int32)
    · replace hf := okt h29 hf
      refine r_table (off := 40) (tgt := 68) X [(1, 40), (2, 42), (3, 46), (4, 50), (5, 54), (6, 60)] 6 dX9_wantsOf_28 (by decide) (by decide +kernel) (by decide +kernel) (by rw [h29]; rfl) (by decide) ?_
      refine r_iload_n X dX9_wantsOf_68 0 rfl ?_
      exact r_iret X rfl hR (ok0 hf) dX9_wantsOf_69
    replace hf := okf h29 hf
    by_cases h30 : r26 = (2 : Int32)
    · replace hf := okt h30 hf
      refine r_table (off := 42) (tgt := 70) X [(1, 40), (2, 42), (3, 46), (4, 50), (5, 54), (6, 60)] 6 dX9_wantsOf_28 (by decide) (by decide +kernel) (by decide +kernel) (by rw [h30]; rfl) (by decide) ?_
      refine r_iload_n X dX9_wantsOf_70 1 rfl ?_
      refine r_iconst X dX9_wantsOf_71 ci_2 ?_
      refine r_idiv X dX9_wantsOf_72 (by decide) ?_
      exact r_iret X rfl hR (ok0 hf) dX9_wantsOf_73
    replace hf := okf h30 hf
    by_cases h31 : r26 = (3 : Int32)
    · replace hf := okt h31 hf
      refine r_table (off := 46) (tgt := 74) X [(1, 40), (2, 42), (3, 46), (4, 50), (5, 54), (6, 60)] 6 dX9_wantsOf_28 (by decide) (by decide +kernel) (by decide +kernel) (by rw [h31]; rfl) (by decide) ?_
      refine r_iconst X dX9_wantsOf_74 ci_2 ?_
      refine r_iload_n X dX9_wantsOf_75 1 rfl ?_
      refine r_imul X dX9_wantsOf_76 ?_
      exact r_iret X rfl hR (ok0 hf) dX9_wantsOf_77
    replace hf := okf h31 hf
    by_cases h32 : r26 = (4 : Int32)
    · replace hf := okt h32 hf
      refine r_table (off := 50) (tgt := 78) X [(1, 40), (2, 42), (3, 46), (4, 50), (5, 54), (6, 60)] 6 dX9_wantsOf_28 (by decide) (by decide +kernel) (by decide +kernel) (by rw [h32]; rfl) (by decide) ?_
      refine r_iload_n X dX9_wantsOf_78 0 rfl ?_
      refine r_iload_n X dX9_wantsOf_79 3 rfl ?_
      refine r_iadd X dX9_wantsOf_80 ?_
      exact r_iret X rfl hR (ok0 hf) dX9_wantsOf_81
    replace hf := okf h32 hf
    by_cases h33 : r26 = (5 : Int32)
    · replace hf := okt h33 hf
      refine r_table (off := 54) (tgt := 82) X [(1, 40), (2, 42), (3, 46), (4, 50), (5, 54), (6, 60)] 6 dX9_wantsOf_28 (by decide) (by decide +kernel) (by decide +kernel) (by rw [h33]; rfl) (by decide) ?_
      refine r_iload_n X dX9_wantsOf_82 1 rfl ?_
      refine r_iconst X dX9_wantsOf_83 ci_2 ?_
      refine r_idiv X dX9_wantsOf_84 (by decide) ?_
      refine r_iconst X dX9_wantsOf_85 ci_1 ?_
      refine r_isub X dX9_wantsOf_86 ?_
      exact r_iret X rfl hR (ok0 hf) dX9_wantsOf_87
    replace hf := okf h33 hf
    by_cases h34 : r26 = (6 : Int32)
    · replace hf := okt h34 hf
      refine r_table (off := 60) (tgt := 88) X [(1, 40), (2, 42), (3, 46), (4, 50), (5, 54), (6, 60)] 6 dX9_wantsOf_28 (by decide) (by decide +kernel) (by decide +kernel) (by rw [h34]; rfl) (by decide) ?_
      refine r_iconst X dX9_wantsOf_88 ci_0 ?_
      exact r_iret X rfl hR (ok0 hf) dX9_wantsOf_89
    replace hf := okf h34 hf
    refine r_table (off := 62) (tgt := 90) X [(1, 40), (2, 42), (3, 46), (4, 50), (5, 54), (6, 60)] 6 dX9_wantsOf_28 (by decide) (by decide +kernel) (by decide +kernel) (lk_n h29 (by decide) (lk_n h30 (by decide) (lk_n h31 (by decide) (lk_n h32 (by decide) (lk_n h33 (by decide) (lk_n h34 (by decide) rfl)))))) (by decide) ?_
    refine r_iload_n X dX9_wantsOf_90 1 rfl ?_
    exact r_iret X rfl hR (ok0 hf) dX9_wantsOf_91
theorem md_X9_wantsOf : MD yX9_wantsOf wsX9_wantsOf cX9_wantsOf 4 1 (some .int) := ⟨⟨_, rfl⟩, by decide +kernel, by decide +kernel, by decide⟩
theorem c_X9_wantsOf (l : Launch) (G : GX)  (a1 : Int32) (σ : MM) (h : (f_X9_wantsOf a1 σ).isSome = true) : CTi l G yX9_wantsOf wsX9_wantsOf 4 [.ref (G.1 129), .int a1] σ (f_X9_wantsOf a1 σ) :=
  CTi_of md_X9_wantsOf (Nat.le_of_ble_eq_true rfl) (fun K X hR => e_X9_wantsOf X hR a1 σ (ok_is h))

-- X9_look
theorem in_X9_look_9 : ∀ w ∈ u_ws RX9 TX9 21, w ∈ wsX9_look := fun _ h => List.mem_cons_of_mem _ (List.mem_append_right _ h)
def f_X9_look  (σ : MM) : Option (Int32 × MM) :=
  if (σ 130 4) ≤ (σ 129 13) then some ((-1 : Int32), σ) else if ((86 : Int32) + (σ 129 13)) < 0 ∨ 412 ≤ ((86 : Int32) + (σ 129 13)).toNatClampNeg then none else some ((σ 130 (((86 : Int32) + (σ 129 13)).toNatClampNeg)), σ)
set_option maxRecDepth 100000 in
set_option maxHeartbeats 4000000 in
theorem e_X9_look {l : Launch} {G : GX} {K : KX} (X : FX G K cX9_look RX9 (some .int) wsX9_look 1) {Φ : Int32 → MM → Prop} (hR : Ri G K Φ)  (σ : MM) (hf : Ok Φ (f_X9_look  σ)) : V l G 3 K 1 0 [(0, .ref (G.1 129))] [] σ := by
    unfold f_X9_look at hf
    refine r_aload_n X dX9_look_0 0 rfl isr_ref ?_
    refine r_get (i := 129) (v := .int (σ 129 13)) X in_X9_look_9 rfl 13 (by decide) (kd_in kc_129 (by decide)) (EE_9 _ kc_129) rfl (mem_ix 1 rfl) dX9_look_1 ?_
    refine r_aload_n X dX9_look_4 0 rfl isr_ref ?_
    refine r_get (i := 129) (v := .ref (G.1 130)) X in_X9_look_9 rfl 0 (by decide) (kd_in kc_129 (by decide)) (EE_9 _ kc_129) rfl (mem_ix 2 rfl) dX9_look_5 ?_
    refine r_iconst X dX9_look_8 ci_4 ?_
    refine r_iald (i := 130) (jn := 4) X (kd_in kc_130 (by decide)) (EE_26 _ kc_130) (by decide) (by decide) dX9_look_9 ?_
    refine r_icmp_ge (tgt := 28) X dX9_look_10 (by decide) (fun h3 => ?_) (fun h3 => ?_)
    · replace hf := okt h3 hf
      refine r_iconst X dX9_look_28 ci_m1 ?_
      exact r_iret X rfl hR (ok0 hf) dX9_look_29
    · replace hf := okf h3 hf
      refine r_aload_n X dX9_look_13 0 rfl isr_ref ?_
      refine r_get (i := 129) (v := .ref (G.1 130)) X in_X9_look_9 rfl 0 (by decide) (kd_in kc_129 (by decide)) (EE_9 _ kc_129) rfl (mem_ix 2 rfl) dX9_look_14 ?_
      refine r_bipush X dX9_look_17 cb_86 ?_
      refine r_aload_n X dX9_look_19 0 rfl isr_ref ?_
      refine r_get (i := 129) (v := .int (σ 129 13)) X in_X9_look_9 rfl 13 (by decide) (kd_in kc_129 (by decide)) (EE_9 _ kc_129) rfl (mem_ix 1 rfl) dX9_look_20 ?_
      refine r_iadd X dX9_look_23 ?_
      obtain ⟨g4, hf⟩ := okg hf
      refine r_iald (i := 130) (jn := ((86 : Int32) + (σ 129 13)).toNatClampNeg) X (kd_in kc_130 (by decide)) (EE_26 _ kc_130) rfl g4 dX9_look_24 ?_
      refine r_goto (tgt := 29) X dX9_look_25 (by decide) ?_
      exact r_iret X rfl hR (ok0 hf) dX9_look_29
theorem md_X9_look : MD yX9_look wsX9_look cX9_look 1 0 (some .int) := ⟨⟨_, rfl⟩, by decide +kernel, by decide +kernel, by decide⟩
theorem c_X9_look (l : Launch) (G : GX)   (σ : MM) (h : (f_X9_look  σ).isSome = true) : CTi l G yX9_look wsX9_look 3 [.ref (G.1 129)] σ (f_X9_look  σ) :=
  CTi_of md_X9_look (Nat.le_of_ble_eq_true rfl) (fun K X hR => e_X9_look X hR  σ (ok_is h))
-- X9_lays
theorem in_X9_lays_9 : ∀ w ∈ u_ws RX9 TX9 21, w ∈ wsX9_lays := fun _ h => List.mem_cons_of_mem _ (List.mem_append_right _ h)
def f_X9_lays (a1 : Int32) (a2 : Int32) (σ : MM) : Option (Unit × MM) :=
  if (60 : Int32) ≤ (σ 129 12) then some ((), σ) else if (σ 129 12) < 0 ∨ 60 ≤ (σ 129 12).toNatClampNeg then none else lt (mu σ 137 ((σ 129 12).toNatClampNeg) a1) (fun σ12 => if (σ12 129 12) < 0 ∨ 60 ≤ (σ12 129 12).toNatClampNeg then none else lt (mu σ12 138 ((σ12 129 12).toNatClampNeg) a2) (fun σ15 => lt (mu σ15 129 12 ((σ15 129 12) + (1 : Int32))) (fun σ17 => some ((), σ17))))
set_option maxRecDepth 100000 in
set_option maxHeartbeats 4000000 in
theorem e_X9_lays {l : Launch} {G : GX} {K : KX} (X : FX G K cX9_lays RX9 (none) wsX9_lays 3) {Φ : Unit → MM → Prop} (hR : Rv G K Φ) (a1 : Int32) (a2 : Int32) (σ : MM) (hf : Ok Φ (f_X9_lays a1 a2 σ)) : V l G 3 K 3 0 [(0, .ref (G.1 129)), (1, .int a1), (2, .int a2)] [] σ := by
    unfold f_X9_lays at hf
    refine r_aload_n X dX9_lays_0 0 rfl isr_ref ?_
    refine r_get (i := 129) (v := .int (σ 129 12)) X in_X9_lays_9 rfl 12 (by decide) (kd_in kc_129 (by decide)) (EE_9 _ kc_129) rfl (mem_ix 1 rfl) dX9_lays_1 ?_
    refine r_aload_n X dX9_lays_4 0 rfl isr_ref ?_
    refine r_get (i := 129) (v := .ref (G.1 137)) X in_X9_lays_9 rfl 8 (by decide) (kd_in kc_129 (by decide)) (EE_9 _ kc_129) rfl (mem_ix 2 rfl) dX9_lays_5 ?_
    refine r_alen (i := 137) (t := 0) (v := (60 : Int32)) X (kd_in kc_137 (by decide)) (EE_20 _ kc_137) rfl (by decide) dX9_lays_8 ?_
    refine r_icmp_ge (tgt := 42) X dX9_lays_9 (by decide) (fun h10 => ?_) (fun h10 => ?_)
    · replace hf := okt h10 hf
      exact r_vret X rfl hR (ok0 hf) dX9_lays_42
    · replace hf := okf h10 hf
      refine r_aload_n X dX9_lays_12 0 rfl isr_ref ?_
      refine r_get (i := 129) (v := .ref (G.1 137)) X in_X9_lays_9 rfl 8 (by decide) (kd_in kc_129 (by decide)) (EE_9 _ kc_129) rfl (mem_ix 2 rfl) dX9_lays_13 ?_
      refine r_aload_n X dX9_lays_16 0 rfl isr_ref ?_
      refine r_get (i := 129) (v := .int (σ 129 12)) X in_X9_lays_9 rfl 12 (by decide) (kd_in kc_129 (by decide)) (EE_9 _ kc_129) rfl (mem_ix 1 rfl) dX9_lays_17 ?_
      refine r_iload_n X dX9_lays_20 1 rfl ?_
      obtain ⟨g11, hf⟩ := okg hf
      obtain ⟨σ12, e13, hf⟩ := okl hf
      refine r_iast (i := 137) (jn := (σ 129 12).toNatClampNeg) X (kd_in kc_137 (by decide)) (fun _ => EE_20 _ kc_137) rfl g11 dX9_lays_21 ?_
      refine r_sg e13 ?_
      refine r_aload_n X dX9_lays_22 0 rfl isr_ref ?_
      refine r_get (i := 129) (v := .ref (G.1 138)) X in_X9_lays_9 rfl 9 (by decide) (kd_in kc_129 (by decide)) (EE_9 _ kc_129) rfl (mem_ix 3 rfl) dX9_lays_23 ?_
      refine r_aload_n X dX9_lays_26 0 rfl isr_ref ?_
      refine r_get (i := 129) (v := .int (σ12 129 12)) X in_X9_lays_9 rfl 12 (by decide) (kd_in kc_129 (by decide)) (EE_9 _ kc_129) rfl (mem_ix 1 rfl) dX9_lays_27 ?_
      refine r_iload_n X dX9_lays_30 2 rfl ?_
      obtain ⟨g14, hf⟩ := okg hf
      obtain ⟨σ15, e16, hf⟩ := okl hf
      refine r_iast (i := 138) (jn := (σ12 129 12).toNatClampNeg) X (kd_in kc_138 (by decide)) (fun _ => EE_20 _ kc_138) rfl g14 dX9_lays_31 ?_
      refine r_sg e16 ?_
      refine r_aload_n X dX9_lays_32 0 rfl isr_ref ?_
      refine r_dup X dX9_lays_33 rfl ?_
      refine r_get (i := 129) (v := .int (σ15 129 12)) X in_X9_lays_9 rfl 12 (by decide) (kd_in kc_129 (by decide)) (EE_9 _ kc_129) rfl (mem_ix 1 rfl) dX9_lays_34 ?_
      refine r_iconst X dX9_lays_37 ci_1 ?_
      refine r_iadd X dX9_lays_38 ?_
      obtain ⟨σ17, e18, hf⟩ := okl hf
      refine r_put (i := 129) (f := upd (σ15 129) 12 ((σ15 129 12) + (1 : Int32))) X in_X9_lays_9 tyX9 tyX9_ok nmX9 rfl 12 (by decide) (kd_in kc_129 (by decide)) (EE_9 _ kc_129) (EU_9_12 _ _ kc_129) rfl (mem_ix 1 rfl) rfl rfl rfl rfl dX9_lays_39 ?_
      refine r_sg e18 ?_
      exact r_vret X rfl hR (ok0 hf) dX9_lays_42
theorem md_X9_lays : MD yX9_lays wsX9_lays cX9_lays 3 2 (none) := ⟨⟨_, rfl⟩, by decide +kernel, by decide +kernel, by decide⟩
theorem c_X9_lays (l : Launch) (G : GX)  (a1 : Int32) (a2 : Int32) (σ : MM) (h : (f_X9_lays a1 a2 σ).isSome = true) : CTv l G yX9_lays wsX9_lays 3 [.ref (G.1 129), .int a1, .int a2] σ (f_X9_lays a1 a2 σ) :=
  CTv_of md_X9_lays (Nat.le_of_ble_eq_true rfl) (fun K X hR => e_X9_lays X hR a1 a2 σ (ok_is h))
-- X9_nameOf
theorem in_X9_nameOf_9 : ∀ w ∈ u_ws RX9 TX9 21, w ∈ wsX9_nameOf := fun _ h => List.mem_cons_of_mem _ (List.mem_append_right _ h)
def u_X9_nameOf_77 (v1 : Int32) (σ : MM) : Option (Int32 × MM) :=
  if (σ 129 16) = (1 : Int32) then if v1 = (98 : Int32) then some ((0 : Int32), σ) else some ((2 : Int32), σ) else some ((-1 : Int32), σ)
def u_X9_nameOf_52 (v1 : Int32) (σ : MM) : Option (Int32 × MM) :=
  if (σ 129 16) = 0 then if v1 = (119 : Int32) then some ((0 : Int32), σ) else some ((2 : Int32), σ) else some ((-1 : Int32), σ)
def f_X9_nameOf (a1 : Int32) (σ : MM) : Option (Int32 × MM) :=
  if a1 = (98 : Int32) then u_X9_nameOf_77 a1 σ else if a1 = (107 : Int32) then u_X9_nameOf_77 a1 σ else if a1 = (109 : Int32) then u_X9_nameOf_52 a1 σ else if a1 = (115 : Int32) then some ((1 : Int32), σ) else if a1 = (119 : Int32) then u_X9_nameOf_52 a1 σ else some ((-1 : Int32), σ)
set_option maxRecDepth 100000 in
set_option maxHeartbeats 4000000 in
theorem t_X9_nameOf_77 {l : Launch} {G : GX} {K : KX} (X : FX G K cX9_nameOf RX9 (some .int) wsX9_nameOf 2) {Φ : Int32 → MM → Prop} (hR : Ri G K Φ) (v1 : Int32) (σ : MM) (hf : Ok Φ (u_X9_nameOf_77 v1 σ)) : V l G 3 K 2 77 [(0, .ref (G.1 129)), (1, .int v1)] [] σ := by
    unfold u_X9_nameOf_77 at hf
    refine r_aload_n X dX9_nameOf_77 0 rfl isr_ref ?_
    refine r_get (i := 129) (v := .int (σ 129 16)) X in_X9_nameOf_9 rfl 16 (by decide) (kd_in kc_129 (by decide)) (EE_9 _ kc_129) rfl (mem_ix 1 rfl) dX9_nameOf_78 ?_
    refine r_iconst X dX9_nameOf_81 ci_1 ?_
    refine r_icmp_eq (tgt := 89) X dX9_nameOf_82 (by decide) (fun h15 => ?_) (fun h15 => ?_)
    · replace hf := okt h15 hf
      refine r_iload_n X dX9_nameOf_89 1 rfl ?_
      refine r_bipush X dX9_nameOf_90 cb_98 ?_
      refine r_icmp_ne (tgt := 99) X dX9_nameOf_92 (by decide) (fun h16 => ?_) (fun h16 => ?_)
      · replace hf := okf h16 hf
        refine r_iconst X dX9_nameOf_99 ci_2 ?_
        exact r_iret X rfl hR (ok0 hf) dX9_nameOf_100
      · replace hf := okt h16 hf
        refine r_iconst X dX9_nameOf_95 ci_0 ?_
        refine r_goto (tgt := 100) X dX9_nameOf_96 (by decide) ?_
        exact r_iret X rfl hR (ok0 hf) dX9_nameOf_100
    · replace hf := okf h15 hf
      refine r_iconst X dX9_nameOf_85 ci_m1 ?_
      refine r_goto (tgt := 100) X dX9_nameOf_86 (by decide) ?_
      exact r_iret X rfl hR (ok0 hf) dX9_nameOf_100
set_option maxRecDepth 100000 in
set_option maxHeartbeats 4000000 in
theorem t_X9_nameOf_52 {l : Launch} {G : GX} {K : KX} (X : FX G K cX9_nameOf RX9 (some .int) wsX9_nameOf 2) {Φ : Int32 → MM → Prop} (hR : Ri G K Φ) (v1 : Int32) (σ : MM) (hf : Ok Φ (u_X9_nameOf_52 v1 σ)) : V l G 3 K 2 52 [(0, .ref (G.1 129)), (1, .int v1)] [] σ := by
    unfold u_X9_nameOf_52 at hf
    refine r_aload_n X dX9_nameOf_52 0 rfl isr_ref ?_
    refine r_get (i := 129) (v := .int (σ 129 16)) X in_X9_nameOf_9 rfl 16 (by decide) (kd_in kc_129 (by decide)) (EE_9 _ kc_129) rfl (mem_ix 1 rfl) dX9_nameOf_53 ?_
    refine r_if_eq (tgt := 63) X dX9_nameOf_56 (by decide) (fun h17 => ?_) (fun h17 => ?_)
    · replace hf := okt h17 hf
      refine r_iload_n X dX9_nameOf_63 1 rfl ?_
      refine r_bipush X dX9_nameOf_64 cb_119 ?_
      refine r_icmp_ne (tgt := 73) X dX9_nameOf_66 (by decide) (fun h18 => ?_) (fun h18 => ?_)
      · replace hf := okf h18 hf
        refine r_iconst X dX9_nameOf_73 ci_2 ?_
        exact r_iret X rfl hR (ok0 hf) dX9_nameOf_74
      · replace hf := okt h18 hf
        refine r_iconst X dX9_nameOf_69 ci_0 ?_
        refine r_goto (tgt := 74) X dX9_nameOf_70 (by decide) ?_
        exact r_iret X rfl hR (ok0 hf) dX9_nameOf_74
    · replace hf := okf h17 hf
      refine r_iconst X dX9_nameOf_59 ci_m1 ?_
      refine r_goto (tgt := 74) X dX9_nameOf_60 (by decide) ?_
      exact r_iret X rfl hR (ok0 hf) dX9_nameOf_74
set_option maxRecDepth 100000 in
set_option maxHeartbeats 4000000 in
theorem e_X9_nameOf {l : Launch} {G : GX} {K : KX} (X : FX G K cX9_nameOf RX9 (some .int) wsX9_nameOf 2) {Φ : Int32 → MM → Prop} (hR : Ri G K Φ) (a1 : Int32) (σ : MM) (hf : Ok Φ (f_X9_nameOf a1 σ)) : V l G 3 K 2 0 [(0, .ref (G.1 129)), (1, .int a1)] [] σ := by
    unfold f_X9_nameOf at hf
    refine r_iload_n X dX9_nameOf_0 1 rfl ?_
    by_cases h10 : a1 = (98 : Int32)
    · replace hf := okt h10 hf
      refine r_lookup (off := 76) (tgt := 77) X dX9_nameOf_1 (by decide +kernel) (by rw [h10]; rfl) (by decide) ?_
      exact t_X9_nameOf_77 X hR a1 σ hf
    replace hf := okf h10 hf
    by_cases h11 : a1 = (107 : Int32)
    · replace hf := okt h11 hf
      refine r_lookup (off := 76) (tgt := 77) X dX9_nameOf_1 (by decide +kernel) (by rw [h11]; rfl) (by decide) ?_
      exact t_X9_nameOf_77 X hR a1 σ hf
    replace hf := okf h11 hf
    by_cases h12 : a1 = (109 : Int32)
    · replace hf := okt h12 hf
      refine r_lookup (off := 51) (tgt := 52) X dX9_nameOf_1 (by decide +kernel) (by rw [h12]; rfl) (by decide) ?_
      exact t_X9_nameOf_52 X hR a1 σ hf
    replace hf := okf h12 hf
    by_cases h13 : a1 = (115 : Int32)
    · replace hf := okt h13 hf
      refine r_lookup (off := 74) (tgt := 75) X dX9_nameOf_1 (by decide +kernel) (by rw [h13]; rfl) (by decide) ?_
      refine r_iconst X dX9_nameOf_75 ci_1 ?_
      exact r_iret X rfl hR (ok0 hf) dX9_nameOf_76
    replace hf := okf h13 hf
    by_cases h14 : a1 = (119 : Int32)
    · replace hf := okt h14 hf
      refine r_lookup (off := 51) (tgt := 52) X dX9_nameOf_1 (by decide +kernel) (by rw [h14]; rfl) (by decide) ?_
      exact t_X9_nameOf_52 X hR a1 σ hf
    replace hf := okf h14 hf
    refine r_lookup (off := 100) (tgt := 101) X dX9_nameOf_1 (by decide +kernel) (lk_n h10 (by decide) (lk_n h11 (by decide) (lk_n h12 (by decide) (lk_n h13 (by decide) (lk_n h14 (by decide) rfl))))) (by decide) ?_
    refine r_iconst X dX9_nameOf_101 ci_m1 ?_
    exact r_iret X rfl hR (ok0 hf) dX9_nameOf_102
theorem md_X9_nameOf : MD yX9_nameOf wsX9_nameOf cX9_nameOf 2 1 (some .int) := ⟨⟨_, rfl⟩, by decide +kernel, by decide +kernel, by decide⟩
theorem c_X9_nameOf (l : Launch) (G : GX)  (a1 : Int32) (σ : MM) (h : (f_X9_nameOf a1 σ).isSome = true) : CTi l G yX9_nameOf wsX9_nameOf 3 [.ref (G.1 129), .int a1] σ (f_X9_nameOf a1 σ) :=
  CTi_of md_X9_nameOf (Nat.le_of_ble_eq_true rfl) (fun K X hR => e_X9_nameOf X hR a1 σ (ok_is h))
-- X9_number
theorem in_X9_number_9 : ∀ w ∈ u_ws RX9 TX9 21, w ∈ wsX9_number := fun _ h => List.mem_cons_of_mem _ (List.mem_append_right _ h)
def u_X9_number_62 (v1 : Int32) (vs0 : Int32) (σ : MM) : Option (Unit × MM) :=
  if vs0 = 0 ∨ vs0 = 1 then lt (mu σ 129 15 vs0) (fun σ25 => bd (f_X9_lays (1 : Int32) v1 σ25) (fun r28 σ29 => some ((), σ29))) else none
def u_X9_number_52 (v1 : Int32) (v2 : Int32) (σ : MM) : Option (Unit × MM) :=
  if v2 = 0 then u_X9_number_62 v1 (1 : Int32) σ else u_X9_number_62 v1 (0 : Int32) σ
def u_X9_number_4 (k4 : Int32 → Int32 → MM → Option (Unit × MM)) (v1 : Int32) (v2 : Int32) (σ : MM) : Option (Unit × MM) :=
  if (4 : Int32) ≤ v2 then u_X9_number_52 v1 v2 σ else bd (f_X9_look σ) (fun r31 σ32 => bd (f_X9_in r31 (48 : Int32) (57 : Int32) σ32) (fun r34 σ35 => if r34 = 0 then u_X9_number_52 v1 v2 σ35 else bd (f_X9_look σ35) (fun r38 σ39 => lt ((((10 : Int32) * v1) + r38) - (48 : Int32)) (fun y41 => lt (mu σ39 129 13 ((σ39 129 13) + (1 : Int32))) (fun σ43 => k4 y41 (v2 + (1 : Int32)) σ43)))))
def l_X9_number_4 (v1 : Int32) (v2 : Int32) (σ : MM) : Option (Unit × MM) :=
  itr (fun _ _ _ => none) (u_X9_number_4) FU v1 v2 σ
def f_X9_number  (σ : MM) : Option (Unit × MM) :=
  l_X9_number_4 (0 : Int32) (0 : Int32) σ
set_option maxRecDepth 100000 in
set_option maxHeartbeats 4000000 in
theorem t_X9_number_62 {l : Launch} {G : GX} {K : KX} (X : FX G K cX9_number RX9 (none) wsX9_number 3) {Φ : Unit → MM → Prop} (hR : Rv G K Φ) (v1 : Int32) (vs0 : Int32) (σ : MM) (hf : Ok Φ (u_X9_number_62 v1 vs0 σ)) : V l G 4 K 3 62 [(0, .ref (G.1 129)), (1, .int v1)] [.int vs0, .ref (G.1 129)] σ := by
    unfold u_X9_number_62 at hf
    obtain ⟨g27, hf⟩ := okp hf
    obtain ⟨σ25, e26, hf⟩ := okl hf
    refine r_put (i := 129) (f := upd (σ 129) 15 vs0) X in_X9_number_9 tyX9 tyX9_ok nmX9 rfl 15 (by decide) (kd_in kc_129 (by decide)) (EE_9 _ kc_129) (EU_9_15 _ _ kc_129) rfl (mem_ix 2 rfl) rfl rfl (nar_z g27) (fit_z g27) dX9_number_62 ?_
    refine r_sg e26 ?_
    refine r_aload_n X dX9_number_65 0 rfl isr_ref ?_
    refine r_iconst X dX9_number_66 ci_1 ?_
    refine r_iload_n X dX9_number_67 1 rfl ?_
    refine r_callVv (rest := []) X (c_X9_lays l G (1 : Int32) v1 σ25 (oks hf)) md_X9_lays gX9_number_X9_lays (by decide) rfl rfl (kd_in kc_129 (by decide)) (EE_9 _ kc_129) rfl rfl (Nat.le_of_ble_eq_true rfl) dX9_number_68 (fun r28 σ29 e30 => ?_)
    replace hf := okn e30 hf
    exact r_vret X rfl hR (ok0 hf) dX9_number_71
set_option maxRecDepth 100000 in
set_option maxHeartbeats 4000000 in
theorem t_X9_number_52 {l : Launch} {G : GX} {K : KX} (X : FX G K cX9_number RX9 (none) wsX9_number 3) {Φ : Unit → MM → Prop} (hR : Rv G K Φ) (v1 : Int32) (v2 : Int32) (σ : MM) (hf : Ok Φ (u_X9_number_52 v1 v2 σ)) : V l G 4 K 3 52 [(0, .ref (G.1 129)), (1, .int v1), (2, .int v2)] [] σ := by
    unfold u_X9_number_52 at hf
    refine r_aload_n X dX9_number_52 0 rfl isr_ref ?_
    refine r_iload_n X dX9_number_53 2 rfl ?_
    refine r_if_ne (tgt := 61) X dX9_number_54 (by decide) (fun h24 => ?_) (fun h24 => ?_)
    · replace hf := okf h24 hf
      refine r_iconst X dX9_number_61 ci_0 ?_
      refine r_sub [0, 1] rfl ?_
      exact t_X9_number_62 X hR v1 (0 : Int32) σ hf
    · replace hf := okt h24 hf
      refine r_iconst X dX9_number_57 ci_1 ?_
      refine r_goto (tgt := 62) X dX9_number_58 (by decide) ?_
      refine r_sub [0, 1] rfl ?_
      exact t_X9_number_62 X hR v1 (1 : Int32) σ hf
set_option maxRecDepth 100000 in
set_option maxHeartbeats 4000000 in
theorem t_X9_number_4 {l : Launch} {G : GX} {K : KX} (X : FX G K cX9_number RX9 (none) wsX9_number 3) {Φ : Unit → MM → Prop} (hR : Rv G K Φ) (k4 : Int32 → Int32 → MM → Option (Unit × MM)) (hk4c : ∀ (v1 : Int32) (v2 : Int32) (σ : MM), Ok Φ (k4 v1 v2 σ) → V l G 4 K 3 4 [(0, .ref (G.1 129)), (1, .int v1), (2, .int v2)] [] σ) (v1 : Int32) (v2 : Int32) (σ : MM) (hf : Ok Φ (u_X9_number_4 k4 v1 v2 σ)) : V l G 4 K 3 4 [(0, .ref (G.1 129)), (1, .int v1), (2, .int v2)] [] σ := by
    unfold u_X9_number_4 at hf
    refine r_iload_n X dX9_number_4 2 rfl ?_
    refine r_iconst X dX9_number_5 ci_4 ?_
    refine r_icmp_ge (tgt := 52) X dX9_number_6 (by decide) (fun h23 => ?_) (fun h23 => ?_)
    · replace hf := okt h23 hf
      exact t_X9_number_52 X hR v1 v2 σ hf
    · replace hf := okf h23 hf
      refine r_aload_n X dX9_number_9 0 rfl isr_ref ?_
      refine r_callVi (rest := []) X (c_X9_look l G σ (oks hf)) md_X9_look gX9_number_X9_look (by decide) rfl rfl (kd_in kc_129 (by decide)) (EE_9 _ kc_129) rfl rfl (Nat.le_of_ble_eq_true rfl) dX9_number_10 (fun r31 σ32 e33 => ?_)
      replace hf := okn e33 hf
      refine r_bipush X dX9_number_13 cb_48 ?_
      refine r_bipush X dX9_number_15 cb_57 ?_
      refine r_callSi (rest := []) X (c_X9_in l G r31 (48 : Int32) (57 : Int32) σ32 (oks hf)) md_X9_in gX9_number_X9_in (by decide) rfl rfl (Nat.le_of_ble_eq_true rfl) dX9_number_17 (fun r34 σ35 e36 => ?_)
      replace hf := okn e36 hf
      refine r_if_eq (tgt := 52) X dX9_number_20 (by decide) (fun h37 => ?_) (fun h37 => ?_)
      · replace hf := okt h37 hf
        exact t_X9_number_52 X hR v1 v2 σ35 hf
      · replace hf := okf h37 hf
        refine r_bipush X dX9_number_23 cb_10 ?_
        refine r_iload_n X dX9_number_25 1 rfl ?_
        refine r_imul X dX9_number_26 ?_
        refine r_aload_n X dX9_number_27 0 rfl isr_ref ?_
        refine r_callVi (rest := [.int ((10 : Int32) * v1)]) X (c_X9_look l G σ35 (oks hf)) md_X9_look gX9_number_X9_look (by decide) rfl rfl (kd_in kc_129 (by decide)) (EE_9 _ kc_129) rfl rfl (Nat.le_of_ble_eq_true rfl) dX9_number_28 (fun r38 σ39 e40 => ?_)
        replace hf := okn e40 hf
        refine r_iadd X dX9_number_31 ?_
        refine r_bipush X dX9_number_32 cb_48 ?_
        refine r_isub X dX9_number_34 ?_
        obtain ⟨y41, e42, hf⟩ := okl hf
        refine r_topi e42 ?_
        refine r_istore_n X dX9_number_35 (i := 1) rfl (by decide) (lv' := [(1, .int y41), (0, .ref (G.1 129)), (2, .int v2)]) rfl ?_
        refine r_aload_n X dX9_number_36 1 rfl isr_ref ?_
        refine r_dup X dX9_number_37 rfl ?_
        refine r_get (i := 129) (v := .int (σ39 129 13)) X in_X9_number_9 rfl 13 (by decide) (kd_in kc_129 (by decide)) (EE_9 _ kc_129) rfl (mem_ix 1 rfl) dX9_number_38 ?_
        refine r_iconst X dX9_number_41 ci_1 ?_
        refine r_iadd X dX9_number_42 ?_
        obtain ⟨σ43, e44, hf⟩ := okl hf
        refine r_put (i := 129) (f := upd (σ39 129) 13 ((σ39 129 13) + (1 : Int32))) X in_X9_number_9 tyX9 tyX9_ok nmX9 rfl 13 (by decide) (kd_in kc_129 (by decide)) (EE_9 _ kc_129) (EU_9_13 _ _ kc_129) rfl (mem_ix 1 rfl) rfl rfl rfl rfl dX9_number_43 ?_
        refine r_sg e44 ?_
        refine r_iinc (v := (v2 + (1 : Int32))) X dX9_number_46 2 rfl (congrArg _ ci_1) (by decide) (lv' := [(2, .int (v2 + (1 : Int32))), (1, .int y41), (0, .ref (G.1 129))]) rfl ?_
        refine r_goto (tgt := 4) X dX9_number_49 (by decide) ?_
        refine r_sub [2, 1, 0] rfl ?_
        exact hk4c y41 (v2 + (1 : Int32)) σ43 hf
theorem tl_X9_number_4 {l : Launch} {G : GX} {K : KX} (X : FX G K cX9_number RX9 (none) wsX9_number 3) {Φ : Unit → MM → Prop} (hR : Rv G K Φ) : ∀ (m : Nat) (v1 : Int32) (v2 : Int32) (σ : MM), Ok Φ (itr (fun _ _ _ => none) (u_X9_number_4) m v1 v2 σ) → V l G 4 K 3 4 [(0, .ref (G.1 129)), (1, .int v1), (2, .int v2)] [] σ := by
  intro m
  induction m with
  | zero => intro v1 v2 σ hf; exact (okx hf).elim
  | succ m ih => intro v1 v2 σ hf; exact t_X9_number_4 X hR _ ih v1 v2 σ hf
set_option maxRecDepth 100000 in
set_option maxHeartbeats 4000000 in
theorem e_X9_number {l : Launch} {G : GX} {K : KX} (X : FX G K cX9_number RX9 (none) wsX9_number 3) {Φ : Unit → MM → Prop} (hR : Rv G K Φ)  (σ : MM) (hf : Ok Φ (f_X9_number  σ)) : V l G 4 K 3 0 [(0, .ref (G.1 129))] [] σ := by
    unfold f_X9_number at hf
    refine r_iconst X dX9_number_0 ci_0 ?_
    refine r_istore_n X dX9_number_1 (i := 1) rfl (by decide) (lv' := [(1, .int (0 : Int32)), (0, .ref (G.1 129))]) rfl ?_
    refine r_iconst X dX9_number_2 ci_0 ?_
    refine r_istore_n X dX9_number_3 (i := 2) rfl (by decide) (lv' := [(2, .int (0 : Int32)), (1, .int (0 : Int32)), (0, .ref (G.1 129))]) rfl ?_
    refine r_sub [2, 1, 0] rfl ?_
    exact tl_X9_number_4 X hR FU (0 : Int32) (0 : Int32) σ hf
theorem md_X9_number : MD yX9_number wsX9_number cX9_number 3 0 (none) := ⟨⟨_, rfl⟩, by decide +kernel, by decide +kernel, by decide⟩
theorem c_X9_number (l : Launch) (G : GX)   (σ : MM) (h : (f_X9_number  σ).isSome = true) : CTv l G yX9_number wsX9_number 4 [.ref (G.1 129)] σ (f_X9_number  σ) :=
  CTv_of md_X9_number (Nat.le_of_ble_eq_true rfl) (fun K X hR => e_X9_number X hR  σ (ok_is h))
theorem md_X9_opens : MD yX9_opens wsX9_opens cX9_opens 2 1 (none) := ⟨⟨_, rfl⟩, by decide +kernel, by decide +kernel, by decide⟩
-- X9_one
theorem in_X9_one_9 : ∀ w ∈ u_ws RX9 TX9 21, w ∈ wsX9_one := fun _ h => List.mem_cons_of_mem _ (List.mem_append_right _ h)
def u_X9_one_46 (op : Int32 → MM → Option (Unit × MM)) (v1 : Int32) (σ : MM) : Option (Unit × MM) :=
  bd (op v1 σ) (fun r29 σ30 => some ((), σ30))
def f_X9_one (op : Int32 → MM → Option (Unit × MM))  (σ : MM) : Option (Unit × MM) :=
  bd (f_X9_look σ) (fun r21 σ22 => bd (f_X9_nameOf r21 σ22) (fun r24 σ25 => if r24 < 0 then if r21 = (33 : Int32) then u_X9_one_46 op r21 σ25 else if r21 = (40 : Int32) then u_X9_one_46 op r21 σ25 else bd (f_X9_number σ25) (fun r33 σ34 => some ((), σ34)) else lt (mu σ25 129 13 ((σ25 129 13) + (1 : Int32))) (fun σ36 => bd (f_X9_lays (2 : Int32) r24 σ36) (fun r38 σ39 => some ((), σ39)))))
set_option maxRecDepth 100000 in
set_option maxHeartbeats 4000000 in
theorem t_X9_one_46 {l : Launch} {G : GX} {n0 : Nat} {K : KX} (X : FX G K cX9_one RX9 (none) wsX9_one 3) {Φ : Unit → MM → Prop} (hR : Rv G K Φ) (op : Int32 → MM → Option (Unit × MM)) (hop : ∀ (b1 : Int32) (σ : MM), (op b1 σ).isSome = true → CTv l G yX9_opens wsX9_opens n0 [.ref (G.1 129), .int b1] σ (op b1 σ)) (hn0 : 4 ≤ n0) (v1 : Int32) (σ : MM) (hf : Ok Φ (u_X9_one_46 op v1 σ)) : V l G (n0 + 1) K 3 46 [(0, .ref (G.1 129)), (1, .int v1)] [] σ := by
    unfold u_X9_one_46 at hf
    refine r_aload_n X dX9_one_46 0 rfl isr_ref ?_
    refine r_iload_n X dX9_one_47 1 rfl ?_
    refine r_callVv (rest := []) X (hop v1 σ (oks hf)) md_X9_opens gX9_one_X9_opens (by omega) rfl rfl (kd_in kc_129 (by decide)) (EE_9 _ kc_129) rfl rfl (Nat.le_of_ble_eq_true rfl) dX9_one_48 (fun r29 σ30 e31 => ?_)
    replace hf := okn e31 hf
    refine r_goto (tgt := 58) X dX9_one_51 (by decide) ?_
    exact r_vret X rfl hR (ok0 hf) dX9_one_58
set_option maxRecDepth 100000 in
set_option maxHeartbeats 4000000 in
theorem e_X9_one {l : Launch} {G : GX} {n0 : Nat} {K : KX} (X : FX G K cX9_one RX9 (none) wsX9_one 3) {Φ : Unit → MM → Prop} (hR : Rv G K Φ) (op : Int32 → MM → Option (Unit × MM)) (hop : ∀ (b1 : Int32) (σ : MM), (op b1 σ).isSome = true → CTv l G yX9_opens wsX9_opens n0 [.ref (G.1 129), .int b1] σ (op b1 σ)) (hn0 : 4 ≤ n0)  (σ : MM) (hf : Ok Φ (f_X9_one op  σ)) : V l G (n0 + 1) K 3 0 [(0, .ref (G.1 129))] [] σ := by
    unfold f_X9_one at hf
    refine r_aload_n X dX9_one_0 0 rfl isr_ref ?_
    refine r_callVi (rest := []) X (c_X9_look l G σ (oks hf)) md_X9_look gX9_one_X9_look (by omega) rfl rfl (kd_in kc_129 (by decide)) (EE_9 _ kc_129) rfl rfl (Nat.le_of_ble_eq_true rfl) dX9_one_1 (fun r21 σ22 e23 => ?_)
    replace hf := okn e23 hf
    refine r_istore_n X dX9_one_4 (i := 1) rfl (by decide) (lv' := [(1, .int r21), (0, .ref (G.1 129))]) rfl ?_
    refine r_aload_n X dX9_one_5 1 rfl isr_ref ?_
    refine r_iload_n X dX9_one_6 0 rfl ?_
    refine r_callVi (rest := []) X (c_X9_nameOf l G r21 σ22 (oks hf)) md_X9_nameOf gX9_one_X9_nameOf (by omega) rfl rfl (kd_in kc_129 (by decide)) (EE_9 _ kc_129) rfl rfl (Nat.le_of_ble_eq_true rfl) dX9_one_7 (fun r24 σ25 e26 => ?_)
    replace hf := okn e26 hf
    refine r_istore_n X dX9_one_10 (i := 2) rfl (by decide) (lv' := [(2, .int r24), (1, .int r21), (0, .ref (G.1 129))]) rfl ?_
    refine r_iload_n X dX9_one_11 0 rfl ?_
    refine r_if_lt (tgt := 34) X dX9_one_12 (by decide) (fun h27 => ?_) (fun h27 => ?_)
    · replace hf := okt h27 hf
      refine r_iload_n X dX9_one_34 1 rfl ?_
      refine r_bipush X dX9_one_35 cb_33 ?_
      refine r_icmp_eq (tgt := 46) X dX9_one_37 (by decide) (fun h28 => ?_) (fun h28 => ?_)
      · replace hf := okt h28 hf
        refine r_sub [2, 1] rfl ?_
        exact t_X9_one_46 X hR op hop hn0 r21 σ25 hf
      · replace hf := okf h28 hf
        refine r_iload_n X dX9_one_40 1 rfl ?_
        refine r_bipush X dX9_one_41 cb_40 ?_
        refine r_icmp_ne (tgt := 54) X dX9_one_43 (by decide) (fun h32 => ?_) (fun h32 => ?_)
        · replace hf := okf h32 hf
          refine r_aload_n X dX9_one_54 2 rfl isr_ref ?_
          refine r_callVv (rest := []) X (c_X9_number l G σ25 (oks hf)) md_X9_number gX9_one_X9_number (by omega) rfl rfl (kd_in kc_129 (by decide)) (EE_9 _ kc_129) rfl rfl (Nat.le_of_ble_eq_true rfl) dX9_one_55 (fun r33 σ34 e35 => ?_)
          replace hf := okn e35 hf
          exact r_vret X rfl hR (ok0 hf) dX9_one_58
        · replace hf := okt h32 hf
          refine r_sub [2, 1] rfl ?_
          exact t_X9_one_46 X hR op hop hn0 r21 σ25 hf
    · replace hf := okf h27 hf
      refine r_aload_n X dX9_one_15 2 rfl isr_ref ?_
      refine r_dup X dX9_one_16 rfl ?_
      refine r_get (i := 129) (v := .int (σ25 129 13)) X in_X9_one_9 rfl 13 (by decide) (kd_in kc_129 (by decide)) (EE_9 _ kc_129) rfl (mem_ix 1 rfl) dX9_one_17 ?_
      refine r_iconst X dX9_one_20 ci_1 ?_
      refine r_iadd X dX9_one_21 ?_
      obtain ⟨σ36, e37, hf⟩ := okl hf
      refine r_put (i := 129) (f := upd (σ25 129) 13 ((σ25 129 13) + (1 : Int32))) X in_X9_one_9 tyX9 tyX9_ok nmX9 rfl 13 (by decide) (kd_in kc_129 (by decide)) (EE_9 _ kc_129) (EU_9_13 _ _ kc_129) rfl (mem_ix 1 rfl) rfl rfl rfl rfl dX9_one_22 ?_
      refine r_sg e37 ?_
      refine r_aload_n X dX9_one_25 2 rfl isr_ref ?_
      refine r_iconst X dX9_one_26 ci_2 ?_
      refine r_iload_n X dX9_one_27 0 rfl ?_
      refine r_callVv (rest := []) X (c_X9_lays l G (2 : Int32) r24 σ36 (oks hf)) md_X9_lays gX9_one_X9_lays (by omega) rfl rfl (kd_in kc_129 (by decide)) (EE_9 _ kc_129) rfl rfl (Nat.le_of_ble_eq_true rfl) dX9_one_28 (fun r38 σ39 e40 => ?_)
      replace hf := okn e40 hf
      refine r_goto (tgt := 58) X dX9_one_31 (by decide) ?_
      exact r_vret X rfl hR (ok0 hf) dX9_one_58
theorem md_X9_one : MD yX9_one wsX9_one cX9_one 3 0 (none) := ⟨⟨_, rfl⟩, by decide +kernel, by decide +kernel, by decide⟩
theorem c_X9_one (l : Launch) (G : GX) {n0 : Nat} (op : Int32 → MM → Option (Unit × MM)) (hop : ∀ (b1 : Int32) (σ : MM), (op b1 σ).isSome = true → CTv l G yX9_opens wsX9_opens n0 [.ref (G.1 129), .int b1] σ (op b1 σ)) (hn0 : 4 ≤ n0)  (σ : MM) (h : (f_X9_one op  σ).isSome = true) : CTv l G yX9_one wsX9_one (n0 + 1) [.ref (G.1 129)] σ (f_X9_one op  σ) :=
  CTv_of md_X9_one (Nat.le_of_ble_eq_true rfl) (fun K X hR => e_X9_one X hR op hop hn0  σ (ok_is h))
-- X9_times
theorem in_X9_times_9 : ∀ w ∈ u_ws RX9 TX9 21, w ∈ wsX9_times := fun _ h => List.mem_cons_of_mem _ (List.mem_append_right _ h)
def u_X9_times_38 (op : Int32 → MM → Option (Unit × MM)) (k4 : MM → Option (Unit × MM))  (σ : MM) : Option (Unit × MM) :=
  bd (f_X9_look σ) (fun r36 σ37 => lt (mu σ37 129 13 ((σ37 129 13) + (1 : Int32))) (fun σ39 => bd (f_X9_one op σ39) (fun r41 σ42 => bd (f_X9_lays r36 (0 : Int32) σ42) (fun r44 σ45 => k4 σ45))))
def u_X9_times_4 (op : Int32 → MM → Option (Unit × MM)) (k4 : MM → Option (Unit × MM))  (σ : MM) : Option (Unit × MM) :=
  if (σ 129 15) = 0 then bd (f_X9_look σ) (fun r32 σ33 => if r32 = (42 : Int32) then u_X9_times_38 op k4 σ33 else bd (f_X9_look σ33) (fun r47 σ48 => if r47 = (47 : Int32) then u_X9_times_38 op k4 σ48 else bd (f_X9_look σ48) (fun r51 σ52 => if r51 = (37 : Int32) then u_X9_times_38 op k4 σ52 else some ((), σ52)))) else some ((), σ)
def l_X9_times_4 (op : Int32 → MM → Option (Unit × MM))  (σ : MM) : Option (Unit × MM) :=
  itr (fun _ => none) (u_X9_times_4 op) FU  σ
def f_X9_times (op : Int32 → MM → Option (Unit × MM))  (σ : MM) : Option (Unit × MM) :=
  bd (f_X9_one op σ) (fun r28 σ29 => l_X9_times_4 op σ29)
set_option maxRecDepth 100000 in
set_option maxHeartbeats 4000000 in
theorem t_X9_times_38 {l : Launch} {G : GX} {n0 : Nat} {K : KX} (X : FX G K cX9_times RX9 (none) wsX9_times 2) {Φ : Unit → MM → Prop} (hR : Rv G K Φ) (op : Int32 → MM → Option (Unit × MM)) (hop : ∀ (b1 : Int32) (σ : MM), (op b1 σ).isSome = true → CTv l G yX9_opens wsX9_opens n0 [.ref (G.1 129), .int b1] σ (op b1 σ)) (hn0 : 4 ≤ n0) (k4 : MM → Option (Unit × MM)) (hk4c : ∀  (σ : MM), Ok Φ (k4  σ) → V l G (n0 + 2) K 2 4 [(0, .ref (G.1 129))] [] σ)  (σ : MM) (hf : Ok Φ (u_X9_times_38 op k4  σ)) : V l G (n0 + 2) K 2 38 [(0, .ref (G.1 129))] [] σ := by
    unfold u_X9_times_38 at hf
    refine r_aload_n X dX9_times_38 0 rfl isr_ref ?_
    refine r_callVi (rest := []) X (c_X9_look l G σ (oks hf)) md_X9_look gX9_times_X9_look (by omega) rfl rfl (kd_in kc_129 (by decide)) (EE_9 _ kc_129) rfl rfl (Nat.le_of_ble_eq_true rfl) dX9_times_39 (fun r36 σ37 e38 => ?_)
    replace hf := okn e38 hf
    refine r_istore_n X dX9_times_42 (i := 1) rfl (by decide) (lv' := [(1, .int r36), (0, .ref (G.1 129))]) rfl ?_
    refine r_aload_n X dX9_times_43 1 rfl isr_ref ?_
    refine r_dup X dX9_times_44 rfl ?_
    refine r_get (i := 129) (v := .int (σ37 129 13)) X in_X9_times_9 rfl 13 (by decide) (kd_in kc_129 (by decide)) (EE_9 _ kc_129) rfl (mem_ix 2 rfl) dX9_times_45 ?_
    refine r_iconst X dX9_times_48 ci_1 ?_
    refine r_iadd X dX9_times_49 ?_
    obtain ⟨σ39, e40, hf⟩ := okl hf
    refine r_put (i := 129) (f := upd (σ37 129) 13 ((σ37 129 13) + (1 : Int32))) X in_X9_times_9 tyX9 tyX9_ok nmX9 rfl 13 (by decide) (kd_in kc_129 (by decide)) (EE_9 _ kc_129) (EU_9_13 _ _ kc_129) rfl (mem_ix 2 rfl) rfl rfl rfl rfl dX9_times_50 ?_
    refine r_sg e40 ?_
    refine r_aload_n X dX9_times_53 1 rfl isr_ref ?_
    refine r_callVv (rest := []) X (c_X9_one l G op hop hn0 σ39 (oks hf)) md_X9_one gX9_times_X9_one (by omega) rfl rfl (kd_in kc_129 (by decide)) (EE_9 _ kc_129) rfl rfl (Nat.le_of_ble_eq_true rfl) dX9_times_54 (fun r41 σ42 e43 => ?_)
    replace hf := okn e43 hf
    refine r_aload_n X dX9_times_57 1 rfl isr_ref ?_
    refine r_iload_n X dX9_times_58 0 rfl ?_
    refine r_iconst X dX9_times_59 ci_0 ?_
    refine r_callVv (rest := []) X (c_X9_lays l G r36 (0 : Int32) σ42 (oks hf)) md_X9_lays gX9_times_X9_lays (by omega) rfl rfl (kd_in kc_129 (by decide)) (EE_9 _ kc_129) rfl rfl (Nat.le_of_ble_eq_true rfl) dX9_times_60 (fun r44 σ45 e46 => ?_)
    replace hf := okn e46 hf
    refine r_goto (tgt := 4) X dX9_times_63 (by decide) ?_
    refine r_sub [1] rfl ?_
    exact hk4c σ45 hf
set_option maxRecDepth 100000 in
set_option maxHeartbeats 4000000 in
theorem t_X9_times_4 {l : Launch} {G : GX} {n0 : Nat} {K : KX} (X : FX G K cX9_times RX9 (none) wsX9_times 2) {Φ : Unit → MM → Prop} (hR : Rv G K Φ) (op : Int32 → MM → Option (Unit × MM)) (hop : ∀ (b1 : Int32) (σ : MM), (op b1 σ).isSome = true → CTv l G yX9_opens wsX9_opens n0 [.ref (G.1 129), .int b1] σ (op b1 σ)) (hn0 : 4 ≤ n0) (k4 : MM → Option (Unit × MM)) (hk4c : ∀  (σ : MM), Ok Φ (k4  σ) → V l G (n0 + 2) K 2 4 [(0, .ref (G.1 129))] [] σ)  (σ : MM) (hf : Ok Φ (u_X9_times_4 op k4  σ)) : V l G (n0 + 2) K 2 4 [(0, .ref (G.1 129))] [] σ := by
    unfold u_X9_times_4 at hf
    refine r_aload_n X dX9_times_4 0 rfl isr_ref ?_
    refine r_get (i := 129) (v := .int (σ 129 15)) X in_X9_times_9 rfl 15 (by decide) (kd_in kc_129 (by decide)) (EE_9 _ kc_129) rfl (mem_ix 1 rfl) dX9_times_5 ?_
    refine r_if_ne (tgt := 66) X dX9_times_8 (by decide) (fun h31 => ?_) (fun h31 => ?_)
    · replace hf := okf h31 hf
      exact r_vret X rfl hR (ok0 hf) dX9_times_66
    · replace hf := okt h31 hf
      refine r_aload_n X dX9_times_11 0 rfl isr_ref ?_
      refine r_callVi (rest := []) X (c_X9_look l G σ (oks hf)) md_X9_look gX9_times_X9_look (by omega) rfl rfl (kd_in kc_129 (by decide)) (EE_9 _ kc_129) rfl rfl (Nat.le_of_ble_eq_true rfl) dX9_times_12 (fun r32 σ33 e34 => ?_)
      replace hf := okn e34 hf
      refine r_bipush X dX9_times_15 cb_42 ?_
      refine r_icmp_eq (tgt := 38) X dX9_times_17 (by decide) (fun h35 => ?_) (fun h35 => ?_)
      · replace hf := okt h35 hf
        exact t_X9_times_38 X hR op hop hn0 k4 hk4c σ33 hf
      · replace hf := okf h35 hf
        refine r_aload_n X dX9_times_20 0 rfl isr_ref ?_
        refine r_callVi (rest := []) X (c_X9_look l G σ33 (oks hf)) md_X9_look gX9_times_X9_look (by omega) rfl rfl (kd_in kc_129 (by decide)) (EE_9 _ kc_129) rfl rfl (Nat.le_of_ble_eq_true rfl) dX9_times_21 (fun r47 σ48 e49 => ?_)
        replace hf := okn e49 hf
        refine r_bipush X dX9_times_24 cb_47 ?_
        refine r_icmp_eq (tgt := 38) X dX9_times_26 (by decide) (fun h50 => ?_) (fun h50 => ?_)
        · replace hf := okt h50 hf
          exact t_X9_times_38 X hR op hop hn0 k4 hk4c σ48 hf
        · replace hf := okf h50 hf
          refine r_aload_n X dX9_times_29 0 rfl isr_ref ?_
          refine r_callVi (rest := []) X (c_X9_look l G σ48 (oks hf)) md_X9_look gX9_times_X9_look (by omega) rfl rfl (kd_in kc_129 (by decide)) (EE_9 _ kc_129) rfl rfl (Nat.le_of_ble_eq_true rfl) dX9_times_30 (fun r51 σ52 e53 => ?_)
          replace hf := okn e53 hf
          refine r_bipush X dX9_times_33 cb_37 ?_
          refine r_icmp_ne (tgt := 66) X dX9_times_35 (by decide) (fun h54 => ?_) (fun h54 => ?_)
          · replace hf := okf h54 hf
            exact r_vret X rfl hR (ok0 hf) dX9_times_66
          · replace hf := okt h54 hf
            exact t_X9_times_38 X hR op hop hn0 k4 hk4c σ52 hf
theorem tl_X9_times_4 {l : Launch} {G : GX} {n0 : Nat} {K : KX} (X : FX G K cX9_times RX9 (none) wsX9_times 2) {Φ : Unit → MM → Prop} (hR : Rv G K Φ) (op : Int32 → MM → Option (Unit × MM)) (hop : ∀ (b1 : Int32) (σ : MM), (op b1 σ).isSome = true → CTv l G yX9_opens wsX9_opens n0 [.ref (G.1 129), .int b1] σ (op b1 σ)) (hn0 : 4 ≤ n0) : ∀ (m : Nat)  (σ : MM), Ok Φ (itr (fun _ => none) (u_X9_times_4 op) m  σ) → V l G (n0 + 2) K 2 4 [(0, .ref (G.1 129))] [] σ := by
  intro m
  induction m with
  | zero => intro  σ hf; exact (okx hf).elim
  | succ m ih => intro  σ hf; exact t_X9_times_4 X hR op hop hn0 _ ih  σ hf
set_option maxRecDepth 100000 in
set_option maxHeartbeats 4000000 in
theorem e_X9_times {l : Launch} {G : GX} {n0 : Nat} {K : KX} (X : FX G K cX9_times RX9 (none) wsX9_times 2) {Φ : Unit → MM → Prop} (hR : Rv G K Φ) (op : Int32 → MM → Option (Unit × MM)) (hop : ∀ (b1 : Int32) (σ : MM), (op b1 σ).isSome = true → CTv l G yX9_opens wsX9_opens n0 [.ref (G.1 129), .int b1] σ (op b1 σ)) (hn0 : 4 ≤ n0)  (σ : MM) (hf : Ok Φ (f_X9_times op  σ)) : V l G (n0 + 2) K 2 0 [(0, .ref (G.1 129))] [] σ := by
    unfold f_X9_times at hf
    refine r_aload_n X dX9_times_0 0 rfl isr_ref ?_
    refine r_callVv (rest := []) X (c_X9_one l G op hop hn0 σ (oks hf)) md_X9_one gX9_times_X9_one (by omega) rfl rfl (kd_in kc_129 (by decide)) (EE_9 _ kc_129) rfl rfl (Nat.le_of_ble_eq_true rfl) dX9_times_1 (fun r28 σ29 e30 => ?_)
    replace hf := okn e30 hf
    exact tl_X9_times_4 X hR op hop hn0 FU σ29 hf
theorem md_X9_times : MD yX9_times wsX9_times cX9_times 2 0 (none) := ⟨⟨_, rfl⟩, by decide +kernel, by decide +kernel, by decide⟩
theorem c_X9_times (l : Launch) (G : GX) {n0 : Nat} (op : Int32 → MM → Option (Unit × MM)) (hop : ∀ (b1 : Int32) (σ : MM), (op b1 σ).isSome = true → CTv l G yX9_opens wsX9_opens n0 [.ref (G.1 129), .int b1] σ (op b1 σ)) (hn0 : 4 ≤ n0)  (σ : MM) (h : (f_X9_times op  σ).isSome = true) : CTv l G yX9_times wsX9_times (n0 + 2) [.ref (G.1 129)] σ (f_X9_times op  σ) :=
  CTv_of md_X9_times (Nat.le_of_ble_eq_true rfl) (fun K X hR => e_X9_times X hR op hop hn0  σ (ok_is h))
-- X9_sum
theorem in_X9_sum_9 : ∀ w ∈ u_ws RX9 TX9 21, w ∈ wsX9_sum := fun _ h => List.mem_cons_of_mem _ (List.mem_append_right _ h)
def u_X9_sum_29 (op : Int32 → MM → Option (Unit × MM)) (k4 : MM → Option (Unit × MM))  (σ : MM) : Option (Unit × MM) :=
  bd (f_X9_look σ) (fun r32 σ33 => lt (mu σ33 129 13 ((σ33 129 13) + (1 : Int32))) (fun σ35 => bd (f_X9_times op σ35) (fun r37 σ38 => bd (f_X9_lays r32 (0 : Int32) σ38) (fun r40 σ41 => k4 σ41))))
def u_X9_sum_4 (op : Int32 → MM → Option (Unit × MM)) (k4 : MM → Option (Unit × MM))  (σ : MM) : Option (Unit × MM) :=
  if (σ 129 15) = 0 then bd (f_X9_look σ) (fun r28 σ29 => if r28 = (43 : Int32) then u_X9_sum_29 op k4 σ29 else bd (f_X9_look σ29) (fun r43 σ44 => if r43 = (45 : Int32) then u_X9_sum_29 op k4 σ44 else some ((), σ44))) else some ((), σ)
def l_X9_sum_4 (op : Int32 → MM → Option (Unit × MM))  (σ : MM) : Option (Unit × MM) :=
  itr (fun _ => none) (u_X9_sum_4 op) FU  σ
def f_X9_sum (op : Int32 → MM → Option (Unit × MM))  (σ : MM) : Option (Unit × MM) :=
  bd (f_X9_times op σ) (fun r24 σ25 => l_X9_sum_4 op σ25)
set_option maxRecDepth 100000 in
set_option maxHeartbeats 4000000 in
theorem t_X9_sum_29 {l : Launch} {G : GX} {n0 : Nat} {K : KX} (X : FX G K cX9_sum RX9 (none) wsX9_sum 2) {Φ : Unit → MM → Prop} (hR : Rv G K Φ) (op : Int32 → MM → Option (Unit × MM)) (hop : ∀ (b1 : Int32) (σ : MM), (op b1 σ).isSome = true → CTv l G yX9_opens wsX9_opens n0 [.ref (G.1 129), .int b1] σ (op b1 σ)) (hn0 : 4 ≤ n0) (k4 : MM → Option (Unit × MM)) (hk4c : ∀  (σ : MM), Ok Φ (k4  σ) → V l G (n0 + 3) K 2 4 [(0, .ref (G.1 129))] [] σ)  (σ : MM) (hf : Ok Φ (u_X9_sum_29 op k4  σ)) : V l G (n0 + 3) K 2 29 [(0, .ref (G.1 129))] [] σ := by
    unfold u_X9_sum_29 at hf
    refine r_aload_n X dX9_sum_29 0 rfl isr_ref ?_
    refine r_callVi (rest := []) X (c_X9_look l G σ (oks hf)) md_X9_look gX9_sum_X9_look (by omega) rfl rfl (kd_in kc_129 (by decide)) (EE_9 _ kc_129) rfl rfl (Nat.le_of_ble_eq_true rfl) dX9_sum_30 (fun r32 σ33 e34 => ?_)
    replace hf := okn e34 hf
    refine r_istore_n X dX9_sum_33 (i := 1) rfl (by decide) (lv' := [(1, .int r32), (0, .ref (G.1 129))]) rfl ?_
    refine r_aload_n X dX9_sum_34 1 rfl isr_ref ?_
    refine r_dup X dX9_sum_35 rfl ?_
    refine r_get (i := 129) (v := .int (σ33 129 13)) X in_X9_sum_9 rfl 13 (by decide) (kd_in kc_129 (by decide)) (EE_9 _ kc_129) rfl (mem_ix 2 rfl) dX9_sum_36 ?_
    refine r_iconst X dX9_sum_39 ci_1 ?_
    refine r_iadd X dX9_sum_40 ?_
    obtain ⟨σ35, e36, hf⟩ := okl hf
    refine r_put (i := 129) (f := upd (σ33 129) 13 ((σ33 129 13) + (1 : Int32))) X in_X9_sum_9 tyX9 tyX9_ok nmX9 rfl 13 (by decide) (kd_in kc_129 (by decide)) (EE_9 _ kc_129) (EU_9_13 _ _ kc_129) rfl (mem_ix 2 rfl) rfl rfl rfl rfl dX9_sum_41 ?_
    refine r_sg e36 ?_
    refine r_aload_n X dX9_sum_44 1 rfl isr_ref ?_
    refine r_callVv (rest := []) X (c_X9_times l G op hop hn0 σ35 (oks hf)) md_X9_times gX9_sum_X9_times (by omega) rfl rfl (kd_in kc_129 (by decide)) (EE_9 _ kc_129) rfl rfl (Nat.le_of_ble_eq_true rfl) dX9_sum_45 (fun r37 σ38 e39 => ?_)
    replace hf := okn e39 hf
    refine r_aload_n X dX9_sum_48 1 rfl isr_ref ?_
    refine r_iload_n X dX9_sum_49 0 rfl ?_
    refine r_iconst X dX9_sum_50 ci_0 ?_
    refine r_callVv (rest := []) X (c_X9_lays l G r32 (0 : Int32) σ38 (oks hf)) md_X9_lays gX9_sum_X9_lays (by omega) rfl rfl (kd_in kc_129 (by decide)) (EE_9 _ kc_129) rfl rfl (Nat.le_of_ble_eq_true rfl) dX9_sum_51 (fun r40 σ41 e42 => ?_)
    replace hf := okn e42 hf
    refine r_goto (tgt := 4) X dX9_sum_54 (by decide) ?_
    refine r_sub [1] rfl ?_
    exact hk4c σ41 hf
set_option maxRecDepth 100000 in
set_option maxHeartbeats 4000000 in
theorem t_X9_sum_4 {l : Launch} {G : GX} {n0 : Nat} {K : KX} (X : FX G K cX9_sum RX9 (none) wsX9_sum 2) {Φ : Unit → MM → Prop} (hR : Rv G K Φ) (op : Int32 → MM → Option (Unit × MM)) (hop : ∀ (b1 : Int32) (σ : MM), (op b1 σ).isSome = true → CTv l G yX9_opens wsX9_opens n0 [.ref (G.1 129), .int b1] σ (op b1 σ)) (hn0 : 4 ≤ n0) (k4 : MM → Option (Unit × MM)) (hk4c : ∀  (σ : MM), Ok Φ (k4  σ) → V l G (n0 + 3) K 2 4 [(0, .ref (G.1 129))] [] σ)  (σ : MM) (hf : Ok Φ (u_X9_sum_4 op k4  σ)) : V l G (n0 + 3) K 2 4 [(0, .ref (G.1 129))] [] σ := by
    unfold u_X9_sum_4 at hf
    refine r_aload_n X dX9_sum_4 0 rfl isr_ref ?_
    refine r_get (i := 129) (v := .int (σ 129 15)) X in_X9_sum_9 rfl 15 (by decide) (kd_in kc_129 (by decide)) (EE_9 _ kc_129) rfl (mem_ix 1 rfl) dX9_sum_5 ?_
    refine r_if_ne (tgt := 57) X dX9_sum_8 (by decide) (fun h27 => ?_) (fun h27 => ?_)
    · replace hf := okf h27 hf
      exact r_vret X rfl hR (ok0 hf) dX9_sum_57
    · replace hf := okt h27 hf
      refine r_aload_n X dX9_sum_11 0 rfl isr_ref ?_
      refine r_callVi (rest := []) X (c_X9_look l G σ (oks hf)) md_X9_look gX9_sum_X9_look (by omega) rfl rfl (kd_in kc_129 (by decide)) (EE_9 _ kc_129) rfl rfl (Nat.le_of_ble_eq_true rfl) dX9_sum_12 (fun r28 σ29 e30 => ?_)
      replace hf := okn e30 hf
      refine r_bipush X dX9_sum_15 cb_43 ?_
      refine r_icmp_eq (tgt := 29) X dX9_sum_17 (by decide) (fun h31 => ?_) (fun h31 => ?_)
      · replace hf := okt h31 hf
        exact t_X9_sum_29 X hR op hop hn0 k4 hk4c σ29 hf
      · replace hf := okf h31 hf
        refine r_aload_n X dX9_sum_20 0 rfl isr_ref ?_
        refine r_callVi (rest := []) X (c_X9_look l G σ29 (oks hf)) md_X9_look gX9_sum_X9_look (by omega) rfl rfl (kd_in kc_129 (by decide)) (EE_9 _ kc_129) rfl rfl (Nat.le_of_ble_eq_true rfl) dX9_sum_21 (fun r43 σ44 e45 => ?_)
        replace hf := okn e45 hf
        refine r_bipush X dX9_sum_24 cb_45 ?_
        refine r_icmp_ne (tgt := 57) X dX9_sum_26 (by decide) (fun h46 => ?_) (fun h46 => ?_)
        · replace hf := okf h46 hf
          exact r_vret X rfl hR (ok0 hf) dX9_sum_57
        · replace hf := okt h46 hf
          exact t_X9_sum_29 X hR op hop hn0 k4 hk4c σ44 hf
theorem tl_X9_sum_4 {l : Launch} {G : GX} {n0 : Nat} {K : KX} (X : FX G K cX9_sum RX9 (none) wsX9_sum 2) {Φ : Unit → MM → Prop} (hR : Rv G K Φ) (op : Int32 → MM → Option (Unit × MM)) (hop : ∀ (b1 : Int32) (σ : MM), (op b1 σ).isSome = true → CTv l G yX9_opens wsX9_opens n0 [.ref (G.1 129), .int b1] σ (op b1 σ)) (hn0 : 4 ≤ n0) : ∀ (m : Nat)  (σ : MM), Ok Φ (itr (fun _ => none) (u_X9_sum_4 op) m  σ) → V l G (n0 + 3) K 2 4 [(0, .ref (G.1 129))] [] σ := by
  intro m
  induction m with
  | zero => intro  σ hf; exact (okx hf).elim
  | succ m ih => intro  σ hf; exact t_X9_sum_4 X hR op hop hn0 _ ih  σ hf
set_option maxRecDepth 100000 in
set_option maxHeartbeats 4000000 in
theorem e_X9_sum {l : Launch} {G : GX} {n0 : Nat} {K : KX} (X : FX G K cX9_sum RX9 (none) wsX9_sum 2) {Φ : Unit → MM → Prop} (hR : Rv G K Φ) (op : Int32 → MM → Option (Unit × MM)) (hop : ∀ (b1 : Int32) (σ : MM), (op b1 σ).isSome = true → CTv l G yX9_opens wsX9_opens n0 [.ref (G.1 129), .int b1] σ (op b1 σ)) (hn0 : 4 ≤ n0)  (σ : MM) (hf : Ok Φ (f_X9_sum op  σ)) : V l G (n0 + 3) K 2 0 [(0, .ref (G.1 129))] [] σ := by
    unfold f_X9_sum at hf
    refine r_aload_n X dX9_sum_0 0 rfl isr_ref ?_
    refine r_callVv (rest := []) X (c_X9_times l G op hop hn0 σ (oks hf)) md_X9_times gX9_sum_X9_times (by omega) rfl rfl (kd_in kc_129 (by decide)) (EE_9 _ kc_129) rfl rfl (Nat.le_of_ble_eq_true rfl) dX9_sum_1 (fun r24 σ25 e26 => ?_)
    replace hf := okn e26 hf
    exact tl_X9_sum_4 X hR op hop hn0 FU σ25 hf
theorem md_X9_sum : MD yX9_sum wsX9_sum cX9_sum 2 0 (none) := ⟨⟨_, rfl⟩, by decide +kernel, by decide +kernel, by decide⟩
theorem c_X9_sum (l : Launch) (G : GX) {n0 : Nat} (op : Int32 → MM → Option (Unit × MM)) (hop : ∀ (b1 : Int32) (σ : MM), (op b1 σ).isSome = true → CTv l G yX9_opens wsX9_opens n0 [.ref (G.1 129), .int b1] σ (op b1 σ)) (hn0 : 4 ≤ n0)  (σ : MM) (h : (f_X9_sum op  σ).isSome = true) : CTv l G yX9_sum wsX9_sum (n0 + 3) [.ref (G.1 129)] σ (f_X9_sum op  σ) :=
  CTv_of md_X9_sum (Nat.le_of_ble_eq_true rfl) (fun K X hR => e_X9_sum X hR op hop hn0  σ (ok_is h))
-- X9_compares
theorem in_X9_compares_9 : ∀ w ∈ u_ws RX9 TX9 21, w ∈ wsX9_compares := fun _ h => List.mem_cons_of_mem _ (List.mem_append_right _ h)
def u_X9_compares_34 (op : Int32 → MM → Option (Unit × MM)) (v1 : Int32) (σ : MM) : Option (Unit × MM) :=
  lt (mu σ 129 13 ((σ 129 13) + (1 : Int32))) (fun σ27 => bd (f_X9_sum op σ27) (fun r29 σ30 => bd (f_X9_lays v1 (0 : Int32) σ30) (fun r32 σ33 => some ((), σ33))))
def f_X9_compares (op : Int32 → MM → Option (Unit × MM))  (σ : MM) : Option (Unit × MM) :=
  bd (f_X9_sum op σ) (fun r19 σ20 => bd (f_X9_look σ20) (fun r22 σ23 => if (σ23 129 15) = 0 then if r22 = (60 : Int32) then u_X9_compares_34 op r22 σ23 else if r22 = (61 : Int32) then u_X9_compares_34 op r22 σ23 else if r22 = (62 : Int32) then u_X9_compares_34 op r22 σ23 else some ((), σ23) else some ((), σ23)))
set_option maxRecDepth 100000 in
set_option maxHeartbeats 4000000 in
theorem t_X9_compares_34 {l : Launch} {G : GX} {n0 : Nat} {K : KX} (X : FX G K cX9_compares RX9 (none) wsX9_compares 2) {Φ : Unit → MM → Prop} (hR : Rv G K Φ) (op : Int32 → MM → Option (Unit × MM)) (hop : ∀ (b1 : Int32) (σ : MM), (op b1 σ).isSome = true → CTv l G yX9_opens wsX9_opens n0 [.ref (G.1 129), .int b1] σ (op b1 σ)) (hn0 : 4 ≤ n0) (v1 : Int32) (σ : MM) (hf : Ok Φ (u_X9_compares_34 op v1 σ)) : V l G (n0 + 4) K 2 34 [(0, .ref (G.1 129)), (1, .int v1)] [] σ := by
    unfold u_X9_compares_34 at hf
    refine r_aload_n X dX9_compares_34 0 rfl isr_ref ?_
    refine r_dup X dX9_compares_35 rfl ?_
    refine r_get (i := 129) (v := .int (σ 129 13)) X in_X9_compares_9 rfl 13 (by decide) (kd_in kc_129 (by decide)) (EE_9 _ kc_129) rfl (mem_ix 2 rfl) dX9_compares_36 ?_
    refine r_iconst X dX9_compares_39 ci_1 ?_
    refine r_iadd X dX9_compares_40 ?_
    obtain ⟨σ27, e28, hf⟩ := okl hf
    refine r_put (i := 129) (f := upd (σ 129) 13 ((σ 129 13) + (1 : Int32))) X in_X9_compares_9 tyX9 tyX9_ok nmX9 rfl 13 (by decide) (kd_in kc_129 (by decide)) (EE_9 _ kc_129) (EU_9_13 _ _ kc_129) rfl (mem_ix 2 rfl) rfl rfl rfl rfl dX9_compares_41 ?_
    refine r_sg e28 ?_
    refine r_aload_n X dX9_compares_44 0 rfl isr_ref ?_
    refine r_callVv (rest := []) X (c_X9_sum l G op hop hn0 σ27 (oks hf)) md_X9_sum gX9_compares_X9_sum (by omega) rfl rfl (kd_in kc_129 (by decide)) (EE_9 _ kc_129) rfl rfl (Nat.le_of_ble_eq_true rfl) dX9_compares_45 (fun r29 σ30 e31 => ?_)
    replace hf := okn e31 hf
    refine r_aload_n X dX9_compares_48 0 rfl isr_ref ?_
    refine r_iload_n X dX9_compares_49 1 rfl ?_
    refine r_iconst X dX9_compares_50 ci_0 ?_
    refine r_callVv (rest := []) X (c_X9_lays l G v1 (0 : Int32) σ30 (oks hf)) md_X9_lays gX9_compares_X9_lays (by omega) rfl rfl (kd_in kc_129 (by decide)) (EE_9 _ kc_129) rfl rfl (Nat.le_of_ble_eq_true rfl) dX9_compares_51 (fun r32 σ33 e34 => ?_)
    replace hf := okn e34 hf
    exact r_vret X rfl hR (ok0 hf) dX9_compares_54
set_option maxRecDepth 100000 in
set_option maxHeartbeats 4000000 in
theorem e_X9_compares {l : Launch} {G : GX} {n0 : Nat} {K : KX} (X : FX G K cX9_compares RX9 (none) wsX9_compares 2) {Φ : Unit → MM → Prop} (hR : Rv G K Φ) (op : Int32 → MM → Option (Unit × MM)) (hop : ∀ (b1 : Int32) (σ : MM), (op b1 σ).isSome = true → CTv l G yX9_opens wsX9_opens n0 [.ref (G.1 129), .int b1] σ (op b1 σ)) (hn0 : 4 ≤ n0)  (σ : MM) (hf : Ok Φ (f_X9_compares op  σ)) : V l G (n0 + 4) K 2 0 [(0, .ref (G.1 129))] [] σ := by
    unfold f_X9_compares at hf
    refine r_aload_n X dX9_compares_0 0 rfl isr_ref ?_
    refine r_callVv (rest := []) X (c_X9_sum l G op hop hn0 σ (oks hf)) md_X9_sum gX9_compares_X9_sum (by omega) rfl rfl (kd_in kc_129 (by decide)) (EE_9 _ kc_129) rfl rfl (Nat.le_of_ble_eq_true rfl) dX9_compares_1 (fun r19 σ20 e21 => ?_)
    replace hf := okn e21 hf
    refine r_aload_n X dX9_compares_4 0 rfl isr_ref ?_
    refine r_callVi (rest := []) X (c_X9_look l G σ20 (oks hf)) md_X9_look gX9_compares_X9_look (by omega) rfl rfl (kd_in kc_129 (by decide)) (EE_9 _ kc_129) rfl rfl (Nat.le_of_ble_eq_true rfl) dX9_compares_5 (fun r22 σ23 e24 => ?_)
    replace hf := okn e24 hf
    refine r_istore_n X dX9_compares_8 (i := 1) rfl (by decide) (lv' := [(1, .int r22), (0, .ref (G.1 129))]) rfl ?_
    refine r_aload_n X dX9_compares_9 1 rfl isr_ref ?_
    refine r_get (i := 129) (v := .int (σ23 129 15)) X in_X9_compares_9 rfl 15 (by decide) (kd_in kc_129 (by decide)) (EE_9 _ kc_129) rfl (mem_ix 1 rfl) dX9_compares_10 ?_
    refine r_if_ne (tgt := 54) X dX9_compares_13 (by decide) (fun h25 => ?_) (fun h25 => ?_)
    · replace hf := okf h25 hf
      exact r_vret X rfl hR (ok0 hf) dX9_compares_54
    · replace hf := okt h25 hf
      refine r_iload_n X dX9_compares_16 0 rfl ?_
      refine r_bipush X dX9_compares_17 cb_60 ?_
      refine r_icmp_eq (tgt := 34) X dX9_compares_19 (by decide) (fun h26 => ?_) (fun h26 => ?_)
      · replace hf := okt h26 hf
        refine r_sub [1, 0] rfl ?_
        exact t_X9_compares_34 X hR op hop hn0 r22 σ23 hf
      · replace hf := okf h26 hf
        refine r_iload_n X dX9_compares_22 0 rfl ?_
        refine r_bipush X dX9_compares_23 cb_61 ?_
        refine r_icmp_eq (tgt := 34) X dX9_compares_25 (by decide) (fun h35 => ?_) (fun h35 => ?_)
        · replace hf := okt h35 hf
          refine r_sub [1, 0] rfl ?_
          exact t_X9_compares_34 X hR op hop hn0 r22 σ23 hf
        · replace hf := okf h35 hf
          refine r_iload_n X dX9_compares_28 0 rfl ?_
          refine r_bipush X dX9_compares_29 cb_62 ?_
          refine r_icmp_ne (tgt := 54) X dX9_compares_31 (by decide) (fun h36 => ?_) (fun h36 => ?_)
          · replace hf := okf h36 hf
            exact r_vret X rfl hR (ok0 hf) dX9_compares_54
          · replace hf := okt h36 hf
            refine r_sub [1, 0] rfl ?_
            exact t_X9_compares_34 X hR op hop hn0 r22 σ23 hf
theorem md_X9_compares : MD yX9_compares wsX9_compares cX9_compares 2 0 (none) := ⟨⟨_, rfl⟩, by decide +kernel, by decide +kernel, by decide⟩
theorem c_X9_compares (l : Launch) (G : GX) {n0 : Nat} (op : Int32 → MM → Option (Unit × MM)) (hop : ∀ (b1 : Int32) (σ : MM), (op b1 σ).isSome = true → CTv l G yX9_opens wsX9_opens n0 [.ref (G.1 129), .int b1] σ (op b1 σ)) (hn0 : 4 ≤ n0)  (σ : MM) (h : (f_X9_compares op  σ).isSome = true) : CTv l G yX9_compares wsX9_compares (n0 + 4) [.ref (G.1 129)] σ (f_X9_compares op  σ) :=
  CTv_of md_X9_compares (Nat.le_of_ble_eq_true rfl) (fun K X hR => e_X9_compares X hR op hop hn0  σ (ok_is h))
-- X9_all
theorem in_X9_all_9 : ∀ w ∈ u_ws RX9 TX9 21, w ∈ wsX9_all := fun _ h => List.mem_cons_of_mem _ (List.mem_append_right _ h)
def u_X9_all_4 (op : Int32 → MM → Option (Unit × MM)) (k4 : MM → Option (Unit × MM))  (σ : MM) : Option (Unit × MM) :=
  if (σ 129 15) = 0 then bd (f_X9_look σ) (fun r21 σ22 => if r21 = (38 : Int32) then lt (mu σ22 129 13 ((σ22 129 13) + (1 : Int32))) (fun σ25 => bd (f_X9_compares op σ25) (fun r27 σ28 => bd (f_X9_lays (38 : Int32) (0 : Int32) σ28) (fun r30 σ31 => k4 σ31))) else some ((), σ22)) else some ((), σ)
def l_X9_all_4 (op : Int32 → MM → Option (Unit × MM))  (σ : MM) : Option (Unit × MM) :=
  itr (fun _ => none) (u_X9_all_4 op) FU  σ
def f_X9_all (op : Int32 → MM → Option (Unit × MM))  (σ : MM) : Option (Unit × MM) :=
  bd (f_X9_compares op σ) (fun r17 σ18 => l_X9_all_4 op σ18)
set_option maxRecDepth 100000 in
set_option maxHeartbeats 4000000 in
theorem t_X9_all_4 {l : Launch} {G : GX} {n0 : Nat} {K : KX} (X : FX G K cX9_all RX9 (none) wsX9_all 1) {Φ : Unit → MM → Prop} (hR : Rv G K Φ) (op : Int32 → MM → Option (Unit × MM)) (hop : ∀ (b1 : Int32) (σ : MM), (op b1 σ).isSome = true → CTv l G yX9_opens wsX9_opens n0 [.ref (G.1 129), .int b1] σ (op b1 σ)) (hn0 : 4 ≤ n0) (k4 : MM → Option (Unit × MM)) (hk4c : ∀  (σ : MM), Ok Φ (k4  σ) → V l G (n0 + 5) K 1 4 [(0, .ref (G.1 129))] [] σ)  (σ : MM) (hf : Ok Φ (u_X9_all_4 op k4  σ)) : V l G (n0 + 5) K 1 4 [(0, .ref (G.1 129))] [] σ := by
    unfold u_X9_all_4 at hf
    refine r_aload_n X dX9_all_4 0 rfl isr_ref ?_
    refine r_get (i := 129) (v := .int (σ 129 15)) X in_X9_all_9 rfl 15 (by decide) (kd_in kc_129 (by decide)) (EE_9 _ kc_129) rfl (mem_ix 1 rfl) dX9_all_5 ?_
    refine r_if_ne (tgt := 44) X dX9_all_8 (by decide) (fun h20 => ?_) (fun h20 => ?_)
    · replace hf := okf h20 hf
      exact r_vret X rfl hR (ok0 hf) dX9_all_44
    · replace hf := okt h20 hf
      refine r_aload_n X dX9_all_11 0 rfl isr_ref ?_
      refine r_callVi (rest := []) X (c_X9_look l G σ (oks hf)) md_X9_look gX9_all_X9_look (by omega) rfl rfl (kd_in kc_129 (by decide)) (EE_9 _ kc_129) rfl rfl (Nat.le_of_ble_eq_true rfl) dX9_all_12 (fun r21 σ22 e23 => ?_)
      replace hf := okn e23 hf
      refine r_bipush X dX9_all_15 cb_38 ?_
      refine r_icmp_ne (tgt := 44) X dX9_all_17 (by decide) (fun h24 => ?_) (fun h24 => ?_)
      · replace hf := okf h24 hf
        exact r_vret X rfl hR (ok0 hf) dX9_all_44
      · replace hf := okt h24 hf
        refine r_aload_n X dX9_all_20 0 rfl isr_ref ?_
        refine r_dup X dX9_all_21 rfl ?_
        refine r_get (i := 129) (v := .int (σ22 129 13)) X in_X9_all_9 rfl 13 (by decide) (kd_in kc_129 (by decide)) (EE_9 _ kc_129) rfl (mem_ix 2 rfl) dX9_all_22 ?_
        refine r_iconst X dX9_all_25 ci_1 ?_
        refine r_iadd X dX9_all_26 ?_
        obtain ⟨σ25, e26, hf⟩ := okl hf
        refine r_put (i := 129) (f := upd (σ22 129) 13 ((σ22 129 13) + (1 : Int32))) X in_X9_all_9 tyX9 tyX9_ok nmX9 rfl 13 (by decide) (kd_in kc_129 (by decide)) (EE_9 _ kc_129) (EU_9_13 _ _ kc_129) rfl (mem_ix 2 rfl) rfl rfl rfl rfl dX9_all_27 ?_
        refine r_sg e26 ?_
        refine r_aload_n X dX9_all_30 0 rfl isr_ref ?_
        refine r_callVv (rest := []) X (c_X9_compares l G op hop hn0 σ25 (oks hf)) md_X9_compares gX9_all_X9_compares (by omega) rfl rfl (kd_in kc_129 (by decide)) (EE_9 _ kc_129) rfl rfl (Nat.le_of_ble_eq_true rfl) dX9_all_31 (fun r27 σ28 e29 => ?_)
        replace hf := okn e29 hf
        refine r_aload_n X dX9_all_34 0 rfl isr_ref ?_
        refine r_bipush X dX9_all_35 cb_38 ?_
        refine r_iconst X dX9_all_37 ci_0 ?_
        refine r_callVv (rest := []) X (c_X9_lays l G (38 : Int32) (0 : Int32) σ28 (oks hf)) md_X9_lays gX9_all_X9_lays (by omega) rfl rfl (kd_in kc_129 (by decide)) (EE_9 _ kc_129) rfl rfl (Nat.le_of_ble_eq_true rfl) dX9_all_38 (fun r30 σ31 e32 => ?_)
        replace hf := okn e32 hf
        refine r_goto (tgt := 4) X dX9_all_41 (by decide) ?_
        exact hk4c σ31 hf
theorem tl_X9_all_4 {l : Launch} {G : GX} {n0 : Nat} {K : KX} (X : FX G K cX9_all RX9 (none) wsX9_all 1) {Φ : Unit → MM → Prop} (hR : Rv G K Φ) (op : Int32 → MM → Option (Unit × MM)) (hop : ∀ (b1 : Int32) (σ : MM), (op b1 σ).isSome = true → CTv l G yX9_opens wsX9_opens n0 [.ref (G.1 129), .int b1] σ (op b1 σ)) (hn0 : 4 ≤ n0) : ∀ (m : Nat)  (σ : MM), Ok Φ (itr (fun _ => none) (u_X9_all_4 op) m  σ) → V l G (n0 + 5) K 1 4 [(0, .ref (G.1 129))] [] σ := by
  intro m
  induction m with
  | zero => intro  σ hf; exact (okx hf).elim
  | succ m ih => intro  σ hf; exact t_X9_all_4 X hR op hop hn0 _ ih  σ hf
set_option maxRecDepth 100000 in
set_option maxHeartbeats 4000000 in
theorem e_X9_all {l : Launch} {G : GX} {n0 : Nat} {K : KX} (X : FX G K cX9_all RX9 (none) wsX9_all 1) {Φ : Unit → MM → Prop} (hR : Rv G K Φ) (op : Int32 → MM → Option (Unit × MM)) (hop : ∀ (b1 : Int32) (σ : MM), (op b1 σ).isSome = true → CTv l G yX9_opens wsX9_opens n0 [.ref (G.1 129), .int b1] σ (op b1 σ)) (hn0 : 4 ≤ n0)  (σ : MM) (hf : Ok Φ (f_X9_all op  σ)) : V l G (n0 + 5) K 1 0 [(0, .ref (G.1 129))] [] σ := by
    unfold f_X9_all at hf
    refine r_aload_n X dX9_all_0 0 rfl isr_ref ?_
    refine r_callVv (rest := []) X (c_X9_compares l G op hop hn0 σ (oks hf)) md_X9_compares gX9_all_X9_compares (by omega) rfl rfl (kd_in kc_129 (by decide)) (EE_9 _ kc_129) rfl rfl (Nat.le_of_ble_eq_true rfl) dX9_all_1 (fun r17 σ18 e19 => ?_)
    replace hf := okn e19 hf
    exact tl_X9_all_4 X hR op hop hn0 FU σ18 hf
theorem md_X9_all : MD yX9_all wsX9_all cX9_all 1 0 (none) := ⟨⟨_, rfl⟩, by decide +kernel, by decide +kernel, by decide⟩
theorem c_X9_all (l : Launch) (G : GX) {n0 : Nat} (op : Int32 → MM → Option (Unit × MM)) (hop : ∀ (b1 : Int32) (σ : MM), (op b1 σ).isSome = true → CTv l G yX9_opens wsX9_opens n0 [.ref (G.1 129), .int b1] σ (op b1 σ)) (hn0 : 4 ≤ n0)  (σ : MM) (h : (f_X9_all op  σ).isSome = true) : CTv l G yX9_all wsX9_all (n0 + 5) [.ref (G.1 129)] σ (f_X9_all op  σ) :=
  CTv_of md_X9_all (Nat.le_of_ble_eq_true rfl) (fun K X hR => e_X9_all X hR op hop hn0  σ (ok_is h))
-- X9_any
theorem in_X9_any_9 : ∀ w ∈ u_ws RX9 TX9 21, w ∈ wsX9_any := fun _ h => List.mem_cons_of_mem _ (List.mem_append_right _ h)
def u_X9_any_4 (op : Int32 → MM → Option (Unit × MM)) (k4 : MM → Option (Unit × MM))  (σ : MM) : Option (Unit × MM) :=
  if (σ 129 15) = 0 then bd (f_X9_look σ) (fun r21 σ22 => if r21 = (124 : Int32) then lt (mu σ22 129 13 ((σ22 129 13) + (1 : Int32))) (fun σ25 => bd (f_X9_all op σ25) (fun r27 σ28 => bd (f_X9_lays (124 : Int32) (0 : Int32) σ28) (fun r30 σ31 => k4 σ31))) else some ((), σ22)) else some ((), σ)
def l_X9_any_4 (op : Int32 → MM → Option (Unit × MM))  (σ : MM) : Option (Unit × MM) :=
  itr (fun _ => none) (u_X9_any_4 op) FU  σ
def f_X9_any (op : Int32 → MM → Option (Unit × MM))  (σ : MM) : Option (Unit × MM) :=
  bd (f_X9_all op σ) (fun r17 σ18 => l_X9_any_4 op σ18)
set_option maxRecDepth 100000 in
set_option maxHeartbeats 4000000 in
theorem t_X9_any_4 {l : Launch} {G : GX} {n0 : Nat} {K : KX} (X : FX G K cX9_any RX9 (none) wsX9_any 1) {Φ : Unit → MM → Prop} (hR : Rv G K Φ) (op : Int32 → MM → Option (Unit × MM)) (hop : ∀ (b1 : Int32) (σ : MM), (op b1 σ).isSome = true → CTv l G yX9_opens wsX9_opens n0 [.ref (G.1 129), .int b1] σ (op b1 σ)) (hn0 : 4 ≤ n0) (k4 : MM → Option (Unit × MM)) (hk4c : ∀  (σ : MM), Ok Φ (k4  σ) → V l G (n0 + 6) K 1 4 [(0, .ref (G.1 129))] [] σ)  (σ : MM) (hf : Ok Φ (u_X9_any_4 op k4  σ)) : V l G (n0 + 6) K 1 4 [(0, .ref (G.1 129))] [] σ := by
    unfold u_X9_any_4 at hf
    refine r_aload_n X dX9_any_4 0 rfl isr_ref ?_
    refine r_get (i := 129) (v := .int (σ 129 15)) X in_X9_any_9 rfl 15 (by decide) (kd_in kc_129 (by decide)) (EE_9 _ kc_129) rfl (mem_ix 1 rfl) dX9_any_5 ?_
    refine r_if_ne (tgt := 44) X dX9_any_8 (by decide) (fun h20 => ?_) (fun h20 => ?_)
    · replace hf := okf h20 hf
      exact r_vret X rfl hR (ok0 hf) dX9_any_44
    · replace hf := okt h20 hf
      refine r_aload_n X dX9_any_11 0 rfl isr_ref ?_
      refine r_callVi (rest := []) X (c_X9_look l G σ (oks hf)) md_X9_look gX9_any_X9_look (by omega) rfl rfl (kd_in kc_129 (by decide)) (EE_9 _ kc_129) rfl rfl (Nat.le_of_ble_eq_true rfl) dX9_any_12 (fun r21 σ22 e23 => ?_)
      replace hf := okn e23 hf
      refine r_bipush X dX9_any_15 cb_124 ?_
      refine r_icmp_ne (tgt := 44) X dX9_any_17 (by decide) (fun h24 => ?_) (fun h24 => ?_)
      · replace hf := okf h24 hf
        exact r_vret X rfl hR (ok0 hf) dX9_any_44
      · replace hf := okt h24 hf
        refine r_aload_n X dX9_any_20 0 rfl isr_ref ?_
        refine r_dup X dX9_any_21 rfl ?_
        refine r_get (i := 129) (v := .int (σ22 129 13)) X in_X9_any_9 rfl 13 (by decide) (kd_in kc_129 (by decide)) (EE_9 _ kc_129) rfl (mem_ix 2 rfl) dX9_any_22 ?_
        refine r_iconst X dX9_any_25 ci_1 ?_
        refine r_iadd X dX9_any_26 ?_
        obtain ⟨σ25, e26, hf⟩ := okl hf
        refine r_put (i := 129) (f := upd (σ22 129) 13 ((σ22 129 13) + (1 : Int32))) X in_X9_any_9 tyX9 tyX9_ok nmX9 rfl 13 (by decide) (kd_in kc_129 (by decide)) (EE_9 _ kc_129) (EU_9_13 _ _ kc_129) rfl (mem_ix 2 rfl) rfl rfl rfl rfl dX9_any_27 ?_
        refine r_sg e26 ?_
        refine r_aload_n X dX9_any_30 0 rfl isr_ref ?_
        refine r_callVv (rest := []) X (c_X9_all l G op hop hn0 σ25 (oks hf)) md_X9_all gX9_any_X9_all (by omega) rfl rfl (kd_in kc_129 (by decide)) (EE_9 _ kc_129) rfl rfl (Nat.le_of_ble_eq_true rfl) dX9_any_31 (fun r27 σ28 e29 => ?_)
        replace hf := okn e29 hf
        refine r_aload_n X dX9_any_34 0 rfl isr_ref ?_
        refine r_bipush X dX9_any_35 cb_124 ?_
        refine r_iconst X dX9_any_37 ci_0 ?_
        refine r_callVv (rest := []) X (c_X9_lays l G (124 : Int32) (0 : Int32) σ28 (oks hf)) md_X9_lays gX9_any_X9_lays (by omega) rfl rfl (kd_in kc_129 (by decide)) (EE_9 _ kc_129) rfl rfl (Nat.le_of_ble_eq_true rfl) dX9_any_38 (fun r30 σ31 e32 => ?_)
        replace hf := okn e32 hf
        refine r_goto (tgt := 4) X dX9_any_41 (by decide) ?_
        exact hk4c σ31 hf
theorem tl_X9_any_4 {l : Launch} {G : GX} {n0 : Nat} {K : KX} (X : FX G K cX9_any RX9 (none) wsX9_any 1) {Φ : Unit → MM → Prop} (hR : Rv G K Φ) (op : Int32 → MM → Option (Unit × MM)) (hop : ∀ (b1 : Int32) (σ : MM), (op b1 σ).isSome = true → CTv l G yX9_opens wsX9_opens n0 [.ref (G.1 129), .int b1] σ (op b1 σ)) (hn0 : 4 ≤ n0) : ∀ (m : Nat)  (σ : MM), Ok Φ (itr (fun _ => none) (u_X9_any_4 op) m  σ) → V l G (n0 + 6) K 1 4 [(0, .ref (G.1 129))] [] σ := by
  intro m
  induction m with
  | zero => intro  σ hf; exact (okx hf).elim
  | succ m ih => intro  σ hf; exact t_X9_any_4 X hR op hop hn0 _ ih  σ hf
set_option maxRecDepth 100000 in
set_option maxHeartbeats 4000000 in
theorem e_X9_any {l : Launch} {G : GX} {n0 : Nat} {K : KX} (X : FX G K cX9_any RX9 (none) wsX9_any 1) {Φ : Unit → MM → Prop} (hR : Rv G K Φ) (op : Int32 → MM → Option (Unit × MM)) (hop : ∀ (b1 : Int32) (σ : MM), (op b1 σ).isSome = true → CTv l G yX9_opens wsX9_opens n0 [.ref (G.1 129), .int b1] σ (op b1 σ)) (hn0 : 4 ≤ n0)  (σ : MM) (hf : Ok Φ (f_X9_any op  σ)) : V l G (n0 + 6) K 1 0 [(0, .ref (G.1 129))] [] σ := by
    unfold f_X9_any at hf
    refine r_aload_n X dX9_any_0 0 rfl isr_ref ?_
    refine r_callVv (rest := []) X (c_X9_all l G op hop hn0 σ (oks hf)) md_X9_all gX9_any_X9_all (by omega) rfl rfl (kd_in kc_129 (by decide)) (EE_9 _ kc_129) rfl rfl (Nat.le_of_ble_eq_true rfl) dX9_any_1 (fun r17 σ18 e19 => ?_)
    replace hf := okn e19 hf
    exact tl_X9_any_4 X hR op hop hn0 FU σ18 hf
theorem md_X9_any : MD yX9_any wsX9_any cX9_any 1 0 (none) := ⟨⟨_, rfl⟩, by decide +kernel, by decide +kernel, by decide⟩
theorem c_X9_any (l : Launch) (G : GX) {n0 : Nat} (op : Int32 → MM → Option (Unit × MM)) (hop : ∀ (b1 : Int32) (σ : MM), (op b1 σ).isSome = true → CTv l G yX9_opens wsX9_opens n0 [.ref (G.1 129), .int b1] σ (op b1 σ)) (hn0 : 4 ≤ n0)  (σ : MM) (h : (f_X9_any op  σ).isSome = true) : CTv l G yX9_any wsX9_any (n0 + 6) [.ref (G.1 129)] σ (f_X9_any op  σ) :=
  CTv_of md_X9_any (Nat.le_of_ble_eq_true rfl) (fun K X hR => e_X9_any X hR op hop hn0  σ (ok_is h))
-- X9_opens
theorem in_X9_opens_9 : ∀ w ∈ u_ws RX9 TX9 21, w ∈ wsX9_opens := fun _ h => List.mem_cons_of_mem _ (List.mem_append_right _ h)
def u_X9_opens_103 (op : Int32 → MM → Option (Unit × MM))  (σ : MM) : Option (Unit × MM) :=
  lt (mu σ 129 14 ((σ 129 14) - (1 : Int32))) (fun σ47 => some ((), σ47))
def u_X9_opens_99 (op : Int32 → MM → Option (Unit × MM)) (vs0 : Int32) (vs1 : Int32) (σ : MM) : Option (Unit × MM) :=
  lt (mu σ 129 13 (vs1 + vs0)) (fun σ45 => u_X9_opens_103 op σ45)
def u_X9_opens_79 (op : Int32 → MM → Option (Unit × MM)) (vs0 : Int32) (σ : MM) : Option (Unit × MM) :=
  if vs0 = 0 ∨ vs0 = 1 then lt (mu σ 129 15 vs0) (fun σ41 => if (σ41 129 15) = 0 then u_X9_opens_99 op (1 : Int32) (σ41 129 13) σ41 else u_X9_opens_99 op (0 : Int32) (σ41 129 13) σ41) else none
def g_X9_opens (op : Int32 → MM → Option (Unit × MM)) (a1 : Int32) (σ : MM) : Option (Unit × MM) :=
  if (σ 129 14) = (5 : Int32) then lt (mu σ 129 15 (1 : Int32)) (fun σ59 => some ((), σ59)) else lt (mu σ 129 14 ((σ 129 14) + (1 : Int32))) (fun σ32 => lt (mu σ32 129 13 ((σ32 129 13) + (1 : Int32))) (fun σ34 => if a1 = (33 : Int32) then bd (f_X9_one op σ34) (fun r53 σ54 => bd (f_X9_lays (3 : Int32) (0 : Int32) σ54) (fun r56 σ57 => u_X9_opens_103 op σ57)) else bd (f_X9_any op σ34) (fun r37 σ38 => if (σ38 129 15) = 0 then bd (f_X9_look σ38) (fun r49 σ50 => if r49 = (41 : Int32) then u_X9_opens_79 op (0 : Int32) σ50 else u_X9_opens_79 op (1 : Int32) σ50) else u_X9_opens_79 op (1 : Int32) σ38)))
set_option maxRecDepth 100000 in
set_option maxHeartbeats 4000000 in
theorem t_X9_opens_103 {l : Launch} {G : GX} {n0 : Nat} {K : KX} (X : FX G K cX9_opens RX9 (none) wsX9_opens 2) {Φ : Unit → MM → Prop} (hR : Rv G K Φ) (op : Int32 → MM → Option (Unit × MM)) (hop : ∀ (b1 : Int32) (σ : MM), (op b1 σ).isSome = true → CTv l G yX9_opens wsX9_opens n0 [.ref (G.1 129), .int b1] σ (op b1 σ)) (hn0 : 4 ≤ n0)  (σ : MM) (hf : Ok Φ (u_X9_opens_103 op  σ)) : V l G (n0 + 7) K 2 103 [(0, .ref (G.1 129))] [] σ := by
    unfold u_X9_opens_103 at hf
    refine r_aload_n X dX9_opens_103 0 rfl isr_ref ?_
    refine r_dup X dX9_opens_104 rfl ?_
    refine r_get (i := 129) (v := .int (σ 129 14)) X in_X9_opens_9 rfl 14 (by decide) (kd_in kc_129 (by decide)) (EE_9 _ kc_129) rfl (mem_ix 1 rfl) dX9_opens_105 ?_
    refine r_iconst X dX9_opens_108 ci_1 ?_
    refine r_isub X dX9_opens_109 ?_
    obtain ⟨σ47, e48, hf⟩ := okl hf
    refine r_put (i := 129) (f := upd (σ 129) 14 ((σ 129 14) - (1 : Int32))) X in_X9_opens_9 tyX9 tyX9_ok nmX9 rfl 14 (by decide) (kd_in kc_129 (by decide)) (EE_9 _ kc_129) (EU_9_14 _ _ kc_129) rfl (mem_ix 1 rfl) rfl rfl rfl rfl dX9_opens_110 ?_
    refine r_sg e48 ?_
    exact r_vret X rfl hR (ok0 hf) dX9_opens_113
set_option maxRecDepth 100000 in
set_option maxHeartbeats 4000000 in
theorem t_X9_opens_99 {l : Launch} {G : GX} {n0 : Nat} {K : KX} (X : FX G K cX9_opens RX9 (none) wsX9_opens 2) {Φ : Unit → MM → Prop} (hR : Rv G K Φ) (op : Int32 → MM → Option (Unit × MM)) (hop : ∀ (b1 : Int32) (σ : MM), (op b1 σ).isSome = true → CTv l G yX9_opens wsX9_opens n0 [.ref (G.1 129), .int b1] σ (op b1 σ)) (hn0 : 4 ≤ n0) (vs0 : Int32) (vs1 : Int32) (σ : MM) (hf : Ok Φ (u_X9_opens_99 op vs0 vs1 σ)) : V l G (n0 + 7) K 2 99 [(0, .ref (G.1 129))] [.int vs0, .int vs1, .ref (G.1 129)] σ := by
    unfold u_X9_opens_99 at hf
    refine r_iadd X dX9_opens_99 ?_
    obtain ⟨σ45, e46, hf⟩ := okl hf
    refine r_put (i := 129) (f := upd (σ 129) 13 (vs1 + vs0)) X in_X9_opens_9 tyX9 tyX9_ok nmX9 rfl 13 (by decide) (kd_in kc_129 (by decide)) (EE_9 _ kc_129) (EU_9_13 _ _ kc_129) rfl (mem_ix 3 rfl) rfl rfl rfl rfl dX9_opens_100 ?_
    refine r_sg e46 ?_
    exact t_X9_opens_103 X hR op hop hn0 σ45 hf
set_option maxRecDepth 100000 in
set_option maxHeartbeats 4000000 in
theorem t_X9_opens_79 {l : Launch} {G : GX} {n0 : Nat} {K : KX} (X : FX G K cX9_opens RX9 (none) wsX9_opens 2) {Φ : Unit → MM → Prop} (hR : Rv G K Φ) (op : Int32 → MM → Option (Unit × MM)) (hop : ∀ (b1 : Int32) (σ : MM), (op b1 σ).isSome = true → CTv l G yX9_opens wsX9_opens n0 [.ref (G.1 129), .int b1] σ (op b1 σ)) (hn0 : 4 ≤ n0) (vs0 : Int32) (σ : MM) (hf : Ok Φ (u_X9_opens_79 op vs0 σ)) : V l G (n0 + 7) K 2 79 [(0, .ref (G.1 129))] [.int vs0, .ref (G.1 129)] σ := by
    unfold u_X9_opens_79 at hf
    obtain ⟨g43, hf⟩ := okp hf
    obtain ⟨σ41, e42, hf⟩ := okl hf
    refine r_put (i := 129) (f := upd (σ 129) 15 vs0) X in_X9_opens_9 tyX9 tyX9_ok nmX9 rfl 15 (by decide) (kd_in kc_129 (by decide)) (EE_9 _ kc_129) (EU_9_15 _ _ kc_129) rfl (mem_ix 2 rfl) rfl rfl (nar_z g43) (fit_z g43) dX9_opens_79 ?_
    refine r_sg e42 ?_
    refine r_aload_n X dX9_opens_82 0 rfl isr_ref ?_
    refine r_dup X dX9_opens_83 rfl ?_
    refine r_get (i := 129) (v := .int (σ41 129 13)) X in_X9_opens_9 rfl 13 (by decide) (kd_in kc_129 (by decide)) (EE_9 _ kc_129) rfl (mem_ix 3 rfl) dX9_opens_84 ?_
    refine r_aload_n X dX9_opens_87 0 rfl isr_ref ?_
    refine r_get (i := 129) (v := .int (σ41 129 15)) X in_X9_opens_9 rfl 15 (by decide) (kd_in kc_129 (by decide)) (EE_9 _ kc_129) rfl (mem_ix 2 rfl) dX9_opens_88 ?_
    refine r_if_eq (tgt := 98) X dX9_opens_91 (by decide) (fun h44 => ?_) (fun h44 => ?_)
    · replace hf := okt h44 hf
      refine r_iconst X dX9_opens_98 ci_1 ?_
      exact t_X9_opens_99 X hR op hop hn0 (1 : Int32) (σ41 129 13) σ41 hf
    · replace hf := okf h44 hf
      refine r_iconst X dX9_opens_94 ci_0 ?_
      refine r_goto (tgt := 99) X dX9_opens_95 (by decide) ?_
      exact t_X9_opens_99 X hR op hop hn0 (0 : Int32) (σ41 129 13) σ41 hf
set_option maxRecDepth 100000 in
set_option maxHeartbeats 4000000 in
theorem e_X9_opens {l : Launch} {G : GX} {n0 : Nat} {K : KX} (X : FX G K cX9_opens RX9 (none) wsX9_opens 2) {Φ : Unit → MM → Prop} (hR : Rv G K Φ) (op : Int32 → MM → Option (Unit × MM)) (hop : ∀ (b1 : Int32) (σ : MM), (op b1 σ).isSome = true → CTv l G yX9_opens wsX9_opens n0 [.ref (G.1 129), .int b1] σ (op b1 σ)) (hn0 : 4 ≤ n0) (a1 : Int32) (σ : MM) (hf : Ok Φ (g_X9_opens op a1 σ)) : V l G (n0 + 7) K 2 0 [(0, .ref (G.1 129)), (1, .int a1)] [] σ := by
    unfold g_X9_opens at hf
    refine r_aload_n X dX9_opens_0 0 rfl isr_ref ?_
    refine r_get (i := 129) (v := .int (σ 129 14)) X in_X9_opens_9 rfl 14 (by decide) (kd_in kc_129 (by decide)) (EE_9 _ kc_129) rfl (mem_ix 1 rfl) dX9_opens_1 ?_
    refine r_iconst X dX9_opens_4 ci_5 ?_
    refine r_icmp_ne (tgt := 14) X dX9_opens_5 (by decide) (fun h31 => ?_) (fun h31 => ?_)
    · replace hf := okf h31 hf
      refine r_aload_n X dX9_opens_14 0 rfl isr_ref ?_
      refine r_dup X dX9_opens_15 rfl ?_
      refine r_get (i := 129) (v := .int (σ 129 14)) X in_X9_opens_9 rfl 14 (by decide) (kd_in kc_129 (by decide)) (EE_9 _ kc_129) rfl (mem_ix 1 rfl) dX9_opens_16 ?_
      refine r_iconst X dX9_opens_19 ci_1 ?_
      refine r_iadd X dX9_opens_20 ?_
      obtain ⟨σ32, e33, hf⟩ := okl hf
      refine r_put (i := 129) (f := upd (σ 129) 14 ((σ 129 14) + (1 : Int32))) X in_X9_opens_9 tyX9 tyX9_ok nmX9 rfl 14 (by decide) (kd_in kc_129 (by decide)) (EE_9 _ kc_129) (EU_9_14 _ _ kc_129) rfl (mem_ix 1 rfl) rfl rfl rfl rfl dX9_opens_21 ?_
      refine r_sg e33 ?_
      refine r_aload_n X dX9_opens_24 0 rfl isr_ref ?_
      refine r_dup X dX9_opens_25 rfl ?_
      refine r_get (i := 129) (v := .int (σ32 129 13)) X in_X9_opens_9 rfl 13 (by decide) (kd_in kc_129 (by decide)) (EE_9 _ kc_129) rfl (mem_ix 3 rfl) dX9_opens_26 ?_
      refine r_iconst X dX9_opens_29 ci_1 ?_
      refine r_iadd X dX9_opens_30 ?_
      obtain ⟨σ34, e35, hf⟩ := okl hf
      refine r_put (i := 129) (f := upd (σ32 129) 13 ((σ32 129 13) + (1 : Int32))) X in_X9_opens_9 tyX9 tyX9_ok nmX9 rfl 13 (by decide) (kd_in kc_129 (by decide)) (EE_9 _ kc_129) (EU_9_13 _ _ kc_129) rfl (mem_ix 3 rfl) rfl rfl rfl rfl dX9_opens_31 ?_
      refine r_sg e35 ?_
      refine r_iload_n X dX9_opens_34 1 rfl ?_
      refine r_bipush X dX9_opens_35 cb_33 ?_
      refine r_icmp_ne (tgt := 53) X dX9_opens_37 (by decide) (fun h36 => ?_) (fun h36 => ?_)
      · replace hf := okf h36 hf
        refine r_aload_n X dX9_opens_53 0 rfl isr_ref ?_
        refine r_callVv (rest := []) X (c_X9_any l G op hop hn0 σ34 (oks hf)) md_X9_any gX9_opens_X9_any (by omega) rfl rfl (kd_in kc_129 (by decide)) (EE_9 _ kc_129) rfl rfl (Nat.le_of_ble_eq_true rfl) dX9_opens_54 (fun r37 σ38 e39 => ?_)
        replace hf := okn e39 hf
        refine r_aload_n X dX9_opens_57 0 rfl isr_ref ?_
        refine r_aload_n X dX9_opens_58 0 rfl isr_ref ?_
        refine r_get (i := 129) (v := .int (σ38 129 15)) X in_X9_opens_9 rfl 15 (by decide) (kd_in kc_129 (by decide)) (EE_9 _ kc_129) rfl (mem_ix 2 rfl) dX9_opens_59 ?_
        refine r_if_ne (tgt := 74) X dX9_opens_62 (by decide) (fun h40 => ?_) (fun h40 => ?_)
        · replace hf := okf h40 hf
          refine r_iconst X dX9_opens_74 ci_1 ?_
          refine r_goto (tgt := 79) X dX9_opens_75 (by decide) ?_
          refine r_sub [0] rfl ?_
          exact t_X9_opens_79 X hR op hop hn0 (1 : Int32) σ38 hf
        · replace hf := okt h40 hf
          refine r_aload_n X dX9_opens_65 0 rfl isr_ref ?_
          refine r_callVi (rest := [.ref (G.1 129)]) X (c_X9_look l G σ38 (oks hf)) md_X9_look gX9_opens_X9_look (by omega) rfl rfl (kd_in kc_129 (by decide)) (EE_9 _ kc_129) rfl rfl (Nat.le_of_ble_eq_true rfl) dX9_opens_66 (fun r49 σ50 e51 => ?_)
          replace hf := okn e51 hf
          refine r_bipush X dX9_opens_69 cb_41 ?_
          refine r_icmp_eq (tgt := 78) X dX9_opens_71 (by decide) (fun h52 => ?_) (fun h52 => ?_)
          · replace hf := okt h52 hf
            refine r_iconst X dX9_opens_78 ci_0 ?_
            refine r_sub [0] rfl ?_
            exact t_X9_opens_79 X hR op hop hn0 (0 : Int32) σ50 hf
          · replace hf := okf h52 hf
            refine r_iconst X dX9_opens_74 ci_1 ?_
            refine r_goto (tgt := 79) X dX9_opens_75 (by decide) ?_
            refine r_sub [0] rfl ?_
            exact t_X9_opens_79 X hR op hop hn0 (1 : Int32) σ50 hf
      · replace hf := okt h36 hf
        refine r_aload_n X dX9_opens_40 0 rfl isr_ref ?_
        refine r_callVv (rest := []) X (c_X9_one l G op hop hn0 σ34 (oks hf)) md_X9_one gX9_opens_X9_one (by omega) rfl rfl (kd_in kc_129 (by decide)) (EE_9 _ kc_129) rfl rfl (Nat.le_of_ble_eq_true rfl) dX9_opens_41 (fun r53 σ54 e55 => ?_)
        replace hf := okn e55 hf
        refine r_aload_n X dX9_opens_44 0 rfl isr_ref ?_
        refine r_iconst X dX9_opens_45 ci_3 ?_
        refine r_iconst X dX9_opens_46 ci_0 ?_
        refine r_callVv (rest := []) X (c_X9_lays l G (3 : Int32) (0 : Int32) σ54 (oks hf)) md_X9_lays gX9_opens_X9_lays (by omega) rfl rfl (kd_in kc_129 (by decide)) (EE_9 _ kc_129) rfl rfl (Nat.le_of_ble_eq_true rfl) dX9_opens_47 (fun r56 σ57 e58 => ?_)
        replace hf := okn e58 hf
        refine r_goto (tgt := 103) X dX9_opens_50 (by decide) ?_
        refine r_sub [0] rfl ?_
        exact t_X9_opens_103 X hR op hop hn0 σ57 hf
    · replace hf := okt h31 hf
      refine r_aload_n X dX9_opens_8 0 rfl isr_ref ?_
      refine r_iconst X dX9_opens_9 ci_1 ?_
      obtain ⟨σ59, e60, hf⟩ := okl hf
      refine r_put (i := 129) (f := upd (σ 129) 15 (1 : Int32)) X in_X9_opens_9 tyX9 tyX9_ok nmX9 rfl 15 (by decide) (kd_in kc_129 (by decide)) (EE_9 _ kc_129) (EU_9_15 _ _ kc_129) rfl (mem_ix 2 rfl) rfl rfl rfl rfl dX9_opens_10 ?_
      refine r_sg e60 ?_
      exact r_vret X rfl hR (ok0 hf) dX9_opens_13
theorem cg_X9_opens (l : Launch) (G : GX) {n0 : Nat} (op : Int32 → MM → Option (Unit × MM)) (hop : ∀ (b1 : Int32) (σ : MM), (op b1 σ).isSome = true → CTv l G yX9_opens wsX9_opens n0 [.ref (G.1 129), .int b1] σ (op b1 σ)) (hn0 : 4 ≤ n0) (a1 : Int32) (σ : MM) (h : (g_X9_opens op a1 σ).isSome = true) : CTv l G yX9_opens wsX9_opens (n0 + 7) [.ref (G.1 129), .int a1] σ (g_X9_opens op a1 σ) :=
  CTv_of md_X9_opens (Nat.le_of_ble_eq_true rfl) (fun K X hR => e_X9_opens X hR op hop hn0 a1 σ (ok_is h))
def f_X9_opens (d : Nat) : Int32 → MM → Option (Unit × MM) := itr (fun _ _ => none) (fun op => g_X9_opens op) d
theorem c_X9_opens (l : Launch) (G : GX) : ∀ (d : Nat) (b1 : Int32) (σ : MM), (f_X9_opens d b1 σ).isSome = true → CTv l G yX9_opens wsX9_opens (4 + 7 * d) [.ref (G.1 129), .int b1] σ (f_X9_opens d b1 σ) := by
  intro d
  induction d with
  | zero => intro b1 σ h; exact Bool.noConfusion h
  | succ d ih => intro b1 σ h; rw [show 4 + 7 * (d + 1) = (4 + 7 * d) + 7 by omega]; exact cg_X9_opens l G (n0 := 4 + 7 * d) (f_X9_opens d) ih (by omega) b1 σ h
-- X9_text
theorem in_X9_text_9 : ∀ w ∈ u_ws RX9 TX9 21, w ∈ wsX9_text := fun _ h => List.mem_cons_of_mem _ (List.mem_append_right _ h)
def u_X9_text_117 (k117 : Int32 → Int32 → MM → Option (Int32 × MM)) (v2 : Int32) (v3 : Int32) (σ : MM) : Option (Int32 × MM) :=
  if (σ 129 12) ≤ v3 then some ((1 : Int32), σ) else if v3 < 0 ∨ 60 ≤ v3.toNatClampNeg then none else if ((v2 + (1 : Int32)) + v3) < 0 ∨ 412 ≤ ((v2 + (1 : Int32)) + v3).toNatClampNeg then none else lt (mu σ 130 (((v2 + (1 : Int32)) + v3).toNatClampNeg) (σ 137 (v3.toNatClampNeg))) (fun σ70 => if ((v2 + (61 : Int32)) + v3) < 0 ∨ 412 ≤ ((v2 + (61 : Int32)) + v3).toNatClampNeg then none else lt (mu σ70 130 (((v2 + (61 : Int32)) + v3).toNatClampNeg) (σ70 138 (v3.toNatClampNeg))) (fun σ73 => k117 v2 (v3 + (1 : Int32)) σ73))
def l_X9_text_117 (v2 : Int32) (v3 : Int32) (σ : MM) : Option (Int32 × MM) :=
  itr (fun _ _ _ => none) (u_X9_text_117) FU v2 v3 σ
def u_X9_text_71 (v1 : Int32) (vs0 : Int32) (σ : MM) : Option (Int32 × MM) :=
  if vs0 = 0 ∨ vs0 = 1 then lt (mu σ 129 15 vs0) (fun σ58 => lt (mu σ58 130 4 (0 : Int32)) (fun σ61 => if (σ61 129 15) = 0 then if ((170 : Int32) + ((121 : Int32) * v1)) < 0 ∨ 412 ≤ ((170 : Int32) + ((121 : Int32) * v1)).toNatClampNeg then none else lt (mu σ61 130 (((170 : Int32) + ((121 : Int32) * v1)).toNatClampNeg) (σ61 129 12)) (fun σ65 => l_X9_text_117 ((170 : Int32) + ((121 : Int32) * v1)) (0 : Int32) σ65) else some (((-10 : Int32) - (σ61 129 13)), σ61))) else none
def f_X9_text (a1 : Int32) (σ : MM) : Option (Int32 × MM) :=
  bd (f_X9_in a1 (0 : Int32) (1 : Int32) σ) (fun r40 σ41 => if r40 = 0 then bd (f_X9_error (-1000000001 : Int32) σ41) (fun r76 σ77 => some (r76, σ77)) else lt (mu σ41 129 16 a1) (fun σ44 => lt (mu σ44 129 12 (0 : Int32)) (fun σ46 => lt (mu σ46 129 13 (0 : Int32)) (fun σ48 => lt (mu σ48 129 14 (0 : Int32)) (fun σ50 => lt (mu σ50 129 15 (0 : Int32)) (fun σ52 => bd (f_X9_any (f_X9_opens 7) σ52) (fun r54 σ55 => if (σ55 129 15) = 0 then if (σ55 130 4) ≤ (σ55 129 13) then u_X9_text_71 a1 (0 : Int32) σ55 else u_X9_text_71 a1 (1 : Int32) σ55 else u_X9_text_71 a1 (1 : Int32) σ55)))))))
set_option maxRecDepth 100000 in
set_option maxHeartbeats 4000000 in
theorem t_X9_text_117 {l : Launch} {G : GX} {K : KX} (X : FX G K cX9_text RX9 (some .int) wsX9_text 4) {Φ : Int32 → MM → Prop} (hR : Ri G K Φ) (k117 : Int32 → Int32 → MM → Option (Int32 × MM)) (hk117c : ∀ (v2 : Int32) (v3 : Int32) (σ : MM), Ok Φ (k117 v2 v3 σ) → V l G 60 K 4 117 [(0, .ref (G.1 129)), (2, .int v2), (3, .int v3)] [] σ) (v2 : Int32) (v3 : Int32) (σ : MM) (hf : Ok Φ (u_X9_text_117 k117 v2 v3 σ)) : V l G 60 K 4 117 [(0, .ref (G.1 129)), (2, .int v2), (3, .int v3)] [] σ := by
    unfold u_X9_text_117 at hf
    refine r_iload_n X dX9_text_117 2 rfl ?_
    refine r_aload_n X dX9_text_118 0 rfl isr_ref ?_
    refine r_get (i := 129) (v := .int (σ 129 12)) X in_X9_text_9 rfl 12 (by decide) (kd_in kc_129 (by decide)) (EE_9 _ kc_129) rfl (mem_ix 3 rfl) dX9_text_119 ?_
    refine r_icmp_ge (tgt := 164) X dX9_text_122 (by decide) (fun h67 => ?_) (fun h67 => ?_)
    · replace hf := okt h67 hf
      refine r_iconst X dX9_text_164 ci_1 ?_
      exact r_iret X rfl hR (ok0 hf) dX9_text_165
    · replace hf := okf h67 hf
      refine r_aload_n X dX9_text_125 0 rfl isr_ref ?_
      refine r_get (i := 129) (v := .ref (G.1 130)) X in_X9_text_9 rfl 0 (by decide) (kd_in kc_129 (by decide)) (EE_9 _ kc_129) rfl (mem_ix 7 rfl) dX9_text_126 ?_
      refine r_iload_n X dX9_text_129 1 rfl ?_
      refine r_iconst X dX9_text_130 ci_1 ?_
      refine r_iadd X dX9_text_131 ?_
      refine r_iload_n X dX9_text_132 2 rfl ?_
      refine r_iadd X dX9_text_133 ?_
      refine r_aload_n X dX9_text_134 0 rfl isr_ref ?_
      refine r_get (i := 129) (v := .ref (G.1 137)) X in_X9_text_9 rfl 8 (by decide) (kd_in kc_129 (by decide)) (EE_9 _ kc_129) rfl (mem_ix 8 rfl) dX9_text_135 ?_
      refine r_iload_n X dX9_text_138 2 rfl ?_
      obtain ⟨g68, hf⟩ := okg hf
      refine r_iald (i := 137) (jn := v3.toNatClampNeg) X (kd_in kc_137 (by decide)) (EE_20 _ kc_137) rfl g68 dX9_text_139 ?_
      obtain ⟨g69, hf⟩ := okg hf
      obtain ⟨σ70, e71, hf⟩ := okl hf
      refine r_iast (i := 130) (jn := ((v2 + (1 : Int32)) + v3).toNatClampNeg) X (kd_in kc_130 (by decide)) (fun _ => EE_26 _ kc_130) rfl g69 dX9_text_140 ?_
      refine r_sg e71 ?_
      refine r_aload_n X dX9_text_141 0 rfl isr_ref ?_
      refine r_get (i := 129) (v := .ref (G.1 130)) X in_X9_text_9 rfl 0 (by decide) (kd_in kc_129 (by decide)) (EE_9 _ kc_129) rfl (mem_ix 7 rfl) dX9_text_142 ?_
      refine r_iload_n X dX9_text_145 1 rfl ?_
      refine r_bipush X dX9_text_146 cb_61 ?_
      refine r_iadd X dX9_text_148 ?_
      refine r_iload_n X dX9_text_149 2 rfl ?_
      refine r_iadd X dX9_text_150 ?_
      refine r_aload_n X dX9_text_151 0 rfl isr_ref ?_
      refine r_get (i := 129) (v := .ref (G.1 138)) X in_X9_text_9 rfl 9 (by decide) (kd_in kc_129 (by decide)) (EE_9 _ kc_129) rfl (mem_ix 9 rfl) dX9_text_152 ?_
      refine r_iload_n X dX9_text_155 2 rfl ?_
      refine r_iald (i := 138) (jn := v3.toNatClampNeg) X (kd_in kc_138 (by decide)) (EE_20 _ kc_138) rfl g68 dX9_text_156 ?_
      obtain ⟨g72, hf⟩ := okg hf
      obtain ⟨σ73, e74, hf⟩ := okl hf
      refine r_iast (i := 130) (jn := ((v2 + (61 : Int32)) + v3).toNatClampNeg) X (kd_in kc_130 (by decide)) (fun _ => EE_26 _ kc_130) rfl g72 dX9_text_157 ?_
      refine r_sg e74 ?_
      refine r_iinc (v := (v3 + (1 : Int32))) X dX9_text_158 2 rfl (congrArg _ ci_1) (by decide) (lv' := [(3, .int (v3 + (1 : Int32))), (0, .ref (G.1 129)), (2, .int v2)]) rfl ?_
      refine r_goto (tgt := 117) X dX9_text_161 (by decide) ?_
      refine r_sub [1, 2, 0] rfl ?_
      exact hk117c v2 (v3 + (1 : Int32)) σ73 hf
theorem tl_X9_text_117 {l : Launch} {G : GX} {K : KX} (X : FX G K cX9_text RX9 (some .int) wsX9_text 4) {Φ : Int32 → MM → Prop} (hR : Ri G K Φ) : ∀ (m : Nat) (v2 : Int32) (v3 : Int32) (σ : MM), Ok Φ (itr (fun _ _ _ => none) (u_X9_text_117) m v2 v3 σ) → V l G 60 K 4 117 [(0, .ref (G.1 129)), (2, .int v2), (3, .int v3)] [] σ := by
  intro m
  induction m with
  | zero => intro v2 v3 σ hf; exact (okx hf).elim
  | succ m ih => intro v2 v3 σ hf; exact t_X9_text_117 X hR _ ih v2 v3 σ hf
set_option maxRecDepth 100000 in
set_option maxHeartbeats 4000000 in
theorem t_X9_text_71 {l : Launch} {G : GX} {K : KX} (X : FX G K cX9_text RX9 (some .int) wsX9_text 4) {Φ : Int32 → MM → Prop} (hR : Ri G K Φ) (v1 : Int32) (vs0 : Int32) (σ : MM) (hf : Ok Φ (u_X9_text_71 v1 vs0 σ)) : V l G 60 K 4 71 [(0, .ref (G.1 129)), (1, .int v1)] [.int vs0, .ref (G.1 129)] σ := by
    unfold u_X9_text_71 at hf
    obtain ⟨g60, hf⟩ := okp hf
    obtain ⟨σ58, e59, hf⟩ := okl hf
    refine r_put (i := 129) (f := upd (σ 129) 15 vs0) X in_X9_text_9 tyX9 tyX9_ok nmX9 rfl 15 (by decide) (kd_in kc_129 (by decide)) (EE_9 _ kc_129) (EU_9_15 _ _ kc_129) rfl (mem_ix 6 rfl) rfl rfl (nar_z g60) (fit_z g60) dX9_text_71 ?_
    refine r_sg e59 ?_
    refine r_aload_n X dX9_text_74 0 rfl isr_ref ?_
    refine r_get (i := 129) (v := .ref (G.1 130)) X in_X9_text_9 rfl 0 (by decide) (kd_in kc_129 (by decide)) (EE_9 _ kc_129) rfl (mem_ix 7 rfl) dX9_text_75 ?_
    refine r_iconst X dX9_text_78 ci_4 ?_
    refine r_iconst X dX9_text_79 ci_0 ?_
    obtain ⟨σ61, e62, hf⟩ := okl hf
    refine r_iast (i := 130) (jn := 4) X (kd_in kc_130 (by decide)) (fun _ => EE_26 _ kc_130) (by decide) (by decide) dX9_text_80 ?_
    refine r_sg e62 ?_
    refine r_aload_n X dX9_text_81 0 rfl isr_ref ?_
    refine r_get (i := 129) (v := .int (σ61 129 15)) X in_X9_text_9 rfl 15 (by decide) (kd_in kc_129 (by decide)) (EE_9 _ kc_129) rfl (mem_ix 6 rfl) dX9_text_82 ?_
    refine r_if_eq (tgt := 96) X dX9_text_85 (by decide) (fun h63 => ?_) (fun h63 => ?_)
    · replace hf := okt h63 hf
      refine r_sipush X dX9_text_96 cs_170 ?_
      refine r_bipush X dX9_text_99 cb_121 ?_
      refine r_iload_n X dX9_text_101 1 rfl ?_
      refine r_imul X dX9_text_102 ?_
      refine r_iadd X dX9_text_103 ?_
      refine r_istore_n X dX9_text_104 (i := 2) rfl (by decide) (lv' := [(2, .int ((170 : Int32) + ((121 : Int32) * v1))), (0, .ref (G.1 129)), (1, .int v1)]) rfl ?_
      refine r_aload_n X dX9_text_105 1 rfl isr_ref ?_
      refine r_get (i := 129) (v := .ref (G.1 130)) X in_X9_text_9 rfl 0 (by decide) (kd_in kc_129 (by decide)) (EE_9 _ kc_129) rfl (mem_ix 7 rfl) dX9_text_106 ?_
      refine r_iload_n X dX9_text_109 0 rfl ?_
      refine r_aload_n X dX9_text_110 1 rfl isr_ref ?_
      refine r_get (i := 129) (v := .int (σ61 129 12)) X in_X9_text_9 rfl 12 (by decide) (kd_in kc_129 (by decide)) (EE_9 _ kc_129) rfl (mem_ix 3 rfl) dX9_text_111 ?_
      obtain ⟨g64, hf⟩ := okg hf
      obtain ⟨σ65, e66, hf⟩ := okl hf
      refine r_iast (i := 130) (jn := ((170 : Int32) + ((121 : Int32) * v1)).toNatClampNeg) X (kd_in kc_130 (by decide)) (fun _ => EE_26 _ kc_130) rfl g64 dX9_text_114 ?_
      refine r_sg e66 ?_
      refine r_iconst X dX9_text_115 ci_0 ?_
      refine r_istore_n X dX9_text_116 (i := 3) rfl (by decide) (lv' := [(3, .int (0 : Int32)), (2, .int ((170 : Int32) + ((121 : Int32) * v1))), (0, .ref (G.1 129)), (1, .int v1)]) rfl ?_
      refine r_sub [2, 1, 0] rfl ?_
      exact tl_X9_text_117 X hR FU ((170 : Int32) + ((121 : Int32) * v1)) (0 : Int32) σ65 hf
    · replace hf := okf h63 hf
      refine r_bipush X dX9_text_88 cb_m10 ?_
      refine r_aload_n X dX9_text_90 0 rfl isr_ref ?_
      refine r_get (i := 129) (v := .int (σ61 129 13)) X in_X9_text_9 rfl 13 (by decide) (kd_in kc_129 (by decide)) (EE_9 _ kc_129) rfl (mem_ix 4 rfl) dX9_text_91 ?_
      refine r_isub X dX9_text_94 ?_
      exact r_iret X rfl hR (ok0 hf) dX9_text_95
set_option maxRecDepth 100000 in
set_option maxHeartbeats 4000000 in
theorem e_X9_text {l : Launch} {G : GX} {K : KX} (X : FX G K cX9_text RX9 (some .int) wsX9_text 4) {Φ : Int32 → MM → Prop} (hR : Ri G K Φ) (a1 : Int32) (σ : MM) (hf : Ok Φ (f_X9_text a1 σ)) : V l G 60 K 4 0 [(0, .ref (G.1 129)), (1, .int a1)] [] σ := by
    unfold f_X9_text at hf
    refine r_iload_n X dX9_text_0 1 rfl ?_
    refine r_iconst X dX9_text_1 ci_0 ?_
    refine r_iconst X dX9_text_2 ci_1 ?_
    refine r_callSi (rest := []) X (c_X9_in l G a1 (0 : Int32) (1 : Int32) σ (oks hf)) md_X9_in gX9_text_X9_in (by decide) rfl rfl (Nat.le_of_ble_eq_true rfl) dX9_text_3 (fun r40 σ41 e42 => ?_)
    replace hf := okn e42 hf
    refine r_if_ne (tgt := 16) X dX9_text_6 (by decide) (fun h43 => ?_) (fun h43 => ?_)
    · replace hf := okf h43 hf
      refine r_aload_n X dX9_text_16 0 rfl isr_ref ?_
      refine r_iload_n X dX9_text_17 1 rfl ?_
      obtain ⟨σ44, e45, hf⟩ := okl hf
      refine r_put (i := 129) (f := upd (σ41 129) 16 a1) X in_X9_text_9 tyX9 tyX9_ok nmX9 rfl 16 (by decide) (kd_in kc_129 (by decide)) (EE_9 _ kc_129) (EU_9_16 _ _ kc_129) rfl (mem_ix 2 rfl) rfl rfl rfl rfl dX9_text_18 ?_
      refine r_sg e45 ?_
      refine r_aload_n X dX9_text_21 0 rfl isr_ref ?_
      refine r_iconst X dX9_text_22 ci_0 ?_
      obtain ⟨σ46, e47, hf⟩ := okl hf
      refine r_put (i := 129) (f := upd (σ44 129) 12 (0 : Int32)) X in_X9_text_9 tyX9 tyX9_ok nmX9 rfl 12 (by decide) (kd_in kc_129 (by decide)) (EE_9 _ kc_129) (EU_9_12 _ _ kc_129) rfl (mem_ix 3 rfl) rfl rfl rfl rfl dX9_text_23 ?_
      refine r_sg e47 ?_
      refine r_aload_n X dX9_text_26 0 rfl isr_ref ?_
      refine r_iconst X dX9_text_27 ci_0 ?_
      obtain ⟨σ48, e49, hf⟩ := okl hf
      refine r_put (i := 129) (f := upd (σ46 129) 13 (0 : Int32)) X in_X9_text_9 tyX9 tyX9_ok nmX9 rfl 13 (by decide) (kd_in kc_129 (by decide)) (EE_9 _ kc_129) (EU_9_13 _ _ kc_129) rfl (mem_ix 4 rfl) rfl rfl rfl rfl dX9_text_28 ?_
      refine r_sg e49 ?_
      refine r_aload_n X dX9_text_31 0 rfl isr_ref ?_
      refine r_iconst X dX9_text_32 ci_0 ?_
      obtain ⟨σ50, e51, hf⟩ := okl hf
      refine r_put (i := 129) (f := upd (σ48 129) 14 (0 : Int32)) X in_X9_text_9 tyX9 tyX9_ok nmX9 rfl 14 (by decide) (kd_in kc_129 (by decide)) (EE_9 _ kc_129) (EU_9_14 _ _ kc_129) rfl (mem_ix 5 rfl) rfl rfl rfl rfl dX9_text_33 ?_
      refine r_sg e51 ?_
      refine r_aload_n X dX9_text_36 0 rfl isr_ref ?_
      refine r_iconst X dX9_text_37 ci_0 ?_
      obtain ⟨σ52, e53, hf⟩ := okl hf
      refine r_put (i := 129) (f := upd (σ50 129) 15 (0 : Int32)) X in_X9_text_9 tyX9 tyX9_ok nmX9 rfl 15 (by decide) (kd_in kc_129 (by decide)) (EE_9 _ kc_129) (EU_9_15 _ _ kc_129) rfl (mem_ix 6 rfl) rfl rfl rfl rfl dX9_text_38 ?_
      refine r_sg e53 ?_
      refine r_aload_n X dX9_text_41 0 rfl isr_ref ?_
      refine r_callVv (rest := []) X (c_X9_any l G (n0 := 53) (f_X9_opens 7) (c_X9_opens l G 7) (by decide) σ52 (oks hf)) md_X9_any gX9_text_X9_any (by decide) rfl rfl (kd_in kc_129 (by decide)) (EE_9 _ kc_129) rfl rfl (Nat.le_of_ble_eq_true rfl) dX9_text_42 (fun r54 σ55 e56 => ?_)
      replace hf := okn e56 hf
      refine r_aload_n X dX9_text_45 0 rfl isr_ref ?_
      refine r_aload_n X dX9_text_46 0 rfl isr_ref ?_
      refine r_get (i := 129) (v := .int (σ55 129 15)) X in_X9_text_9 rfl 15 (by decide) (kd_in kc_129 (by decide)) (EE_9 _ kc_129) rfl (mem_ix 6 rfl) dX9_text_47 ?_
      refine r_if_ne (tgt := 66) X dX9_text_50 (by decide) (fun h57 => ?_) (fun h57 => ?_)
      · replace hf := okf h57 hf
        refine r_iconst X dX9_text_66 ci_1 ?_
        refine r_goto (tgt := 71) X dX9_text_67 (by decide) ?_
        exact t_X9_text_71 X hR a1 (1 : Int32) σ55 hf
      · replace hf := okt h57 hf
        refine r_aload_n X dX9_text_53 0 rfl isr_ref ?_
        refine r_get (i := 129) (v := .int (σ55 129 13)) X in_X9_text_9 rfl 13 (by decide) (kd_in kc_129 (by decide)) (EE_9 _ kc_129) rfl (mem_ix 4 rfl) dX9_text_54 ?_
        refine r_aload_n X dX9_text_57 0 rfl isr_ref ?_
        refine r_get (i := 129) (v := .ref (G.1 130)) X in_X9_text_9 rfl 0 (by decide) (kd_in kc_129 (by decide)) (EE_9 _ kc_129) rfl (mem_ix 7 rfl) dX9_text_58 ?_
        refine r_iconst X dX9_text_61 ci_4 ?_
        refine r_iald (i := 130) (jn := 4) X (kd_in kc_130 (by decide)) (EE_26 _ kc_130) (by decide) (by decide) dX9_text_62 ?_
        refine r_icmp_ge (tgt := 70) X dX9_text_63 (by decide) (fun h75 => ?_) (fun h75 => ?_)
        · replace hf := okt h75 hf
          refine r_iconst X dX9_text_70 ci_0 ?_
          exact t_X9_text_71 X hR a1 (0 : Int32) σ55 hf
        · replace hf := okf h75 hf
          refine r_iconst X dX9_text_66 ci_1 ?_
          refine r_goto (tgt := 71) X dX9_text_67 (by decide) ?_
          exact t_X9_text_71 X hR a1 (1 : Int32) σ55 hf
    · replace hf := okt h43 hf
      refine r_aload_n X dX9_text_9 0 rfl isr_ref ?_
      refine r_ldc (v := (-1000000001 : Int32)) X (mem_ix 1 rfl) dX9_text_10 ?_
      refine r_callVi (rest := []) X (c_X9_error l G (-1000000001 : Int32) σ41 (oks hf)) md_X9_error gX9_text_X9_error (by decide) rfl rfl (kd_in kc_129 (by decide)) (EE_9 _ kc_129) rfl rfl (Nat.le_of_ble_eq_true rfl) dX9_text_12 (fun r76 σ77 e78 => ?_)
      replace hf := okn e78 hf
      exact r_iret X rfl hR (ok0 hf) dX9_text_15
theorem md_X9_text : MD yX9_text wsX9_text cX9_text 4 1 (some .int) := ⟨⟨_, rfl⟩, by decide +kernel, by decide +kernel, by decide⟩
theorem c_X9_text (l : Launch) (G : GX)  (a1 : Int32) (σ : MM) (h : (f_X9_text a1 σ).isSome = true) : CTi l G yX9_text wsX9_text 60 [.ref (G.1 129), .int a1] σ (f_X9_text a1 σ) :=
  CTi_of md_X9_text (Nat.le_of_ble_eq_true rfl) (fun K X hR => e_X9_text X hR a1 σ (ok_is h))

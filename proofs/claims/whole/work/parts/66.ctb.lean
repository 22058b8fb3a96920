theorem gA {X tl : va_W} {q : Nat × va_E} (j : Nat) (h : tl[j]? = some q) : (X ++ tl)[X.length + j]? = some q := by
  rw [List.getElem?_append_right (by omega), Nat.add_sub_cancel_left]; exact h
theorem gAB {X tl t2 : va_W} {q : Nat × va_E} (j : Nat) (h : (tl ++ t2)[j]? = some q) : ((X ++ tl) ++ t2)[X.length + j]? = some q := by
  rw [List.append_assoc]; exact gA j h
theorem sA {X tl tl' : va_W} {q : Nat × va_E} (j : Nat) (h : tl.set j q = tl') : (X ++ tl).set (X.length + j) q = X ++ tl' := by
  rw [List.set_append_right _ _ (by omega), Nat.add_sub_cancel_left, h]
theorem n_to {l : Launch} {D : va_G} {R : Room} {A : Nat → Prop} {K : KX} {nL pc : Nat} {lv : List (Nat × Value)} {st : List Value} {ws ws' : va_W} {cs cs' ss ss' : Nat} (h1 : ws = ws') (h2 : cs = cs') (h3 : ss = ss') (k : VN l D R A K nL pc lv st ws' cs' ss') : VN l D R A K nL pc lv st ws cs ss := by
  subst h1; subst h2; subst h3; exact k
theorem in_X2_init_2 : ∀ w ∈ u_ws RX2 TX2 4, w ∈ wsX2_init := fun _ h => List.mem_cons_of_mem _ (List.mem_append_right _ h)
theorem md_X2_init : MD yX2_init wsX2_init cX2_init 2 1 none := ⟨⟨_, rfl⟩, by decide +kernel, by decide +kernel, by decide⟩
set_option maxRecDepth 100000 in
set_option maxHeartbeats 4000000 in
theorem c_X2_init (l : Launch) (D : va_G) (I : Nat → ClassId) (ad : Nat) (a : Nat) (i : Int32) {X0 : va_W} : CN l D I ad yX2_init wsX2_init 1 0 0 (X0 ++ [(a, .inr (2, [.int 0, .int 0, .int 0, .int 0]))]) [.ref a, .int i] (fun u => u = X0 ++ [(a, .inr (2, [.int i, .int 0, .int 0, .int 0]))]) :=
  CN_of md_X2_init rfl (Nat.le_of_ble_eq_true rfl) (fun K A X hnk hR => by
    refine n_aload_n X dX2_init_0 0 rfl isr_ref ?_
    refine n_obj (st := []) X (mem_ix 1 rfl) (mem_ix 2 rfl) (mem_ix 3 rfl) dX2_init_1 (Nat.le_of_ble_eq_true rfl) (Nat.le_of_ble_eq_true rfl) ?_
    refine n_aload_n X dX2_init_4 0 rfl isr_ref ?_
    refine n_iconst (v := (0 : Int32)) X dX2_init_5 (by decide) ?_
    refine n_put (ws' := X0 ++ [(a, .inr (2, [.int 0, .int 0, .int 0, .int 0]))]) X in_X2_init_2 tyX2 tyX2_ok nmX2 rfl 1 (by decide) (gA 0 rfl) (sA 0 rfl) (Nat.le_of_ble_eq_true rfl) (mem_ix 4 rfl) rfl rfl rfl rfl dX2_init_6 ?_
    refine n_aload_n X dX2_init_9 0 rfl isr_ref ?_
    refine n_iconst (v := (0 : Int32)) X dX2_init_10 (by decide) ?_
    refine n_put (ws' := X0 ++ [(a, .inr (2, [.int 0, .int 0, .int 0, .int 0]))]) X in_X2_init_2 tyX2 tyX2_ok nmX2 rfl 2 (by decide) (gA 0 rfl) (sA 0 rfl) (Nat.le_of_ble_eq_true rfl) (mem_ix 5 rfl) rfl rfl rfl rfl dX2_init_11 ?_
    refine n_aload_n X dX2_init_14 0 rfl isr_ref ?_
    refine n_iconst (v := (0 : Int32)) X dX2_init_15 (by decide) ?_
    refine n_put (ws' := X0 ++ [(a, .inr (2, [.int 0, .int 0, .int 0, .int 0]))]) X in_X2_init_2 tyX2 tyX2_ok nmX2 rfl 3 (by decide) (gA 0 rfl) (sA 0 rfl) (Nat.le_of_ble_eq_true rfl) (mem_ix 6 rfl) rfl rfl rfl rfl dX2_init_16 ?_
    refine n_aload_n X dX2_init_19 0 rfl isr_ref ?_
    refine n_iload_n X dX2_init_20 1 rfl ?_
    refine n_putF (ws' := X0 ++ [(a, .inr (2, [.int i, .int 0, .int 0, .int 0]))]) X in_X2_init_2 tyX2 tyX2_ok nmX2 rfl 0 (by decide) (gA 0 rfl) (sA 0 rfl) (Nat.le_of_ble_eq_true rfl) (mem_ix 7 rfl) rfl hnk rfl rfl rfl rfl dX2_init_21 ?_
    exact n_ret (st := []) X rfl hR rfl dX2_init_24)
theorem in_X3_init_3 : ∀ w ∈ u_ws RX3 TX3 4, w ∈ wsX3_init := fun _ h => List.mem_cons_of_mem _ (List.mem_append_right _ h)
theorem md_X3_init : MD yX3_init wsX3_init cX3_init 1 0 none := ⟨⟨_, rfl⟩, by decide +kernel, by decide +kernel, by decide⟩
set_option maxRecDepth 100000 in
set_option maxHeartbeats 4000000 in
theorem c_X3_init (l : Launch) (D : va_G) (I : Nat → ClassId) (ad : Nat) (a : Nat)  {X0 : va_W} : CN l D I ad yX3_init wsX3_init 1 0 0 (X0 ++ [(a, .inr (3, [.int 0, .int 0, .int 0, .int 0]))]) [.ref a] (fun u => u = X0 ++ [(a, .inr (3, [.int 0, .int 0, .int 0, .int 0]))]) :=
  CN_of md_X3_init rfl (Nat.le_of_ble_eq_true rfl) (fun K A X hnk hR => by
    refine n_aload_n X dX3_init_0 0 rfl isr_ref ?_
    refine n_obj (st := []) X (mem_ix 1 rfl) (mem_ix 2 rfl) (mem_ix 3 rfl) dX3_init_1 (Nat.le_of_ble_eq_true rfl) (Nat.le_of_ble_eq_true rfl) ?_
    refine n_aload_n X dX3_init_4 0 rfl isr_ref ?_
    refine n_iconst (v := (0 : Int32)) X dX3_init_5 (by decide) ?_
    refine n_put (ws' := X0 ++ [(a, .inr (3, [.int 0, .int 0, .int 0, .int 0]))]) X in_X3_init_3 tyX3 tyX3_ok nmX3 rfl 0 (by decide) (gA 0 rfl) (sA 0 rfl) (Nat.le_of_ble_eq_true rfl) (mem_ix 4 rfl) rfl rfl rfl rfl dX3_init_6 ?_
    refine n_aload_n X dX3_init_9 0 rfl isr_ref ?_
    refine n_iconst (v := (0 : Int32)) X dX3_init_10 (by decide) ?_
    refine n_put (ws' := X0 ++ [(a, .inr (3, [.int 0, .int 0, .int 0, .int 0]))]) X in_X3_init_3 tyX3 tyX3_ok nmX3 rfl 1 (by decide) (gA 0 rfl) (sA 0 rfl) (Nat.le_of_ble_eq_true rfl) (mem_ix 5 rfl) rfl rfl rfl rfl dX3_init_11 ?_
    refine n_aload_n X dX3_init_14 0 rfl isr_ref ?_
    refine n_iconst (v := (0 : Int32)) X dX3_init_15 (by decide) ?_
    refine n_put (ws' := X0 ++ [(a, .inr (3, [.int 0, .int 0, .int 0, .int 0]))]) X in_X3_init_3 tyX3 tyX3_ok nmX3 rfl 2 (by decide) (gA 0 rfl) (sA 0 rfl) (Nat.le_of_ble_eq_true rfl) (mem_ix 6 rfl) rfl rfl rfl rfl dX3_init_16 ?_
    refine n_aload_n X dX3_init_19 0 rfl isr_ref ?_
    refine n_iconst (v := (0 : Int32)) X dX3_init_20 (by decide) ?_
    refine n_put (ws' := X0 ++ [(a, .inr (3, [.int 0, .int 0, .int 0, .int 0]))]) X in_X3_init_3 tyX3 tyX3_ok nmX3 rfl 3 (by decide) (gA 0 rfl) (sA 0 rfl) (Nat.le_of_ble_eq_true rfl) (mem_ix 7 rfl) rfl rfl rfl rfl dX3_init_21 ?_
    exact n_ret (st := []) X rfl hR rfl dX3_init_24)
theorem in_X6_init_6 : ∀ w ∈ u_ws RX6 TX6 3, w ∈ wsX6_init := fun _ h => List.mem_cons_of_mem _ (List.mem_append_right _ h)
theorem md_X6_init : MD yX6_init wsX6_init cX6_init 1 0 none := ⟨⟨_, rfl⟩, by decide +kernel, by decide +kernel, by decide⟩
set_option maxRecDepth 100000 in
set_option maxHeartbeats 4000000 in
theorem c_X6_init (l : Launch) (D : va_G) (I : Nat → ClassId) (ad : Nat) (a : Nat)  {X0 : va_W} : CN l D I ad yX6_init wsX6_init 1 2 120 (X0 ++ [(a, .inr (6, [.null, .null, .int 0]))]) [.ref a] (fun u => ∃ x y, u = X0 ++ [(a, .inr (6, [.ref x, .ref y, .int 0])), (x, .inl (I 0, 60, .inl (fun _ => 0))), (y, .inl (I 0, 60, .inl (fun _ => 0)))]) :=
  CN_of md_X6_init rfl (Nat.le_of_ble_eq_true rfl) (fun K A X hnk hR => by
    refine n_aload_n X dX6_init_0 0 rfl isr_ref ?_
    refine n_obj (st := []) X (mem_ix 1 rfl) (mem_ix 2 rfl) (mem_ix 3 rfl) dX6_init_1 (Nat.le_of_ble_eq_true rfl) (Nat.le_of_ble_eq_true rfl) ?_
    refine n_aload_n X dX6_init_4 0 rfl isr_ref ?_
    refine n_bipush (v := (60 : Int32)) X dX6_init_5 (by decide) ?_
    refine n_newa (N := 60) X (mem_ix 4 rfl) (by decide) (by decide) (Nat.le_of_ble_eq_true rfl) (Nat.le_of_ble_eq_true rfl) (Nat.le_of_ble_eq_true rfl) dX6_init_7 (fun q1 => ?_)
    refine n_to (ws' := X0 ++ [(a, .inr (6, [.null, .null, .int 0])), (q1, .inl (I 0, 60, .inl (fun _ => 0)))]) (cs' := 1) (ss' := 60) (List.append_assoc _ _ _) rfl rfl ?_
    refine n_putF (ws' := X0 ++ [(a, .inr (6, [.ref q1, .null, .int 0])), (q1, .inl (I 0, 60, .inl (fun _ => 0)))]) X in_X6_init_6 tyX6 tyX6_ok nmX6 rfl 0 (by decide) (gA 0 rfl) (sA 0 rfl) (Nat.le_of_ble_eq_true rfl) (mem_ix 5 rfl) rfl hnk rfl rfl rfl rfl dX6_init_9 ?_
    refine n_aload_n X dX6_init_12 0 rfl isr_ref ?_
    refine n_bipush (v := (60 : Int32)) X dX6_init_13 (by decide) ?_
    refine n_newa (N := 60) X (mem_ix 4 rfl) (by decide) (by decide) (Nat.le_of_ble_eq_true rfl) (Nat.le_of_ble_eq_true rfl) (Nat.le_of_ble_eq_true rfl) dX6_init_15 (fun q2 => ?_)
    refine n_to (ws' := X0 ++ [(a, .inr (6, [.ref q1, .null, .int 0])), (q1, .inl (I 0, 60, .inl (fun _ => 0))), (q2, .inl (I 0, 60, .inl (fun _ => 0)))]) (cs' := 2) (ss' := 120) (List.append_assoc _ _ _) rfl rfl ?_
    refine n_putF (ws' := X0 ++ [(a, .inr (6, [.ref q1, .ref q2, .int 0])), (q1, .inl (I 0, 60, .inl (fun _ => 0))), (q2, .inl (I 0, 60, .inl (fun _ => 0)))]) X in_X6_init_6 tyX6 tyX6_ok nmX6 rfl 1 (by decide) (gA 0 rfl) (sA 0 rfl) (Nat.le_of_ble_eq_true rfl) (mem_ix 6 rfl) rfl hnk rfl rfl rfl rfl dX6_init_17 ?_
    refine n_aload_n X dX6_init_20 0 rfl isr_ref ?_
    refine n_iconst (v := (0 : Int32)) X dX6_init_21 (by decide) ?_
    refine n_put (ws' := X0 ++ [(a, .inr (6, [.ref q1, .ref q2, .int 0])), (q1, .inl (I 0, 60, .inl (fun _ => 0))), (q2, .inl (I 0, 60, .inl (fun _ => 0)))]) X in_X6_init_6 tyX6 tyX6_ok nmX6 rfl 2 (by decide) (gA 0 rfl) (sA 0 rfl) (Nat.le_of_ble_eq_true rfl) (mem_ix 7 rfl) rfl rfl rfl rfl dX6_init_22 ?_
    exact n_ret (st := []) X rfl hR ⟨q1, q2, rfl⟩ dX6_init_25)
theorem in_X5_init_5 : ∀ w ∈ u_ws RX5 TX5 3, w ∈ wsX5_init := fun _ h => List.mem_cons_of_mem _ (List.mem_append_right _ h)
theorem md_X5_init : MD yX5_init wsX5_init cX5_init 1 0 none := ⟨⟨_, rfl⟩, by decide +kernel, by decide +kernel, by decide⟩
set_option maxRecDepth 100000 in
set_option maxHeartbeats 4000000 in
theorem c_X5_init (l : Launch) (D : va_G) (I : Nat → ClassId) (ad : Nat) (a : Nat)  {X0 : va_W} : CN l D I ad yX5_init wsX5_init 1 1 24 (X0 ++ [(a, .inr (5, [.null, .int 0, .int 0]))]) [.ref a] (fun u => ∃ x, u = X0 ++ [(a, .inr (5, [.ref x, .int 0, .int 0])), (x, .inl (I 0, 24, .inl (fun _ => 0)))]) :=
  CN_of md_X5_init rfl (Nat.le_of_ble_eq_true rfl) (fun K A X hnk hR => by
    refine n_aload_n X dX5_init_0 0 rfl isr_ref ?_
    refine n_obj (st := []) X (mem_ix 1 rfl) (mem_ix 2 rfl) (mem_ix 3 rfl) dX5_init_1 (Nat.le_of_ble_eq_true rfl) (Nat.le_of_ble_eq_true rfl) ?_
    refine n_aload_n X dX5_init_4 0 rfl isr_ref ?_
    refine n_bipush (v := (24 : Int32)) X dX5_init_5 (by decide) ?_
    refine n_newa (N := 24) X (mem_ix 4 rfl) (by decide) (by decide) (Nat.le_of_ble_eq_true rfl) (Nat.le_of_ble_eq_true rfl) (Nat.le_of_ble_eq_true rfl) dX5_init_7 (fun q1 => ?_)
    refine n_to (ws' := X0 ++ [(a, .inr (5, [.null, .int 0, .int 0])), (q1, .inl (I 0, 24, .inl (fun _ => 0)))]) (cs' := 1) (ss' := 24) (List.append_assoc _ _ _) rfl rfl ?_
    refine n_putF (ws' := X0 ++ [(a, .inr (5, [.ref q1, .int 0, .int 0])), (q1, .inl (I 0, 24, .inl (fun _ => 0)))]) X in_X5_init_5 tyX5 tyX5_ok nmX5 rfl 0 (by decide) (gA 0 rfl) (sA 0 rfl) (Nat.le_of_ble_eq_true rfl) (mem_ix 5 rfl) rfl hnk rfl rfl rfl rfl dX5_init_9 ?_
    refine n_aload_n X dX5_init_12 0 rfl isr_ref ?_
    refine n_iconst (v := (0 : Int32)) X dX5_init_13 (by decide) ?_
    refine n_put (ws' := X0 ++ [(a, .inr (5, [.ref q1, .int 0, .int 0])), (q1, .inl (I 0, 24, .inl (fun _ => 0)))]) X in_X5_init_5 tyX5 tyX5_ok nmX5 rfl 1 (by decide) (gA 0 rfl) (sA 0 rfl) (Nat.le_of_ble_eq_true rfl) (mem_ix 6 rfl) rfl rfl rfl rfl dX5_init_14 ?_
    refine n_aload_n X dX5_init_17 0 rfl isr_ref ?_
    refine n_iconst (v := (0 : Int32)) X dX5_init_18 (by decide) ?_
    refine n_put (ws' := X0 ++ [(a, .inr (5, [.ref q1, .int 0, .int 0])), (q1, .inl (I 0, 24, .inl (fun _ => 0)))]) X in_X5_init_5 tyX5 tyX5_ok nmX5 rfl 2 (by decide) (gA 0 rfl) (sA 0 rfl) (Nat.le_of_ble_eq_true rfl) (mem_ix 7 rfl) rfl rfl rfl rfl dX5_init_19 ?_
    exact n_ret (st := []) X rfl hR ⟨q1, rfl⟩ dX5_init_22)
theorem in_X7_init_7 : ∀ w ∈ u_ws RX7 TX7 6, w ∈ wsX7_init := fun _ h => List.mem_cons_of_mem _ (List.mem_append_right _ h)
theorem md_X7_init : MD yX7_init wsX7_init cX7_init 1 0 none := ⟨⟨_, rfl⟩, by decide +kernel, by decide +kernel, by decide⟩
set_option maxRecDepth 100000 in
set_option maxHeartbeats 4000000 in
theorem c_X7_init (l : Launch) (D : va_G) (I : Nat → ClassId) (ad : Nat) (a : Nat)  {X0 : va_W} : CN l D I ad yX7_init wsX7_init 1 1 30 (X0 ++ [(a, .inr (7, [.int 0, .int 0, .null, .int 0, .int 0, .int 0]))]) [.ref a] (fun u => ∃ x, u = X0 ++ [(a, .inr (7, [.int 0, .int 0, .ref x, .int 0, .int 0, .int 0])), (x, .inl (I 0, 30, .inl (fun _ => 0)))]) :=
  CN_of md_X7_init rfl (Nat.le_of_ble_eq_true rfl) (fun K A X hnk hR => by
    refine n_aload_n X dX7_init_0 0 rfl isr_ref ?_
    refine n_obj (st := []) X (mem_ix 1 rfl) (mem_ix 2 rfl) (mem_ix 3 rfl) dX7_init_1 (Nat.le_of_ble_eq_true rfl) (Nat.le_of_ble_eq_true rfl) ?_
    refine n_aload_n X dX7_init_4 0 rfl isr_ref ?_
    refine n_iconst (v := (0 : Int32)) X dX7_init_5 (by decide) ?_
    refine n_put (ws' := X0 ++ [(a, .inr (7, [.int 0, .int 0, .null, .int 0, .int 0, .int 0]))]) X in_X7_init_7 tyX7 tyX7_ok nmX7 rfl 0 (by decide) (gA 0 rfl) (sA 0 rfl) (Nat.le_of_ble_eq_true rfl) (mem_ix 4 rfl) rfl rfl rfl rfl dX7_init_6 ?_
    refine n_aload_n X dX7_init_9 0 rfl isr_ref ?_
    refine n_iconst (v := (0 : Int32)) X dX7_init_10 (by decide) ?_
    refine n_put (ws' := X0 ++ [(a, .inr (7, [.int 0, .int 0, .null, .int 0, .int 0, .int 0]))]) X in_X7_init_7 tyX7 tyX7_ok nmX7 rfl 1 (by decide) (gA 0 rfl) (sA 0 rfl) (Nat.le_of_ble_eq_true rfl) (mem_ix 5 rfl) rfl rfl rfl rfl dX7_init_11 ?_
    refine n_aload_n X dX7_init_14 0 rfl isr_ref ?_
    refine n_bipush (v := (30 : Int32)) X dX7_init_15 (by decide) ?_
    refine n_newa (N := 30) X (mem_ix 6 rfl) (by decide) (by decide) (Nat.le_of_ble_eq_true rfl) (Nat.le_of_ble_eq_true rfl) (Nat.le_of_ble_eq_true rfl) dX7_init_17 (fun q1 => ?_)
    refine n_to (ws' := X0 ++ [(a, .inr (7, [.int 0, .int 0, .null, .int 0, .int 0, .int 0])), (q1, .inl (I 0, 30, .inl (fun _ => 0)))]) (cs' := 1) (ss' := 30) (List.append_assoc _ _ _) rfl rfl ?_
    refine n_putF (ws' := X0 ++ [(a, .inr (7, [.int 0, .int 0, .ref q1, .int 0, .int 0, .int 0])), (q1, .inl (I 0, 30, .inl (fun _ => 0)))]) X in_X7_init_7 tyX7 tyX7_ok nmX7 rfl 2 (by decide) (gA 0 rfl) (sA 0 rfl) (Nat.le_of_ble_eq_true rfl) (mem_ix 7 rfl) rfl hnk rfl rfl rfl rfl dX7_init_19 ?_
    refine n_aload_n X dX7_init_22 0 rfl isr_ref ?_
    refine n_iconst (v := (0 : Int32)) X dX7_init_23 (by decide) ?_
    refine n_put (ws' := X0 ++ [(a, .inr (7, [.int 0, .int 0, .ref q1, .int 0, .int 0, .int 0])), (q1, .inl (I 0, 30, .inl (fun _ => 0)))]) X in_X7_init_7 tyX7 tyX7_ok nmX7 rfl 3 (by decide) (gA 0 rfl) (sA 0 rfl) (Nat.le_of_ble_eq_true rfl) (mem_ix 8 rfl) rfl rfl rfl rfl dX7_init_24 ?_
    refine n_aload_n X dX7_init_27 0 rfl isr_ref ?_
    refine n_iconst (v := (0 : Int32)) X dX7_init_28 (by decide) ?_
    refine n_put (ws' := X0 ++ [(a, .inr (7, [.int 0, .int 0, .ref q1, .int 0, .int 0, .int 0])), (q1, .inl (I 0, 30, .inl (fun _ => 0)))]) X in_X7_init_7 tyX7 tyX7_ok nmX7 rfl 4 (by decide) (gA 0 rfl) (sA 0 rfl) (Nat.le_of_ble_eq_true rfl) (mem_ix 9 rfl) rfl rfl rfl rfl dX7_init_29 ?_
    refine n_aload_n X dX7_init_32 0 rfl isr_ref ?_
    refine n_iconst (v := (0 : Int32)) X dX7_init_33 (by decide) ?_
    refine n_put (ws' := X0 ++ [(a, .inr (7, [.int 0, .int 0, .ref q1, .int 0, .int 0, .int 0])), (q1, .inl (I 0, 30, .inl (fun _ => 0)))]) X in_X7_init_7 tyX7 tyX7_ok nmX7 rfl 5 (by decide) (gA 0 rfl) (sA 0 rfl) (Nat.le_of_ble_eq_true rfl) (mem_ix 10 rfl) rfl rfl rfl rfl dX7_init_34 ?_
    exact n_ret (st := []) X rfl hR ⟨q1, rfl⟩ dX7_init_37)
theorem in_X1_init_1 : ∀ w ∈ u_ws RX1 TX1 4, w ∈ wsX1_init := fun _ h => List.mem_cons_of_mem _ (List.mem_append_right _ h)
theorem md_X1_init : MD yX1_init wsX1_init cX1_init 1 0 none := ⟨⟨_, rfl⟩, by decide +kernel, by decide +kernel, by decide⟩
set_option maxRecDepth 100000 in
set_option maxHeartbeats 4000000 in
theorem c_X1_init (l : Launch) (D : va_G) (I : Nat → ClassId) (ad : Nat) (a : Nat)  {X0 : va_W} : CN l D I ad yX1_init wsX1_init 1 3 203 (X0 ++ [(a, .inr (1, [.null, .null, .null, .int 0]))]) [.ref a] (fun u => ∃ x y w, u = X0 ++ [(a, .inr (1, [.ref x, .ref y, .ref w, .int 0])), (x, .inl (I 0, 100, .inl (fun _ => 0))), (y, .inl (I 0, 100, .inl (fun _ => 0))), (w, .inl (I 0, 3, .inl (fun _ => 0)))]) :=
  CN_of md_X1_init rfl (Nat.le_of_ble_eq_true rfl) (fun K A X hnk hR => by
    refine n_aload_n X dX1_init_0 0 rfl isr_ref ?_
    refine n_obj (st := []) X (mem_ix 1 rfl) (mem_ix 2 rfl) (mem_ix 3 rfl) dX1_init_1 (Nat.le_of_ble_eq_true rfl) (Nat.le_of_ble_eq_true rfl) ?_
    refine n_aload_n X dX1_init_4 0 rfl isr_ref ?_
    refine n_bipush (v := (100 : Int32)) X dX1_init_5 (by decide) ?_
    refine n_newa (N := 100) X (mem_ix 4 rfl) (by decide) (by decide) (Nat.le_of_ble_eq_true rfl) (Nat.le_of_ble_eq_true rfl) (Nat.le_of_ble_eq_true rfl) dX1_init_7 (fun q1 => ?_)
    refine n_to (ws' := X0 ++ [(a, .inr (1, [.null, .null, .null, .int 0])), (q1, .inl (I 0, 100, .inl (fun _ => 0)))]) (cs' := 1) (ss' := 100) (List.append_assoc _ _ _) rfl rfl ?_
    refine n_putF (ws' := X0 ++ [(a, .inr (1, [.ref q1, .null, .null, .int 0])), (q1, .inl (I 0, 100, .inl (fun _ => 0)))]) X in_X1_init_1 tyX1 tyX1_ok nmX1 rfl 0 (by decide) (gA 0 rfl) (sA 0 rfl) (Nat.le_of_ble_eq_true rfl) (mem_ix 5 rfl) rfl hnk rfl rfl rfl rfl dX1_init_9 ?_
    refine n_aload_n X dX1_init_12 0 rfl isr_ref ?_
    refine n_bipush (v := (100 : Int32)) X dX1_init_13 (by decide) ?_
    refine n_newa (N := 100) X (mem_ix 4 rfl) (by decide) (by decide) (Nat.le_of_ble_eq_true rfl) (Nat.le_of_ble_eq_true rfl) (Nat.le_of_ble_eq_true rfl) dX1_init_15 (fun q2 => ?_)
    refine n_to (ws' := X0 ++ [(a, .inr (1, [.ref q1, .null, .null, .int 0])), (q1, .inl (I 0, 100, .inl (fun _ => 0))), (q2, .inl (I 0, 100, .inl (fun _ => 0)))]) (cs' := 2) (ss' := 200) (List.append_assoc _ _ _) rfl rfl ?_
    refine n_putF (ws' := X0 ++ [(a, .inr (1, [.ref q1, .ref q2, .null, .int 0])), (q1, .inl (I 0, 100, .inl (fun _ => 0))), (q2, .inl (I 0, 100, .inl (fun _ => 0)))]) X in_X1_init_1 tyX1 tyX1_ok nmX1 rfl 1 (by decide) (gA 0 rfl) (sA 0 rfl) (Nat.le_of_ble_eq_true rfl) (mem_ix 6 rfl) rfl hnk rfl rfl rfl rfl dX1_init_17 ?_
    refine n_aload_n X dX1_init_20 0 rfl isr_ref ?_
    refine n_iconst (v := (3 : Int32)) X dX1_init_21 (by decide) ?_
    refine n_newa (N := 3) X (mem_ix 4 rfl) (by decide) (by decide) (Nat.le_of_ble_eq_true rfl) (Nat.le_of_ble_eq_true rfl) (Nat.le_of_ble_eq_true rfl) dX1_init_22 (fun q3 => ?_)
    refine n_to (ws' := X0 ++ [(a, .inr (1, [.ref q1, .ref q2, .null, .int 0])), (q1, .inl (I 0, 100, .inl (fun _ => 0))), (q2, .inl (I 0, 100, .inl (fun _ => 0))), (q3, .inl (I 0, 3, .inl (fun _ => 0)))]) (cs' := 3) (ss' := 203) (List.append_assoc _ _ _) rfl rfl ?_
    refine n_putF (ws' := X0 ++ [(a, .inr (1, [.ref q1, .ref q2, .ref q3, .int 0])), (q1, .inl (I 0, 100, .inl (fun _ => 0))), (q2, .inl (I 0, 100, .inl (fun _ => 0))), (q3, .inl (I 0, 3, .inl (fun _ => 0)))]) X in_X1_init_1 tyX1 tyX1_ok nmX1 rfl 2 (by decide) (gA 0 rfl) (sA 0 rfl) (Nat.le_of_ble_eq_true rfl) (mem_ix 7 rfl) rfl hnk rfl rfl rfl rfl dX1_init_24 ?_
    refine n_aload_n X dX1_init_27 0 rfl isr_ref ?_
    refine n_iconst (v := (0 : Int32)) X dX1_init_28 (by decide) ?_
    refine n_put (ws' := X0 ++ [(a, .inr (1, [.ref q1, .ref q2, .ref q3, .int 0])), (q1, .inl (I 0, 100, .inl (fun _ => 0))), (q2, .inl (I 0, 100, .inl (fun _ => 0))), (q3, .inl (I 0, 3, .inl (fun _ => 0)))]) X in_X1_init_1 tyX1 tyX1_ok nmX1 rfl 3 (by decide) (gA 0 rfl) (sA 0 rfl) (Nat.le_of_ble_eq_true rfl) (mem_ix 8 rfl) rfl rfl rfl rfl dX1_init_29 ?_
    exact n_ret (st := []) X rfl hR ⟨q1, q2, q3, rfl⟩ dX1_init_32)
theorem in_X4_init_6 : ∀ w ∈ u_ws RX6 TX6 3, w ∈ wsX4_init := fun _ h => List.mem_cons_of_mem _ (List.mem_append_left _ (List.mem_append_right _ h))
theorem in_X4_init_4 : ∀ w ∈ u_ws RX4 TX4 5, w ∈ wsX4_init := fun _ h => List.mem_cons_of_mem _ (List.mem_append_right _ h)
theorem md_X4_init : MD yX4_init wsX4_init cX4_init 2 1 none := ⟨⟨_, rfl⟩, by decide +kernel, by decide +kernel, by decide⟩
set_option maxRecDepth 100000 in
set_option maxHeartbeats 4000000 in
theorem c_X4_init (l : Launch) (D : va_G) (I : Nat → ClassId) (ad : Nat) (a : Nat) (tp : Nat) {X0 : va_W} : CN l D I ad yX4_init wsX4_init 2 3 123 (X0 ++ [(a, .inr (4, [.null, .int 0, .null, .int 0, .null]))]) [.ref a, .ref tp] (fun u => ∃ t x y, u = X0 ++ [(a, .inr (4, [.ref t, .int 0, .ref tp, .int 0, .ref ad])), (t, .inr (6, [.ref x, .ref y, .int 0])), (x, .inl (I 0, 60, .inl (fun _ => 0))), (y, .inl (I 0, 60, .inl (fun _ => 0)))]) :=
  CN_of md_X4_init rfl (Nat.le_of_ble_eq_true rfl) (fun K A X hnk hR => by
    refine n_aload_n X dX4_init_0 0 rfl isr_ref ?_
    refine n_obj (st := []) X (mem_ix 1 rfl) (mem_ix 2 rfl) (mem_ix 3 rfl) dX4_init_1 (Nat.le_of_ble_eq_true rfl) (Nat.le_of_ble_eq_true rfl) ?_
    refine n_aload_n X dX4_init_4 0 rfl isr_ref ?_
    refine n_new (ci := 6) (fs := [.null, .null, .int 0]) X in_X4_init_6 tyX6 tyX6_ok rfl (by decide) (mem_ix 4 rfl) (mem_ix 5 rfl) (mem_ix 6 rfl) (Nat.le_of_ble_eq_true rfl) (Nat.le_of_ble_eq_true rfl) dX4_init_5 (fun q1 => ?_)
    refine n_to (ws' := (X0 ++ [(a, .inr (4, [.null, .int 0, .null, .int 0, .null]))]) ++ [(q1, .inr (6, [.null, .null, .int 0]))]) (cs' := 1) (ss' := 3) rfl rfl rfl ?_
    refine n_dup X dX4_init_8 rfl ?_
    refine n_callN (As := []) (rest := [.ref q1, .ref a]) X (c_X6_init l D I ad q1) md_X6_init gX4_init_X6_init_n11 (fun _ h => h.2.2.1) (mem_ix 6 rfl) (mem_ix 12 rfl) rfl (Nat.le_of_ble_eq_true rfl) (Nat.le_of_ble_eq_true rfl) rfl rfl (Nat.le_of_ble_eq_true rfl) (Nat.le_of_ble_eq_true rfl) (Nat.le_of_ble_eq_true rfl) dX4_init_9 ?_
    rintro _ ⟨q2, q3, rfl⟩
    refine n_to (ws' := X0 ++ [(a, .inr (4, [.null, .int 0, .null, .int 0, .null])), (q1, .inr (6, [.ref q2, .ref q3, .int 0])), (q2, .inl (I 0, 60, .inl (fun _ => 0))), (q3, .inl (I 0, 60, .inl (fun _ => 0)))]) (cs' := 3) (ss' := 123) (List.append_assoc _ _ _) rfl rfl ?_
    refine n_putF (ws' := X0 ++ [(a, .inr (4, [.ref q1, .int 0, .null, .int 0, .null])), (q1, .inr (6, [.ref q2, .ref q3, .int 0])), (q2, .inl (I 0, 60, .inl (fun _ => 0))), (q3, .inl (I 0, 60, .inl (fun _ => 0)))]) X in_X4_init_4 tyX4 tyX4_ok nmX4 rfl 0 (by decide) (gA 0 rfl) (sA 0 rfl) (Nat.le_of_ble_eq_true rfl) (mem_ix 7 rfl) rfl hnk rfl rfl rfl rfl dX4_init_12 ?_
    refine n_aload_n X dX4_init_15 0 rfl isr_ref ?_
    refine n_iconst (v := (0 : Int32)) X dX4_init_16 (by decide) ?_
    refine n_put (ws' := X0 ++ [(a, .inr (4, [.ref q1, .int 0, .null, .int 0, .null])), (q1, .inr (6, [.ref q2, .ref q3, .int 0])), (q2, .inl (I 0, 60, .inl (fun _ => 0))), (q3, .inl (I 0, 60, .inl (fun _ => 0)))]) X in_X4_init_4 tyX4 tyX4_ok nmX4 rfl 1 (by decide) (gA 0 rfl) (sA 0 rfl) (Nat.le_of_ble_eq_true rfl) (mem_ix 8 rfl) rfl rfl rfl rfl dX4_init_17 ?_
    refine n_aload_n X dX4_init_20 0 rfl isr_ref ?_
    refine n_iconst (v := (0 : Int32)) X dX4_init_21 (by decide) ?_
    refine n_put (ws' := X0 ++ [(a, .inr (4, [.ref q1, .int 0, .null, .int 0, .null])), (q1, .inr (6, [.ref q2, .ref q3, .int 0])), (q2, .inl (I 0, 60, .inl (fun _ => 0))), (q3, .inl (I 0, 60, .inl (fun _ => 0)))]) X in_X4_init_4 tyX4 tyX4_ok nmX4 rfl 3 (by decide) (gA 0 rfl) (sA 0 rfl) (Nat.le_of_ble_eq_true rfl) (mem_ix 9 rfl) rfl rfl rfl rfl dX4_init_22 ?_
    refine n_aload_n X dX4_init_25 0 rfl isr_ref ?_
    refine n_wsm X rfl dX4_init_26 ?_
    refine n_put (ws' := X0 ++ [(a, .inr (4, [.ref q1, .int 0, .null, .int 0, .ref ad])), (q1, .inr (6, [.ref q2, .ref q3, .int 0])), (q2, .inl (I 0, 60, .inl (fun _ => 0))), (q3, .inl (I 0, 60, .inl (fun _ => 0)))]) X in_X4_init_4 tyX4 tyX4_ok nmX4 rfl 4 (by decide) (gA 0 rfl) (sA 0 rfl) (Nat.le_of_ble_eq_true rfl) (mem_ix 10 rfl) rfl rfl rfl rfl dX4_init_28 ?_
    refine n_aload_n X dX4_init_31 0 rfl isr_ref ?_
    refine n_aload_n X dX4_init_32 1 rfl isr_ref ?_
    refine n_putF (ws' := X0 ++ [(a, .inr (4, [.ref q1, .int 0, .ref tp, .int 0, .ref ad])), (q1, .inr (6, [.ref q2, .ref q3, .int 0])), (q2, .inl (I 0, 60, .inl (fun _ => 0))), (q3, .inl (I 0, 60, .inl (fun _ => 0)))]) X in_X4_init_4 tyX4 tyX4_ok nmX4 rfl 2 (by decide) (gA 0 rfl) (sA 0 rfl) (Nat.le_of_ble_eq_true rfl) (mem_ix 11 rfl) rfl hnk rfl rfl rfl rfl dX4_init_33 ?_
    exact n_ret (st := []) X rfl hR ⟨q1, q2, q3, rfl⟩ dX4_init_36)
theorem in_X9_init_9 : ∀ w ∈ u_ws RX9 TX9 21, w ∈ wsX9_init := fun _ h => List.mem_cons_of_mem _ (List.mem_append_right _ h)
theorem md_X9_init : MD yX9_init wsX9_init cX9_init 1 0 none := ⟨⟨_, rfl⟩, by decide +kernel, by decide +kernel, by decide⟩
set_option maxRecDepth 100000 in
set_option maxHeartbeats 4000000 in
theorem c_X9_init (l : Launch) (D : va_G) (I : Nat → ClassId) (ad : Nat) (a : Nat)  {X0 : va_W} : CN l D I ad yX9_init wsX9_init 1 13 1660 (X0 ++ [(a, .inr (9, [.null, .null, .null, .int 0, .null, .null, .null, .null, .null, .null, .null, .null, .int 0, .int 0, .int 0, .int 0, .int 0, .null, .null, .int 0, .int 0]))]) [.ref a] (fun u => ∃ r0 r1 r2 r3 r4 r5 r6 r7 r8 r9 rA rB rC, u = X0 ++ [(a, .inr (9, [.ref r0, .ref r1, .ref r2, .int 0, .ref r3, .ref r4, .ref r5, .ref r6, .ref r7, .ref r8, .ref r9, .ref rA, .int 0, .int 0, .int 0, .int 0, .int 0, .ref rB, .ref rC, .int 0, .int 0])), (r0, .inl (I 0, 412, .inl (upd (fun _ => 0) 1 1))), (r1, .inl (I 0, 412, .inl (fun _ => 0))), (r2, .inl (I 0, 412, .inl (fun _ => 0))), (r3, .inl (I 0, 7, .inl (fun _ => 0))), (r4, .inl (I 0, 4, .inl (fun _ => 0))), (r5, .inl (I 0, 4, .inl (fun _ => 0))), (r6, .inl (I 0, 96, .inl (fun _ => 0))), (r7, .inl (I 0, 60, .inl (fun _ => 0))), (r8, .inl (I 0, 60, .inl (fun _ => 0))), (r9, .inl (I 0, 3, .inl (fun _ => 0))), (rA, .inl (I 0, 60, .inl (fun _ => 0))), (rB, .inl (I 0, 100, .inl (fun _ => 0))), (rC, .inl (I 0, 30, .inl (fun _ => 0)))]) :=
  CN_of md_X9_init rfl (Nat.le_of_ble_eq_true rfl) (fun K A X hnk hR => by
    refine n_aload_n X dX9_init_0 0 rfl isr_ref ?_
    refine n_obj (st := []) X (mem_ix 1 rfl) (mem_ix 2 rfl) (mem_ix 3 rfl) dX9_init_1 (Nat.le_of_ble_eq_true rfl) (Nat.le_of_ble_eq_true rfl) ?_
    refine n_aload_n X dX9_init_4 0 rfl isr_ref ?_
    refine n_sipush (v := (412 : Int32)) X dX9_init_5 (by decide) ?_
    refine n_newa (N := 412) X (mem_ix 4 rfl) (by decide) (by decide) (Nat.le_of_ble_eq_true rfl) (Nat.le_of_ble_eq_true rfl) (Nat.le_of_ble_eq_true rfl) dX9_init_8 (fun q1 => ?_)
    refine n_to (ws' := X0 ++ [(a, .inr (9, [.null, .null, .null, .int 0, .null, .null, .null, .null, .null, .null, .null, .null, .int 0, .int 0, .int 0, .int 0, .int 0, .null, .null, .int 0, .int 0])), (q1, .inl (I 0, 412, .inl (fun _ => 0)))]) (cs' := 1) (ss' := 412) (List.append_assoc _ _ _) rfl rfl ?_
    refine n_putF (ws' := X0 ++ [(a, .inr (9, [.ref q1, .null, .null, .int 0, .null, .null, .null, .null, .null, .null, .null, .null, .int 0, .int 0, .int 0, .int 0, .int 0, .null, .null, .int 0, .int 0])), (q1, .inl (I 0, 412, .inl (fun _ => 0)))]) X in_X9_init_9 tyX9 tyX9_ok nmX9 rfl 0 (by decide) (gA 0 rfl) (sA 0 rfl) (Nat.le_of_ble_eq_true rfl) (mem_ix 5 rfl) rfl hnk rfl rfl rfl rfl dX9_init_10 ?_
    refine n_aload_n X dX9_init_13 0 rfl isr_ref ?_
    refine n_sipush (v := (412 : Int32)) X dX9_init_14 (by decide) ?_
    refine n_newa (N := 412) X (mem_ix 4 rfl) (by decide) (by decide) (Nat.le_of_ble_eq_true rfl) (Nat.le_of_ble_eq_true rfl) (Nat.le_of_ble_eq_true rfl) dX9_init_17 (fun q2 => ?_)
    refine n_to (ws' := X0 ++ [(a, .inr (9, [.ref q1, .null, .null, .int 0, .null, .null, .null, .null, .null, .null, .null, .null, .int 0, .int 0, .int 0, .int 0, .int 0, .null, .null, .int 0, .int 0])), (q1, .inl (I 0, 412, .inl (fun _ => 0))), (q2, .inl (I 0, 412, .inl (fun _ => 0)))]) (cs' := 2) (ss' := 824) (List.append_assoc _ _ _) rfl rfl ?_
    refine n_putF (ws' := X0 ++ [(a, .inr (9, [.ref q1, .ref q2, .null, .int 0, .null, .null, .null, .null, .null, .null, .null, .null, .int 0, .int 0, .int 0, .int 0, .int 0, .null, .null, .int 0, .int 0])), (q1, .inl (I 0, 412, .inl (fun _ => 0))), (q2, .inl (I 0, 412, .inl (fun _ => 0)))]) X in_X9_init_9 tyX9 tyX9_ok nmX9 rfl 1 (by decide) (gA 0 rfl) (sA 0 rfl) (Nat.le_of_ble_eq_true rfl) (mem_ix 6 rfl) rfl hnk rfl rfl rfl rfl dX9_init_19 ?_
    refine n_aload_n X dX9_init_22 0 rfl isr_ref ?_
    refine n_sipush (v := (412 : Int32)) X dX9_init_23 (by decide) ?_
    refine n_newa (N := 412) X (mem_ix 4 rfl) (by decide) (by decide) (Nat.le_of_ble_eq_true rfl) (Nat.le_of_ble_eq_true rfl) (Nat.le_of_ble_eq_true rfl) dX9_init_26 (fun q3 => ?_)
    refine n_to (ws' := X0 ++ [(a, .inr (9, [.ref q1, .ref q2, .null, .int 0, .null, .null, .null, .null, .null, .null, .null, .null, .int 0, .int 0, .int 0, .int 0, .int 0, .null, .null, .int 0, .int 0])), (q1, .inl (I 0, 412, .inl (fun _ => 0))), (q2, .inl (I 0, 412, .inl (fun _ => 0))), (q3, .inl (I 0, 412, .inl (fun _ => 0)))]) (cs' := 3) (ss' := 1236) (List.append_assoc _ _ _) rfl rfl ?_
    refine n_putF (ws' := X0 ++ [(a, .inr (9, [.ref q1, .ref q2, .ref q3, .int 0, .null, .null, .null, .null, .null, .null, .null, .null, .int 0, .int 0, .int 0, .int 0, .int 0, .null, .null, .int 0, .int 0])), (q1, .inl (I 0, 412, .inl (fun _ => 0))), (q2, .inl (I 0, 412, .inl (fun _ => 0))), (q3, .inl (I 0, 412, .inl (fun _ => 0)))]) X in_X9_init_9 tyX9 tyX9_ok nmX9 rfl 2 (by decide) (gA 0 rfl) (sA 0 rfl) (Nat.le_of_ble_eq_true rfl) (mem_ix 7 rfl) rfl hnk rfl rfl rfl rfl dX9_init_28 ?_
    refine n_aload_n X dX9_init_31 0 rfl isr_ref ?_
    refine n_bipush (v := (7 : Int32)) X dX9_init_32 (by decide) ?_
    refine n_newa (N := 7) X (mem_ix 4 rfl) (by decide) (by decide) (Nat.le_of_ble_eq_true rfl) (Nat.le_of_ble_eq_true rfl) (Nat.le_of_ble_eq_true rfl) dX9_init_34 (fun q4 => ?_)
    refine n_to (ws' := X0 ++ [(a, .inr (9, [.ref q1, .ref q2, .ref q3, .int 0, .null, .null, .null, .null, .null, .null, .null, .null, .int 0, .int 0, .int 0, .int 0, .int 0, .null, .null, .int 0, .int 0])), (q1, .inl (I 0, 412, .inl (fun _ => 0))), (q2, .inl (I 0, 412, .inl (fun _ => 0))), (q3, .inl (I 0, 412, .inl (fun _ => 0))), (q4, .inl (I 0, 7, .inl (fun _ => 0)))]) (cs' := 4) (ss' := 1243) (List.append_assoc _ _ _) rfl rfl ?_
    refine n_putF (ws' := X0 ++ [(a, .inr (9, [.ref q1, .ref q2, .ref q3, .int 0, .ref q4, .null, .null, .null, .null, .null, .null, .null, .int 0, .int 0, .int 0, .int 0, .int 0, .null, .null, .int 0, .int 0])), (q1, .inl (I 0, 412, .inl (fun _ => 0))), (q2, .inl (I 0, 412, .inl (fun _ => 0))), (q3, .inl (I 0, 412, .inl (fun _ => 0))), (q4, .inl (I 0, 7, .inl (fun _ => 0)))]) X in_X9_init_9 tyX9 tyX9_ok nmX9 rfl 4 (by decide) (gA 0 rfl) (sA 0 rfl) (Nat.le_of_ble_eq_true rfl) (mem_ix 8 rfl) rfl hnk rfl rfl rfl rfl dX9_init_36 ?_
    refine n_aload_n X dX9_init_39 0 rfl isr_ref ?_
    refine n_iconst (v := (4 : Int32)) X dX9_init_40 (by decide) ?_
    refine n_newa (N := 4) X (mem_ix 4 rfl) (by decide) (by decide) (Nat.le_of_ble_eq_true rfl) (Nat.le_of_ble_eq_true rfl) (Nat.le_of_ble_eq_true rfl) dX9_init_41 (fun q5 => ?_)
    refine n_to (ws' := X0 ++ [(a, .inr (9, [.ref q1, .ref q2, .ref q3, .int 0, .ref q4, .null, .null, .null, .null, .null, .null, .null, .int 0, .int 0, .int 0, .int 0, .int 0, .null, .null, .int 0, .int 0])), (q1, .inl (I 0, 412, .inl (fun _ => 0))), (q2, .inl (I 0, 412, .inl (fun _ => 0))), (q3, .inl (I 0, 412, .inl (fun _ => 0))), (q4, .inl (I 0, 7, .inl (fun _ => 0))), (q5, .inl (I 0, 4, .inl (fun _ => 0)))]) (cs' := 5) (ss' := 1247) (List.append_assoc _ _ _) rfl rfl ?_
    refine n_putF (ws' := X0 ++ [(a, .inr (9, [.ref q1, .ref q2, .ref q3, .int 0, .ref q4, .ref q5, .null, .null, .null, .null, .null, .null, .int 0, .int 0, .int 0, .int 0, .int 0, .null, .null, .int 0, .int 0])), (q1, .inl (I 0, 412, .inl (fun _ => 0))), (q2, .inl (I 0, 412, .inl (fun _ => 0))), (q3, .inl (I 0, 412, .inl (fun _ => 0))), (q4, .inl (I 0, 7, .inl (fun _ => 0))), (q5, .inl (I 0, 4, .inl (fun _ => 0)))]) X in_X9_init_9 tyX9 tyX9_ok nmX9 rfl 5 (by decide) (gA 0 rfl) (sA 0 rfl) (Nat.le_of_ble_eq_true rfl) (mem_ix 9 rfl) rfl hnk rfl rfl rfl rfl dX9_init_43 ?_
    refine n_aload_n X dX9_init_46 0 rfl isr_ref ?_
    refine n_iconst (v := (4 : Int32)) X dX9_init_47 (by decide) ?_
    refine n_newa (N := 4) X (mem_ix 4 rfl) (by decide) (by decide) (Nat.le_of_ble_eq_true rfl) (Nat.le_of_ble_eq_true rfl) (Nat.le_of_ble_eq_true rfl) dX9_init_48 (fun q6 => ?_)
    refine n_to (ws' := X0 ++ [(a, .inr (9, [.ref q1, .ref q2, .ref q3, .int 0, .ref q4, .ref q5, .null, .null, .null, .null, .null, .null, .int 0, .int 0, .int 0, .int 0, .int 0, .null, .null, .int 0, .int 0])), (q1, .inl (I 0, 412, .inl (fun _ => 0))), (q2, .inl (I 0, 412, .inl (fun _ => 0))), (q3, .inl (I 0, 412, .inl (fun _ => 0))), (q4, .inl (I 0, 7, .inl (fun _ => 0))), (q5, .inl (I 0, 4, .inl (fun _ => 0))), (q6, .inl (I 0, 4, .inl (fun _ => 0)))]) (cs' := 6) (ss' := 1251) (List.append_assoc _ _ _) rfl rfl ?_
    refine n_putF (ws' := X0 ++ [(a, .inr (9, [.ref q1, .ref q2, .ref q3, .int 0, .ref q4, .ref q5, .ref q6, .null, .null, .null, .null, .null, .int 0, .int 0, .int 0, .int 0, .int 0, .null, .null, .int 0, .int 0])), (q1, .inl (I 0, 412, .inl (fun _ => 0))), (q2, .inl (I 0, 412, .inl (fun _ => 0))), (q3, .inl (I 0, 412, .inl (fun _ => 0))), (q4, .inl (I 0, 7, .inl (fun _ => 0))), (q5, .inl (I 0, 4, .inl (fun _ => 0))), (q6, .inl (I 0, 4, .inl (fun _ => 0)))]) X in_X9_init_9 tyX9 tyX9_ok nmX9 rfl 6 (by decide) (gA 0 rfl) (sA 0 rfl) (Nat.le_of_ble_eq_true rfl) (mem_ix 10 rfl) rfl hnk rfl rfl rfl rfl dX9_init_50 ?_
    refine n_aload_n X dX9_init_53 0 rfl isr_ref ?_
    refine n_bipush (v := (96 : Int32)) X dX9_init_54 (by decide) ?_
    refine n_newa (N := 96) X (mem_ix 4 rfl) (by decide) (by decide) (Nat.le_of_ble_eq_true rfl) (Nat.le_of_ble_eq_true rfl) (Nat.le_of_ble_eq_true rfl) dX9_init_56 (fun q7 => ?_)
    refine n_to (ws' := X0 ++ [(a, .inr (9, [.ref q1, .ref q2, .ref q3, .int 0, .ref q4, .ref q5, .ref q6, .null, .null, .null, .null, .null, .int 0, .int 0, .int 0, .int 0, .int 0, .null, .null, .int 0, .int 0])), (q1, .inl (I 0, 412, .inl (fun _ => 0))), (q2, .inl (I 0, 412, .inl (fun _ => 0))), (q3, .inl (I 0, 412, .inl (fun _ => 0))), (q4, .inl (I 0, 7, .inl (fun _ => 0))), (q5, .inl (I 0, 4, .inl (fun _ => 0))), (q6, .inl (I 0, 4, .inl (fun _ => 0))), (q7, .inl (I 0, 96, .inl (fun _ => 0)))]) (cs' := 7) (ss' := 1347) (List.append_assoc _ _ _) rfl rfl ?_
    refine n_putF (ws' := X0 ++ [(a, .inr (9, [.ref q1, .ref q2, .ref q3, .int 0, .ref q4, .ref q5, .ref q6, .ref q7, .null, .null, .null, .null, .int 0, .int 0, .int 0, .int 0, .int 0, .null, .null, .int 0, .int 0])), (q1, .inl (I 0, 412, .inl (fun _ => 0))), (q2, .inl (I 0, 412, .inl (fun _ => 0))), (q3, .inl (I 0, 412, .inl (fun _ => 0))), (q4, .inl (I 0, 7, .inl (fun _ => 0))), (q5, .inl (I 0, 4, .inl (fun _ => 0))), (q6, .inl (I 0, 4, .inl (fun _ => 0))), (q7, .inl (I 0, 96, .inl (fun _ => 0)))]) X in_X9_init_9 tyX9 tyX9_ok nmX9 rfl 7 (by decide) (gA 0 rfl) (sA 0 rfl) (Nat.le_of_ble_eq_true rfl) (mem_ix 11 rfl) rfl hnk rfl rfl rfl rfl dX9_init_58 ?_
    refine n_aload_n X dX9_init_61 0 rfl isr_ref ?_
    refine n_bipush (v := (60 : Int32)) X dX9_init_62 (by decide) ?_
    refine n_newa (N := 60) X (mem_ix 4 rfl) (by decide) (by decide) (Nat.le_of_ble_eq_true rfl) (Nat.le_of_ble_eq_true rfl) (Nat.le_of_ble_eq_true rfl) dX9_init_64 (fun q8 => ?_)
    refine n_to (ws' := X0 ++ [(a, .inr (9, [.ref q1, .ref q2, .ref q3, .int 0, .ref q4, .ref q5, .ref q6, .ref q7, .null, .null, .null, .null, .int 0, .int 0, .int 0, .int 0, .int 0, .null, .null, .int 0, .int 0])), (q1, .inl (I 0, 412, .inl (fun _ => 0))), (q2, .inl (I 0, 412, .inl (fun _ => 0))), (q3, .inl (I 0, 412, .inl (fun _ => 0))), (q4, .inl (I 0, 7, .inl (fun _ => 0))), (q5, .inl (I 0, 4, .inl (fun _ => 0))), (q6, .inl (I 0, 4, .inl (fun _ => 0))), (q7, .inl (I 0, 96, .inl (fun _ => 0))), (q8, .inl (I 0, 60, .inl (fun _ => 0)))]) (cs' := 8) (ss' := 1407) (List.append_assoc _ _ _) rfl rfl ?_
    refine n_putF (ws' := X0 ++ [(a, .inr (9, [.ref q1, .ref q2, .ref q3, .int 0, .ref q4, .ref q5, .ref q6, .ref q7, .ref q8, .null, .null, .null, .int 0, .int 0, .int 0, .int 0, .int 0, .null, .null, .int 0, .int 0])), (q1, .inl (I 0, 412, .inl (fun _ => 0))), (q2, .inl (I 0, 412, .inl (fun _ => 0))), (q3, .inl (I 0, 412, .inl (fun _ => 0))), (q4, .inl (I 0, 7, .inl (fun _ => 0))), (q5, .inl (I 0, 4, .inl (fun _ => 0))), (q6, .inl (I 0, 4, .inl (fun _ => 0))), (q7, .inl (I 0, 96, .inl (fun _ => 0))), (q8, .inl (I 0, 60, .inl (fun _ => 0)))]) X in_X9_init_9 tyX9 tyX9_ok nmX9 rfl 8 (by decide) (gA 0 rfl) (sA 0 rfl) (Nat.le_of_ble_eq_true rfl) (mem_ix 12 rfl) rfl hnk rfl rfl rfl rfl dX9_init_66 ?_
    refine n_aload_n X dX9_init_69 0 rfl isr_ref ?_
    refine n_bipush (v := (60 : Int32)) X dX9_init_70 (by decide) ?_
    refine n_newa (N := 60) X (mem_ix 4 rfl) (by decide) (by decide) (Nat.le_of_ble_eq_true rfl) (Nat.le_of_ble_eq_true rfl) (Nat.le_of_ble_eq_true rfl) dX9_init_72 (fun q9 => ?_)
    refine n_to (ws' := X0 ++ [(a, .inr (9, [.ref q1, .ref q2, .ref q3, .int 0, .ref q4, .ref q5, .ref q6, .ref q7, .ref q8, .null, .null, .null, .int 0, .int 0, .int 0, .int 0, .int 0, .null, .null, .int 0, .int 0])), (q1, .inl (I 0, 412, .inl (fun _ => 0))), (q2, .inl (I 0, 412, .inl (fun _ => 0))), (q3, .inl (I 0, 412, .inl (fun _ => 0))), (q4, .inl (I 0, 7, .inl (fun _ => 0))), (q5, .inl (I 0, 4, .inl (fun _ => 0))), (q6, .inl (I 0, 4, .inl (fun _ => 0))), (q7, .inl (I 0, 96, .inl (fun _ => 0))), (q8, .inl (I 0, 60, .inl (fun _ => 0))), (q9, .inl (I 0, 60, .inl (fun _ => 0)))]) (cs' := 9) (ss' := 1467) (List.append_assoc _ _ _) rfl rfl ?_
    refine n_putF (ws' := X0 ++ [(a, .inr (9, [.ref q1, .ref q2, .ref q3, .int 0, .ref q4, .ref q5, .ref q6, .ref q7, .ref q8, .ref q9, .null, .null, .int 0, .int 0, .int 0, .int 0, .int 0, .null, .null, .int 0, .int 0])), (q1, .inl (I 0, 412, .inl (fun _ => 0))), (q2, .inl (I 0, 412, .inl (fun _ => 0))), (q3, .inl (I 0, 412, .inl (fun _ => 0))), (q4, .inl (I 0, 7, .inl (fun _ => 0))), (q5, .inl (I 0, 4, .inl (fun _ => 0))), (q6, .inl (I 0, 4, .inl (fun _ => 0))), (q7, .inl (I 0, 96, .inl (fun _ => 0))), (q8, .inl (I 0, 60, .inl (fun _ => 0))), (q9, .inl (I 0, 60, .inl (fun _ => 0)))]) X in_X9_init_9 tyX9 tyX9_ok nmX9 rfl 9 (by decide) (gA 0 rfl) (sA 0 rfl) (Nat.le_of_ble_eq_true rfl) (mem_ix 13 rfl) rfl hnk rfl rfl rfl rfl dX9_init_74 ?_
    refine n_aload_n X dX9_init_77 0 rfl isr_ref ?_
    refine n_iconst (v := (3 : Int32)) X dX9_init_78 (by decide) ?_
    refine n_newa (N := 3) X (mem_ix 4 rfl) (by decide) (by decide) (Nat.le_of_ble_eq_true rfl) (Nat.le_of_ble_eq_true rfl) (Nat.le_of_ble_eq_true rfl) dX9_init_79 (fun q10 => ?_)
    refine n_to (ws' := X0 ++ [(a, .inr (9, [.ref q1, .ref q2, .ref q3, .int 0, .ref q4, .ref q5, .ref q6, .ref q7, .ref q8, .ref q9, .null, .null, .int 0, .int 0, .int 0, .int 0, .int 0, .null, .null, .int 0, .int 0])), (q1, .inl (I 0, 412, .inl (fun _ => 0))), (q2, .inl (I 0, 412, .inl (fun _ => 0))), (q3, .inl (I 0, 412, .inl (fun _ => 0))), (q4, .inl (I 0, 7, .inl (fun _ => 0))), (q5, .inl (I 0, 4, .inl (fun _ => 0))), (q6, .inl (I 0, 4, .inl (fun _ => 0))), (q7, .inl (I 0, 96, .inl (fun _ => 0))), (q8, .inl (I 0, 60, .inl (fun _ => 0))), (q9, .inl (I 0, 60, .inl (fun _ => 0))), (q10, .inl (I 0, 3, .inl (fun _ => 0)))]) (cs' := 10) (ss' := 1470) (List.append_assoc _ _ _) rfl rfl ?_
    refine n_putF (ws' := X0 ++ [(a, .inr (9, [.ref q1, .ref q2, .ref q3, .int 0, .ref q4, .ref q5, .ref q6, .ref q7, .ref q8, .ref q9, .ref q10, .null, .int 0, .int 0, .int 0, .int 0, .int 0, .null, .null, .int 0, .int 0])), (q1, .inl (I 0, 412, .inl (fun _ => 0))), (q2, .inl (I 0, 412, .inl (fun _ => 0))), (q3, .inl (I 0, 412, .inl (fun _ => 0))), (q4, .inl (I 0, 7, .inl (fun _ => 0))), (q5, .inl (I 0, 4, .inl (fun _ => 0))), (q6, .inl (I 0, 4, .inl (fun _ => 0))), (q7, .inl (I 0, 96, .inl (fun _ => 0))), (q8, .inl (I 0, 60, .inl (fun _ => 0))), (q9, .inl (I 0, 60, .inl (fun _ => 0))), (q10, .inl (I 0, 3, .inl (fun _ => 0)))]) X in_X9_init_9 tyX9 tyX9_ok nmX9 rfl 10 (by decide) (gA 0 rfl) (sA 0 rfl) (Nat.le_of_ble_eq_true rfl) (mem_ix 14 rfl) rfl hnk rfl rfl rfl rfl dX9_init_81 ?_
    refine n_aload_n X dX9_init_84 0 rfl isr_ref ?_
    refine n_bipush (v := (60 : Int32)) X dX9_init_85 (by decide) ?_
    refine n_newa (N := 60) X (mem_ix 4 rfl) (by decide) (by decide) (Nat.le_of_ble_eq_true rfl) (Nat.le_of_ble_eq_true rfl) (Nat.le_of_ble_eq_true rfl) dX9_init_87 (fun q11 => ?_)
    refine n_to (ws' := X0 ++ [(a, .inr (9, [.ref q1, .ref q2, .ref q3, .int 0, .ref q4, .ref q5, .ref q6, .ref q7, .ref q8, .ref q9, .ref q10, .null, .int 0, .int 0, .int 0, .int 0, .int 0, .null, .null, .int 0, .int 0])), (q1, .inl (I 0, 412, .inl (fun _ => 0))), (q2, .inl (I 0, 412, .inl (fun _ => 0))), (q3, .inl (I 0, 412, .inl (fun _ => 0))), (q4, .inl (I 0, 7, .inl (fun _ => 0))), (q5, .inl (I 0, 4, .inl (fun _ => 0))), (q6, .inl (I 0, 4, .inl (fun _ => 0))), (q7, .inl (I 0, 96, .inl (fun _ => 0))), (q8, .inl (I 0, 60, .inl (fun _ => 0))), (q9, .inl (I 0, 60, .inl (fun _ => 0))), (q10, .inl (I 0, 3, .inl (fun _ => 0))), (q11, .inl (I 0, 60, .inl (fun _ => 0)))]) (cs' := 11) (ss' := 1530) (List.append_assoc _ _ _) rfl rfl ?_
    refine n_putF (ws' := X0 ++ [(a, .inr (9, [.ref q1, .ref q2, .ref q3, .int 0, .ref q4, .ref q5, .ref q6, .ref q7, .ref q8, .ref q9, .ref q10, .ref q11, .int 0, .int 0, .int 0, .int 0, .int 0, .null, .null, .int 0, .int 0])), (q1, .inl (I 0, 412, .inl (fun _ => 0))), (q2, .inl (I 0, 412, .inl (fun _ => 0))), (q3, .inl (I 0, 412, .inl (fun _ => 0))), (q4, .inl (I 0, 7, .inl (fun _ => 0))), (q5, .inl (I 0, 4, .inl (fun _ => 0))), (q6, .inl (I 0, 4, .inl (fun _ => 0))), (q7, .inl (I 0, 96, .inl (fun _ => 0))), (q8, .inl (I 0, 60, .inl (fun _ => 0))), (q9, .inl (I 0, 60, .inl (fun _ => 0))), (q10, .inl (I 0, 3, .inl (fun _ => 0))), (q11, .inl (I 0, 60, .inl (fun _ => 0)))]) X in_X9_init_9 tyX9 tyX9_ok nmX9 rfl 11 (by decide) (gA 0 rfl) (sA 0 rfl) (Nat.le_of_ble_eq_true rfl) (mem_ix 15 rfl) rfl hnk rfl rfl rfl rfl dX9_init_89 ?_
    refine n_aload_n X dX9_init_92 0 rfl isr_ref ?_
    refine n_bipush (v := (100 : Int32)) X dX9_init_93 (by decide) ?_
    refine n_newa (N := 100) X (mem_ix 4 rfl) (by decide) (by decide) (Nat.le_of_ble_eq_true rfl) (Nat.le_of_ble_eq_true rfl) (Nat.le_of_ble_eq_true rfl) dX9_init_95 (fun q12 => ?_)
    refine n_to (ws' := X0 ++ [(a, .inr (9, [.ref q1, .ref q2, .ref q3, .int 0, .ref q4, .ref q5, .ref q6, .ref q7, .ref q8, .ref q9, .ref q10, .ref q11, .int 0, .int 0, .int 0, .int 0, .int 0, .null, .null, .int 0, .int 0])), (q1, .inl (I 0, 412, .inl (fun _ => 0))), (q2, .inl (I 0, 412, .inl (fun _ => 0))), (q3, .inl (I 0, 412, .inl (fun _ => 0))), (q4, .inl (I 0, 7, .inl (fun _ => 0))), (q5, .inl (I 0, 4, .inl (fun _ => 0))), (q6, .inl (I 0, 4, .inl (fun _ => 0))), (q7, .inl (I 0, 96, .inl (fun _ => 0))), (q8, .inl (I 0, 60, .inl (fun _ => 0))), (q9, .inl (I 0, 60, .inl (fun _ => 0))), (q10, .inl (I 0, 3, .inl (fun _ => 0))), (q11, .inl (I 0, 60, .inl (fun _ => 0))), (q12, .inl (I 0, 100, .inl (fun _ => 0)))]) (cs' := 12) (ss' := 1630) (List.append_assoc _ _ _) rfl rfl ?_
    refine n_putF (ws' := X0 ++ [(a, .inr (9, [.ref q1, .ref q2, .ref q3, .int 0, .ref q4, .ref q5, .ref q6, .ref q7, .ref q8, .ref q9, .ref q10, .ref q11, .int 0, .int 0, .int 0, .int 0, .int 0, .ref q12, .null, .int 0, .int 0])), (q1, .inl (I 0, 412, .inl (fun _ => 0))), (q2, .inl (I 0, 412, .inl (fun _ => 0))), (q3, .inl (I 0, 412, .inl (fun _ => 0))), (q4, .inl (I 0, 7, .inl (fun _ => 0))), (q5, .inl (I 0, 4, .inl (fun _ => 0))), (q6, .inl (I 0, 4, .inl (fun _ => 0))), (q7, .inl (I 0, 96, .inl (fun _ => 0))), (q8, .inl (I 0, 60, .inl (fun _ => 0))), (q9, .inl (I 0, 60, .inl (fun _ => 0))), (q10, .inl (I 0, 3, .inl (fun _ => 0))), (q11, .inl (I 0, 60, .inl (fun _ => 0))), (q12, .inl (I 0, 100, .inl (fun _ => 0)))]) X in_X9_init_9 tyX9 tyX9_ok nmX9 rfl 17 (by decide) (gA 0 rfl) (sA 0 rfl) (Nat.le_of_ble_eq_true rfl) (mem_ix 16 rfl) rfl hnk rfl rfl rfl rfl dX9_init_97 ?_
    refine n_aload_n X dX9_init_100 0 rfl isr_ref ?_
    refine n_bipush (v := (30 : Int32)) X dX9_init_101 (by decide) ?_
    refine n_newa (N := 30) X (mem_ix 4 rfl) (by decide) (by decide) (Nat.le_of_ble_eq_true rfl) (Nat.le_of_ble_eq_true rfl) (Nat.le_of_ble_eq_true rfl) dX9_init_103 (fun q13 => ?_)
    refine n_to (ws' := X0 ++ [(a, .inr (9, [.ref q1, .ref q2, .ref q3, .int 0, .ref q4, .ref q5, .ref q6, .ref q7, .ref q8, .ref q9, .ref q10, .ref q11, .int 0, .int 0, .int 0, .int 0, .int 0, .ref q12, .null, .int 0, .int 0])), (q1, .inl (I 0, 412, .inl (fun _ => 0))), (q2, .inl (I 0, 412, .inl (fun _ => 0))), (q3, .inl (I 0, 412, .inl (fun _ => 0))), (q4, .inl (I 0, 7, .inl (fun _ => 0))), (q5, .inl (I 0, 4, .inl (fun _ => 0))), (q6, .inl (I 0, 4, .inl (fun _ => 0))), (q7, .inl (I 0, 96, .inl (fun _ => 0))), (q8, .inl (I 0, 60, .inl (fun _ => 0))), (q9, .inl (I 0, 60, .inl (fun _ => 0))), (q10, .inl (I 0, 3, .inl (fun _ => 0))), (q11, .inl (I 0, 60, .inl (fun _ => 0))), (q12, .inl (I 0, 100, .inl (fun _ => 0))), (q13, .inl (I 0, 30, .inl (fun _ => 0)))]) (cs' := 13) (ss' := 1660) (List.append_assoc _ _ _) rfl rfl ?_
    refine n_putF (ws' := X0 ++ [(a, .inr (9, [.ref q1, .ref q2, .ref q3, .int 0, .ref q4, .ref q5, .ref q6, .ref q7, .ref q8, .ref q9, .ref q10, .ref q11, .int 0, .int 0, .int 0, .int 0, .int 0, .ref q12, .ref q13, .int 0, .int 0])), (q1, .inl (I 0, 412, .inl (fun _ => 0))), (q2, .inl (I 0, 412, .inl (fun _ => 0))), (q3, .inl (I 0, 412, .inl (fun _ => 0))), (q4, .inl (I 0, 7, .inl (fun _ => 0))), (q5, .inl (I 0, 4, .inl (fun _ => 0))), (q6, .inl (I 0, 4, .inl (fun _ => 0))), (q7, .inl (I 0, 96, .inl (fun _ => 0))), (q8, .inl (I 0, 60, .inl (fun _ => 0))), (q9, .inl (I 0, 60, .inl (fun _ => 0))), (q10, .inl (I 0, 3, .inl (fun _ => 0))), (q11, .inl (I 0, 60, .inl (fun _ => 0))), (q12, .inl (I 0, 100, .inl (fun _ => 0))), (q13, .inl (I 0, 30, .inl (fun _ => 0)))]) X in_X9_init_9 tyX9 tyX9_ok nmX9 rfl 18 (by decide) (gA 0 rfl) (sA 0 rfl) (Nat.le_of_ble_eq_true rfl) (mem_ix 17 rfl) rfl hnk rfl rfl rfl rfl dX9_init_105 ?_
    refine n_aload_n X dX9_init_108 0 rfl isr_ref ?_
    refine n_get X in_X9_init_9 rfl 0 (by decide) (gA 0 rfl) rfl (mem_ix 5 rfl) dX9_init_109 ?_
    refine n_iconst (v := (1 : Int32)) X dX9_init_112 (by decide) ?_
    refine n_iconst (v := (1 : Int32)) X dX9_init_113 (by decide) ?_
    refine n_iast (ws' := X0 ++ [(a, .inr (9, [.ref q1, .ref q2, .ref q3, .int 0, .ref q4, .ref q5, .ref q6, .ref q7, .ref q8, .ref q9, .ref q10, .ref q11, .int 0, .int 0, .int 0, .int 0, .int 0, .ref q12, .ref q13, .int 0, .int 0])), (q1, .inl (I 0, 412, .inl (upd (fun _ => 0) 1 1))), (q2, .inl (I 0, 412, .inl (fun _ => 0))), (q3, .inl (I 0, 412, .inl (fun _ => 0))), (q4, .inl (I 0, 7, .inl (fun _ => 0))), (q5, .inl (I 0, 4, .inl (fun _ => 0))), (q6, .inl (I 0, 4, .inl (fun _ => 0))), (q7, .inl (I 0, 96, .inl (fun _ => 0))), (q8, .inl (I 0, 60, .inl (fun _ => 0))), (q9, .inl (I 0, 60, .inl (fun _ => 0))), (q10, .inl (I 0, 3, .inl (fun _ => 0))), (q11, .inl (I 0, 60, .inl (fun _ => 0))), (q12, .inl (I 0, 100, .inl (fun _ => 0))), (q13, .inl (I 0, 30, .inl (fun _ => 0)))]) X (gA 1 rfl) (by unfold vp_in; decide) (sA 1 rfl) dX9_init_114 ?_
    exact n_ret (st := []) X rfl hR ⟨q1, q2, q3, q4, q5, q6, q7, q8, q9, q10, q11, q12, q13, rfl⟩ dX9_init_115)

-- X9_fewest
theorem in_X9_fewest_9 : ∀ w ∈ u_ws RX9 TX9 21, w ∈ wsX9_fewest := fun _ h => List.mem_cons_of_mem _ (List.mem_append_right _ h)
def u_X9_fewest_17  (σ : MM) : Option (Int32 × MM) :=
  bd (f_X9_error (-1000000001 : Int32) σ) (fun r55 σ56 => some (r55, σ56))
def u_X9_fewest_200 (k187 : Int32 → Int32 → Int32 → Int32 → MM → Option (Int32 × MM)) (k200 : Int32 → Int32 → Int32 → Int32 → Int32 → MM → Option (Int32 × MM)) (v2 : Int32) (v4 : Int32) (v5 : Int32) (v6 : Int32) (v7 : Int32) (σ : MM) : Option (Int32 × MM) :=
  if (100 : Int32) ≤ v7 then k187 v2 v4 v5 (v6 + (1 : Int32)) σ else if v5 < 0 ∨ 100 ≤ v5.toNatClampNeg then none else if v6 < 0 ∨ 100 ≤ v6.toNatClampNeg then none else if v7 < 0 ∨ 100 ≤ v7.toNatClampNeg then none else if (((σ 141 (v5.toNatClampNeg)) ||| (σ 141 (v6.toNatClampNeg))) ||| (σ 141 (v7.toNatClampNeg))) = v4 then bd (f_X9_wordAt (3 : Int32) v2 v5 v6 v7 σ) (fun r83 σ84 => some (r83, σ84)) else k200 v2 v4 v5 v6 (v7 + (1 : Int32)) σ
def l_X9_fewest_200 (k187 : Int32 → Int32 → Int32 → Int32 → MM → Option (Int32 × MM)) (v2 : Int32) (v4 : Int32) (v5 : Int32) (v6 : Int32) (v7 : Int32) (σ : MM) : Option (Int32 × MM) :=
  itr (fun _ _ _ _ _ _ => none) (u_X9_fewest_200 k187) FU v2 v4 v5 v6 v7 σ
def u_X9_fewest_187 (k174 : Int32 → Int32 → Int32 → MM → Option (Int32 × MM)) (k187 : Int32 → Int32 → Int32 → Int32 → MM → Option (Int32 × MM)) (v2 : Int32) (v4 : Int32) (v5 : Int32) (v6 : Int32) (σ : MM) : Option (Int32 × MM) :=
  if (100 : Int32) ≤ v6 then k174 v2 v4 (v5 + (1 : Int32)) σ else l_X9_fewest_200 k187 v2 v4 v5 v6 (v6 + (1 : Int32)) σ
def l_X9_fewest_187 (k174 : Int32 → Int32 → Int32 → MM → Option (Int32 × MM)) (v2 : Int32) (v4 : Int32) (v5 : Int32) (v6 : Int32) (σ : MM) : Option (Int32 × MM) :=
  itr (fun _ _ _ _ _ => none) (u_X9_fewest_187 k174) FU v2 v4 v5 v6 σ
def u_X9_fewest_174 (k174 : Int32 → Int32 → Int32 → MM → Option (Int32 × MM)) (v2 : Int32) (v4 : Int32) (v5 : Int32) (σ : MM) : Option (Int32 × MM) :=
  if (100 : Int32) ≤ v5 then bd (f_X9_error (-1000000002 : Int32) σ) (fun r74 σ75 => some (r74, σ75)) else l_X9_fewest_187 k174 v2 v4 v5 (v5 + (1 : Int32)) σ
def l_X9_fewest_174 (v2 : Int32) (v4 : Int32) (v5 : Int32) (σ : MM) : Option (Int32 × MM) :=
  itr (fun _ _ _ _ => none) (u_X9_fewest_174) FU v2 v4 v5 σ
def u_X9_fewest_120 (k107 : Int32 → Int32 → Int32 → MM → Option (Int32 × MM)) (k120 : Int32 → Int32 → Int32 → Int32 → MM → Option (Int32 × MM)) (v2 : Int32) (v4 : Int32) (v5 : Int32) (v6 : Int32) (σ : MM) : Option (Int32 × MM) :=
  if (100 : Int32) ≤ v6 then k107 v2 v4 (v5 + (1 : Int32)) σ else if v5 < 0 ∨ 100 ≤ v5.toNatClampNeg then none else if v6 < 0 ∨ 100 ≤ v6.toNatClampNeg then none else if ((σ 141 (v5.toNatClampNeg)) ||| (σ 141 (v6.toNatClampNeg))) = v4 then bd (f_X9_wordAt (2 : Int32) v2 v5 v6 (0 : Int32) σ) (fun r90 σ91 => some (r90, σ91)) else k120 v2 v4 v5 (v6 + (1 : Int32)) σ
def l_X9_fewest_120 (k107 : Int32 → Int32 → Int32 → MM → Option (Int32 × MM)) (v2 : Int32) (v4 : Int32) (v5 : Int32) (v6 : Int32) (σ : MM) : Option (Int32 × MM) :=
  itr (fun _ _ _ _ _ => none) (u_X9_fewest_120 k107) FU v2 v4 v5 v6 σ
def u_X9_fewest_107 (k107 : Int32 → Int32 → Int32 → MM → Option (Int32 × MM)) (v2 : Int32) (v4 : Int32) (v5 : Int32) (σ : MM) : Option (Int32 × MM) :=
  if (100 : Int32) ≤ v5 then l_X9_fewest_174 v2 v4 (0 : Int32) σ else l_X9_fewest_120 k107 v2 v4 v5 (v5 + (1 : Int32)) σ
def l_X9_fewest_107 (v2 : Int32) (v4 : Int32) (v5 : Int32) (σ : MM) : Option (Int32 × MM) :=
  itr (fun _ _ _ _ => none) (u_X9_fewest_107) FU v2 v4 v5 σ
def u_X9_fewest_68 (k68 : Int32 → Int32 → Int32 → MM → Option (Int32 × MM)) (v2 : Int32) (v4 : Int32) (v5 : Int32) (σ : MM) : Option (Int32 × MM) :=
  if (100 : Int32) ≤ v5 then l_X9_fewest_107 v2 v4 (0 : Int32) σ else if v5 < 0 ∨ 100 ≤ v5.toNatClampNeg then none else if (σ 141 (v5.toNatClampNeg)) = v4 then bd (f_X9_wordAt (1 : Int32) v2 v5 (0 : Int32) (0 : Int32) σ) (fun r95 σ96 => some (r95, σ96)) else k68 v2 v4 (v5 + (1 : Int32)) σ
def l_X9_fewest_68 (v2 : Int32) (v4 : Int32) (v5 : Int32) (σ : MM) : Option (Int32 × MM) :=
  itr (fun _ _ _ _ => none) (u_X9_fewest_68) FU v2 v4 v5 σ
def f_X9_fewest (a1 : Int32) (a2 : Int32) (σ : MM) : Option (Int32 × MM) :=
  bd (f_X9_isPerson a1 σ) (fun r51 σ52 => if r51 = 0 then u_X9_fewest_17 σ52 else bd (f_X9_in a2 (-1 : Int32) (2 : Int32) σ52) (fun r58 σ59 => if r58 = 0 then u_X9_fewest_17 σ59 else bd (f_X9_about a1 (0 : Int32) σ59) (fun r62 σ63 => lt (((1 : Int32) <<< ((σ63 130 2) &&& 31)) - ((1 : Int32) <<< (r62 &&& 31))) (fun y65 => bd (f_X9_findWhom r62 σ63) (fun r67 σ68 => if y65 = 0 then bd (f_X9_wordAt (0 : Int32) a2 (0 : Int32) (0 : Int32) (0 : Int32) σ68) (fun r98 σ99 => some (r98, σ99)) else l_X9_fewest_68 a2 y65 (0 : Int32) σ68)))))
set_option maxRecDepth 100000 in
set_option maxHeartbeats 4000000 in
theorem t_X9_fewest_17 {l : Launch} {G : GX} {K : KX} (X : FX G K cX9_fewest RX9 (some .int) wsX9_fewest 8) {Φ : Int32 → MM → Prop} (hR : Ri G K Φ)  (σ : MM) (hf : Ok Φ (u_X9_fewest_17  σ)) : V l G 8 K 8 17 [(0, .ref (G.1 129))] [] σ := by
    unfold u_X9_fewest_17 at hf
    refine r_aload_n X dX9_fewest_17 0 rfl isr_ref ?_
    refine r_ldc (v := (-1000000001 : Int32)) X (mem_ix 1 rfl) dX9_fewest_18 ?_
    refine r_callVi (rest := []) X (c_X9_error l G (-1000000001 : Int32) σ (oks hf)) md_X9_error gX9_fewest_X9_error (by decide) rfl rfl (kd_in kc_129 (by decide)) (EE_9 _ kc_129) rfl rfl (Nat.le_of_ble_eq_true rfl) dX9_fewest_20 (fun r55 σ56 e57 => ?_)
    replace hf := okn e57 hf
    exact r_iret X rfl hR (ok0 hf) dX9_fewest_23
set_option maxRecDepth 100000 in
set_option maxHeartbeats 4000000 in
theorem t_X9_fewest_200 {l : Launch} {G : GX} {K : KX} (X : FX G K cX9_fewest RX9 (some .int) wsX9_fewest 8) {Φ : Int32 → MM → Prop} (hR : Ri G K Φ) (k187 : Int32 → Int32 → Int32 → Int32 → MM → Option (Int32 × MM)) (hk187c : ∀ (v2 : Int32) (v4 : Int32) (v5 : Int32) (v6 : Int32) (σ : MM), Ok Φ (k187 v2 v4 v5 v6 σ) → V l G 8 K 8 187 [(0, .ref (G.1 129)), (2, .int v2), (4, .int v4), (5, .int v5), (6, .int v6)] [] σ) (k200 : Int32 → Int32 → Int32 → Int32 → Int32 → MM → Option (Int32 × MM)) (hk200c : ∀ (v2 : Int32) (v4 : Int32) (v5 : Int32) (v6 : Int32) (v7 : Int32) (σ : MM), Ok Φ (k200 v2 v4 v5 v6 v7 σ) → V l G 8 K 8 200 [(0, .ref (G.1 129)), (2, .int v2), (4, .int v4), (5, .int v5), (6, .int v6), (7, .int v7)] [] σ) (v2 : Int32) (v4 : Int32) (v5 : Int32) (v6 : Int32) (v7 : Int32) (σ : MM) (hf : Ok Φ (u_X9_fewest_200 k187 k200 v2 v4 v5 v6 v7 σ)) : V l G 8 K 8 200 [(0, .ref (G.1 129)), (2, .int v2), (4, .int v4), (5, .int v5), (6, .int v6), (7, .int v7)] [] σ := by
    unfold u_X9_fewest_200 at hf
    refine r_iload X dX9_fewest_200 5 rfl ?_
    refine r_bipush X dX9_fewest_202 cb_100 ?_
    refine r_icmp_ge (tgt := 254) X dX9_fewest_204 (by decide) (fun h78 => ?_) (fun h78 => ?_)
    · replace hf := okt h78 hf
      refine r_iinc (v := (v6 + (1 : Int32))) X dX9_fewest_254 4 rfl (congrArg _ ci_1) (by decide) (lv' := [(6, .int (v6 + (1 : Int32))), (0, .ref (G.1 129)), (2, .int v2), (4, .int v4), (5, .int v5), (7, .int v7)]) rfl ?_
      refine r_goto (tgt := 187) X dX9_fewest_257 (by decide) ?_
      refine r_sub [1, 2, 3, 4, 0] rfl ?_
      exact hk187c v2 v4 v5 (v6 + (1 : Int32)) σ hf
    · replace hf := okf h78 hf
      refine r_aload_n X dX9_fewest_207 0 rfl isr_ref ?_
      refine r_get (i := 129) (v := .ref (G.1 141)) X in_X9_fewest_9 rfl 17 (by decide) (kd_in kc_129 (by decide)) (EE_9 _ kc_129) rfl (mem_ix 3 rfl) dX9_fewest_208 ?_
      refine r_iload X dX9_fewest_211 3 rfl ?_
      obtain ⟨g79, hf⟩ := okg hf
      refine r_iald (i := 141) (jn := v5.toNatClampNeg) X (kd_in kc_141 (by decide)) (EE_23 _ kc_141) rfl g79 dX9_fewest_213 ?_
      refine r_aload_n X dX9_fewest_214 0 rfl isr_ref ?_
      refine r_get (i := 129) (v := .ref (G.1 141)) X in_X9_fewest_9 rfl 17 (by decide) (kd_in kc_129 (by decide)) (EE_9 _ kc_129) rfl (mem_ix 3 rfl) dX9_fewest_215 ?_
      refine r_iload X dX9_fewest_218 4 rfl ?_
      obtain ⟨g80, hf⟩ := okg hf
      refine r_iald (i := 141) (jn := v6.toNatClampNeg) X (kd_in kc_141 (by decide)) (EE_23 _ kc_141) rfl g80 dX9_fewest_220 ?_
      refine r_ior X dX9_fewest_221 ?_
      refine r_aload_n X dX9_fewest_222 0 rfl isr_ref ?_
      refine r_get (i := 129) (v := .ref (G.1 141)) X in_X9_fewest_9 rfl 17 (by decide) (kd_in kc_129 (by decide)) (EE_9 _ kc_129) rfl (mem_ix 3 rfl) dX9_fewest_223 ?_
      refine r_iload X dX9_fewest_226 5 rfl ?_
      obtain ⟨g81, hf⟩ := okg hf
      refine r_iald (i := 141) (jn := v7.toNatClampNeg) X (kd_in kc_141 (by decide)) (EE_23 _ kc_141) rfl g81 dX9_fewest_228 ?_
      refine r_ior X dX9_fewest_229 ?_
      refine r_iload X dX9_fewest_230 2 rfl ?_
      refine r_icmp_ne (tgt := 248) X dX9_fewest_232 (by decide) (fun h82 => ?_) (fun h82 => ?_)
      · replace hf := okf h82 hf
        refine r_iinc (v := (v7 + (1 : Int32))) X dX9_fewest_248 5 rfl (congrArg _ ci_1) (by decide) (lv' := [(7, .int (v7 + (1 : Int32))), (0, .ref (G.1 129)), (2, .int v2), (4, .int v4), (5, .int v5), (6, .int v6)]) rfl ?_
        refine r_goto (tgt := 200) X dX9_fewest_251 (by decide) ?_
        refine r_sub [1, 2, 3, 4, 5, 0] rfl ?_
        exact hk200c v2 v4 v5 v6 (v7 + (1 : Int32)) σ hf
      · replace hf := okt h82 hf
        refine r_aload_n X dX9_fewest_235 0 rfl isr_ref ?_
        refine r_iconst X dX9_fewest_236 ci_3 ?_
        refine r_iload_n X dX9_fewest_237 1 rfl ?_
        refine r_iload X dX9_fewest_238 3 rfl ?_
        refine r_iload X dX9_fewest_240 4 rfl ?_
        refine r_iload X dX9_fewest_242 5 rfl ?_
        refine r_callVi (rest := []) X (c_X9_wordAt l G (3 : Int32) v2 v5 v6 v7 σ (oks hf)) md_X9_wordAt gX9_fewest_X9_wordAt (by decide) rfl rfl (kd_in kc_129 (by decide)) (EE_9 _ kc_129) rfl rfl (Nat.le_of_ble_eq_true rfl) dX9_fewest_244 (fun r83 σ84 e85 => ?_)
        replace hf := okn e85 hf
        exact r_iret X rfl hR (ok0 hf) dX9_fewest_247
theorem tl_X9_fewest_200 {l : Launch} {G : GX} {K : KX} (X : FX G K cX9_fewest RX9 (some .int) wsX9_fewest 8) {Φ : Int32 → MM → Prop} (hR : Ri G K Φ) (k187 : Int32 → Int32 → Int32 → Int32 → MM → Option (Int32 × MM)) (hk187c : ∀ (v2 : Int32) (v4 : Int32) (v5 : Int32) (v6 : Int32) (σ : MM), Ok Φ (k187 v2 v4 v5 v6 σ) → V l G 8 K 8 187 [(0, .ref (G.1 129)), (2, .int v2), (4, .int v4), (5, .int v5), (6, .int v6)] [] σ) : ∀ (m : Nat) (v2 : Int32) (v4 : Int32) (v5 : Int32) (v6 : Int32) (v7 : Int32) (σ : MM), Ok Φ (itr (fun _ _ _ _ _ _ => none) (u_X9_fewest_200 k187) m v2 v4 v5 v6 v7 σ) → V l G 8 K 8 200 [(0, .ref (G.1 129)), (2, .int v2), (4, .int v4), (5, .int v5), (6, .int v6), (7, .int v7)] [] σ := by
  intro m
  induction m with
  | zero => intro v2 v4 v5 v6 v7 σ hf; exact (okx hf).elim
  | succ m ih => intro v2 v4 v5 v6 v7 σ hf; exact t_X9_fewest_200 X hR k187 hk187c _ ih v2 v4 v5 v6 v7 σ hf
set_option maxRecDepth 100000 in
set_option maxHeartbeats 4000000 in
theorem t_X9_fewest_187 {l : Launch} {G : GX} {K : KX} (X : FX G K cX9_fewest RX9 (some .int) wsX9_fewest 8) {Φ : Int32 → MM → Prop} (hR : Ri G K Φ) (k174 : Int32 → Int32 → Int32 → MM → Option (Int32 × MM)) (hk174c : ∀ (v2 : Int32) (v4 : Int32) (v5 : Int32) (σ : MM), Ok Φ (k174 v2 v4 v5 σ) → V l G 8 K 8 174 [(0, .ref (G.1 129)), (2, .int v2), (4, .int v4), (5, .int v5)] [] σ) (k187 : Int32 → Int32 → Int32 → Int32 → MM → Option (Int32 × MM)) (hk187c : ∀ (v2 : Int32) (v4 : Int32) (v5 : Int32) (v6 : Int32) (σ : MM), Ok Φ (k187 v2 v4 v5 v6 σ) → V l G 8 K 8 187 [(0, .ref (G.1 129)), (2, .int v2), (4, .int v4), (5, .int v5), (6, .int v6)] [] σ) (v2 : Int32) (v4 : Int32) (v5 : Int32) (v6 : Int32) (σ : MM) (hf : Ok Φ (u_X9_fewest_187 k174 k187 v2 v4 v5 v6 σ)) : V l G 8 K 8 187 [(0, .ref (G.1 129)), (2, .int v2), (4, .int v4), (5, .int v5), (6, .int v6)] [] σ := by
    unfold u_X9_fewest_187 at hf
    refine r_iload X dX9_fewest_187 4 rfl ?_
    refine r_bipush X dX9_fewest_189 cb_100 ?_
    refine r_icmp_ge (tgt := 260) X dX9_fewest_191 (by decide) (fun h77 => ?_) (fun h77 => ?_)
    · replace hf := okt h77 hf
      refine r_iinc (v := (v5 + (1 : Int32))) X dX9_fewest_260 3 rfl (congrArg _ ci_1) (by decide) (lv' := [(5, .int (v5 + (1 : Int32))), (0, .ref (G.1 129)), (2, .int v2), (4, .int v4), (6, .int v6)]) rfl ?_
      refine r_goto (tgt := 174) X dX9_fewest_263 (by decide) ?_
      refine r_sub [1, 2, 3, 0] rfl ?_
      exact hk174c v2 v4 (v5 + (1 : Int32)) σ hf
    · replace hf := okf h77 hf
      refine r_iload X dX9_fewest_194 4 rfl ?_
      refine r_iconst X dX9_fewest_196 ci_1 ?_
      refine r_iadd X dX9_fewest_197 ?_
      refine r_istore X dX9_fewest_198 (by decide) (lv' := [(7, .int (v6 + (1 : Int32))), (0, .ref (G.1 129)), (2, .int v2), (4, .int v4), (5, .int v5), (6, .int v6)]) rfl ?_
      refine r_sub [1, 2, 3, 4, 5, 0] rfl ?_
      exact tl_X9_fewest_200 X hR k187 hk187c FU v2 v4 v5 v6 (v6 + (1 : Int32)) σ hf
theorem tl_X9_fewest_187 {l : Launch} {G : GX} {K : KX} (X : FX G K cX9_fewest RX9 (some .int) wsX9_fewest 8) {Φ : Int32 → MM → Prop} (hR : Ri G K Φ) (k174 : Int32 → Int32 → Int32 → MM → Option (Int32 × MM)) (hk174c : ∀ (v2 : Int32) (v4 : Int32) (v5 : Int32) (σ : MM), Ok Φ (k174 v2 v4 v5 σ) → V l G 8 K 8 174 [(0, .ref (G.1 129)), (2, .int v2), (4, .int v4), (5, .int v5)] [] σ) : ∀ (m : Nat) (v2 : Int32) (v4 : Int32) (v5 : Int32) (v6 : Int32) (σ : MM), Ok Φ (itr (fun _ _ _ _ _ => none) (u_X9_fewest_187 k174) m v2 v4 v5 v6 σ) → V l G 8 K 8 187 [(0, .ref (G.1 129)), (2, .int v2), (4, .int v4), (5, .int v5), (6, .int v6)] [] σ := by
  intro m
  induction m with
  | zero => intro v2 v4 v5 v6 σ hf; exact (okx hf).elim
  | succ m ih => intro v2 v4 v5 v6 σ hf; exact t_X9_fewest_187 X hR k174 hk174c _ ih v2 v4 v5 v6 σ hf
set_option maxRecDepth 100000 in
set_option maxHeartbeats 4000000 in
theorem t_X9_fewest_174 {l : Launch} {G : GX} {K : KX} (X : FX G K cX9_fewest RX9 (some .int) wsX9_fewest 8) {Φ : Int32 → MM → Prop} (hR : Ri G K Φ) (k174 : Int32 → Int32 → Int32 → MM → Option (Int32 × MM)) (hk174c : ∀ (v2 : Int32) (v4 : Int32) (v5 : Int32) (σ : MM), Ok Φ (k174 v2 v4 v5 σ) → V l G 8 K 8 174 [(0, .ref (G.1 129)), (2, .int v2), (4, .int v4), (5, .int v5)] [] σ) (v2 : Int32) (v4 : Int32) (v5 : Int32) (σ : MM) (hf : Ok Φ (u_X9_fewest_174 k174 v2 v4 v5 σ)) : V l G 8 K 8 174 [(0, .ref (G.1 129)), (2, .int v2), (4, .int v4), (5, .int v5)] [] σ := by
    unfold u_X9_fewest_174 at hf
    refine r_iload X dX9_fewest_174 3 rfl ?_
    refine r_bipush X dX9_fewest_176 cb_100 ?_
    refine r_icmp_ge (tgt := 266) X dX9_fewest_178 (by decide) (fun h73 => ?_) (fun h73 => ?_)
    · replace hf := okt h73 hf
      refine r_aload_n X dX9_fewest_266 0 rfl isr_ref ?_
      refine r_ldc (v := (-1000000002 : Int32)) X (mem_ix 4 rfl) dX9_fewest_267 ?_
      refine r_callVi (rest := []) X (c_X9_error l G (-1000000002 : Int32) σ (oks hf)) md_X9_error gX9_fewest_X9_error (by decide) rfl rfl (kd_in kc_129 (by decide)) (EE_9 _ kc_129) rfl rfl (Nat.le_of_ble_eq_true rfl) dX9_fewest_269 (fun r74 σ75 e76 => ?_)
      replace hf := okn e76 hf
      exact r_iret X rfl hR (ok0 hf) dX9_fewest_272
    · replace hf := okf h73 hf
      refine r_iload X dX9_fewest_181 3 rfl ?_
      refine r_iconst X dX9_fewest_183 ci_1 ?_
      refine r_iadd X dX9_fewest_184 ?_
      refine r_istore X dX9_fewest_185 (by decide) (lv' := [(6, .int (v5 + (1 : Int32))), (0, .ref (G.1 129)), (2, .int v2), (4, .int v4), (5, .int v5)]) rfl ?_
      refine r_sub [1, 2, 3, 4, 0] rfl ?_
      exact tl_X9_fewest_187 X hR k174 hk174c FU v2 v4 v5 (v5 + (1 : Int32)) σ hf
theorem tl_X9_fewest_174 {l : Launch} {G : GX} {K : KX} (X : FX G K cX9_fewest RX9 (some .int) wsX9_fewest 8) {Φ : Int32 → MM → Prop} (hR : Ri G K Φ) : ∀ (m : Nat) (v2 : Int32) (v4 : Int32) (v5 : Int32) (σ : MM), Ok Φ (itr (fun _ _ _ _ => none) (u_X9_fewest_174) m v2 v4 v5 σ) → V l G 8 K 8 174 [(0, .ref (G.1 129)), (2, .int v2), (4, .int v4), (5, .int v5)] [] σ := by
  intro m
  induction m with
  | zero => intro v2 v4 v5 σ hf; exact (okx hf).elim
  | succ m ih => intro v2 v4 v5 σ hf; exact t_X9_fewest_174 X hR _ ih v2 v4 v5 σ hf
set_option maxRecDepth 100000 in
set_option maxHeartbeats 4000000 in
theorem t_X9_fewest_120 {l : Launch} {G : GX} {K : KX} (X : FX G K cX9_fewest RX9 (some .int) wsX9_fewest 8) {Φ : Int32 → MM → Prop} (hR : Ri G K Φ) (k107 : Int32 → Int32 → Int32 → MM → Option (Int32 × MM)) (hk107c : ∀ (v2 : Int32) (v4 : Int32) (v5 : Int32) (σ : MM), Ok Φ (k107 v2 v4 v5 σ) → V l G 8 K 8 107 [(0, .ref (G.1 129)), (2, .int v2), (4, .int v4), (5, .int v5)] [] σ) (k120 : Int32 → Int32 → Int32 → Int32 → MM → Option (Int32 × MM)) (hk120c : ∀ (v2 : Int32) (v4 : Int32) (v5 : Int32) (v6 : Int32) (σ : MM), Ok Φ (k120 v2 v4 v5 v6 σ) → V l G 8 K 8 120 [(0, .ref (G.1 129)), (2, .int v2), (4, .int v4), (5, .int v5), (6, .int v6)] [] σ) (v2 : Int32) (v4 : Int32) (v5 : Int32) (v6 : Int32) (σ : MM) (hf : Ok Φ (u_X9_fewest_120 k107 k120 v2 v4 v5 v6 σ)) : V l G 8 K 8 120 [(0, .ref (G.1 129)), (2, .int v2), (4, .int v4), (5, .int v5), (6, .int v6)] [] σ := by
    unfold u_X9_fewest_120 at hf
    refine r_iload X dX9_fewest_120 4 rfl ?_
    refine r_bipush X dX9_fewest_122 cb_100 ?_
    refine r_icmp_ge (tgt := 165) X dX9_fewest_124 (by decide) (fun h86 => ?_) (fun h86 => ?_)
    · replace hf := okt h86 hf
      refine r_iinc (v := (v5 + (1 : Int32))) X dX9_fewest_165 3 rfl (congrArg _ ci_1) (by decide) (lv' := [(5, .int (v5 + (1 : Int32))), (0, .ref (G.1 129)), (2, .int v2), (4, .int v4), (6, .int v6)]) rfl ?_
      refine r_goto (tgt := 107) X dX9_fewest_168 (by decide) ?_
      refine r_sub [1, 2, 3, 0] rfl ?_
      exact hk107c v2 v4 (v5 + (1 : Int32)) σ hf
    · replace hf := okf h86 hf
      refine r_aload_n X dX9_fewest_127 0 rfl isr_ref ?_
      refine r_get (i := 129) (v := .ref (G.1 141)) X in_X9_fewest_9 rfl 17 (by decide) (kd_in kc_129 (by decide)) (EE_9 _ kc_129) rfl (mem_ix 3 rfl) dX9_fewest_128 ?_
      refine r_iload X dX9_fewest_131 3 rfl ?_
      obtain ⟨g87, hf⟩ := okg hf
      refine r_iald (i := 141) (jn := v5.toNatClampNeg) X (kd_in kc_141 (by decide)) (EE_23 _ kc_141) rfl g87 dX9_fewest_133 ?_
      refine r_aload_n X dX9_fewest_134 0 rfl isr_ref ?_
      refine r_get (i := 129) (v := .ref (G.1 141)) X in_X9_fewest_9 rfl 17 (by decide) (kd_in kc_129 (by decide)) (EE_9 _ kc_129) rfl (mem_ix 3 rfl) dX9_fewest_135 ?_
      refine r_iload X dX9_fewest_138 4 rfl ?_
      obtain ⟨g88, hf⟩ := okg hf
      refine r_iald (i := 141) (jn := v6.toNatClampNeg) X (kd_in kc_141 (by decide)) (EE_23 _ kc_141) rfl g88 dX9_fewest_140 ?_
      refine r_ior X dX9_fewest_141 ?_
      refine r_iload X dX9_fewest_142 2 rfl ?_
      refine r_icmp_ne (tgt := 159) X dX9_fewest_144 (by decide) (fun h89 => ?_) (fun h89 => ?_)
      · replace hf := okf h89 hf
        refine r_iinc (v := (v6 + (1 : Int32))) X dX9_fewest_159 4 rfl (congrArg _ ci_1) (by decide) (lv' := [(6, .int (v6 + (1 : Int32))), (0, .ref (G.1 129)), (2, .int v2), (4, .int v4), (5, .int v5)]) rfl ?_
        refine r_goto (tgt := 120) X dX9_fewest_162 (by decide) ?_
        refine r_sub [1, 2, 3, 4, 0] rfl ?_
        exact hk120c v2 v4 v5 (v6 + (1 : Int32)) σ hf
      · replace hf := okt h89 hf
        refine r_aload_n X dX9_fewest_147 0 rfl isr_ref ?_
        refine r_iconst X dX9_fewest_148 ci_2 ?_
        refine r_iload_n X dX9_fewest_149 1 rfl ?_
        refine r_iload X dX9_fewest_150 3 rfl ?_
        refine r_iload X dX9_fewest_152 4 rfl ?_
        refine r_iconst X dX9_fewest_154 ci_0 ?_
        refine r_callVi (rest := []) X (c_X9_wordAt l G (2 : Int32) v2 v5 v6 (0 : Int32) σ (oks hf)) md_X9_wordAt gX9_fewest_X9_wordAt (by decide) rfl rfl (kd_in kc_129 (by decide)) (EE_9 _ kc_129) rfl rfl (Nat.le_of_ble_eq_true rfl) dX9_fewest_155 (fun r90 σ91 e92 => ?_)
        replace hf := okn e92 hf
        exact r_iret X rfl hR (ok0 hf) dX9_fewest_158
theorem tl_X9_fewest_120 {l : Launch} {G : GX} {K : KX} (X : FX G K cX9_fewest RX9 (some .int) wsX9_fewest 8) {Φ : Int32 → MM → Prop} (hR : Ri G K Φ) (k107 : Int32 → Int32 → Int32 → MM → Option (Int32 × MM)) (hk107c : ∀ (v2 : Int32) (v4 : Int32) (v5 : Int32) (σ : MM), Ok Φ (k107 v2 v4 v5 σ) → V l G 8 K 8 107 [(0, .ref (G.1 129)), (2, .int v2), (4, .int v4), (5, .int v5)] [] σ) : ∀ (m : Nat) (v2 : Int32) (v4 : Int32) (v5 : Int32) (v6 : Int32) (σ : MM), Ok Φ (itr (fun _ _ _ _ _ => none) (u_X9_fewest_120 k107) m v2 v4 v5 v6 σ) → V l G 8 K 8 120 [(0, .ref (G.1 129)), (2, .int v2), (4, .int v4), (5, .int v5), (6, .int v6)] [] σ := by
  intro m
  induction m with
  | zero => intro v2 v4 v5 v6 σ hf; exact (okx hf).elim
  | succ m ih => intro v2 v4 v5 v6 σ hf; exact t_X9_fewest_120 X hR k107 hk107c _ ih v2 v4 v5 v6 σ hf
set_option maxRecDepth 100000 in
set_option maxHeartbeats 4000000 in
theorem t_X9_fewest_107 {l : Launch} {G : GX} {K : KX} (X : FX G K cX9_fewest RX9 (some .int) wsX9_fewest 8) {Φ : Int32 → MM → Prop} (hR : Ri G K Φ) (k107 : Int32 → Int32 → Int32 → MM → Option (Int32 × MM)) (hk107c : ∀ (v2 : Int32) (v4 : Int32) (v5 : Int32) (σ : MM), Ok Φ (k107 v2 v4 v5 σ) → V l G 8 K 8 107 [(0, .ref (G.1 129)), (2, .int v2), (4, .int v4), (5, .int v5)] [] σ) (v2 : Int32) (v4 : Int32) (v5 : Int32) (σ : MM) (hf : Ok Φ (u_X9_fewest_107 k107 v2 v4 v5 σ)) : V l G 8 K 8 107 [(0, .ref (G.1 129)), (2, .int v2), (4, .int v4), (5, .int v5)] [] σ := by
    unfold u_X9_fewest_107 at hf
    refine r_iload X dX9_fewest_107 3 rfl ?_
    refine r_bipush X dX9_fewest_109 cb_100 ?_
    refine r_icmp_ge (tgt := 171) X dX9_fewest_111 (by decide) (fun h72 => ?_) (fun h72 => ?_)
    · replace hf := okt h72 hf
      refine r_iconst X dX9_fewest_171 ci_0 ?_
      refine r_istore X dX9_fewest_172 (by decide) (lv' := [(5, .int (0 : Int32)), (0, .ref (G.1 129)), (2, .int v2), (4, .int v4)]) rfl ?_
      refine r_sub [1, 2, 3, 0] rfl ?_
      exact tl_X9_fewest_174 X hR FU v2 v4 (0 : Int32) σ hf
    · replace hf := okf h72 hf
      refine r_iload X dX9_fewest_114 3 rfl ?_
      refine r_iconst X dX9_fewest_116 ci_1 ?_
      refine r_iadd X dX9_fewest_117 ?_
      refine r_istore X dX9_fewest_118 (by decide) (lv' := [(6, .int (v5 + (1 : Int32))), (0, .ref (G.1 129)), (2, .int v2), (4, .int v4), (5, .int v5)]) rfl ?_
      refine r_sub [1, 2, 3, 4, 0] rfl ?_
      exact tl_X9_fewest_120 X hR k107 hk107c FU v2 v4 v5 (v5 + (1 : Int32)) σ hf
theorem tl_X9_fewest_107 {l : Launch} {G : GX} {K : KX} (X : FX G K cX9_fewest RX9 (some .int) wsX9_fewest 8) {Φ : Int32 → MM → Prop} (hR : Ri G K Φ) : ∀ (m : Nat) (v2 : Int32) (v4 : Int32) (v5 : Int32) (σ : MM), Ok Φ (itr (fun _ _ _ _ => none) (u_X9_fewest_107) m v2 v4 v5 σ) → V l G 8 K 8 107 [(0, .ref (G.1 129)), (2, .int v2), (4, .int v4), (5, .int v5)] [] σ := by
  intro m
  induction m with
  | zero => intro v2 v4 v5 σ hf; exact (okx hf).elim
  | succ m ih => intro v2 v4 v5 σ hf; exact t_X9_fewest_107 X hR _ ih v2 v4 v5 σ hf
set_option maxRecDepth 100000 in
set_option maxHeartbeats 4000000 in
theorem t_X9_fewest_68 {l : Launch} {G : GX} {K : KX} (X : FX G K cX9_fewest RX9 (some .int) wsX9_fewest 8) {Φ : Int32 → MM → Prop} (hR : Ri G K Φ) (k68 : Int32 → Int32 → Int32 → MM → Option (Int32 × MM)) (hk68c : ∀ (v2 : Int32) (v4 : Int32) (v5 : Int32) (σ : MM), Ok Φ (k68 v2 v4 v5 σ) → V l G 8 K 8 68 [(0, .ref (G.1 129)), (2, .int v2), (4, .int v4), (5, .int v5)] [] σ) (v2 : Int32) (v4 : Int32) (v5 : Int32) (σ : MM) (hf : Ok Φ (u_X9_fewest_68 k68 v2 v4 v5 σ)) : V l G 8 K 8 68 [(0, .ref (G.1 129)), (2, .int v2), (4, .int v4), (5, .int v5)] [] σ := by
    unfold u_X9_fewest_68 at hf
    refine r_iload X dX9_fewest_68 3 rfl ?_
    refine r_bipush X dX9_fewest_70 cb_100 ?_
    refine r_icmp_ge (tgt := 104) X dX9_fewest_72 (by decide) (fun h71 => ?_) (fun h71 => ?_)
    · replace hf := okt h71 hf
      refine r_iconst X dX9_fewest_104 ci_0 ?_
      refine r_istore X dX9_fewest_105 (by decide) (lv' := [(5, .int (0 : Int32)), (0, .ref (G.1 129)), (2, .int v2), (4, .int v4)]) rfl ?_
      refine r_sub [1, 2, 3, 0] rfl ?_
      exact tl_X9_fewest_107 X hR FU v2 v4 (0 : Int32) σ hf
    · replace hf := okf h71 hf
      refine r_aload_n X dX9_fewest_75 0 rfl isr_ref ?_
      refine r_get (i := 129) (v := .ref (G.1 141)) X in_X9_fewest_9 rfl 17 (by decide) (kd_in kc_129 (by decide)) (EE_9 _ kc_129) rfl (mem_ix 3 rfl) dX9_fewest_76 ?_
      refine r_iload X dX9_fewest_79 3 rfl ?_
      obtain ⟨g93, hf⟩ := okg hf
      refine r_iald (i := 141) (jn := v5.toNatClampNeg) X (kd_in kc_141 (by decide)) (EE_23 _ kc_141) rfl g93 dX9_fewest_81 ?_
      refine r_iload X dX9_fewest_82 2 rfl ?_
      refine r_icmp_ne (tgt := 98) X dX9_fewest_84 (by decide) (fun h94 => ?_) (fun h94 => ?_)
      · replace hf := okf h94 hf
        refine r_iinc (v := (v5 + (1 : Int32))) X dX9_fewest_98 3 rfl (congrArg _ ci_1) (by decide) (lv' := [(5, .int (v5 + (1 : Int32))), (0, .ref (G.1 129)), (2, .int v2), (4, .int v4)]) rfl ?_
        refine r_goto (tgt := 68) X dX9_fewest_101 (by decide) ?_
        refine r_sub [1, 2, 3, 0] rfl ?_
        exact hk68c v2 v4 (v5 + (1 : Int32)) σ hf
      · replace hf := okt h94 hf
        refine r_aload_n X dX9_fewest_87 0 rfl isr_ref ?_
        refine r_iconst X dX9_fewest_88 ci_1 ?_
        refine r_iload_n X dX9_fewest_89 1 rfl ?_
        refine r_iload X dX9_fewest_90 3 rfl ?_
        refine r_iconst X dX9_fewest_92 ci_0 ?_
        refine r_iconst X dX9_fewest_93 ci_0 ?_
        refine r_callVi (rest := []) X (c_X9_wordAt l G (1 : Int32) v2 v5 (0 : Int32) (0 : Int32) σ (oks hf)) md_X9_wordAt gX9_fewest_X9_wordAt (by decide) rfl rfl (kd_in kc_129 (by decide)) (EE_9 _ kc_129) rfl rfl (Nat.le_of_ble_eq_true rfl) dX9_fewest_94 (fun r95 σ96 e97 => ?_)
        replace hf := okn e97 hf
        exact r_iret X rfl hR (ok0 hf) dX9_fewest_97
theorem tl_X9_fewest_68 {l : Launch} {G : GX} {K : KX} (X : FX G K cX9_fewest RX9 (some .int) wsX9_fewest 8) {Φ : Int32 → MM → Prop} (hR : Ri G K Φ) : ∀ (m : Nat) (v2 : Int32) (v4 : Int32) (v5 : Int32) (σ : MM), Ok Φ (itr (fun _ _ _ _ => none) (u_X9_fewest_68) m v2 v4 v5 σ) → V l G 8 K 8 68 [(0, .ref (G.1 129)), (2, .int v2), (4, .int v4), (5, .int v5)] [] σ := by
  intro m
  induction m with
  | zero => intro v2 v4 v5 σ hf; exact (okx hf).elim
  | succ m ih => intro v2 v4 v5 σ hf; exact t_X9_fewest_68 X hR _ ih v2 v4 v5 σ hf
set_option maxRecDepth 100000 in
set_option maxHeartbeats 4000000 in
theorem e_X9_fewest {l : Launch} {G : GX} {K : KX} (X : FX G K cX9_fewest RX9 (some .int) wsX9_fewest 8) {Φ : Int32 → MM → Prop} (hR : Ri G K Φ) (a1 : Int32) (a2 : Int32) (σ : MM) (hf : Ok Φ (f_X9_fewest a1 a2 σ)) : V l G 8 K 8 0 [(0, .ref (G.1 129)), (1, .int a1), (2, .int a2)] [] σ := by
    unfold f_X9_fewest at hf
    refine r_aload_n X dX9_fewest_0 0 rfl isr_ref ?_
    refine r_iload_n X dX9_fewest_1 1 rfl ?_
    refine r_callVi (rest := []) X (c_X9_isPerson l G a1 σ (oks hf)) md_X9_isPerson gX9_fewest_X9_isPerson (by decide) rfl rfl (kd_in kc_129 (by decide)) (EE_9 _ kc_129) rfl rfl (Nat.le_of_ble_eq_true rfl) dX9_fewest_2 (fun r51 σ52 e53 => ?_)
    replace hf := okn e53 hf
    refine r_if_eq (tgt := 17) X dX9_fewest_5 (by decide) (fun h54 => ?_) (fun h54 => ?_)
    · replace hf := okt h54 hf
      refine r_sub [0] rfl ?_
      exact t_X9_fewest_17 X hR σ52 hf
    · replace hf := okf h54 hf
      refine r_iload_n X dX9_fewest_8 2 rfl ?_
      refine r_iconst X dX9_fewest_9 ci_m1 ?_
      refine r_iconst X dX9_fewest_10 ci_2 ?_
      refine r_callSi (rest := []) X (c_X9_in l G a2 (-1 : Int32) (2 : Int32) σ52 (oks hf)) md_X9_in gX9_fewest_X9_in (by decide) rfl rfl (Nat.le_of_ble_eq_true rfl) dX9_fewest_11 (fun r58 σ59 e60 => ?_)
      replace hf := okn e60 hf
      refine r_if_ne (tgt := 24) X dX9_fewest_14 (by decide) (fun h61 => ?_) (fun h61 => ?_)
      · replace hf := okf h61 hf
        refine r_aload_n X dX9_fewest_24 0 rfl isr_ref ?_
        refine r_iload_n X dX9_fewest_25 1 rfl ?_
        refine r_iconst X dX9_fewest_26 ci_0 ?_
        refine r_callVi (rest := []) X (c_X9_about l G a1 (0 : Int32) σ59 (oks hf)) md_X9_about gX9_fewest_X9_about (by decide) rfl rfl (kd_in kc_129 (by decide)) (EE_9 _ kc_129) rfl rfl (Nat.le_of_ble_eq_true rfl) dX9_fewest_27 (fun r62 σ63 e64 => ?_)
        replace hf := okn e64 hf
        refine r_istore_n X dX9_fewest_30 (i := 3) rfl (by decide) (lv' := [(3, .int r62), (0, .ref (G.1 129)), (1, .int a1), (2, .int a2)]) rfl ?_
        refine r_iconst X dX9_fewest_31 ci_1 ?_
        refine r_aload_n X dX9_fewest_32 1 rfl isr_ref ?_
        refine r_get (i := 129) (v := .ref (G.1 130)) X in_X9_fewest_9 rfl 0 (by decide) (kd_in kc_129 (by decide)) (EE_9 _ kc_129) rfl (mem_ix 2 rfl) dX9_fewest_33 ?_
        refine r_iconst X dX9_fewest_36 ci_2 ?_
        refine r_iald (i := 130) (jn := 2) X (kd_in kc_130 (by decide)) (EE_26 _ kc_130) (by decide) (by decide) dX9_fewest_37 ?_
        refine r_ishl X dX9_fewest_38 ?_
        refine r_iconst X dX9_fewest_39 ci_1 ?_
        refine r_iload_n X dX9_fewest_40 0 rfl ?_
        refine r_ishl X dX9_fewest_41 ?_
        refine r_isub X dX9_fewest_42 ?_
        obtain ⟨y65, e66, hf⟩ := okl hf
        refine r_topi e66 ?_
        refine r_istore X dX9_fewest_43 (by decide) (lv' := [(4, .int y65), (3, .int r62), (0, .ref (G.1 129)), (1, .int a1), (2, .int a2)]) rfl ?_
        refine r_aload_n X dX9_fewest_45 2 rfl isr_ref ?_
        refine r_iload_n X dX9_fewest_46 1 rfl ?_
        refine r_callVv (rest := []) X (c_X9_findWhom l G r62 σ63 (oks hf)) md_X9_findWhom gX9_fewest_X9_findWhom (by decide) rfl rfl (kd_in kc_129 (by decide)) (EE_9 _ kc_129) rfl rfl (Nat.le_of_ble_eq_true rfl) dX9_fewest_47 (fun r67 σ68 e69 => ?_)
        replace hf := okn e69 hf
        refine r_iload X dX9_fewest_50 0 rfl ?_
        refine r_if_ne (tgt := 65) X dX9_fewest_52 (by decide) (fun h70 => ?_) (fun h70 => ?_)
        · replace hf := okf h70 hf
          refine r_iconst X dX9_fewest_65 ci_0 ?_
          refine r_istore X dX9_fewest_66 (by decide) (lv' := [(5, .int (0 : Int32)), (4, .int y65), (3, .int r62), (0, .ref (G.1 129)), (1, .int a1), (2, .int a2)]) rfl ?_
          refine r_sub [3, 5, 1, 0] rfl ?_
          exact tl_X9_fewest_68 X hR FU a2 y65 (0 : Int32) σ68 hf
        · replace hf := okt h70 hf
          refine r_aload_n X dX9_fewest_55 2 rfl isr_ref ?_
          refine r_iconst X dX9_fewest_56 ci_0 ?_
          refine r_iload_n X dX9_fewest_57 4 rfl ?_
          refine r_iconst X dX9_fewest_58 ci_0 ?_
          refine r_iconst X dX9_fewest_59 ci_0 ?_
          refine r_iconst X dX9_fewest_60 ci_0 ?_
          refine r_callVi (rest := []) X (c_X9_wordAt l G (0 : Int32) a2 (0 : Int32) (0 : Int32) (0 : Int32) σ68 (oks hf)) md_X9_wordAt gX9_fewest_X9_wordAt (by decide) rfl rfl (kd_in kc_129 (by decide)) (EE_9 _ kc_129) rfl rfl (Nat.le_of_ble_eq_true rfl) dX9_fewest_61 (fun r98 σ99 e100 => ?_)
          replace hf := okn e100 hf
          exact r_iret X rfl hR (ok0 hf) dX9_fewest_64
      · replace hf := okt h61 hf
        refine r_sub [0] rfl ?_
        exact t_X9_fewest_17 X hR σ59 hf
theorem md_X9_fewest : MD yX9_fewest wsX9_fewest cX9_fewest 8 2 (some .int) := ⟨⟨_, rfl⟩, by decide +kernel, by decide +kernel, by decide⟩
theorem c_X9_fewest (l : Launch) (G : GX)  (a1 : Int32) (a2 : Int32) (σ : MM) (h : (f_X9_fewest a1 a2 σ).isSome = true) : CTi l G yX9_fewest wsX9_fewest 8 [.ref (G.1 129), .int a1, .int a2] σ (f_X9_fewest a1 a2 σ) :=
  CTi_of md_X9_fewest (Nat.le_of_ble_eq_true rfl) (fun K X hR => e_X9_fewest X hR a1 a2 σ (ok_is h))
-- X9_isContentBy
theorem in_X9_isContentBy_9 : ∀ w ∈ u_ws RX9 TX9 21, w ∈ wsX9_isContentBy := fun _ h => List.mem_cons_of_mem _ (List.mem_append_right _ h)
def u_X9_isContentBy_2 (k2 : Int32 → Int32 → Int32 → MM → Option (Int32 × MM)) (v1 : Int32) (v2 : Int32) (v3 : Int32) (σ : MM) : Option (Int32 × MM) :=
  if v2 < 0 ∨ 4 ≤ v2.toNatClampNeg then none else if (σ 135 (v2.toNatClampNeg)) ≤ v3 then some ((0 : Int32), σ) else if (((24 : Int32) * v2) + v3) < 0 ∨ 96 ≤ (((24 : Int32) * v2) + v3).toNatClampNeg then none else lt (σ 136 ((((24 : Int32) * v2) + v3).toNatClampNeg)) (fun y17 => bd (f_X9_isWord y17 σ) (fun r19 σ20 => if r19 = 0 then k2 v1 v2 (v3 + (1 : Int32)) σ20 else bd (f_X9_isContent v1 y17 σ20) (fun r23 σ24 => if r23 = 0 then k2 v1 v2 (v3 + (1 : Int32)) σ24 else some ((1 : Int32), σ24))))
def l_X9_isContentBy_2 (v1 : Int32) (v2 : Int32) (v3 : Int32) (σ : MM) : Option (Int32 × MM) :=
  itr (fun _ _ _ _ => none) (u_X9_isContentBy_2) FU v1 v2 v3 σ
def f_X9_isContentBy (a1 : Int32) (a2 : Int32) (σ : MM) : Option (Int32 × MM) :=
  l_X9_isContentBy_2 a1 a2 (0 : Int32) σ
set_option maxRecDepth 100000 in
set_option maxHeartbeats 4000000 in
theorem t_X9_isContentBy_2 {l : Launch} {G : GX} {K : KX} (X : FX G K cX9_isContentBy RX9 (some .boolean) wsX9_isContentBy 5) {Φ : Int32 → MM → Prop} (hR : Ri G K Φ) (k2 : Int32 → Int32 → Int32 → MM → Option (Int32 × MM)) (hk2c : ∀ (v1 : Int32) (v2 : Int32) (v3 : Int32) (σ : MM), Ok Φ (k2 v1 v2 v3 σ) → V l G 7 K 5 2 [(0, .ref (G.1 129)), (1, .int v1), (2, .int v2), (3, .int v3)] [] σ) (v1 : Int32) (v2 : Int32) (v3 : Int32) (σ : MM) (hf : Ok Φ (u_X9_isContentBy_2 k2 v1 v2 v3 σ)) : V l G 7 K 5 2 [(0, .ref (G.1 129)), (1, .int v1), (2, .int v2), (3, .int v3)] [] σ := by
    unfold u_X9_isContentBy_2 at hf
    refine r_iload_n X dX9_isContentBy_2 3 rfl ?_
    refine r_aload_n X dX9_isContentBy_3 0 rfl isr_ref ?_
    refine r_get (i := 129) (v := .ref (G.1 135)) X in_X9_isContentBy_9 rfl 6 (by decide) (kd_in kc_129 (by decide)) (EE_9 _ kc_129) rfl (mem_ix 1 rfl) dX9_isContentBy_4 ?_
    refine r_iload_n X dX9_isContentBy_7 2 rfl ?_
    obtain ⟨g14, hf⟩ := okg hf
    refine r_iald (i := 135) (jn := v2.toNatClampNeg) X (kd_in kc_135 (by decide)) (EE_27 _ kc_135) rfl g14 dX9_isContentBy_8 ?_
    refine r_icmp_ge (tgt := 51) X dX9_isContentBy_9 (by decide) (fun h15 => ?_) (fun h15 => ?_)
    · replace hf := okt h15 hf
      refine r_iconst X dX9_isContentBy_51 ci_0 ?_
      exact r_zret X rfl hR (by decide) (ok0 hf) dX9_isContentBy_52
    · replace hf := okf h15 hf
      refine r_aload_n X dX9_isContentBy_12 0 rfl isr_ref ?_
      refine r_get (i := 129) (v := .ref (G.1 136)) X in_X9_isContentBy_9 rfl 7 (by decide) (kd_in kc_129 (by decide)) (EE_9 _ kc_129) rfl (mem_ix 2 rfl) dX9_isContentBy_13 ?_
      refine r_bipush X dX9_isContentBy_16 cb_24 ?_
      refine r_iload_n X dX9_isContentBy_18 2 rfl ?_
      refine r_imul X dX9_isContentBy_19 ?_
      refine r_iload_n X dX9_isContentBy_20 3 rfl ?_
      refine r_iadd X dX9_isContentBy_21 ?_
      obtain ⟨g16, hf⟩ := okg hf
      refine r_iald (i := 136) (jn := (((24 : Int32) * v2) + v3).toNatClampNeg) X (kd_in kc_136 (by decide)) (EE_28 _ kc_136) rfl g16 dX9_isContentBy_22 ?_
      obtain ⟨y17, e18, hf⟩ := okl hf
      refine r_topi e18 ?_
      refine r_istore X dX9_isContentBy_23 (by decide) (lv' := [(4, .int y17), (0, .ref (G.1 129)), (1, .int v1), (2, .int v2), (3, .int v3)]) rfl ?_
      refine r_iload X dX9_isContentBy_25 0 rfl ?_
      refine r_callSi (rest := []) X (c_X9_isWord l G y17 σ (oks hf)) md_X9_isWord gX9_isContentBy_X9_isWord (by decide) rfl rfl (Nat.le_of_ble_eq_true rfl) dX9_isContentBy_27 (fun r19 σ20 e21 => ?_)
      replace hf := okn e21 hf
      refine r_if_eq (tgt := 45) X dX9_isContentBy_30 (by decide) (fun h22 => ?_) (fun h22 => ?_)
      · replace hf := okt h22 hf
        refine r_iinc (v := (v3 + (1 : Int32))) X dX9_isContentBy_45 4 rfl (congrArg _ ci_1) (by decide) (lv' := [(3, .int (v3 + (1 : Int32))), (4, .int y17), (0, .ref (G.1 129)), (1, .int v1), (2, .int v2)]) rfl ?_
        refine r_goto (tgt := 2) X dX9_isContentBy_48 (by decide) ?_
        refine r_sub [2, 3, 4, 0] rfl ?_
        exact hk2c v1 v2 (v3 + (1 : Int32)) σ20 hf
      · replace hf := okf h22 hf
        refine r_aload_n X dX9_isContentBy_33 1 rfl isr_ref ?_
        refine r_iload_n X dX9_isContentBy_34 2 rfl ?_
        refine r_iload X dX9_isContentBy_35 0 rfl ?_
        refine r_callVi (rest := []) X (c_X9_isContent l G v1 y17 σ20 (oks hf)) md_X9_isContent gX9_isContentBy_X9_isContent (by decide) rfl rfl (kd_in kc_129 (by decide)) (EE_9 _ kc_129) rfl rfl (Nat.le_of_ble_eq_true rfl) dX9_isContentBy_37 (fun r23 σ24 e25 => ?_)
        replace hf := okn e25 hf
        refine r_if_eq (tgt := 45) X dX9_isContentBy_40 (by decide) (fun h26 => ?_) (fun h26 => ?_)
        · replace hf := okt h26 hf
          refine r_iinc (v := (v3 + (1 : Int32))) X dX9_isContentBy_45 4 rfl (congrArg _ ci_1) (by decide) (lv' := [(3, .int (v3 + (1 : Int32))), (4, .int y17), (0, .ref (G.1 129)), (1, .int v1), (2, .int v2)]) rfl ?_
          refine r_goto (tgt := 2) X dX9_isContentBy_48 (by decide) ?_
          refine r_sub [2, 3, 4, 0] rfl ?_
          exact hk2c v1 v2 (v3 + (1 : Int32)) σ24 hf
        · replace hf := okf h26 hf
          refine r_iconst X dX9_isContentBy_43 ci_1 ?_
          exact r_zret X rfl hR (by decide) (ok0 hf) dX9_isContentBy_44
theorem tl_X9_isContentBy_2 {l : Launch} {G : GX} {K : KX} (X : FX G K cX9_isContentBy RX9 (some .boolean) wsX9_isContentBy 5) {Φ : Int32 → MM → Prop} (hR : Ri G K Φ) : ∀ (m : Nat) (v1 : Int32) (v2 : Int32) (v3 : Int32) (σ : MM), Ok Φ (itr (fun _ _ _ _ => none) (u_X9_isContentBy_2) m v1 v2 v3 σ) → V l G 7 K 5 2 [(0, .ref (G.1 129)), (1, .int v1), (2, .int v2), (3, .int v3)] [] σ := by
  intro m
  induction m with
  | zero => intro v1 v2 v3 σ hf; exact (okx hf).elim
  | succ m ih => intro v1 v2 v3 σ hf; exact t_X9_isContentBy_2 X hR _ ih v1 v2 v3 σ hf
set_option maxRecDepth 100000 in
set_option maxHeartbeats 4000000 in
theorem e_X9_isContentBy {l : Launch} {G : GX} {K : KX} (X : FX G K cX9_isContentBy RX9 (some .boolean) wsX9_isContentBy 5) {Φ : Int32 → MM → Prop} (hR : Ri G K Φ) (a1 : Int32) (a2 : Int32) (σ : MM) (hf : Ok Φ (f_X9_isContentBy a1 a2 σ)) : V l G 7 K 5 0 [(0, .ref (G.1 129)), (1, .int a1), (2, .int a2)] [] σ := by
    unfold f_X9_isContentBy at hf
    refine r_iconst X dX9_isContentBy_0 ci_0 ?_
    refine r_istore_n X dX9_isContentBy_1 (i := 3) rfl (by decide) (lv' := [(3, .int (0 : Int32)), (0, .ref (G.1 129)), (1, .int a1), (2, .int a2)]) rfl ?_
    refine r_sub [1, 2, 3, 0] rfl ?_
    exact tl_X9_isContentBy_2 X hR FU a1 a2 (0 : Int32) σ hf
theorem md_X9_isContentBy : MD yX9_isContentBy wsX9_isContentBy cX9_isContentBy 5 2 (some .boolean) := ⟨⟨_, rfl⟩, by decide +kernel, by decide +kernel, by decide⟩
theorem c_X9_isContentBy (l : Launch) (G : GX)  (a1 : Int32) (a2 : Int32) (σ : MM) (h : (f_X9_isContentBy a1 a2 σ).isSome = true) : CTi l G yX9_isContentBy wsX9_isContentBy 7 [.ref (G.1 129), .int a1, .int a2] σ (f_X9_isContentBy a1 a2 σ) :=
  CTi_of md_X9_isContentBy (Nat.le_of_ble_eq_true rfl) (fun K X hR => e_X9_isContentBy X hR a1 a2 σ (ok_is h))
-- X9_cheapest
theorem in_X9_cheapest_9 : ∀ w ∈ u_ws RX9 TX9 21, w ∈ wsX9_cheapest := fun _ h => List.mem_cons_of_mem _ (List.mem_append_right _ h)
def u_X9_cheapest_24  (σ : MM) : Option (Int32 × MM) :=
  bd (f_X9_error (-1000000001 : Int32) σ) (fun r37 σ38 => some (r37, σ38))
def u_X9_cheapest_61 (k61 : Int32 → Int32 → Int32 → Int32 → Int32 → MM → Option (Int32 × MM)) (v2 : Int32) (v3 : Int32) (v4 : Int32) (v5 : Int32) (v6 : Int32) (σ : MM) : Option (Int32 × MM) :=
  if (σ 130 2) ≤ v6 then if v3 = 0 then some (v4, σ) else some (v5, σ) else bd (f_X9_isContentBy v6 v2 σ) (fun r55 σ56 => if r55 = 0 then bd (f_X9_bribeOf v6 σ56) (fun r59 σ60 => k61 v2 v3 (v4 + r59) (v5 ||| ((1 : Int32) <<< (v6 &&& 31))) (v6 + (1 : Int32)) σ60) else k61 v2 v3 v4 v5 (v6 + (1 : Int32)) σ56)
def l_X9_cheapest_61 (v2 : Int32) (v3 : Int32) (v4 : Int32) (v5 : Int32) (v6 : Int32) (σ : MM) : Option (Int32 × MM) :=
  itr (fun _ _ _ _ _ _ => none) (u_X9_cheapest_61) FU v2 v3 v4 v5 v6 σ
def f_X9_cheapest (a1 : Int32) (a2 : Int32) (a3 : Int32) (σ : MM) : Option (Int32 × MM) :=
  bd (f_X9_isPerson a1 σ) (fun r33 σ34 => if r33 = 0 then u_X9_cheapest_24 σ34 else bd (f_X9_isSheet a2 σ34) (fun r40 σ41 => if r40 = 0 then u_X9_cheapest_24 σ41 else bd (f_X9_in a3 (0 : Int32) (1 : Int32) σ41) (fun r44 σ45 => if r44 = 0 then u_X9_cheapest_24 σ45 else if a2 < 0 ∨ 4 ≤ a2.toNatClampNeg then none else if (σ45 134 (a2.toNatClampNeg)) = 0 then bd (f_X9_error (-1000000002 : Int32) σ45) (fun r62 σ63 => some (r62, σ63)) else bd (f_X9_about a1 (0 : Int32) σ45) (fun r50 σ51 => l_X9_cheapest_61 a2 a3 (0 : Int32) (0 : Int32) r50 σ51))))
set_option maxRecDepth 100000 in
set_option maxHeartbeats 4000000 in
theorem t_X9_cheapest_24 {l : Launch} {G : GX} {K : KX} (X : FX G K cX9_cheapest RX9 (some .int) wsX9_cheapest 7) {Φ : Int32 → MM → Prop} (hR : Ri G K Φ)  (σ : MM) (hf : Ok Φ (u_X9_cheapest_24  σ)) : V l G 8 K 7 24 [(0, .ref (G.1 129))] [] σ := by
    unfold u_X9_cheapest_24 at hf
    refine r_aload_n X dX9_cheapest_24 0 rfl isr_ref ?_
    refine r_ldc (v := (-1000000001 : Int32)) X (mem_ix 1 rfl) dX9_cheapest_25 ?_
    refine r_callVi (rest := []) X (c_X9_error l G (-1000000001 : Int32) σ (oks hf)) md_X9_error gX9_cheapest_X9_error (by decide) rfl rfl (kd_in kc_129 (by decide)) (EE_9 _ kc_129) rfl rfl (Nat.le_of_ble_eq_true rfl) dX9_cheapest_27 (fun r37 σ38 e39 => ?_)
    replace hf := okn e39 hf
    exact r_iret X rfl hR (ok0 hf) dX9_cheapest_30
set_option maxRecDepth 100000 in
set_option maxHeartbeats 4000000 in
theorem t_X9_cheapest_61 {l : Launch} {G : GX} {K : KX} (X : FX G K cX9_cheapest RX9 (some .int) wsX9_cheapest 7) {Φ : Int32 → MM → Prop} (hR : Ri G K Φ) (k61 : Int32 → Int32 → Int32 → Int32 → Int32 → MM → Option (Int32 × MM)) (hk61c : ∀ (v2 : Int32) (v3 : Int32) (v4 : Int32) (v5 : Int32) (v6 : Int32) (σ : MM), Ok Φ (k61 v2 v3 v4 v5 v6 σ) → V l G 8 K 7 61 [(0, .ref (G.1 129)), (2, .int v2), (3, .int v3), (4, .int v4), (5, .int v5), (6, .int v6)] [] σ) (v2 : Int32) (v3 : Int32) (v4 : Int32) (v5 : Int32) (v6 : Int32) (σ : MM) (hf : Ok Φ (u_X9_cheapest_61 k61 v2 v3 v4 v5 v6 σ)) : V l G 8 K 7 61 [(0, .ref (G.1 129)), (2, .int v2), (3, .int v3), (4, .int v4), (5, .int v5), (6, .int v6)] [] σ := by
    unfold u_X9_cheapest_61 at hf
    refine r_iload X dX9_cheapest_61 5 rfl ?_
    refine r_aload_n X dX9_cheapest_63 0 rfl isr_ref ?_
    refine r_get (i := 129) (v := .ref (G.1 130)) X in_X9_cheapest_9 rfl 0 (by decide) (kd_in kc_129 (by decide)) (EE_9 _ kc_129) rfl (mem_ix 4 rfl) dX9_cheapest_64 ?_
    refine r_iconst X dX9_cheapest_67 ci_2 ?_
    refine r_iald (i := 130) (jn := 2) X (kd_in kc_130 (by decide)) (EE_26 _ kc_130) (by decide) (by decide) dX9_cheapest_68 ?_
    refine r_icmp_ge (tgt := 108) X dX9_cheapest_69 (by decide) (fun h53 => ?_) (fun h53 => ?_)
    · replace hf := okt h53 hf
      refine r_iload_n X dX9_cheapest_108 2 rfl ?_
      refine r_if_ne (tgt := 117) X dX9_cheapest_109 (by decide) (fun h54 => ?_) (fun h54 => ?_)
      · replace hf := okf h54 hf
        refine r_iload X dX9_cheapest_117 4 rfl ?_
        exact r_iret X rfl hR (ok0 hf) dX9_cheapest_119
      · replace hf := okt h54 hf
        refine r_iload X dX9_cheapest_112 3 rfl ?_
        refine r_goto (tgt := 119) X dX9_cheapest_114 (by decide) ?_
        exact r_iret X rfl hR (ok0 hf) dX9_cheapest_119
    · replace hf := okf h53 hf
      refine r_aload_n X dX9_cheapest_72 0 rfl isr_ref ?_
      refine r_iload X dX9_cheapest_73 5 rfl ?_
      refine r_iload_n X dX9_cheapest_75 1 rfl ?_
      refine r_callVi (rest := []) X (c_X9_isContentBy l G v6 v2 σ (oks hf)) md_X9_isContentBy gX9_cheapest_X9_isContentBy (by decide) rfl rfl (kd_in kc_129 (by decide)) (EE_9 _ kc_129) rfl rfl (Nat.le_of_ble_eq_true rfl) dX9_cheapest_76 (fun r55 σ56 e57 => ?_)
      replace hf := okn e57 hf
      refine r_if_ne (tgt := 102) X dX9_cheapest_79 (by decide) (fun h58 => ?_) (fun h58 => ?_)
      · replace hf := okf h58 hf
        refine r_iinc (v := (v6 + (1 : Int32))) X dX9_cheapest_102 5 rfl (congrArg _ ci_1) (by decide) (lv' := [(6, .int (v6 + (1 : Int32))), (0, .ref (G.1 129)), (2, .int v2), (3, .int v3), (4, .int v4), (5, .int v5)]) rfl ?_
        refine r_goto (tgt := 61) X dX9_cheapest_105 (by decide) ?_
        refine r_sub [1, 2, 3, 4, 5, 0] rfl ?_
        exact hk61c v2 v3 v4 v5 (v6 + (1 : Int32)) σ56 hf
      · replace hf := okt h58 hf
        refine r_iload X dX9_cheapest_82 3 rfl ?_
        refine r_aload_n X dX9_cheapest_84 0 rfl isr_ref ?_
        refine r_iload X dX9_cheapest_85 5 rfl ?_
        refine r_callVi (rest := [.int v4]) X (c_X9_bribeOf l G v6 σ56 (oks hf)) md_X9_bribeOf gX9_cheapest_X9_bribeOf (by decide) rfl rfl (kd_in kc_129 (by decide)) (EE_9 _ kc_129) rfl rfl (Nat.le_of_ble_eq_true rfl) dX9_cheapest_87 (fun r59 σ60 e61 => ?_)
        replace hf := okn e61 hf
        refine r_iadd X dX9_cheapest_90 ?_
        refine r_istore X dX9_cheapest_91 (by decide) (lv' := [(4, .int (v4 + r59)), (0, .ref (G.1 129)), (2, .int v2), (3, .int v3), (5, .int v5), (6, .int v6)]) rfl ?_
        refine r_iload X dX9_cheapest_93 4 rfl ?_
        refine r_iconst X dX9_cheapest_95 ci_1 ?_
        refine r_iload X dX9_cheapest_96 5 rfl ?_
        refine r_ishl X dX9_cheapest_98 ?_
        refine r_ior X dX9_cheapest_99 ?_
        refine r_istore X dX9_cheapest_100 (by decide) (lv' := [(5, .int (v5 ||| ((1 : Int32) <<< (v6 &&& 31)))), (4, .int (v4 + r59)), (0, .ref (G.1 129)), (2, .int v2), (3, .int v3), (6, .int v6)]) rfl ?_
        refine r_iinc (v := (v6 + (1 : Int32))) X dX9_cheapest_102 5 rfl (congrArg _ ci_1) (by decide) (lv' := [(6, .int (v6 + (1 : Int32))), (5, .int (v5 ||| ((1 : Int32) <<< (v6 &&& 31)))), (4, .int (v4 + r59)), (0, .ref (G.1 129)), (2, .int v2), (3, .int v3)]) rfl ?_
        refine r_goto (tgt := 61) X dX9_cheapest_105 (by decide) ?_
        refine r_sub [3, 4, 5, 2, 1, 0] rfl ?_
        exact hk61c v2 v3 (v4 + r59) (v5 ||| ((1 : Int32) <<< (v6 &&& 31))) (v6 + (1 : Int32)) σ60 hf
theorem tl_X9_cheapest_61 {l : Launch} {G : GX} {K : KX} (X : FX G K cX9_cheapest RX9 (some .int) wsX9_cheapest 7) {Φ : Int32 → MM → Prop} (hR : Ri G K Φ) : ∀ (m : Nat) (v2 : Int32) (v3 : Int32) (v4 : Int32) (v5 : Int32) (v6 : Int32) (σ : MM), Ok Φ (itr (fun _ _ _ _ _ _ => none) (u_X9_cheapest_61) m v2 v3 v4 v5 v6 σ) → V l G 8 K 7 61 [(0, .ref (G.1 129)), (2, .int v2), (3, .int v3), (4, .int v4), (5, .int v5), (6, .int v6)] [] σ := by
  intro m
  induction m with
  | zero => intro v2 v3 v4 v5 v6 σ hf; exact (okx hf).elim
  | succ m ih => intro v2 v3 v4 v5 v6 σ hf; exact t_X9_cheapest_61 X hR _ ih v2 v3 v4 v5 v6 σ hf
set_option maxRecDepth 100000 in
set_option maxHeartbeats 4000000 in
theorem e_X9_cheapest {l : Launch} {G : GX} {K : KX} (X : FX G K cX9_cheapest RX9 (some .int) wsX9_cheapest 7) {Φ : Int32 → MM → Prop} (hR : Ri G K Φ) (a1 : Int32) (a2 : Int32) (a3 : Int32) (σ : MM) (hf : Ok Φ (f_X9_cheapest a1 a2 a3 σ)) : V l G 8 K 7 0 [(0, .ref (G.1 129)), (1, .int a1), (2, .int a2), (3, .int a3)] [] σ := by
    unfold f_X9_cheapest at hf
    refine r_aload_n X dX9_cheapest_0 0 rfl isr_ref ?_
    refine r_iload_n X dX9_cheapest_1 1 rfl ?_
    refine r_callVi (rest := []) X (c_X9_isPerson l G a1 σ (oks hf)) md_X9_isPerson gX9_cheapest_X9_isPerson (by decide) rfl rfl (kd_in kc_129 (by decide)) (EE_9 _ kc_129) rfl rfl (Nat.le_of_ble_eq_true rfl) dX9_cheapest_2 (fun r33 σ34 e35 => ?_)
    replace hf := okn e35 hf
    refine r_if_eq (tgt := 24) X dX9_cheapest_5 (by decide) (fun h36 => ?_) (fun h36 => ?_)
    · replace hf := okt h36 hf
      refine r_sub [0] rfl ?_
      exact t_X9_cheapest_24 X hR σ34 hf
    · replace hf := okf h36 hf
      refine r_iload_n X dX9_cheapest_8 2 rfl ?_
      refine r_callSi (rest := []) X (c_X9_isSheet l G a2 σ34 (oks hf)) md_X9_isSheet gX9_cheapest_X9_isSheet (by decide) rfl rfl (Nat.le_of_ble_eq_true rfl) dX9_cheapest_9 (fun r40 σ41 e42 => ?_)
      replace hf := okn e42 hf
      refine r_if_eq (tgt := 24) X dX9_cheapest_12 (by decide) (fun h43 => ?_) (fun h43 => ?_)
      · replace hf := okt h43 hf
        refine r_sub [0] rfl ?_
        exact t_X9_cheapest_24 X hR σ41 hf
      · replace hf := okf h43 hf
        refine r_iload_n X dX9_cheapest_15 3 rfl ?_
        refine r_iconst X dX9_cheapest_16 ci_0 ?_
        refine r_iconst X dX9_cheapest_17 ci_1 ?_
        refine r_callSi (rest := []) X (c_X9_in l G a3 (0 : Int32) (1 : Int32) σ41 (oks hf)) md_X9_in gX9_cheapest_X9_in (by decide) rfl rfl (Nat.le_of_ble_eq_true rfl) dX9_cheapest_18 (fun r44 σ45 e46 => ?_)
        replace hf := okn e46 hf
        refine r_if_ne (tgt := 31) X dX9_cheapest_21 (by decide) (fun h47 => ?_) (fun h47 => ?_)
        · replace hf := okf h47 hf
          refine r_aload_n X dX9_cheapest_31 0 rfl isr_ref ?_
          refine r_get (i := 129) (v := .ref (G.1 134)) X in_X9_cheapest_9 rfl 5 (by decide) (kd_in kc_129 (by decide)) (EE_9 _ kc_129) rfl (mem_ix 2 rfl) dX9_cheapest_32 ?_
          refine r_iload_n X dX9_cheapest_35 2 rfl ?_
          obtain ⟨g48, hf⟩ := okg hf
          refine r_iald (i := 134) (jn := a2.toNatClampNeg) X (kd_in kc_134 (by decide)) (EE_27 _ kc_134) rfl g48 dX9_cheapest_36 ?_
          refine r_if_ne (tgt := 47) X dX9_cheapest_37 (by decide) (fun h49 => ?_) (fun h49 => ?_)
          · replace hf := okf h49 hf
            refine r_iconst X dX9_cheapest_47 ci_0 ?_
            refine r_istore X dX9_cheapest_48 (by decide) (lv' := [(4, .int (0 : Int32)), (0, .ref (G.1 129)), (1, .int a1), (2, .int a2), (3, .int a3)]) rfl ?_
            refine r_iconst X dX9_cheapest_50 ci_0 ?_
            refine r_istore X dX9_cheapest_51 (by decide) (lv' := [(5, .int (0 : Int32)), (4, .int (0 : Int32)), (0, .ref (G.1 129)), (1, .int a1), (2, .int a2), (3, .int a3)]) rfl ?_
            refine r_aload_n X dX9_cheapest_53 2 rfl isr_ref ?_
            refine r_iload_n X dX9_cheapest_54 3 rfl ?_
            refine r_iconst X dX9_cheapest_55 ci_0 ?_
            refine r_callVi (rest := []) X (c_X9_about l G a1 (0 : Int32) σ45 (oks hf)) md_X9_about gX9_cheapest_X9_about (by decide) rfl rfl (kd_in kc_129 (by decide)) (EE_9 _ kc_129) rfl rfl (Nat.le_of_ble_eq_true rfl) dX9_cheapest_56 (fun r50 σ51 e52 => ?_)
            replace hf := okn e52 hf
            refine r_istore X dX9_cheapest_59 (by decide) (lv' := [(6, .int r50), (5, .int (0 : Int32)), (4, .int (0 : Int32)), (0, .ref (G.1 129)), (1, .int a1), (2, .int a2), (3, .int a3)]) rfl ?_
            refine r_sub [3, 5, 6, 2, 1, 0] rfl ?_
            exact tl_X9_cheapest_61 X hR FU a2 a3 (0 : Int32) (0 : Int32) r50 σ51 hf
          · replace hf := okt h49 hf
            refine r_aload_n X dX9_cheapest_40 0 rfl isr_ref ?_
            refine r_ldc (v := (-1000000002 : Int32)) X (mem_ix 3 rfl) dX9_cheapest_41 ?_
            refine r_callVi (rest := []) X (c_X9_error l G (-1000000002 : Int32) σ45 (oks hf)) md_X9_error gX9_cheapest_X9_error (by decide) rfl rfl (kd_in kc_129 (by decide)) (EE_9 _ kc_129) rfl rfl (Nat.le_of_ble_eq_true rfl) dX9_cheapest_43 (fun r62 σ63 e64 => ?_)
            replace hf := okn e64 hf
            exact r_iret X rfl hR (ok0 hf) dX9_cheapest_46
        · replace hf := okt h47 hf
          refine r_sub [0] rfl ?_
          exact t_X9_cheapest_24 X hR σ45 hf
theorem md_X9_cheapest : MD yX9_cheapest wsX9_cheapest cX9_cheapest 7 3 (some .int) := ⟨⟨_, rfl⟩, by decide +kernel, by decide +kernel, by decide⟩
theorem c_X9_cheapest (l : Launch) (G : GX)  (a1 : Int32) (a2 : Int32) (a3 : Int32) (σ : MM) (h : (f_X9_cheapest a1 a2 a3 σ).isSome = true) : CTi l G yX9_cheapest wsX9_cheapest 8 [.ref (G.1 129), .int a1, .int a2, .int a3] σ (f_X9_cheapest a1 a2 a3 σ) :=
  CTi_of md_X9_cheapest (Nat.le_of_ble_eq_true rfl) (fun K X hR => e_X9_cheapest X hR a1 a2 a3 σ (ok_is h))
-- X9_odds
theorem in_X9_odds_9 : ∀ w ∈ u_ws RX9 TX9 21, w ∈ wsX9_odds := fun _ h => List.mem_cons_of_mem _ (List.mem_append_right _ h)
def u_X9_odds_26  (σ : MM) : Option (Int64 × MM) :=
  bd (f_X9_error (-1000000001 : Int32) σ) (fun r33 σ34 => some ((r33.toInt64), σ34))
def u_X9_odds_106 (k106 : Int32 → Int64 → Int64 → Int64 → Int64 → MM → Option (Int64 × MM)) (v3 : Int32) (v4 : Int64) (v6 : Int64) (v9 : Int64) (v11 : Int64) (σ : MM) : Option (Int64 × MM) :=
  if v9 = (0 : Int64) then if v3 = 0 then if v11 = 0 then none else some ((v4 / v11), σ) else if v11 = 0 then none else some ((v6 / v11), σ) else if v9 = 0 then none else k106 v3 v4 v6 (v11 - v11 / v9 * v9) v9 σ
def l_X9_odds_106 (v3 : Int32) (v4 : Int64) (v6 : Int64) (v9 : Int64) (v11 : Int64) (σ : MM) : Option (Int64 × MM) :=
  itr (fun _ _ _ _ _ _ => none) (u_X9_odds_106) FU v3 v4 v6 v9 v11 σ
def u_X9_odds_98 (v3 : Int32) (v4 : Int64) (v6 : Int64) (σ : MM) : Option (Int64 × MM) :=
  l_X9_odds_106 v3 v4 v6 v4 v6 σ
def u_X9_odds_52 (k52 : Int32 → Int32 → Int64 → Int64 → Int32 → Int32 → MM → Option (Int64 × MM)) (v2 : Int32) (v3 : Int32) (v4 : Int64) (v6 : Int64) (v8 : Int32) (v9 : Int32) (σ : MM) : Option (Int64 × MM) :=
  if (v8 + v2) ≤ v9 then u_X9_odds_98 v3 v4 v6 σ else if (σ 130 2) ≤ v9 then u_X9_odds_98 v3 v4 v6 σ else bd (f_X9_wordsOf v9 σ) (fun r54 σ55 => k52 v2 v3 (v4 * (r54.toInt64)) (v6 * (100 : Int64)) v8 (v9 + (1 : Int32)) σ55)
def l_X9_odds_52 (v2 : Int32) (v3 : Int32) (v4 : Int64) (v6 : Int64) (v8 : Int32) (v9 : Int32) (σ : MM) : Option (Int64 × MM) :=
  itr (fun _ _ _ _ _ _ _ => none) (u_X9_odds_52) FU v2 v3 v4 v6 v8 v9 σ
def f_X9_odds (a1 : Int32) (a2 : Int32) (a3 : Int32) (σ : MM) : Option (Int64 × MM) :=
  bd (f_X9_isPerson a1 σ) (fun r29 σ30 => if r29 = 0 then u_X9_odds_26 σ30 else bd (f_X9_in a2 (0 : Int32) (4 : Int32) σ30) (fun r36 σ37 => if r36 = 0 then u_X9_odds_26 σ37 else bd (f_X9_in a3 (0 : Int32) (1 : Int32) σ37) (fun r40 σ41 => if r40 = 0 then u_X9_odds_26 σ41 else bd (f_X9_about a1 (0 : Int32) σ41) (fun r44 σ45 => l_X9_odds_52 a2 a3 (1 : Int64) (1 : Int64) r44 r44 σ45))))
set_option maxRecDepth 100000 in
set_option maxHeartbeats 4000000 in
theorem t_X9_odds_26 {l : Launch} {G : GX} {K : KX} (X : FX G K cX9_odds RX9 (some .long) wsX9_odds 15) {Φ : Int64 → MM → Prop} (hR : Rl G K Φ)  (σ : MM) (hf : Ok Φ (u_X9_odds_26  σ)) : V l G 8 K 15 26 [(0, .ref (G.1 129))] [] σ := by
    unfold u_X9_odds_26 at hf
    refine r_aload_n X dX9_odds_26 0 rfl isr_ref ?_
    refine r_ldc (v := (-1000000001 : Int32)) X (mem_ix 1 rfl) dX9_odds_27 ?_
    refine r_callVi (rest := []) X (c_X9_error l G (-1000000001 : Int32) σ (oks hf)) md_X9_error gX9_odds_X9_error (by decide) rfl rfl (kd_in kc_129 (by decide)) (EE_9 _ kc_129) rfl rfl (Nat.le_of_ble_eq_true rfl) dX9_odds_29 (fun r33 σ34 e35 => ?_)
    replace hf := okn e35 hf
    refine r_i2l X dX9_odds_32 ?_
    exact r_lret X rfl hR (ok0 hf) dX9_odds_33
set_option maxRecDepth 100000 in
set_option maxHeartbeats 4000000 in
theorem t_X9_odds_106 {l : Launch} {G : GX} {K : KX} (X : FX G K cX9_odds RX9 (some .long) wsX9_odds 15) {Φ : Int64 → MM → Prop} (hR : Rl G K Φ) (k106 : Int32 → Int64 → Int64 → Int64 → Int64 → MM → Option (Int64 × MM)) (hk106c : ∀ (v3 : Int32) (v4 : Int64) (v6 : Int64) (v9 : Int64) (v11 : Int64) (σ : MM), Ok Φ (k106 v3 v4 v6 v9 v11 σ) → V l G 8 K 15 106 [(3, .int v3), (4, .long v4), (6, .long v6), (9, .long v9), (11, .long v11)] [] σ) (v3 : Int32) (v4 : Int64) (v6 : Int64) (v9 : Int64) (v11 : Int64) (σ : MM) (hf : Ok Φ (u_X9_odds_106 k106 v3 v4 v6 v9 v11 σ)) : V l G 8 K 15 106 [(3, .int v3), (4, .long v4), (6, .long v6), (9, .long v9), (11, .long v11)] [] σ := by
    unfold u_X9_odds_106 at hf
    refine r_lload X dX9_odds_106 3 rfl ?_
    refine r_lconst (v := (0 : Int64)) X dX9_odds_108 (by decide) ?_
    refine r_lcmp_eq (tgt := 131) X dX9_odds_109 dX9_odds_110 (by decide) (fun h48 => ?_) (fun h48 => ?_)
    · replace hf := okt h48 hf
      refine r_iload_n X dX9_odds_131 0 rfl ?_
      refine r_if_ne (tgt := 143) X dX9_odds_132 (by decide) (fun h49 => ?_) (fun h49 => ?_)
      · replace hf := okf h49 hf
        refine r_lload X dX9_odds_143 2 rfl ?_
        refine r_lload X dX9_odds_145 4 rfl ?_
        obtain ⟨g50, hf⟩ := okg hf
        refine r_ldiv X dX9_odds_147 g50 ?_
        exact r_lret X rfl hR (ok0 hf) dX9_odds_148
      · replace hf := okt h49 hf
        refine r_lload X dX9_odds_135 1 rfl ?_
        refine r_lload X dX9_odds_137 4 rfl ?_
        obtain ⟨g51, hf⟩ := okg hf
        refine r_ldiv X dX9_odds_139 g51 ?_
        refine r_goto (tgt := 148) X dX9_odds_140 (by decide) ?_
        exact r_lret X rfl hR (ok0 hf) dX9_odds_148
    · replace hf := okf h48 hf
      refine r_lload X dX9_odds_113 4 rfl ?_
      refine r_lload X dX9_odds_115 3 rfl ?_
      obtain ⟨g52, hf⟩ := okg hf
      refine r_lrem X dX9_odds_117 g52 ?_
      refine r_lstore X dX9_odds_118 (by decide) (lv' := [(13, .long (v11 - v11 / v9 * v9)), (3, .int v3), (4, .long v4), (6, .long v6), (9, .long v9), (11, .long v11)]) rfl ?_
      refine r_lload X dX9_odds_120 4 rfl ?_
      refine r_lstore X dX9_odds_122 (by decide) (lv' := [(11, .long v9), (13, .long (v11 - v11 / v9 * v9)), (3, .int v3), (4, .long v4), (6, .long v6), (9, .long v9)]) rfl ?_
      refine r_lload X dX9_odds_124 1 rfl ?_
      refine r_lstore X dX9_odds_126 (by decide) (lv' := [(9, .long (v11 - v11 / v9 * v9)), (11, .long v9), (13, .long (v11 - v11 / v9 * v9)), (3, .int v3), (4, .long v4), (6, .long v6)]) rfl ?_
      refine r_goto (tgt := 106) X dX9_odds_128 (by decide) ?_
      refine r_sub [3, 4, 5, 0, 1] rfl ?_
      exact hk106c v3 v4 v6 (v11 - v11 / v9 * v9) v9 σ hf
theorem tl_X9_odds_106 {l : Launch} {G : GX} {K : KX} (X : FX G K cX9_odds RX9 (some .long) wsX9_odds 15) {Φ : Int64 → MM → Prop} (hR : Rl G K Φ) : ∀ (m : Nat) (v3 : Int32) (v4 : Int64) (v6 : Int64) (v9 : Int64) (v11 : Int64) (σ : MM), Ok Φ (itr (fun _ _ _ _ _ _ => none) (u_X9_odds_106) m v3 v4 v6 v9 v11 σ) → V l G 8 K 15 106 [(3, .int v3), (4, .long v4), (6, .long v6), (9, .long v9), (11, .long v11)] [] σ := by
  intro m
  induction m with
  | zero => intro v3 v4 v6 v9 v11 σ hf; exact (okx hf).elim
  | succ m ih => intro v3 v4 v6 v9 v11 σ hf; exact t_X9_odds_106 X hR _ ih v3 v4 v6 v9 v11 σ hf
set_option maxRecDepth 100000 in
set_option maxHeartbeats 4000000 in
theorem t_X9_odds_98 {l : Launch} {G : GX} {K : KX} (X : FX G K cX9_odds RX9 (some .long) wsX9_odds 15) {Φ : Int64 → MM → Prop} (hR : Rl G K Φ) (v3 : Int32) (v4 : Int64) (v6 : Int64) (σ : MM) (hf : Ok Φ (u_X9_odds_98 v3 v4 v6 σ)) : V l G 8 K 15 98 [(3, .int v3), (4, .long v4), (6, .long v6)] [] σ := by
    unfold u_X9_odds_98 at hf
    refine r_lload X dX9_odds_98 1 rfl ?_
    refine r_lstore X dX9_odds_100 (by decide) (lv' := [(9, .long v4), (3, .int v3), (4, .long v4), (6, .long v6)]) rfl ?_
    refine r_lload X dX9_odds_102 3 rfl ?_
    refine r_lstore X dX9_odds_104 (by decide) (lv' := [(11, .long v6), (9, .long v4), (3, .int v3), (4, .long v4), (6, .long v6)]) rfl ?_
    refine r_sub [2, 3, 4, 1, 0] rfl ?_
    exact tl_X9_odds_106 X hR FU v3 v4 v6 v4 v6 σ hf
set_option maxRecDepth 100000 in
set_option maxHeartbeats 4000000 in
theorem t_X9_odds_52 {l : Launch} {G : GX} {K : KX} (X : FX G K cX9_odds RX9 (some .long) wsX9_odds 15) {Φ : Int64 → MM → Prop} (hR : Rl G K Φ) (k52 : Int32 → Int32 → Int64 → Int64 → Int32 → Int32 → MM → Option (Int64 × MM)) (hk52c : ∀ (v2 : Int32) (v3 : Int32) (v4 : Int64) (v6 : Int64) (v8 : Int32) (v9 : Int32) (σ : MM), Ok Φ (k52 v2 v3 v4 v6 v8 v9 σ) → V l G 8 K 15 52 [(0, .ref (G.1 129)), (2, .int v2), (3, .int v3), (4, .long v4), (6, .long v6), (8, .int v8), (9, .int v9)] [] σ) (v2 : Int32) (v3 : Int32) (v4 : Int64) (v6 : Int64) (v8 : Int32) (v9 : Int32) (σ : MM) (hf : Ok Φ (u_X9_odds_52 k52 v2 v3 v4 v6 v8 v9 σ)) : V l G 8 K 15 52 [(0, .ref (G.1 129)), (2, .int v2), (3, .int v3), (4, .long v4), (6, .long v6), (8, .int v8), (9, .int v9)] [] σ := by
    unfold u_X9_odds_52 at hf
    refine r_iload X dX9_odds_52 6 rfl ?_
    refine r_iload X dX9_odds_54 5 rfl ?_
    refine r_iload_n X dX9_odds_56 1 rfl ?_
    refine r_iadd X dX9_odds_57 ?_
    refine r_icmp_ge (tgt := 98) X dX9_odds_58 (by decide) (fun h47 => ?_) (fun h47 => ?_)
    · replace hf := okt h47 hf
      refine r_sub [2, 3, 4] rfl ?_
      exact t_X9_odds_98 X hR v3 v4 v6 σ hf
    · replace hf := okf h47 hf
      refine r_iload X dX9_odds_61 6 rfl ?_
      refine r_aload_n X dX9_odds_63 0 rfl isr_ref ?_
      refine r_get (i := 129) (v := .ref (G.1 130)) X in_X9_odds_9 rfl 0 (by decide) (kd_in kc_129 (by decide)) (EE_9 _ kc_129) rfl (mem_ix 2 rfl) dX9_odds_64 ?_
      refine r_iconst X dX9_odds_67 ci_2 ?_
      refine r_iald (i := 130) (jn := 2) X (kd_in kc_130 (by decide)) (EE_26 _ kc_130) (by decide) (by decide) dX9_odds_68 ?_
      refine r_icmp_ge (tgt := 98) X dX9_odds_69 (by decide) (fun h53 => ?_) (fun h53 => ?_)
      · replace hf := okt h53 hf
        refine r_sub [2, 3, 4] rfl ?_
        exact t_X9_odds_98 X hR v3 v4 v6 σ hf
      · replace hf := okf h53 hf
        refine r_lload X dX9_odds_72 3 rfl ?_
        refine r_aload_n X dX9_odds_74 0 rfl isr_ref ?_
        refine r_iload X dX9_odds_75 6 rfl ?_
        refine r_callVi (rest := [.long v4]) X (c_X9_wordsOf l G v9 σ (oks hf)) md_X9_wordsOf gX9_odds_X9_wordsOf (by decide) rfl rfl (kd_in kc_129 (by decide)) (EE_9 _ kc_129) rfl rfl (Nat.le_of_ble_eq_true rfl) dX9_odds_77 (fun r54 σ55 e56 => ?_)
        replace hf := okn e56 hf
        refine r_i2l X dX9_odds_80 ?_
        refine r_lmul X dX9_odds_81 ?_
        refine r_lstore X dX9_odds_82 (by decide) (lv' := [(4, .long (v4 * (r54.toInt64))), (0, .ref (G.1 129)), (2, .int v2), (3, .int v3), (6, .long v6), (8, .int v8), (9, .int v9)]) rfl ?_
        refine r_lload X dX9_odds_84 4 rfl ?_
        refine r_ldc2 (v := (100 : Int64)) X (mem_ix 3 rfl) dX9_odds_86 ?_
        refine r_lmul X dX9_odds_89 ?_
        refine r_lstore X dX9_odds_90 (by decide) (lv' := [(6, .long (v6 * (100 : Int64))), (4, .long (v4 * (r54.toInt64))), (0, .ref (G.1 129)), (2, .int v2), (3, .int v3), (8, .int v8), (9, .int v9)]) rfl ?_
        refine r_iinc (v := (v9 + (1 : Int32))) X dX9_odds_92 6 rfl (congrArg _ ci_1) (by decide) (lv' := [(9, .int (v9 + (1 : Int32))), (6, .long (v6 * (100 : Int64))), (4, .long (v4 * (r54.toInt64))), (0, .ref (G.1 129)), (2, .int v2), (3, .int v3), (8, .int v8)]) rfl ?_
        refine r_goto (tgt := 52) X dX9_odds_95 (by decide) ?_
        refine r_sub [3, 4, 5, 2, 1, 6, 0] rfl ?_
        exact hk52c v2 v3 (v4 * (r54.toInt64)) (v6 * (100 : Int64)) v8 (v9 + (1 : Int32)) σ55 hf
theorem tl_X9_odds_52 {l : Launch} {G : GX} {K : KX} (X : FX G K cX9_odds RX9 (some .long) wsX9_odds 15) {Φ : Int64 → MM → Prop} (hR : Rl G K Φ) : ∀ (m : Nat) (v2 : Int32) (v3 : Int32) (v4 : Int64) (v6 : Int64) (v8 : Int32) (v9 : Int32) (σ : MM), Ok Φ (itr (fun _ _ _ _ _ _ _ => none) (u_X9_odds_52) m v2 v3 v4 v6 v8 v9 σ) → V l G 8 K 15 52 [(0, .ref (G.1 129)), (2, .int v2), (3, .int v3), (4, .long v4), (6, .long v6), (8, .int v8), (9, .int v9)] [] σ := by
  intro m
  induction m with
  | zero => intro v2 v3 v4 v6 v8 v9 σ hf; exact (okx hf).elim
  | succ m ih => intro v2 v3 v4 v6 v8 v9 σ hf; exact t_X9_odds_52 X hR _ ih v2 v3 v4 v6 v8 v9 σ hf
set_option maxRecDepth 100000 in
set_option maxHeartbeats 4000000 in
theorem e_X9_odds {l : Launch} {G : GX} {K : KX} (X : FX G K cX9_odds RX9 (some .long) wsX9_odds 15) {Φ : Int64 → MM → Prop} (hR : Rl G K Φ) (a1 : Int32) (a2 : Int32) (a3 : Int32) (σ : MM) (hf : Ok Φ (f_X9_odds a1 a2 a3 σ)) : V l G 8 K 15 0 [(0, .ref (G.1 129)), (1, .int a1), (2, .int a2), (3, .int a3)] [] σ := by
    unfold f_X9_odds at hf
    refine r_aload_n X dX9_odds_0 0 rfl isr_ref ?_
    refine r_iload_n X dX9_odds_1 1 rfl ?_
    refine r_callVi (rest := []) X (c_X9_isPerson l G a1 σ (oks hf)) md_X9_isPerson gX9_odds_X9_isPerson (by decide) rfl rfl (kd_in kc_129 (by decide)) (EE_9 _ kc_129) rfl rfl (Nat.le_of_ble_eq_true rfl) dX9_odds_2 (fun r29 σ30 e31 => ?_)
    replace hf := okn e31 hf
    refine r_if_eq (tgt := 26) X dX9_odds_5 (by decide) (fun h32 => ?_) (fun h32 => ?_)
    · replace hf := okt h32 hf
      refine r_sub [0] rfl ?_
      exact t_X9_odds_26 X hR σ30 hf
    · replace hf := okf h32 hf
      refine r_iload_n X dX9_odds_8 2 rfl ?_
      refine r_iconst X dX9_odds_9 ci_0 ?_
      refine r_iconst X dX9_odds_10 ci_4 ?_
      refine r_callSi (rest := []) X (c_X9_in l G a2 (0 : Int32) (4 : Int32) σ30 (oks hf)) md_X9_in gX9_odds_X9_in (by decide) rfl rfl (Nat.le_of_ble_eq_true rfl) dX9_odds_11 (fun r36 σ37 e38 => ?_)
      replace hf := okn e38 hf
      refine r_if_eq (tgt := 26) X dX9_odds_14 (by decide) (fun h39 => ?_) (fun h39 => ?_)
      · replace hf := okt h39 hf
        refine r_sub [0] rfl ?_
        exact t_X9_odds_26 X hR σ37 hf
      · replace hf := okf h39 hf
        refine r_iload_n X dX9_odds_17 3 rfl ?_
        refine r_iconst X dX9_odds_18 ci_0 ?_
        refine r_iconst X dX9_odds_19 ci_1 ?_
        refine r_callSi (rest := []) X (c_X9_in l G a3 (0 : Int32) (1 : Int32) σ37 (oks hf)) md_X9_in gX9_odds_X9_in (by decide) rfl rfl (Nat.le_of_ble_eq_true rfl) dX9_odds_20 (fun r40 σ41 e42 => ?_)
        replace hf := okn e42 hf
        refine r_if_ne (tgt := 34) X dX9_odds_23 (by decide) (fun h43 => ?_) (fun h43 => ?_)
        · replace hf := okf h43 hf
          refine r_lconst (v := (1 : Int64)) X dX9_odds_34 (by decide) ?_
          refine r_lstore X dX9_odds_35 (by decide) (lv' := [(4, .long (1 : Int64)), (0, .ref (G.1 129)), (1, .int a1), (2, .int a2), (3, .int a3)]) rfl ?_
          refine r_lconst (v := (1 : Int64)) X dX9_odds_37 (by decide) ?_
          refine r_lstore X dX9_odds_38 (by decide) (lv' := [(6, .long (1 : Int64)), (4, .long (1 : Int64)), (0, .ref (G.1 129)), (1, .int a1), (2, .int a2), (3, .int a3)]) rfl ?_
          refine r_aload_n X dX9_odds_40 2 rfl isr_ref ?_
          refine r_iload_n X dX9_odds_41 3 rfl ?_
          refine r_iconst X dX9_odds_42 ci_0 ?_
          refine r_callVi (rest := []) X (c_X9_about l G a1 (0 : Int32) σ41 (oks hf)) md_X9_about gX9_odds_X9_about (by decide) rfl rfl (kd_in kc_129 (by decide)) (EE_9 _ kc_129) rfl rfl (Nat.le_of_ble_eq_true rfl) dX9_odds_43 (fun r44 σ45 e46 => ?_)
          replace hf := okn e46 hf
          refine r_istore X dX9_odds_46 (by decide) (lv' := [(8, .int r44), (6, .long (1 : Int64)), (4, .long (1 : Int64)), (0, .ref (G.1 129)), (1, .int a1), (2, .int a2), (3, .int a3)]) rfl ?_
          refine r_iload X dX9_odds_48 0 rfl ?_
          refine r_istore X dX9_odds_50 (by decide) (lv' := [(9, .int r44), (8, .int r44), (6, .long (1 : Int64)), (4, .long (1 : Int64)), (0, .ref (G.1 129)), (1, .int a1), (2, .int a2), (3, .int a3)]) rfl ?_
          refine r_sub [4, 6, 7, 3, 2, 1, 0] rfl ?_
          exact tl_X9_odds_52 X hR FU a2 a3 (1 : Int64) (1 : Int64) r44 r44 σ45 hf
        · replace hf := okt h43 hf
          refine r_sub [0] rfl ?_
          exact t_X9_odds_26 X hR σ41 hf
theorem md_X9_odds : MD yX9_odds wsX9_odds cX9_odds 15 3 (some .long) := ⟨⟨_, rfl⟩, by decide +kernel, by decide +kernel, by decide⟩
theorem c_X9_odds (l : Launch) (G : GX)  (a1 : Int32) (a2 : Int32) (a3 : Int32) (σ : MM) (h : (f_X9_odds a1 a2 a3 σ).isSome = true) : CTl l G yX9_odds wsX9_odds 8 [.ref (G.1 129), .int a1, .int a2, .int a3] σ (f_X9_odds a1 a2 a3 σ) :=
  CTl_of md_X9_odds (Nat.le_of_ble_eq_true rfl) (fun K X hR => e_X9_odds X hR a1 a2 a3 σ (ok_is h))
-- X9_isSo
theorem in_X9_isSo_9 : ∀ w ∈ u_ws RX9 TX9 21, w ∈ wsX9_isSo := fun _ h => List.mem_cons_of_mem _ (List.mem_append_right _ h)
def u_X9_isSo_66 (k24 : Int32 → Int32 → Int32 → Int32 → MM → Option (Int32 × MM)) (v1 : Int32) (v2 : Int32) (v4 : Int32) (vs0 : Int32) (vs1 : Int32) (σ : MM) : Option (Int32 × MM) :=
  if vs1 = vs0 then k24 v1 v2 (1 : Int32) (v4 + (1 : Int32)) σ else k24 v1 v2 (0 : Int32) (v4 + (1 : Int32)) σ
def u_X9_isSo_24 (k24 : Int32 → Int32 → Int32 → Int32 → MM → Option (Int32 × MM)) (v1 : Int32) (v2 : Int32) (v3 : Int32) (v4 : Int32) (σ : MM) : Option (Int32 × MM) :=
  if v1 < 0 ∨ 4 ≤ v1.toNatClampNeg then none else if (σ 135 (v1.toNatClampNeg)) ≤ v4 then if v3 = 0 ∨ v3 = 1 then some (v3, σ) else none else if v3 = 0 then if v3 = 0 ∨ v3 = 1 then some (v3, σ) else none else if (((24 : Int32) * v1) + v4) < 0 ∨ 96 ≤ (((24 : Int32) * v1) + v4).toNatClampNeg then none else bd (f_X9_isContent v4 v2 σ) (fun r20 σ21 => if r20 = 0 then u_X9_isSo_66 k24 v1 v2 v4 (0 : Int32) (σ 136 ((((24 : Int32) * v1) + v4).toNatClampNeg)) σ21 else u_X9_isSo_66 k24 v1 v2 v4 (1 : Int32) (σ 136 ((((24 : Int32) * v1) + v4).toNatClampNeg)) σ21)
def l_X9_isSo_24 (v1 : Int32) (v2 : Int32) (v3 : Int32) (v4 : Int32) (σ : MM) : Option (Int32 × MM) :=
  itr (fun _ _ _ _ _ => none) (u_X9_isSo_24) FU v1 v2 v3 v4 σ
def f_X9_isSo (a1 : Int32) (a2 : Int32) (σ : MM) : Option (Int32 × MM) :=
  if a1 < 0 ∨ 4 ≤ a1.toNatClampNeg then none else if (σ 130 2) < (σ 135 (a1.toNatClampNeg)) then l_X9_isSo_24 a1 a2 (0 : Int32) (0 : Int32) σ else l_X9_isSo_24 a1 a2 (1 : Int32) (0 : Int32) σ
set_option maxRecDepth 100000 in
set_option maxHeartbeats 4000000 in
theorem t_X9_isSo_66 {l : Launch} {G : GX} {K : KX} (X : FX G K cX9_isSo RX9 (some .boolean) wsX9_isSo 5) {Φ : Int32 → MM → Prop} (hR : Ri G K Φ) (k24 : Int32 → Int32 → Int32 → Int32 → MM → Option (Int32 × MM)) (hk24c : ∀ (v1 : Int32) (v2 : Int32) (v3 : Int32) (v4 : Int32) (σ : MM), Ok Φ (k24 v1 v2 v3 v4 σ) → V l G 7 K 5 24 [(0, .ref (G.1 129)), (1, .int v1), (2, .int v2), (3, .int v3), (4, .int v4)] [] σ) (v1 : Int32) (v2 : Int32) (v4 : Int32) (vs0 : Int32) (vs1 : Int32) (σ : MM) (hf : Ok Φ (u_X9_isSo_66 k24 v1 v2 v4 vs0 vs1 σ)) : V l G 7 K 5 66 [(0, .ref (G.1 129)), (1, .int v1), (2, .int v2), (4, .int v4)] [.int vs0, .int vs1] σ := by
    unfold u_X9_isSo_66 at hf
    refine r_icmp_ne (tgt := 73) X dX9_isSo_66 (by decide) (fun h24 => ?_) (fun h24 => ?_)
    · replace hf := okf h24 hf
      refine r_iconst X dX9_isSo_73 ci_0 ?_
      refine r_istore_n X dX9_isSo_74 (i := 3) rfl (by decide) (lv' := [(3, .int (0 : Int32)), (0, .ref (G.1 129)), (1, .int v1), (2, .int v2), (4, .int v4)]) rfl ?_
      refine r_iinc (v := (v4 + (1 : Int32))) X dX9_isSo_75 4 rfl (congrArg _ ci_1) (by decide) (lv' := [(4, .int (v4 + (1 : Int32))), (3, .int (0 : Int32)), (0, .ref (G.1 129)), (1, .int v1), (2, .int v2)]) rfl ?_
      refine r_goto (tgt := 24) X dX9_isSo_78 (by decide) ?_
      refine r_sub [2, 3, 4, 1, 0] rfl ?_
      exact hk24c v1 v2 (0 : Int32) (v4 + (1 : Int32)) σ hf
    · replace hf := okt h24 hf
      refine r_iconst X dX9_isSo_69 ci_1 ?_
      refine r_goto (tgt := 74) X dX9_isSo_70 (by decide) ?_
      refine r_istore_n X dX9_isSo_74 (i := 3) rfl (by decide) (lv' := [(3, .int (1 : Int32)), (0, .ref (G.1 129)), (1, .int v1), (2, .int v2), (4, .int v4)]) rfl ?_
      refine r_iinc (v := (v4 + (1 : Int32))) X dX9_isSo_75 4 rfl (congrArg _ ci_1) (by decide) (lv' := [(4, .int (v4 + (1 : Int32))), (3, .int (1 : Int32)), (0, .ref (G.1 129)), (1, .int v1), (2, .int v2)]) rfl ?_
      refine r_goto (tgt := 24) X dX9_isSo_78 (by decide) ?_
      refine r_sub [2, 3, 4, 1, 0] rfl ?_
      exact hk24c v1 v2 (1 : Int32) (v4 + (1 : Int32)) σ hf
set_option maxRecDepth 100000 in
set_option maxHeartbeats 4000000 in
theorem t_X9_isSo_24 {l : Launch} {G : GX} {K : KX} (X : FX G K cX9_isSo RX9 (some .boolean) wsX9_isSo 5) {Φ : Int32 → MM → Prop} (hR : Ri G K Φ) (k24 : Int32 → Int32 → Int32 → Int32 → MM → Option (Int32 × MM)) (hk24c : ∀ (v1 : Int32) (v2 : Int32) (v3 : Int32) (v4 : Int32) (σ : MM), Ok Φ (k24 v1 v2 v3 v4 σ) → V l G 7 K 5 24 [(0, .ref (G.1 129)), (1, .int v1), (2, .int v2), (3, .int v3), (4, .int v4)] [] σ) (v1 : Int32) (v2 : Int32) (v3 : Int32) (v4 : Int32) (σ : MM) (hf : Ok Φ (u_X9_isSo_24 k24 v1 v2 v3 v4 σ)) : V l G 7 K 5 24 [(0, .ref (G.1 129)), (1, .int v1), (2, .int v2), (3, .int v3), (4, .int v4)] [] σ := by
    unfold u_X9_isSo_24 at hf
    refine r_iload X dX9_isSo_24 4 rfl ?_
    refine r_aload_n X dX9_isSo_26 0 rfl isr_ref ?_
    refine r_get (i := 129) (v := .ref (G.1 135)) X in_X9_isSo_9 rfl 6 (by decide) (kd_in kc_129 (by decide)) (EE_9 _ kc_129) rfl (mem_ix 1 rfl) dX9_isSo_27 ?_
    refine r_iload_n X dX9_isSo_30 1 rfl ?_
    obtain ⟨g14, hf⟩ := okg hf
    refine r_iald (i := 135) (jn := v1.toNatClampNeg) X (kd_in kc_135 (by decide)) (EE_27 _ kc_135) rfl g14 dX9_isSo_31 ?_
    refine r_icmp_ge (tgt := 81) X dX9_isSo_32 (by decide) (fun h15 => ?_) (fun h15 => ?_)
    · replace hf := okt h15 hf
      refine r_iload_n X dX9_isSo_81 3 rfl ?_
      obtain ⟨g16, hf⟩ := okp hf
      exact r_zret X rfl hR g16 (ok0 hf) dX9_isSo_82
    · replace hf := okf h15 hf
      refine r_iload_n X dX9_isSo_35 3 rfl ?_
      refine r_if_eq (tgt := 81) X dX9_isSo_36 (by decide) (fun h17 => ?_) (fun h17 => ?_)
      · replace hf := okt h17 hf
        refine r_iload_n X dX9_isSo_81 3 rfl ?_
        obtain ⟨g18, hf⟩ := okp hf
        exact r_zret X rfl hR g18 (ok0 hf) dX9_isSo_82
      · replace hf := okf h17 hf
        refine r_aload_n X dX9_isSo_39 0 rfl isr_ref ?_
        refine r_get (i := 129) (v := .ref (G.1 136)) X in_X9_isSo_9 rfl 7 (by decide) (kd_in kc_129 (by decide)) (EE_9 _ kc_129) rfl (mem_ix 3 rfl) dX9_isSo_40 ?_
        refine r_bipush X dX9_isSo_43 cb_24 ?_
        refine r_iload_n X dX9_isSo_45 1 rfl ?_
        refine r_imul X dX9_isSo_46 ?_
        refine r_iload X dX9_isSo_47 4 rfl ?_
        refine r_iadd X dX9_isSo_49 ?_
        obtain ⟨g19, hf⟩ := okg hf
        refine r_iald (i := 136) (jn := (((24 : Int32) * v1) + v4).toNatClampNeg) X (kd_in kc_136 (by decide)) (EE_28 _ kc_136) rfl g19 dX9_isSo_50 ?_
        refine r_aload_n X dX9_isSo_51 0 rfl isr_ref ?_
        refine r_iload X dX9_isSo_52 4 rfl ?_
        refine r_iload_n X dX9_isSo_54 2 rfl ?_
        refine r_callVi (rest := [.int (σ 136 ((((24 : Int32) * v1) + v4).toNatClampNeg))]) X (c_X9_isContent l G v4 v2 σ (oks hf)) md_X9_isContent gX9_isSo_X9_isContent (by decide) rfl rfl (kd_in kc_129 (by decide)) (EE_9 _ kc_129) rfl rfl (Nat.le_of_ble_eq_true rfl) dX9_isSo_55 (fun r20 σ21 e22 => ?_)
        replace hf := okn e22 hf
        refine r_if_eq (tgt := 65) X dX9_isSo_58 (by decide) (fun h23 => ?_) (fun h23 => ?_)
        · replace hf := okt h23 hf
          refine r_iconst X dX9_isSo_65 ci_0 ?_
          refine r_sub [0, 1, 2, 4] rfl ?_
          exact t_X9_isSo_66 X hR k24 hk24c v1 v2 v4 (0 : Int32) (σ 136 ((((24 : Int32) * v1) + v4).toNatClampNeg)) σ21 hf
        · replace hf := okf h23 hf
          refine r_iconst X dX9_isSo_61 ci_1 ?_
          refine r_goto (tgt := 66) X dX9_isSo_62 (by decide) ?_
          refine r_sub [0, 1, 2, 4] rfl ?_
          exact t_X9_isSo_66 X hR k24 hk24c v1 v2 v4 (1 : Int32) (σ 136 ((((24 : Int32) * v1) + v4).toNatClampNeg)) σ21 hf
theorem tl_X9_isSo_24 {l : Launch} {G : GX} {K : KX} (X : FX G K cX9_isSo RX9 (some .boolean) wsX9_isSo 5) {Φ : Int32 → MM → Prop} (hR : Ri G K Φ) : ∀ (m : Nat) (v1 : Int32) (v2 : Int32) (v3 : Int32) (v4 : Int32) (σ : MM), Ok Φ (itr (fun _ _ _ _ _ => none) (u_X9_isSo_24) m v1 v2 v3 v4 σ) → V l G 7 K 5 24 [(0, .ref (G.1 129)), (1, .int v1), (2, .int v2), (3, .int v3), (4, .int v4)] [] σ := by
  intro m
  induction m with
  | zero => intro v1 v2 v3 v4 σ hf; exact (okx hf).elim
  | succ m ih => intro v1 v2 v3 v4 σ hf; exact t_X9_isSo_24 X hR _ ih v1 v2 v3 v4 σ hf
set_option maxRecDepth 100000 in
set_option maxHeartbeats 4000000 in
theorem e_X9_isSo {l : Launch} {G : GX} {K : KX} (X : FX G K cX9_isSo RX9 (some .boolean) wsX9_isSo 5) {Φ : Int32 → MM → Prop} (hR : Ri G K Φ) (a1 : Int32) (a2 : Int32) (σ : MM) (hf : Ok Φ (f_X9_isSo a1 a2 σ)) : V l G 7 K 5 0 [(0, .ref (G.1 129)), (1, .int a1), (2, .int a2)] [] σ := by
    unfold f_X9_isSo at hf
    refine r_aload_n X dX9_isSo_0 0 rfl isr_ref ?_
    refine r_get (i := 129) (v := .ref (G.1 135)) X in_X9_isSo_9 rfl 6 (by decide) (kd_in kc_129 (by decide)) (EE_9 _ kc_129) rfl (mem_ix 1 rfl) dX9_isSo_1 ?_
    refine r_iload_n X dX9_isSo_4 1 rfl ?_
    obtain ⟨g12, hf⟩ := okg hf
    refine r_iald (i := 135) (jn := a1.toNatClampNeg) X (kd_in kc_135 (by decide)) (EE_27 _ kc_135) rfl g12 dX9_isSo_5 ?_
    refine r_aload_n X dX9_isSo_6 0 rfl isr_ref ?_
    refine r_get (i := 129) (v := .ref (G.1 130)) X in_X9_isSo_9 rfl 0 (by decide) (kd_in kc_129 (by decide)) (EE_9 _ kc_129) rfl (mem_ix 2 rfl) dX9_isSo_7 ?_
    refine r_iconst X dX9_isSo_10 ci_2 ?_
    refine r_iald (i := 130) (jn := 2) X (kd_in kc_130 (by decide)) (EE_26 _ kc_130) (by decide) (by decide) dX9_isSo_11 ?_
    refine r_icmp_gt (tgt := 19) X dX9_isSo_12 (by decide) (fun h13 => ?_) (fun h13 => ?_)
    · replace hf := okt h13 hf
      refine r_iconst X dX9_isSo_19 ci_0 ?_
      refine r_istore_n X dX9_isSo_20 (i := 3) rfl (by decide) (lv' := [(3, .int (0 : Int32)), (0, .ref (G.1 129)), (1, .int a1), (2, .int a2)]) rfl ?_
      refine r_iconst X dX9_isSo_21 ci_0 ?_
      refine r_istore X dX9_isSo_22 (by decide) (lv' := [(4, .int (0 : Int32)), (3, .int (0 : Int32)), (0, .ref (G.1 129)), (1, .int a1), (2, .int a2)]) rfl ?_
      refine r_sub [2, 3, 4, 1, 0] rfl ?_
      exact tl_X9_isSo_24 X hR FU a1 a2 (0 : Int32) (0 : Int32) σ hf
    · replace hf := okf h13 hf
      refine r_iconst X dX9_isSo_15 ci_1 ?_
      refine r_goto (tgt := 20) X dX9_isSo_16 (by decide) ?_
      refine r_istore_n X dX9_isSo_20 (i := 3) rfl (by decide) (lv' := [(3, .int (1 : Int32)), (0, .ref (G.1 129)), (1, .int a1), (2, .int a2)]) rfl ?_
      refine r_iconst X dX9_isSo_21 ci_0 ?_
      refine r_istore X dX9_isSo_22 (by decide) (lv' := [(4, .int (0 : Int32)), (3, .int (1 : Int32)), (0, .ref (G.1 129)), (1, .int a1), (2, .int a2)]) rfl ?_
      refine r_sub [2, 3, 4, 1, 0] rfl ?_
      exact tl_X9_isSo_24 X hR FU a1 a2 (1 : Int32) (0 : Int32) σ hf
theorem md_X9_isSo : MD yX9_isSo wsX9_isSo cX9_isSo 5 2 (some .boolean) := ⟨⟨_, rfl⟩, by decide +kernel, by decide +kernel, by decide⟩
theorem c_X9_isSo (l : Launch) (G : GX)  (a1 : Int32) (a2 : Int32) (σ : MM) (h : (f_X9_isSo a1 a2 σ).isSome = true) : CTi l G yX9_isSo wsX9_isSo 7 [.ref (G.1 129), .int a1, .int a2] σ (f_X9_isSo a1 a2 σ) :=
  CTi_of md_X9_isSo (Nat.le_of_ble_eq_true rfl) (fun K X hR => e_X9_isSo X hR a1 a2 σ (ok_is h))
-- X9_fits
theorem in_X9_fits_9 : ∀ w ∈ u_ws RX9 TX9 21, w ∈ wsX9_fits := fun _ h => List.mem_cons_of_mem _ (List.mem_append_right _ h)
def u_X9_fits_16  (σ : MM) : Option (Int32 × MM) :=
  bd (f_X9_error (-1000000001 : Int32) σ) (fun r32 σ33 => some (r32, σ33))
def u_X9_fits_73 (k48 : Int32 → Int32 → Int32 → Int32 → Int32 → MM → Option (Int32 × MM)) (v1 : Int32) (v2 : Int32) (v4 : Int32) (v5 : Int32) (v6 : Int32) (vs0 : Int32) (vs1 : Int32) (σ : MM) : Option (Int32 × MM) :=
  if v6 = 0 then k48 v1 v2 (vs1 + vs0) v4 (v5 + (-1 : Int32)) σ else k48 v1 v2 (vs1 + vs0) v5 (v5 + (-1 : Int32)) σ
def u_X9_fits_48 (k48 : Int32 → Int32 → Int32 → Int32 → Int32 → MM → Option (Int32 × MM)) (v1 : Int32) (v2 : Int32) (v3 : Int32) (v4 : Int32) (v5 : Int32) (σ : MM) : Option (Int32 × MM) :=
  if v5 < 0 then if v2 = 0 then some (v3, σ) else if 0 ≤ v4 then some (v4, σ) else bd (f_X9_error (-1000000002 : Int32) σ) (fun r44 σ45 => some (r44, σ45)) else bd (f_X9_isSo v1 v5 σ) (fun r47 σ48 => if r47 = 0 then u_X9_fits_73 k48 v1 v2 v4 v5 r47 (0 : Int32) v3 σ48 else u_X9_fits_73 k48 v1 v2 v4 v5 r47 (1 : Int32) v3 σ48)
def l_X9_fits_48 (v1 : Int32) (v2 : Int32) (v3 : Int32) (v4 : Int32) (v5 : Int32) (σ : MM) : Option (Int32 × MM) :=
  itr (fun _ _ _ _ _ _ => none) (u_X9_fits_48) FU v1 v2 v3 v4 v5 σ
def f_X9_fits (a1 : Int32) (a2 : Int32) (σ : MM) : Option (Int32 × MM) :=
  bd (f_X9_isSheet a1 σ) (fun r28 σ29 => if r28 = 0 then u_X9_fits_16 σ29 else bd (f_X9_in a2 (0 : Int32) (1 : Int32) σ29) (fun r35 σ36 => if r35 = 0 then u_X9_fits_16 σ36 else if a1 < 0 ∨ 4 ≤ a1.toNatClampNeg then none else if (σ36 134 (a1.toNatClampNeg)) = 0 then bd (f_X9_error (-1000000002 : Int32) σ36) (fun r52 σ53 => some (r52, σ53)) else l_X9_fits_48 a1 a2 (0 : Int32) (-1 : Int32) (99 : Int32) σ36))
set_option maxRecDepth 100000 in
set_option maxHeartbeats 4000000 in
theorem t_X9_fits_16 {l : Launch} {G : GX} {K : KX} (X : FX G K cX9_fits RX9 (some .int) wsX9_fits 7) {Φ : Int32 → MM → Prop} (hR : Ri G K Φ)  (σ : MM) (hf : Ok Φ (u_X9_fits_16  σ)) : V l G 8 K 7 16 [(0, .ref (G.1 129))] [] σ := by
    unfold u_X9_fits_16 at hf
    refine r_aload_n X dX9_fits_16 0 rfl isr_ref ?_
    refine r_ldc (v := (-1000000001 : Int32)) X (mem_ix 1 rfl) dX9_fits_17 ?_
    refine r_callVi (rest := []) X (c_X9_error l G (-1000000001 : Int32) σ (oks hf)) md_X9_error gX9_fits_X9_error (by decide) rfl rfl (kd_in kc_129 (by decide)) (EE_9 _ kc_129) rfl rfl (Nat.le_of_ble_eq_true rfl) dX9_fits_19 (fun r32 σ33 e34 => ?_)
    replace hf := okn e34 hf
    exact r_iret X rfl hR (ok0 hf) dX9_fits_22
set_option maxRecDepth 100000 in
set_option maxHeartbeats 4000000 in
theorem t_X9_fits_73 {l : Launch} {G : GX} {K : KX} (X : FX G K cX9_fits RX9 (some .int) wsX9_fits 7) {Φ : Int32 → MM → Prop} (hR : Ri G K Φ) (k48 : Int32 → Int32 → Int32 → Int32 → Int32 → MM → Option (Int32 × MM)) (hk48c : ∀ (v1 : Int32) (v2 : Int32) (v3 : Int32) (v4 : Int32) (v5 : Int32) (σ : MM), Ok Φ (k48 v1 v2 v3 v4 v5 σ) → V l G 8 K 7 48 [(0, .ref (G.1 129)), (1, .int v1), (2, .int v2), (3, .int v3), (4, .int v4), (5, .int v5)] [] σ) (v1 : Int32) (v2 : Int32) (v4 : Int32) (v5 : Int32) (v6 : Int32) (vs0 : Int32) (vs1 : Int32) (σ : MM) (hf : Ok Φ (u_X9_fits_73 k48 v1 v2 v4 v5 v6 vs0 vs1 σ)) : V l G 8 K 7 73 [(0, .ref (G.1 129)), (1, .int v1), (2, .int v2), (4, .int v4), (5, .int v5), (6, .int v6)] [.int vs0, .int vs1] σ := by
    unfold u_X9_fits_73 at hf
    refine r_iadd X dX9_fits_73 ?_
    refine r_istore_n X dX9_fits_74 (i := 3) rfl (by decide) (lv' := [(3, .int (vs1 + vs0)), (0, .ref (G.1 129)), (1, .int v1), (2, .int v2), (4, .int v4), (5, .int v5), (6, .int v6)]) rfl ?_
    refine r_iload X dX9_fits_75 6 rfl ?_
    refine r_if_eq (tgt := 85) X dX9_fits_77 (by decide) (fun h51 => ?_) (fun h51 => ?_)
    · replace hf := okt h51 hf
      refine r_iload X dX9_fits_85 4 rfl ?_
      refine r_istore X dX9_fits_87 (by decide) (lv' := [(4, .int v4), (3, .int (vs1 + vs0)), (0, .ref (G.1 129)), (1, .int v1), (2, .int v2), (5, .int v5), (6, .int v6)]) rfl ?_
      refine r_iinc (v := (v5 + (-1 : Int32))) X dX9_fits_89 5 rfl (congrArg _ ci_m1) (by decide) (lv' := [(5, .int (v5 + (-1 : Int32))), (4, .int v4), (3, .int (vs1 + vs0)), (0, .ref (G.1 129)), (1, .int v1), (2, .int v2), (6, .int v6)]) rfl ?_
      refine r_goto (tgt := 48) X dX9_fits_92 (by decide) ?_
      refine r_sub [3, 4, 5, 2, 1, 0] rfl ?_
      exact hk48c v1 v2 (vs1 + vs0) v4 (v5 + (-1 : Int32)) σ hf
    · replace hf := okf h51 hf
      refine r_iload X dX9_fits_80 5 rfl ?_
      refine r_goto (tgt := 87) X dX9_fits_82 (by decide) ?_
      refine r_istore X dX9_fits_87 (by decide) (lv' := [(4, .int v5), (3, .int (vs1 + vs0)), (0, .ref (G.1 129)), (1, .int v1), (2, .int v2), (5, .int v5), (6, .int v6)]) rfl ?_
      refine r_iinc (v := (v5 + (-1 : Int32))) X dX9_fits_89 5 rfl (congrArg _ ci_m1) (by decide) (lv' := [(5, .int (v5 + (-1 : Int32))), (4, .int v5), (3, .int (vs1 + vs0)), (0, .ref (G.1 129)), (1, .int v1), (2, .int v2), (6, .int v6)]) rfl ?_
      refine r_goto (tgt := 48) X dX9_fits_92 (by decide) ?_
      refine r_sub [3, 4, 5, 2, 1, 0] rfl ?_
      exact hk48c v1 v2 (vs1 + vs0) v5 (v5 + (-1 : Int32)) σ hf
set_option maxRecDepth 100000 in
set_option maxHeartbeats 4000000 in
theorem t_X9_fits_48 {l : Launch} {G : GX} {K : KX} (X : FX G K cX9_fits RX9 (some .int) wsX9_fits 7) {Φ : Int32 → MM → Prop} (hR : Ri G K Φ) (k48 : Int32 → Int32 → Int32 → Int32 → Int32 → MM → Option (Int32 × MM)) (hk48c : ∀ (v1 : Int32) (v2 : Int32) (v3 : Int32) (v4 : Int32) (v5 : Int32) (σ : MM), Ok Φ (k48 v1 v2 v3 v4 v5 σ) → V l G 8 K 7 48 [(0, .ref (G.1 129)), (1, .int v1), (2, .int v2), (3, .int v3), (4, .int v4), (5, .int v5)] [] σ) (v1 : Int32) (v2 : Int32) (v3 : Int32) (v4 : Int32) (v5 : Int32) (σ : MM) (hf : Ok Φ (u_X9_fits_48 k48 v1 v2 v3 v4 v5 σ)) : V l G 8 K 7 48 [(0, .ref (G.1 129)), (1, .int v1), (2, .int v2), (3, .int v3), (4, .int v4), (5, .int v5)] [] σ := by
    unfold u_X9_fits_48 at hf
    refine r_iload X dX9_fits_48 5 rfl ?_
    refine r_if_lt (tgt := 95) X dX9_fits_50 (by decide) (fun h41 => ?_) (fun h41 => ?_)
    · replace hf := okt h41 hf
      refine r_iload_n X dX9_fits_95 2 rfl ?_
      refine r_if_ne (tgt := 103) X dX9_fits_96 (by decide) (fun h42 => ?_) (fun h42 => ?_)
      · replace hf := okf h42 hf
        refine r_iload X dX9_fits_103 4 rfl ?_
        refine r_if_ge (tgt := 117) X dX9_fits_105 (by decide) (fun h43 => ?_) (fun h43 => ?_)
        · replace hf := okt h43 hf
          refine r_iload X dX9_fits_117 4 rfl ?_
          exact r_iret X rfl hR (ok0 hf) dX9_fits_119
        · replace hf := okf h43 hf
          refine r_aload_n X dX9_fits_108 0 rfl isr_ref ?_
          refine r_ldc (v := (-1000000002 : Int32)) X (mem_ix 3 rfl) dX9_fits_109 ?_
          refine r_callVi (rest := []) X (c_X9_error l G (-1000000002 : Int32) σ (oks hf)) md_X9_error gX9_fits_X9_error (by decide) rfl rfl (kd_in kc_129 (by decide)) (EE_9 _ kc_129) rfl rfl (Nat.le_of_ble_eq_true rfl) dX9_fits_111 (fun r44 σ45 e46 => ?_)
          replace hf := okn e46 hf
          refine r_goto (tgt := 119) X dX9_fits_114 (by decide) ?_
          exact r_iret X rfl hR (ok0 hf) dX9_fits_119
      · replace hf := okt h42 hf
        refine r_iload_n X dX9_fits_99 3 rfl ?_
        refine r_goto (tgt := 119) X dX9_fits_100 (by decide) ?_
        exact r_iret X rfl hR (ok0 hf) dX9_fits_119
    · replace hf := okf h41 hf
      refine r_aload_n X dX9_fits_53 0 rfl isr_ref ?_
      refine r_iload_n X dX9_fits_54 1 rfl ?_
      refine r_iload X dX9_fits_55 5 rfl ?_
      refine r_callVi (rest := []) X (c_X9_isSo l G v1 v5 σ (oks hf)) md_X9_isSo gX9_fits_X9_isSo (by decide) rfl rfl (kd_in kc_129 (by decide)) (EE_9 _ kc_129) rfl rfl (Nat.le_of_ble_eq_true rfl) dX9_fits_57 (fun r47 σ48 e49 => ?_)
      replace hf := okn e49 hf
      refine r_istore X dX9_fits_60 (by decide) (lv' := [(6, .int r47), (0, .ref (G.1 129)), (1, .int v1), (2, .int v2), (3, .int v3), (4, .int v4), (5, .int v5)]) rfl ?_
      refine r_iload_n X dX9_fits_62 4 rfl ?_
      refine r_iload X dX9_fits_63 0 rfl ?_
      refine r_if_eq (tgt := 72) X dX9_fits_65 (by decide) (fun h50 => ?_) (fun h50 => ?_)
      · replace hf := okt h50 hf
        refine r_iconst X dX9_fits_72 ci_0 ?_
        refine r_sub [1, 2, 3, 5, 6, 0] rfl ?_
        exact t_X9_fits_73 X hR k48 hk48c v1 v2 v4 v5 r47 (0 : Int32) v3 σ48 hf
      · replace hf := okf h50 hf
        refine r_iconst X dX9_fits_68 ci_1 ?_
        refine r_goto (tgt := 73) X dX9_fits_69 (by decide) ?_
        refine r_sub [1, 2, 3, 5, 6, 0] rfl ?_
        exact t_X9_fits_73 X hR k48 hk48c v1 v2 v4 v5 r47 (1 : Int32) v3 σ48 hf
theorem tl_X9_fits_48 {l : Launch} {G : GX} {K : KX} (X : FX G K cX9_fits RX9 (some .int) wsX9_fits 7) {Φ : Int32 → MM → Prop} (hR : Ri G K Φ) : ∀ (m : Nat) (v1 : Int32) (v2 : Int32) (v3 : Int32) (v4 : Int32) (v5 : Int32) (σ : MM), Ok Φ (itr (fun _ _ _ _ _ _ => none) (u_X9_fits_48) m v1 v2 v3 v4 v5 σ) → V l G 8 K 7 48 [(0, .ref (G.1 129)), (1, .int v1), (2, .int v2), (3, .int v3), (4, .int v4), (5, .int v5)] [] σ := by
  intro m
  induction m with
  | zero => intro v1 v2 v3 v4 v5 σ hf; exact (okx hf).elim
  | succ m ih => intro v1 v2 v3 v4 v5 σ hf; exact t_X9_fits_48 X hR _ ih v1 v2 v3 v4 v5 σ hf
set_option maxRecDepth 100000 in
set_option maxHeartbeats 4000000 in
theorem e_X9_fits {l : Launch} {G : GX} {K : KX} (X : FX G K cX9_fits RX9 (some .int) wsX9_fits 7) {Φ : Int32 → MM → Prop} (hR : Ri G K Φ) (a1 : Int32) (a2 : Int32) (σ : MM) (hf : Ok Φ (f_X9_fits a1 a2 σ)) : V l G 8 K 7 0 [(0, .ref (G.1 129)), (1, .int a1), (2, .int a2)] [] σ := by
    unfold f_X9_fits at hf
    refine r_iload_n X dX9_fits_0 1 rfl ?_
    refine r_callSi (rest := []) X (c_X9_isSheet l G a1 σ (oks hf)) md_X9_isSheet gX9_fits_X9_isSheet (by decide) rfl rfl (Nat.le_of_ble_eq_true rfl) dX9_fits_1 (fun r28 σ29 e30 => ?_)
    replace hf := okn e30 hf
    refine r_if_eq (tgt := 16) X dX9_fits_4 (by decide) (fun h31 => ?_) (fun h31 => ?_)
    · replace hf := okt h31 hf
      refine r_sub [0] rfl ?_
      exact t_X9_fits_16 X hR σ29 hf
    · replace hf := okf h31 hf
      refine r_iload_n X dX9_fits_7 2 rfl ?_
      refine r_iconst X dX9_fits_8 ci_0 ?_
      refine r_iconst X dX9_fits_9 ci_1 ?_
      refine r_callSi (rest := []) X (c_X9_in l G a2 (0 : Int32) (1 : Int32) σ29 (oks hf)) md_X9_in gX9_fits_X9_in (by decide) rfl rfl (Nat.le_of_ble_eq_true rfl) dX9_fits_10 (fun r35 σ36 e37 => ?_)
      replace hf := okn e37 hf
      refine r_if_ne (tgt := 23) X dX9_fits_13 (by decide) (fun h38 => ?_) (fun h38 => ?_)
      · replace hf := okf h38 hf
        refine r_aload_n X dX9_fits_23 0 rfl isr_ref ?_
        refine r_get (i := 129) (v := .ref (G.1 134)) X in_X9_fits_9 rfl 5 (by decide) (kd_in kc_129 (by decide)) (EE_9 _ kc_129) rfl (mem_ix 2 rfl) dX9_fits_24 ?_
        refine r_iload_n X dX9_fits_27 1 rfl ?_
        obtain ⟨g39, hf⟩ := okg hf
        refine r_iald (i := 134) (jn := a1.toNatClampNeg) X (kd_in kc_134 (by decide)) (EE_27 _ kc_134) rfl g39 dX9_fits_28 ?_
        refine r_if_ne (tgt := 39) X dX9_fits_29 (by decide) (fun h40 => ?_) (fun h40 => ?_)
        · replace hf := okf h40 hf
          refine r_iconst X dX9_fits_39 ci_0 ?_
          refine r_istore_n X dX9_fits_40 (i := 3) rfl (by decide) (lv' := [(3, .int (0 : Int32)), (0, .ref (G.1 129)), (1, .int a1), (2, .int a2)]) rfl ?_
          refine r_iconst X dX9_fits_41 ci_m1 ?_
          refine r_istore X dX9_fits_42 (by decide) (lv' := [(4, .int (-1 : Int32)), (3, .int (0 : Int32)), (0, .ref (G.1 129)), (1, .int a1), (2, .int a2)]) rfl ?_
          refine r_bipush X dX9_fits_44 cb_99 ?_
          refine r_istore X dX9_fits_46 (by decide) (lv' := [(5, .int (99 : Int32)), (4, .int (-1 : Int32)), (3, .int (0 : Int32)), (0, .ref (G.1 129)), (1, .int a1), (2, .int a2)]) rfl ?_
          refine r_sub [3, 4, 5, 2, 1, 0] rfl ?_
          exact tl_X9_fits_48 X hR FU a1 a2 (0 : Int32) (-1 : Int32) (99 : Int32) σ36 hf
        · replace hf := okt h40 hf
          refine r_aload_n X dX9_fits_32 0 rfl isr_ref ?_
          refine r_ldc (v := (-1000000002 : Int32)) X (mem_ix 3 rfl) dX9_fits_33 ?_
          refine r_callVi (rest := []) X (c_X9_error l G (-1000000002 : Int32) σ36 (oks hf)) md_X9_error gX9_fits_X9_error (by decide) rfl rfl (kd_in kc_129 (by decide)) (EE_9 _ kc_129) rfl rfl (Nat.le_of_ble_eq_true rfl) dX9_fits_35 (fun r52 σ53 e54 => ?_)
          replace hf := okn e54 hf
          exact r_iret X rfl hR (ok0 hf) dX9_fits_38
      · replace hf := okt h38 hf
        refine r_sub [0] rfl ?_
        exact t_X9_fits_16 X hR σ36 hf
theorem md_X9_fits : MD yX9_fits wsX9_fits cX9_fits 7 2 (some .int) := ⟨⟨_, rfl⟩, by decide +kernel, by decide +kernel, by decide⟩
theorem c_X9_fits (l : Launch) (G : GX)  (a1 : Int32) (a2 : Int32) (σ : MM) (h : (f_X9_fits a1 a2 σ).isSome = true) : CTi l G yX9_fits wsX9_fits 8 [.ref (G.1 129), .int a1, .int a2] σ (f_X9_fits a1 a2 σ) :=
  CTi_of md_X9_fits (Nat.le_of_ble_eq_true rfl) (fun K X hR => e_X9_fits X hR a1 a2 σ (ok_is h))

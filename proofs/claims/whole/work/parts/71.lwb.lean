set_option maxRecDepth 100000 in
theorem hL2 : Cond.constantLong RL 59 (4294967295 : Int64) ∈ wsL_law := mem_ix 6 rfl
set_option maxRecDepth 100000 in
set_option maxHeartbeats 2000000 in
theorem la_0 {l : Launch} {G : GX} {K : KX} {b L k : Nat} {xs : Nat → Int32} {σ : MM} (X : FL G K b L xs) (hk : k + 6 ≤ L) (hL : L ≤ 3072) (h : GD σ) (kk : ∀ σ2, GD σ2 → VL l G K 1358 [(3, .int (nI k)), (2, .ref (G.1 129)), (1, .ref (G.1 108)), (0, .ref b)] [] σ2) : VL l G K 196 [(3, .int (nI k)), (2, .ref (G.1 129)), (1, .ref (G.1 108)), (0, .ref b)] [] σ := by
  have sm : SIM (f_X8_step (xs (k + 1)) σ) (f_X9_step (xs (k + 1))) := op_step h
  obtain ⟨r, σ1, σ2, e1, e2, g⟩ := sm
  refine l_aload_n X dL_law_196 2 rfl isr_ref ?_
  refine l_aload_n X dL_law_197 3 rfl isr_ref ?_
  refine l_iload_n X dL_law_198 0 rfl ?_
  refine l_iconst (v := (1 : Int32)) X dL_law_199 (by decide) ?_
  refine l_iadd X dL_law_200 ?_
  refine l_sld X (k + 1) (nI_add k 1) (by omega) hL dL_law_201 ?_
  refine l_callVi (i := 108) (As := [.int (xs (k + 1))]) (rest := []) X (c_X8_step l G (xs (k + 1)) σ (by rw [e1]; rfl)) md_X8_step gL_law_X8_step (by omega) rfl rfl (kd_in kc_108 (by decide)) (EE_8 _ kc_108) rfl rfl (Nat.le_of_ble_eq_true rfl) dL_law_202 (fun r1 s1 h1 => ?_)
  cases Option.some.inj (e1.symm.trans h1)
  refine l_aload_n X dL_law_205 1 rfl isr_ref ?_
  refine l_aload_n X dL_law_206 3 rfl isr_ref ?_
  refine l_iload_n X dL_law_207 0 rfl ?_
  refine l_iconst (v := (1 : Int32)) X dL_law_208 (by decide) ?_
  refine l_iadd X dL_law_209 ?_
  refine l_sld X (k + 1) (nI_add k 1) (by omega) hL dL_law_210 ?_
  refine l_callVi (i := 129) (As := [.int (xs (k + 1))]) (rest := [.int r]) X (c_X9_step l G (xs (k + 1)) σ1 (by rw [e2]; rfl)) md_X9_step gL_law_X9_step (by omega) rfl rfl (kd_in kc_129 (by decide)) (EE_9 _ kc_129) rfl rfl (Nat.le_of_ble_eq_true rfl) dL_law_211 (fun r2 s2 h2 => ?_)
  cases Option.some.inj (e2.symm.trans h2)
  exact l_icmp_eq (tgt := 1358) X dL_law_214 (by decide) (fun _ => kk _ g) (fun h => absurd rfl h)
set_option maxRecDepth 100000 in
set_option maxHeartbeats 2000000 in
theorem la_1 {l : Launch} {G : GX} {K : KX} {b L k : Nat} {xs : Nat → Int32} {σ : MM} (X : FL G K b L xs) (hk : k + 6 ≤ L) (hL : L ≤ 3072) (h : GD σ) (kk : ∀ σ2, GD σ2 → VL l G K 1358 [(3, .int (nI k)), (2, .ref (G.1 129)), (1, .ref (G.1 108)), (0, .ref b)] [] σ2) : VL l G K 219 [(3, .int (nI k)), (2, .ref (G.1 129)), (1, .ref (G.1 108)), (0, .ref b)] [] σ := by
  have sm : SIM (f_X8_stepIs (xs (k + 1)) (xs (k + 2)) σ) (f_X9_stepIs (xs (k + 1)) (xs (k + 2))) := op_stepIs h
  obtain ⟨r, σ1, σ2, e1, e2, g⟩ := sm
  refine l_aload_n X dL_law_219 2 rfl isr_ref ?_
  refine l_aload_n X dL_law_220 3 rfl isr_ref ?_
  refine l_iload_n X dL_law_221 0 rfl ?_
  refine l_iconst (v := (1 : Int32)) X dL_law_222 (by decide) ?_
  refine l_iadd X dL_law_223 ?_
  refine l_sld X (k + 1) (nI_add k 1) (by omega) hL dL_law_224 ?_
  refine l_aload_n X dL_law_225 3 rfl isr_ref ?_
  refine l_iload_n X dL_law_226 0 rfl ?_
  refine l_iconst (v := (2 : Int32)) X dL_law_227 (by decide) ?_
  refine l_iadd X dL_law_228 ?_
  refine l_sld X (k + 2) (nI_add k 2) (by omega) hL dL_law_229 ?_
  refine l_callVi (i := 108) (As := [.int (xs (k + 1)), .int (xs (k + 2))]) (rest := []) X (c_X8_stepIs l G (xs (k + 1)) (xs (k + 2)) σ (by rw [e1]; rfl)) md_X8_stepIs gL_law_X8_stepIs (by omega) rfl rfl (kd_in kc_108 (by decide)) (EE_8 _ kc_108) rfl rfl (Nat.le_of_ble_eq_true rfl) dL_law_230 (fun r1 s1 h1 => ?_)
  cases Option.some.inj (e1.symm.trans h1)
  refine l_aload_n X dL_law_233 1 rfl isr_ref ?_
  refine l_aload_n X dL_law_234 3 rfl isr_ref ?_
  refine l_iload_n X dL_law_235 0 rfl ?_
  refine l_iconst (v := (1 : Int32)) X dL_law_236 (by decide) ?_
  refine l_iadd X dL_law_237 ?_
  refine l_sld X (k + 1) (nI_add k 1) (by omega) hL dL_law_238 ?_
  refine l_aload_n X dL_law_239 3 rfl isr_ref ?_
  refine l_iload_n X dL_law_240 0 rfl ?_
  refine l_iconst (v := (2 : Int32)) X dL_law_241 (by decide) ?_
  refine l_iadd X dL_law_242 ?_
  refine l_sld X (k + 2) (nI_add k 2) (by omega) hL dL_law_243 ?_
  refine l_callVi (i := 129) (As := [.int (xs (k + 1)), .int (xs (k + 2))]) (rest := [.int r]) X (c_X9_stepIs l G (xs (k + 1)) (xs (k + 2)) σ1 (by rw [e2]; rfl)) md_X9_stepIs gL_law_X9_stepIs (by omega) rfl rfl (kd_in kc_129 (by decide)) (EE_9 _ kc_129) rfl rfl (Nat.le_of_ble_eq_true rfl) dL_law_244 (fun r2 s2 h2 => ?_)
  cases Option.some.inj (e2.symm.trans h2)
  exact l_icmp_eq (tgt := 1358) X dL_law_247 (by decide) (fun _ => kk _ g) (fun h => absurd rfl h)
set_option maxRecDepth 100000 in
set_option maxHeartbeats 2000000 in
theorem la_2 {l : Launch} {G : GX} {K : KX} {b L k : Nat} {xs : Nat → Int32} {σ : MM} (X : FL G K b L xs) (hk : k + 6 ≤ L) (hL : L ≤ 3072) (h : GD σ) (kk : ∀ σ2, GD σ2 → VL l G K 1358 [(3, .int (nI k)), (2, .ref (G.1 129)), (1, .ref (G.1 108)), (0, .ref b)] [] σ2) : VL l G K 252 [(3, .int (nI k)), (2, .ref (G.1 129)), (1, .ref (G.1 108)), (0, .ref b)] [] σ := by
  have sm : SIM (f_X8_become (xs (k + 1)) (xs (k + 2)) σ) (f_X9_become (xs (k + 1)) (xs (k + 2))) := op_become h
  obtain ⟨r, σ1, σ2, e1, e2, g⟩ := sm
  refine l_aload_n X dL_law_252 2 rfl isr_ref ?_
  refine l_aload_n X dL_law_253 3 rfl isr_ref ?_
  refine l_iload_n X dL_law_254 0 rfl ?_
  refine l_iconst (v := (1 : Int32)) X dL_law_255 (by decide) ?_
  refine l_iadd X dL_law_256 ?_
  refine l_sld X (k + 1) (nI_add k 1) (by omega) hL dL_law_257 ?_
  refine l_aload_n X dL_law_258 3 rfl isr_ref ?_
  refine l_iload_n X dL_law_259 0 rfl ?_
  refine l_iconst (v := (2 : Int32)) X dL_law_260 (by decide) ?_
  refine l_iadd X dL_law_261 ?_
  refine l_sld X (k + 2) (nI_add k 2) (by omega) hL dL_law_262 ?_
  refine l_callVi (i := 108) (As := [.int (xs (k + 1)), .int (xs (k + 2))]) (rest := []) X (c_X8_become l G (xs (k + 1)) (xs (k + 2)) σ (by rw [e1]; rfl)) md_X8_become gL_law_X8_become (by omega) rfl rfl (kd_in kc_108 (by decide)) (EE_8 _ kc_108) rfl rfl (Nat.le_of_ble_eq_true rfl) dL_law_263 (fun r1 s1 h1 => ?_)
  cases Option.some.inj (e1.symm.trans h1)
  refine l_aload_n X dL_law_266 1 rfl isr_ref ?_
  refine l_aload_n X dL_law_267 3 rfl isr_ref ?_
  refine l_iload_n X dL_law_268 0 rfl ?_
  refine l_iconst (v := (1 : Int32)) X dL_law_269 (by decide) ?_
  refine l_iadd X dL_law_270 ?_
  refine l_sld X (k + 1) (nI_add k 1) (by omega) hL dL_law_271 ?_
  refine l_aload_n X dL_law_272 3 rfl isr_ref ?_
  refine l_iload_n X dL_law_273 0 rfl ?_
  refine l_iconst (v := (2 : Int32)) X dL_law_274 (by decide) ?_
  refine l_iadd X dL_law_275 ?_
  refine l_sld X (k + 2) (nI_add k 2) (by omega) hL dL_law_276 ?_
  refine l_callVi (i := 129) (As := [.int (xs (k + 1)), .int (xs (k + 2))]) (rest := [.int r]) X (c_X9_become l G (xs (k + 1)) (xs (k + 2)) σ1 (by rw [e2]; rfl)) md_X9_become gL_law_X9_become (by omega) rfl rfl (kd_in kc_129 (by decide)) (EE_9 _ kc_129) rfl rfl (Nat.le_of_ble_eq_true rfl) dL_law_277 (fun r2 s2 h2 => ?_)
  cases Option.some.inj (e2.symm.trans h2)
  exact l_icmp_eq (tgt := 1358) X dL_law_280 (by decide) (fun _ => kk _ g) (fun h => absurd rfl h)
set_option maxRecDepth 100000 in
set_option maxHeartbeats 2000000 in
theorem la_3 {l : Launch} {G : GX} {K : KX} {b L k : Nat} {xs : Nat → Int32} {σ : MM} (X : FL G K b L xs) (hk : k + 6 ≤ L) (hL : L ≤ 3072) (h : GD σ) (kk : ∀ σ2, GD σ2 → VL l G K 1358 [(3, .int (nI k)), (2, .ref (G.1 129)), (1, .ref (G.1 108)), (0, .ref b)] [] σ2) : VL l G K 285 [(3, .int (nI k)), (2, .ref (G.1 129)), (1, .ref (G.1 108)), (0, .ref b)] [] σ := by
  have sm : SIM (f_X8_as (xs (k + 1)) (xs (k + 2)) σ) (f_X9_as (xs (k + 1)) (xs (k + 2))) := op_as h
  obtain ⟨r, σ1, σ2, e1, e2, g⟩ := sm
  refine l_aload_n X dL_law_285 2 rfl isr_ref ?_
  refine l_aload_n X dL_law_286 3 rfl isr_ref ?_
  refine l_iload_n X dL_law_287 0 rfl ?_
  refine l_iconst (v := (1 : Int32)) X dL_law_288 (by decide) ?_
  refine l_iadd X dL_law_289 ?_
  refine l_sld X (k + 1) (nI_add k 1) (by omega) hL dL_law_290 ?_
  refine l_aload_n X dL_law_291 3 rfl isr_ref ?_
  refine l_iload_n X dL_law_292 0 rfl ?_
  refine l_iconst (v := (2 : Int32)) X dL_law_293 (by decide) ?_
  refine l_iadd X dL_law_294 ?_
  refine l_sld X (k + 2) (nI_add k 2) (by omega) hL dL_law_295 ?_
  refine l_callVi (i := 108) (As := [.int (xs (k + 1)), .int (xs (k + 2))]) (rest := []) X (c_X8_as l G (xs (k + 1)) (xs (k + 2)) σ (by rw [e1]; rfl)) md_X8_as gL_law_X8_as (by omega) rfl rfl (kd_in kc_108 (by decide)) (EE_8 _ kc_108) rfl rfl (Nat.le_of_ble_eq_true rfl) dL_law_296 (fun r1 s1 h1 => ?_)
  cases Option.some.inj (e1.symm.trans h1)
  refine l_aload_n X dL_law_299 1 rfl isr_ref ?_
  refine l_aload_n X dL_law_300 3 rfl isr_ref ?_
  refine l_iload_n X dL_law_301 0 rfl ?_
  refine l_iconst (v := (1 : Int32)) X dL_law_302 (by decide) ?_
  refine l_iadd X dL_law_303 ?_
  refine l_sld X (k + 1) (nI_add k 1) (by omega) hL dL_law_304 ?_
  refine l_aload_n X dL_law_305 3 rfl isr_ref ?_
  refine l_iload_n X dL_law_306 0 rfl ?_
  refine l_iconst (v := (2 : Int32)) X dL_law_307 (by decide) ?_
  refine l_iadd X dL_law_308 ?_
  refine l_sld X (k + 2) (nI_add k 2) (by omega) hL dL_law_309 ?_
  refine l_callVi (i := 129) (As := [.int (xs (k + 1)), .int (xs (k + 2))]) (rest := [.int r]) X (c_X9_as l G (xs (k + 1)) (xs (k + 2)) σ1 (by rw [e2]; rfl)) md_X9_as gL_law_X9_as (by omega) rfl rfl (kd_in kc_129 (by decide)) (EE_9 _ kc_129) rfl rfl (Nat.le_of_ble_eq_true rfl) dL_law_310 (fun r2 s2 h2 => ?_)
  cases Option.some.inj (e2.symm.trans h2)
  exact l_icmp_eq (tgt := 1358) X dL_law_313 (by decide) (fun _ => kk _ g) (fun h => absurd rfl h)
set_option maxRecDepth 100000 in
set_option maxHeartbeats 2000000 in
theorem la_4 {l : Launch} {G : GX} {K : KX} {b L k : Nat} {xs : Nat → Int32} {σ : MM} (X : FL G K b L xs) (hk : k + 6 ≤ L) (hL : L ≤ 3072) (h : GD σ) (kk : ∀ σ2, GD σ2 → VL l G K 1358 [(3, .int (nI k)), (2, .ref (G.1 129)), (1, .ref (G.1 108)), (0, .ref b)] [] σ2) : VL l G K 318 [(3, .int (nI k)), (2, .ref (G.1 129)), (1, .ref (G.1 108)), (0, .ref b)] [] σ := by
  have sm : SIM (f_X8_person (xs (k + 1)) σ) (f_X9_person (xs (k + 1))) := op_person h
  obtain ⟨r, σ1, σ2, e1, e2, g⟩ := sm
  refine l_aload_n X dL_law_318 2 rfl isr_ref ?_
  refine l_aload_n X dL_law_319 3 rfl isr_ref ?_
  refine l_iload_n X dL_law_320 0 rfl ?_
  refine l_iconst (v := (1 : Int32)) X dL_law_321 (by decide) ?_
  refine l_iadd X dL_law_322 ?_
  refine l_sld X (k + 1) (nI_add k 1) (by omega) hL dL_law_323 ?_
  refine l_callVi (i := 108) (As := [.int (xs (k + 1))]) (rest := []) X (c_X8_person l G (xs (k + 1)) σ (by rw [e1]; rfl)) md_X8_person gL_law_X8_person (by omega) rfl rfl (kd_in kc_108 (by decide)) (EE_8 _ kc_108) rfl rfl (Nat.le_of_ble_eq_true rfl) dL_law_324 (fun r1 s1 h1 => ?_)
  cases Option.some.inj (e1.symm.trans h1)
  refine l_aload_n X dL_law_327 1 rfl isr_ref ?_
  refine l_aload_n X dL_law_328 3 rfl isr_ref ?_
  refine l_iload_n X dL_law_329 0 rfl ?_
  refine l_iconst (v := (1 : Int32)) X dL_law_330 (by decide) ?_
  refine l_iadd X dL_law_331 ?_
  refine l_sld X (k + 1) (nI_add k 1) (by omega) hL dL_law_332 ?_
  refine l_callVi (i := 129) (As := [.int (xs (k + 1))]) (rest := [.int r]) X (c_X9_person l G (xs (k + 1)) σ1 (by rw [e2]; rfl)) md_X9_person gL_law_X9_person (by omega) rfl rfl (kd_in kc_129 (by decide)) (EE_9 _ kc_129) rfl rfl (Nat.le_of_ble_eq_true rfl) dL_law_333 (fun r2 s2 h2 => ?_)
  cases Option.some.inj (e2.symm.trans h2)
  exact l_icmp_eq (tgt := 1358) X dL_law_336 (by decide) (fun _ => kk _ g) (fun h => absurd rfl h)
set_option maxRecDepth 100000 in
set_option maxHeartbeats 2000000 in
theorem la_5 {l : Launch} {G : GX} {K : KX} {b L k : Nat} {xs : Nat → Int32} {σ : MM} (X : FL G K b L xs) (hk : k + 6 ≤ L) (hL : L ≤ 3072) (h : GD σ) (kk : ∀ σ2, GD σ2 → VL l G K 1358 [(3, .int (nI k)), (2, .ref (G.1 129)), (1, .ref (G.1 108)), (0, .ref b)] [] σ2) : VL l G K 341 [(3, .int (nI k)), (2, .ref (G.1 129)), (1, .ref (G.1 108)), (0, .ref b)] [] σ := by
  have sm : SIM (f_X8_personIs (xs (k + 1)) (xs (k + 2)) σ) (f_X9_personIs (xs (k + 1)) (xs (k + 2))) := op_personIs h
  obtain ⟨r, σ1, σ2, e1, e2, g⟩ := sm
  refine l_aload_n X dL_law_341 2 rfl isr_ref ?_
  refine l_aload_n X dL_law_342 3 rfl isr_ref ?_
  refine l_iload_n X dL_law_343 0 rfl ?_
  refine l_iconst (v := (1 : Int32)) X dL_law_344 (by decide) ?_
  refine l_iadd X dL_law_345 ?_
  refine l_sld X (k + 1) (nI_add k 1) (by omega) hL dL_law_346 ?_
  refine l_aload_n X dL_law_347 3 rfl isr_ref ?_
  refine l_iload_n X dL_law_348 0 rfl ?_
  refine l_iconst (v := (2 : Int32)) X dL_law_349 (by decide) ?_
  refine l_iadd X dL_law_350 ?_
  refine l_sld X (k + 2) (nI_add k 2) (by omega) hL dL_law_351 ?_
  refine l_callVi (i := 108) (As := [.int (xs (k + 1)), .int (xs (k + 2))]) (rest := []) X (c_X8_personIs l G (xs (k + 1)) (xs (k + 2)) σ (by rw [e1]; rfl)) md_X8_personIs gL_law_X8_personIs (by omega) rfl rfl (kd_in kc_108 (by decide)) (EE_8 _ kc_108) rfl rfl (Nat.le_of_ble_eq_true rfl) dL_law_352 (fun r1 s1 h1 => ?_)
  cases Option.some.inj (e1.symm.trans h1)
  refine l_aload_n X dL_law_355 1 rfl isr_ref ?_
  refine l_aload_n X dL_law_356 3 rfl isr_ref ?_
  refine l_iload_n X dL_law_357 0 rfl ?_
  refine l_iconst (v := (1 : Int32)) X dL_law_358 (by decide) ?_
  refine l_iadd X dL_law_359 ?_
  refine l_sld X (k + 1) (nI_add k 1) (by omega) hL dL_law_360 ?_
  refine l_aload_n X dL_law_361 3 rfl isr_ref ?_
  refine l_iload_n X dL_law_362 0 rfl ?_
  refine l_iconst (v := (2 : Int32)) X dL_law_363 (by decide) ?_
  refine l_iadd X dL_law_364 ?_
  refine l_sld X (k + 2) (nI_add k 2) (by omega) hL dL_law_365 ?_
  refine l_callVi (i := 129) (As := [.int (xs (k + 1)), .int (xs (k + 2))]) (rest := [.int r]) X (c_X9_personIs l G (xs (k + 1)) (xs (k + 2)) σ1 (by rw [e2]; rfl)) md_X9_personIs gL_law_X9_personIs (by omega) rfl rfl (kd_in kc_129 (by decide)) (EE_9 _ kc_129) rfl rfl (Nat.le_of_ble_eq_true rfl) dL_law_366 (fun r2 s2 h2 => ?_)
  cases Option.some.inj (e2.symm.trans h2)
  exact l_icmp_eq (tgt := 1358) X dL_law_369 (by decide) (fun _ => kk _ g) (fun h => absurd rfl h)
set_option maxRecDepth 100000 in
set_option maxHeartbeats 2000000 in
theorem la_6 {l : Launch} {G : GX} {K : KX} {b L k : Nat} {xs : Nat → Int32} {σ : MM} (X : FL G K b L xs) (hk : k + 6 ≤ L) (hL : L ≤ 3072) (h : GD σ) (kk : ∀ σ2, GD σ2 → VL l G K 1358 [(3, .int (nI k)), (2, .ref (G.1 129)), (1, .ref (G.1 108)), (0, .ref b)] [] σ2) : VL l G K 374 [(3, .int (nI k)), (2, .ref (G.1 129)), (1, .ref (G.1 108)), (0, .ref b)] [] σ := by
  have sm : SIM (f_X8_rests (xs (k + 1)) (xs (k + 2)) σ) (f_X9_rests (xs (k + 1)) (xs (k + 2))) := op_rests h
  obtain ⟨r, σ1, σ2, e1, e2, g⟩ := sm
  refine l_aload_n X dL_law_374 2 rfl isr_ref ?_
  refine l_aload_n X dL_law_375 3 rfl isr_ref ?_
  refine l_iload_n X dL_law_376 0 rfl ?_
  refine l_iconst (v := (1 : Int32)) X dL_law_377 (by decide) ?_
  refine l_iadd X dL_law_378 ?_
  refine l_sld X (k + 1) (nI_add k 1) (by omega) hL dL_law_379 ?_
  refine l_aload_n X dL_law_380 3 rfl isr_ref ?_
  refine l_iload_n X dL_law_381 0 rfl ?_
  refine l_iconst (v := (2 : Int32)) X dL_law_382 (by decide) ?_
  refine l_iadd X dL_law_383 ?_
  refine l_sld X (k + 2) (nI_add k 2) (by omega) hL dL_law_384 ?_
  refine l_callVi (i := 108) (As := [.int (xs (k + 1)), .int (xs (k + 2))]) (rest := []) X (c_X8_rests l G (xs (k + 1)) (xs (k + 2)) σ (by rw [e1]; rfl)) md_X8_rests gL_law_X8_rests (by omega) rfl rfl (kd_in kc_108 (by decide)) (EE_8 _ kc_108) rfl rfl (Nat.le_of_ble_eq_true rfl) dL_law_385 (fun r1 s1 h1 => ?_)
  cases Option.some.inj (e1.symm.trans h1)
  refine l_aload_n X dL_law_388 1 rfl isr_ref ?_
  refine l_aload_n X dL_law_389 3 rfl isr_ref ?_
  refine l_iload_n X dL_law_390 0 rfl ?_
  refine l_iconst (v := (1 : Int32)) X dL_law_391 (by decide) ?_
  refine l_iadd X dL_law_392 ?_
  refine l_sld X (k + 1) (nI_add k 1) (by omega) hL dL_law_393 ?_
  refine l_aload_n X dL_law_394 3 rfl isr_ref ?_
  refine l_iload_n X dL_law_395 0 rfl ?_
  refine l_iconst (v := (2 : Int32)) X dL_law_396 (by decide) ?_
  refine l_iadd X dL_law_397 ?_
  refine l_sld X (k + 2) (nI_add k 2) (by omega) hL dL_law_398 ?_
  refine l_callVi (i := 129) (As := [.int (xs (k + 1)), .int (xs (k + 2))]) (rest := [.int r]) X (c_X9_rests l G (xs (k + 1)) (xs (k + 2)) σ1 (by rw [e2]; rfl)) md_X9_rests gL_law_X9_rests (by omega) rfl rfl (kd_in kc_129 (by decide)) (EE_9 _ kc_129) rfl rfl (Nat.le_of_ble_eq_true rfl) dL_law_399 (fun r2 s2 h2 => ?_)
  cases Option.some.inj (e2.symm.trans h2)
  exact l_icmp_eq (tgt := 1358) X dL_law_402 (by decide) (fun _ => kk _ g) (fun h => absurd rfl h)
set_option maxRecDepth 100000 in
set_option maxHeartbeats 2000000 in
theorem la_7 {l : Launch} {G : GX} {K : KX} {b L k : Nat} {xs : Nat → Int32} {σ : MM} (X : FL G K b L xs) (hk : k + 6 ≤ L) (hL : L ≤ 3072) (h : GD σ) (kk : ∀ σ2, GD σ2 → VL l G K 1358 [(3, .int (nI k)), (2, .ref (G.1 129)), (1, .ref (G.1 108)), (0, .ref b)] [] σ2) : VL l G K 407 [(3, .int (nI k)), (2, .ref (G.1 129)), (1, .ref (G.1 108)), (0, .ref b)] [] σ := by
  have sm : SIM (f_X8_carry (xs (k + 1)) (xs (k + 2)) σ) (f_X9_carry (xs (k + 1)) (xs (k + 2))) := op_carry h
  obtain ⟨r, σ1, σ2, e1, e2, g⟩ := sm
  refine l_aload_n X dL_law_407 2 rfl isr_ref ?_
  refine l_aload_n X dL_law_408 3 rfl isr_ref ?_
  refine l_iload_n X dL_law_409 0 rfl ?_
  refine l_iconst (v := (1 : Int32)) X dL_law_410 (by decide) ?_
  refine l_iadd X dL_law_411 ?_
  refine l_sld X (k + 1) (nI_add k 1) (by omega) hL dL_law_412 ?_
  refine l_aload_n X dL_law_413 3 rfl isr_ref ?_
  refine l_iload_n X dL_law_414 0 rfl ?_
  refine l_iconst (v := (2 : Int32)) X dL_law_415 (by decide) ?_
  refine l_iadd X dL_law_416 ?_
  refine l_sld X (k + 2) (nI_add k 2) (by omega) hL dL_law_417 ?_
  refine l_callVi (i := 108) (As := [.int (xs (k + 1)), .int (xs (k + 2))]) (rest := []) X (c_X8_carry l G (xs (k + 1)) (xs (k + 2)) σ (by rw [e1]; rfl)) md_X8_carry gL_law_X8_carry (by omega) rfl rfl (kd_in kc_108 (by decide)) (EE_8 _ kc_108) rfl rfl (Nat.le_of_ble_eq_true rfl) dL_law_418 (fun r1 s1 h1 => ?_)
  cases Option.some.inj (e1.symm.trans h1)
  refine l_aload_n X dL_law_421 1 rfl isr_ref ?_
  refine l_aload_n X dL_law_422 3 rfl isr_ref ?_
  refine l_iload_n X dL_law_423 0 rfl ?_
  refine l_iconst (v := (1 : Int32)) X dL_law_424 (by decide) ?_
  refine l_iadd X dL_law_425 ?_
  refine l_sld X (k + 1) (nI_add k 1) (by omega) hL dL_law_426 ?_
  refine l_aload_n X dL_law_427 3 rfl isr_ref ?_
  refine l_iload_n X dL_law_428 0 rfl ?_
  refine l_iconst (v := (2 : Int32)) X dL_law_429 (by decide) ?_
  refine l_iadd X dL_law_430 ?_
  refine l_sld X (k + 2) (nI_add k 2) (by omega) hL dL_law_431 ?_
  refine l_callVi (i := 129) (As := [.int (xs (k + 1)), .int (xs (k + 2))]) (rest := [.int r]) X (c_X9_carry l G (xs (k + 1)) (xs (k + 2)) σ1 (by rw [e2]; rfl)) md_X9_carry gL_law_X9_carry (by omega) rfl rfl (kd_in kc_129 (by decide)) (EE_9 _ kc_129) rfl rfl (Nat.le_of_ble_eq_true rfl) dL_law_432 (fun r2 s2 h2 => ?_)
  cases Option.some.inj (e2.symm.trans h2)
  exact l_icmp_eq (tgt := 1358) X dL_law_435 (by decide) (fun _ => kk _ g) (fun h => absurd rfl h)
set_option maxRecDepth 100000 in
set_option maxHeartbeats 2000000 in
theorem la_8 {l : Launch} {G : GX} {K : KX} {b L k : Nat} {xs : Nat → Int32} {σ : MM} (X : FL G K b L xs) (hk : k + 6 ≤ L) (hL : L ≤ 3072) (h : GD σ) (kk : ∀ σ2, GD σ2 → VL l G K 1358 [(3, .int (nI k)), (2, .ref (G.1 129)), (1, .ref (G.1 108)), (0, .ref b)] [] σ2) : VL l G K 440 [(3, .int (nI k)), (2, .ref (G.1 129)), (1, .ref (G.1 108)), (0, .ref b)] [] σ := by
  have sm : SIM (f_X8_content (xs (k + 1)) (xs (k + 2)) σ) (f_X9_content (xs (k + 1)) (xs (k + 2))) := op_content h
  obtain ⟨r, σ1, σ2, e1, e2, g⟩ := sm
  refine l_aload_n X dL_law_440 2 rfl isr_ref ?_
  refine l_aload_n X dL_law_441 3 rfl isr_ref ?_
  refine l_iload_n X dL_law_442 0 rfl ?_
  refine l_iconst (v := (1 : Int32)) X dL_law_443 (by decide) ?_
  refine l_iadd X dL_law_444 ?_
  refine l_sld X (k + 1) (nI_add k 1) (by omega) hL dL_law_445 ?_
  refine l_aload_n X dL_law_446 3 rfl isr_ref ?_
  refine l_iload_n X dL_law_447 0 rfl ?_
  refine l_iconst (v := (2 : Int32)) X dL_law_448 (by decide) ?_
  refine l_iadd X dL_law_449 ?_
  refine l_sld X (k + 2) (nI_add k 2) (by omega) hL dL_law_450 ?_
  refine l_callVi (i := 108) (As := [.int (xs (k + 1)), .int (xs (k + 2))]) (rest := []) X (c_X8_content l G (xs (k + 1)) (xs (k + 2)) σ (by rw [e1]; rfl)) md_X8_content gL_law_X8_content (by omega) rfl rfl (kd_in kc_108 (by decide)) (EE_8 _ kc_108) rfl rfl (Nat.le_of_ble_eq_true rfl) dL_law_451 (fun r1 s1 h1 => ?_)
  cases Option.some.inj (e1.symm.trans h1)
  refine l_aload_n X dL_law_454 1 rfl isr_ref ?_
  refine l_aload_n X dL_law_455 3 rfl isr_ref ?_
  refine l_iload_n X dL_law_456 0 rfl ?_
  refine l_iconst (v := (1 : Int32)) X dL_law_457 (by decide) ?_
  refine l_iadd X dL_law_458 ?_
  refine l_sld X (k + 1) (nI_add k 1) (by omega) hL dL_law_459 ?_
  refine l_aload_n X dL_law_460 3 rfl isr_ref ?_
  refine l_iload_n X dL_law_461 0 rfl ?_
  refine l_iconst (v := (2 : Int32)) X dL_law_462 (by decide) ?_
  refine l_iadd X dL_law_463 ?_
  refine l_sld X (k + 2) (nI_add k 2) (by omega) hL dL_law_464 ?_
  refine l_callVi (i := 129) (As := [.int (xs (k + 1)), .int (xs (k + 2))]) (rest := [.int r]) X (c_X9_content l G (xs (k + 1)) (xs (k + 2)) σ1 (by rw [e2]; rfl)) md_X9_content gL_law_X9_content (by omega) rfl rfl (kd_in kc_129 (by decide)) (EE_9 _ kc_129) rfl rfl (Nat.le_of_ble_eq_true rfl) dL_law_465 (fun r2 s2 h2 => ?_)
  cases Option.some.inj (e2.symm.trans h2)
  exact l_icmp_eq (tgt := 1358) X dL_law_468 (by decide) (fun _ => kk _ g) (fun h => absurd rfl h)
set_option maxRecDepth 100000 in
set_option maxHeartbeats 2000000 in
theorem la_9 {l : Launch} {G : GX} {K : KX} {b L k : Nat} {xs : Nat → Int32} {σ : MM} (X : FL G K b L xs) (hk : k + 6 ≤ L) (hL : L ≤ 3072) (h : GD σ) (kk : ∀ σ2, GD σ2 → VL l G K 1358 [(3, .int (nI k)), (2, .ref (G.1 129)), (1, .ref (G.1 108)), (0, .ref b)] [] σ2) : VL l G K 473 [(3, .int (nI k)), (2, .ref (G.1 129)), (1, .ref (G.1 108)), (0, .ref b)] [] σ := by
  have sm : SIM (f_X8_say (xs (k + 1)) (xs (k + 2)) σ) (f_X9_say (xs (k + 1)) (xs (k + 2))) := op_say h
  obtain ⟨r, σ1, σ2, e1, e2, g⟩ := sm
  refine l_aload_n X dL_law_473 2 rfl isr_ref ?_
  refine l_aload_n X dL_law_474 3 rfl isr_ref ?_
  refine l_iload_n X dL_law_475 0 rfl ?_
  refine l_iconst (v := (1 : Int32)) X dL_law_476 (by decide) ?_
  refine l_iadd X dL_law_477 ?_
  refine l_sld X (k + 1) (nI_add k 1) (by omega) hL dL_law_478 ?_
  refine l_aload_n X dL_law_479 3 rfl isr_ref ?_
  refine l_iload_n X dL_law_480 0 rfl ?_
  refine l_iconst (v := (2 : Int32)) X dL_law_481 (by decide) ?_
  refine l_iadd X dL_law_482 ?_
  refine l_sld X (k + 2) (nI_add k 2) (by omega) hL dL_law_483 ?_
  refine l_callVi (i := 108) (As := [.int (xs (k + 1)), .int (xs (k + 2))]) (rest := []) X (c_X8_say l G (xs (k + 1)) (xs (k + 2)) σ (by rw [e1]; rfl)) md_X8_say gL_law_X8_say (by omega) rfl rfl (kd_in kc_108 (by decide)) (EE_8 _ kc_108) rfl rfl (Nat.le_of_ble_eq_true rfl) dL_law_484 (fun r1 s1 h1 => ?_)
  cases Option.some.inj (e1.symm.trans h1)
  refine l_aload_n X dL_law_487 1 rfl isr_ref ?_
  refine l_aload_n X dL_law_488 3 rfl isr_ref ?_
  refine l_iload_n X dL_law_489 0 rfl ?_
  refine l_iconst (v := (1 : Int32)) X dL_law_490 (by decide) ?_
  refine l_iadd X dL_law_491 ?_
  refine l_sld X (k + 1) (nI_add k 1) (by omega) hL dL_law_492 ?_
  refine l_aload_n X dL_law_493 3 rfl isr_ref ?_
  refine l_iload_n X dL_law_494 0 rfl ?_
  refine l_iconst (v := (2 : Int32)) X dL_law_495 (by decide) ?_
  refine l_iadd X dL_law_496 ?_
  refine l_sld X (k + 2) (nI_add k 2) (by omega) hL dL_law_497 ?_
  refine l_callVi (i := 129) (As := [.int (xs (k + 1)), .int (xs (k + 2))]) (rest := [.int r]) X (c_X9_say l G (xs (k + 1)) (xs (k + 2)) σ1 (by rw [e2]; rfl)) md_X9_say gL_law_X9_say (by omega) rfl rfl (kd_in kc_129 (by decide)) (EE_9 _ kc_129) rfl rfl (Nat.le_of_ble_eq_true rfl) dL_law_498 (fun r2 s2 h2 => ?_)
  cases Option.some.inj (e2.symm.trans h2)
  exact l_icmp_eq (tgt := 1358) X dL_law_501 (by decide) (fun _ => kk _ g) (fun h => absurd rfl h)
set_option maxRecDepth 100000 in
set_option maxHeartbeats 2000000 in
theorem la_10 {l : Launch} {G : GX} {K : KX} {b L k : Nat} {xs : Nat → Int32} {σ : MM} (X : FL G K b L xs) (hk : k + 6 ≤ L) (hL : L ≤ 3072) (h : GD σ) (kk : ∀ σ2, GD σ2 → VL l G K 1358 [(3, .int (nI k)), (2, .ref (G.1 129)), (1, .ref (G.1 108)), (0, .ref b)] [] σ2) : VL l G K 506 [(3, .int (nI k)), (2, .ref (G.1 129)), (1, .ref (G.1 108)), (0, .ref b)] [] σ := by
  have sm : SIM (f_X8_bribe (xs (k + 1)) σ) (f_X9_bribe (xs (k + 1))) := op_bribe h
  obtain ⟨r, σ1, σ2, e1, e2, g⟩ := sm
  refine l_aload_n X dL_law_506 2 rfl isr_ref ?_
  refine l_aload_n X dL_law_507 3 rfl isr_ref ?_
  refine l_iload_n X dL_law_508 0 rfl ?_
  refine l_iconst (v := (1 : Int32)) X dL_law_509 (by decide) ?_
  refine l_iadd X dL_law_510 ?_
  refine l_sld X (k + 1) (nI_add k 1) (by omega) hL dL_law_511 ?_
  refine l_callVi (i := 108) (As := [.int (xs (k + 1))]) (rest := []) X (c_X8_bribe l G (xs (k + 1)) σ (by rw [e1]; rfl)) md_X8_bribe gL_law_X8_bribe (by omega) rfl rfl (kd_in kc_108 (by decide)) (EE_8 _ kc_108) rfl rfl (Nat.le_of_ble_eq_true rfl) dL_law_512 (fun r1 s1 h1 => ?_)
  cases Option.some.inj (e1.symm.trans h1)
  refine l_aload_n X dL_law_515 1 rfl isr_ref ?_
  refine l_aload_n X dL_law_516 3 rfl isr_ref ?_
  refine l_iload_n X dL_law_517 0 rfl ?_
  refine l_iconst (v := (1 : Int32)) X dL_law_518 (by decide) ?_
  refine l_iadd X dL_law_519 ?_
  refine l_sld X (k + 1) (nI_add k 1) (by omega) hL dL_law_520 ?_
  refine l_callVi (i := 129) (As := [.int (xs (k + 1))]) (rest := [.int r]) X (c_X9_bribe l G (xs (k + 1)) σ1 (by rw [e2]; rfl)) md_X9_bribe gL_law_X9_bribe (by omega) rfl rfl (kd_in kc_129 (by decide)) (EE_9 _ kc_129) rfl rfl (Nat.le_of_ble_eq_true rfl) dL_law_521 (fun r2 s2 h2 => ?_)
  cases Option.some.inj (e2.symm.trans h2)
  exact l_icmp_eq (tgt := 1358) X dL_law_524 (by decide) (fun _ => kk _ g) (fun h => absurd rfl h)
set_option maxRecDepth 100000 in
set_option maxHeartbeats 2000000 in
theorem la_11 {l : Launch} {G : GX} {K : KX} {b L k : Nat} {xs : Nat → Int32} {σ : MM} (X : FL G K b L xs) (hk : k + 6 ≤ L) (hL : L ≤ 3072) (h : GD σ) (kk : ∀ σ2, GD σ2 → VL l G K 1358 [(3, .int (nI k)), (2, .ref (G.1 129)), (1, .ref (G.1 108)), (0, .ref b)] [] σ2) : VL l G K 529 [(3, .int (nI k)), (2, .ref (G.1 129)), (1, .ref (G.1 108)), (0, .ref b)] [] σ := by
  have key : ∀ v : Int64, ∃ (r : Int32) (σ1 σ2 : MM), f_X8_feed v (xs (k + 3)) σ = some (r, σ1) ∧ f_X9_feed v (xs (k + 3)) σ1 = some (r, σ2) ∧ GD σ2 := fun v => op_feed h
  refine l_aload_n X dL_law_529 2 rfl isr_ref ?_
  refine l_aload_n X dL_law_530 3 rfl isr_ref ?_
  refine l_iload_n X dL_law_531 0 rfl ?_
  refine l_iconst (v := (1 : Int32)) X dL_law_532 (by decide) ?_
  refine l_iadd X dL_law_533 ?_
  refine l_sld X (k + 1) (nI_add k 1) (by omega) hL dL_law_534 ?_
  refine l_i2l X dL_law_535 ?_
  refine l_bipush (v := (32 : Int32)) X dL_law_536 (by decide) ?_
  refine l_lshl X dL_law_538 ?_
  refine l_aload_n X dL_law_539 3 rfl isr_ref ?_
  refine l_iload_n X dL_law_540 0 rfl ?_
  refine l_iconst (v := (2 : Int32)) X dL_law_541 (by decide) ?_
  refine l_iadd X dL_law_542 ?_
  refine l_sld X (k + 2) (nI_add k 2) (by omega) hL dL_law_543 ?_
  refine l_i2l X dL_law_544 ?_
  refine l_ldc2 (v := (4294967295 : Int64)) X hL2 dL_law_545 ?_
  refine l_land X dL_law_548 ?_
  refine l_lor X dL_law_549 ?_
  generalize hv : ((xs (k + 1)).toInt64 <<< ((32 : Int32).toInt64 &&& 63) ||| ((xs (k + 2)).toInt64 &&& (4294967295 : Int64))) = v
  obtain ⟨r, σ1, σ2, e1, e2, g⟩ := key v
  refine l_aload_n X dL_law_550 3 rfl isr_ref ?_
  refine l_iload_n X dL_law_551 0 rfl ?_
  refine l_iconst (v := (3 : Int32)) X dL_law_552 (by decide) ?_
  refine l_iadd X dL_law_553 ?_
  refine l_sld X (k + 3) (nI_add k 3) (by omega) hL dL_law_554 ?_
  refine l_callVi (i := 108) (As := [.long v, .int (xs (k + 3))]) (rest := []) X (c_X8_feed l G (v) (xs (k + 3)) σ (by rw [e1]; rfl)) md_X8_feed gL_law_X8_feed (by omega) rfl rfl (kd_in kc_108 (by decide)) (EE_8 _ kc_108) rfl rfl (Nat.le_of_ble_eq_true rfl) dL_law_555 (fun r1 s1 h1 => ?_)
  cases Option.some.inj (e1.symm.trans h1)
  refine l_aload_n X dL_law_558 1 rfl isr_ref ?_
  refine l_aload_n X dL_law_559 3 rfl isr_ref ?_
  refine l_iload_n X dL_law_560 0 rfl ?_
  refine l_iconst (v := (1 : Int32)) X dL_law_561 (by decide) ?_
  refine l_iadd X dL_law_562 ?_
  refine l_sld X (k + 1) (nI_add k 1) (by omega) hL dL_law_563 ?_
  refine l_i2l X dL_law_564 ?_
  refine l_bipush (v := (32 : Int32)) X dL_law_565 (by decide) ?_
  refine l_lshl X dL_law_567 ?_
  refine l_aload_n X dL_law_568 3 rfl isr_ref ?_
  refine l_iload_n X dL_law_569 0 rfl ?_
  refine l_iconst (v := (2 : Int32)) X dL_law_570 (by decide) ?_
  refine l_iadd X dL_law_571 ?_
  refine l_sld X (k + 2) (nI_add k 2) (by omega) hL dL_law_572 ?_
  refine l_i2l X dL_law_573 ?_
  refine l_ldc2 (v := (4294967295 : Int64)) X hL2 dL_law_574 ?_
  refine l_land X dL_law_577 ?_
  refine l_lor X dL_law_578 ?_
  rw [hv]
  refine l_aload_n X dL_law_579 3 rfl isr_ref ?_
  refine l_iload_n X dL_law_580 0 rfl ?_
  refine l_iconst (v := (3 : Int32)) X dL_law_581 (by decide) ?_
  refine l_iadd X dL_law_582 ?_
  refine l_sld X (k + 3) (nI_add k 3) (by omega) hL dL_law_583 ?_
  refine l_callVi (i := 129) (As := [.long v, .int (xs (k + 3))]) (rest := [.int r]) X (c_X9_feed l G (v) (xs (k + 3)) σ1 (by rw [e2]; rfl)) md_X9_feed gL_law_X9_feed (by omega) rfl rfl (kd_in kc_129 (by decide)) (EE_9 _ kc_129) rfl rfl (Nat.le_of_ble_eq_true rfl) dL_law_584 (fun r2 s2 h2 => ?_)
  cases Option.some.inj (e2.symm.trans h2)
  exact l_icmp_eq (tgt := 1358) X dL_law_587 (by decide) (fun _ => kk _ g) (fun h => absurd rfl h)
set_option maxRecDepth 100000 in
set_option maxHeartbeats 2000000 in
theorem la_12 {l : Launch} {G : GX} {K : KX} {b L k : Nat} {xs : Nat → Int32} {σ : MM} (X : FL G K b L xs) (hk : k + 6 ≤ L) (hL : L ≤ 3072) (h : GD σ) (kk : ∀ σ2, GD σ2 → VL l G K 1358 [(3, .int (nI k)), (2, .ref (G.1 129)), (1, .ref (G.1 108)), (0, .ref b)] [] σ2) : VL l G K 592 [(3, .int (nI k)), (2, .ref (G.1 129)), (1, .ref (G.1 108)), (0, .ref b)] [] σ := by
  have sm : SIM (f_X8_text (xs (k + 1)) σ) (f_X9_text (xs (k + 1))) := op_text h
  obtain ⟨r, σ1, σ2, e1, e2, g⟩ := sm
  refine l_aload_n X dL_law_592 2 rfl isr_ref ?_
  refine l_aload_n X dL_law_593 3 rfl isr_ref ?_
  refine l_iload_n X dL_law_594 0 rfl ?_
  refine l_iconst (v := (1 : Int32)) X dL_law_595 (by decide) ?_
  refine l_iadd X dL_law_596 ?_
  refine l_sld X (k + 1) (nI_add k 1) (by omega) hL dL_law_597 ?_
  refine l_callVi (i := 108) (As := [.int (xs (k + 1))]) (rest := []) X (c_X8_text l G (xs (k + 1)) σ (by rw [e1]; rfl)) md_X8_text gL_law_X8_text (by omega) rfl rfl (kd_in kc_108 (by decide)) (EE_8 _ kc_108) rfl rfl (Nat.le_of_ble_eq_true rfl) dL_law_598 (fun r1 s1 h1 => ?_)
  cases Option.some.inj (e1.symm.trans h1)
  refine l_aload_n X dL_law_601 1 rfl isr_ref ?_
  refine l_aload_n X dL_law_602 3 rfl isr_ref ?_
  refine l_iload_n X dL_law_603 0 rfl ?_
  refine l_iconst (v := (1 : Int32)) X dL_law_604 (by decide) ?_
  refine l_iadd X dL_law_605 ?_
  refine l_sld X (k + 1) (nI_add k 1) (by omega) hL dL_law_606 ?_
  refine l_callVi (i := 129) (As := [.int (xs (k + 1))]) (rest := [.int r]) X (c_X9_text l G (xs (k + 1)) σ1 (by rw [e2]; rfl)) md_X9_text gL_law_X9_text (by omega) rfl rfl (kd_in kc_129 (by decide)) (EE_9 _ kc_129) rfl rfl (Nat.le_of_ble_eq_true rfl) dL_law_607 (fun r2 s2 h2 => ?_)
  cases Option.some.inj (e2.symm.trans h2)
  exact l_icmp_eq (tgt := 1358) X dL_law_610 (by decide) (fun _ => kk _ g) (fun h => absurd rfl h)
set_option maxRecDepth 100000 in
set_option maxHeartbeats 2000000 in
theorem la_13 {l : Launch} {G : GX} {K : KX} {b L k : Nat} {xs : Nat → Int32} {σ : MM} (X : FL G K b L xs) (hk : k + 6 ≤ L) (hL : L ≤ 3072) (h : GD σ) (kk : ∀ σ2, GD σ2 → VL l G K 1358 [(3, .int (nI k)), (2, .ref (G.1 129)), (1, .ref (G.1 108)), (0, .ref b)] [] σ2) : VL l G K 615 [(3, .int (nI k)), (2, .ref (G.1 129)), (1, .ref (G.1 108)), (0, .ref b)] [] σ := by
  have sm : SIM (f_X8_untell (xs (k + 1)) σ) (f_X9_untell (xs (k + 1))) := op_untell h
  obtain ⟨r, σ1, σ2, e1, e2, g⟩ := sm
  refine l_aload_n X dL_law_615 2 rfl isr_ref ?_
  refine l_aload_n X dL_law_616 3 rfl isr_ref ?_
  refine l_iload_n X dL_law_617 0 rfl ?_
  refine l_iconst (v := (1 : Int32)) X dL_law_618 (by decide) ?_
  refine l_iadd X dL_law_619 ?_
  refine l_sld X (k + 1) (nI_add k 1) (by omega) hL dL_law_620 ?_
  refine l_callVi (i := 108) (As := [.int (xs (k + 1))]) (rest := []) X (c_X8_untell l G (xs (k + 1)) σ (by rw [e1]; rfl)) md_X8_untell gL_law_X8_untell (by omega) rfl rfl (kd_in kc_108 (by decide)) (EE_8 _ kc_108) rfl rfl (Nat.le_of_ble_eq_true rfl) dL_law_621 (fun r1 s1 h1 => ?_)
  cases Option.some.inj (e1.symm.trans h1)
  refine l_aload_n X dL_law_624 1 rfl isr_ref ?_
  refine l_aload_n X dL_law_625 3 rfl isr_ref ?_
  refine l_iload_n X dL_law_626 0 rfl ?_
  refine l_iconst (v := (1 : Int32)) X dL_law_627 (by decide) ?_
  refine l_iadd X dL_law_628 ?_
  refine l_sld X (k + 1) (nI_add k 1) (by omega) hL dL_law_629 ?_
  refine l_callVi (i := 129) (As := [.int (xs (k + 1))]) (rest := [.int r]) X (c_X9_untell l G (xs (k + 1)) σ1 (by rw [e2]; rfl)) md_X9_untell gL_law_X9_untell (by omega) rfl rfl (kd_in kc_129 (by decide)) (EE_9 _ kc_129) rfl rfl (Nat.le_of_ble_eq_true rfl) dL_law_630 (fun r2 s2 h2 => ?_)
  cases Option.some.inj (e2.symm.trans h2)
  exact l_icmp_eq (tgt := 1358) X dL_law_633 (by decide) (fun _ => kk _ g) (fun h => absurd rfl h)
set_option maxRecDepth 100000 in
set_option maxHeartbeats 2000000 in
theorem la_14 {l : Launch} {G : GX} {K : KX} {b L k : Nat} {xs : Nat → Int32} {σ : MM} (X : FL G K b L xs) (hk : k + 6 ≤ L) (hL : L ≤ 3072) (h : GD σ) (kk : ∀ σ2, GD σ2 → VL l G K 1358 [(3, .int (nI k)), (2, .ref (G.1 129)), (1, .ref (G.1 108)), (0, .ref b)] [] σ2) : VL l G K 638 [(3, .int (nI k)), (2, .ref (G.1 129)), (1, .ref (G.1 108)), (0, .ref b)] [] σ := by
  have sm : SIM (f_X8_law (xs (k + 1)) (xs (k + 2)) (xs (k + 3)) (xs (k + 4)) σ) (f_X9_law (xs (k + 1)) (xs (k + 2)) (xs (k + 3)) (xs (k + 4))) := op_law h
  obtain ⟨r, σ1, σ2, e1, e2, g⟩ := sm
  refine l_aload_n X dL_law_638 2 rfl isr_ref ?_
  refine l_aload_n X dL_law_639 3 rfl isr_ref ?_
  refine l_iload_n X dL_law_640 0 rfl ?_
  refine l_iconst (v := (1 : Int32)) X dL_law_641 (by decide) ?_
  refine l_iadd X dL_law_642 ?_
  refine l_sld X (k + 1) (nI_add k 1) (by omega) hL dL_law_643 ?_
  refine l_aload_n X dL_law_644 3 rfl isr_ref ?_
  refine l_iload_n X dL_law_645 0 rfl ?_
  refine l_iconst (v := (2 : Int32)) X dL_law_646 (by decide) ?_
  refine l_iadd X dL_law_647 ?_
  refine l_sld X (k + 2) (nI_add k 2) (by omega) hL dL_law_648 ?_
  refine l_aload_n X dL_law_649 3 rfl isr_ref ?_
  refine l_iload_n X dL_law_650 0 rfl ?_
  refine l_iconst (v := (3 : Int32)) X dL_law_651 (by decide) ?_
  refine l_iadd X dL_law_652 ?_
  refine l_sld X (k + 3) (nI_add k 3) (by omega) hL dL_law_653 ?_
  refine l_aload_n X dL_law_654 3 rfl isr_ref ?_
  refine l_iload_n X dL_law_655 0 rfl ?_
  refine l_iconst (v := (4 : Int32)) X dL_law_656 (by decide) ?_
  refine l_iadd X dL_law_657 ?_
  refine l_sld X (k + 4) (nI_add k 4) (by omega) hL dL_law_658 ?_
  refine l_callVi (i := 108) (As := [.int (xs (k + 1)), .int (xs (k + 2)), .int (xs (k + 3)), .int (xs (k + 4))]) (rest := []) X (c_X8_law l G (xs (k + 1)) (xs (k + 2)) (xs (k + 3)) (xs (k + 4)) σ (by rw [e1]; rfl)) md_X8_law gL_law_X8_law (by omega) rfl rfl (kd_in kc_108 (by decide)) (EE_8 _ kc_108) rfl rfl (Nat.le_of_ble_eq_true rfl) dL_law_659 (fun r1 s1 h1 => ?_)
  cases Option.some.inj (e1.symm.trans h1)
  refine l_aload_n X dL_law_662 1 rfl isr_ref ?_
  refine l_aload_n X dL_law_663 3 rfl isr_ref ?_
  refine l_iload_n X dL_law_664 0 rfl ?_
  refine l_iconst (v := (1 : Int32)) X dL_law_665 (by decide) ?_
  refine l_iadd X dL_law_666 ?_
  refine l_sld X (k + 1) (nI_add k 1) (by omega) hL dL_law_667 ?_
  refine l_aload_n X dL_law_668 3 rfl isr_ref ?_
  refine l_iload_n X dL_law_669 0 rfl ?_
  refine l_iconst (v := (2 : Int32)) X dL_law_670 (by decide) ?_
  refine l_iadd X dL_law_671 ?_
  refine l_sld X (k + 2) (nI_add k 2) (by omega) hL dL_law_672 ?_
  refine l_aload_n X dL_law_673 3 rfl isr_ref ?_
  refine l_iload_n X dL_law_674 0 rfl ?_
  refine l_iconst (v := (3 : Int32)) X dL_law_675 (by decide) ?_
  refine l_iadd X dL_law_676 ?_
  refine l_sld X (k + 3) (nI_add k 3) (by omega) hL dL_law_677 ?_
  refine l_aload_n X dL_law_678 3 rfl isr_ref ?_
  refine l_iload_n X dL_law_679 0 rfl ?_
  refine l_iconst (v := (4 : Int32)) X dL_law_680 (by decide) ?_
  refine l_iadd X dL_law_681 ?_
  refine l_sld X (k + 4) (nI_add k 4) (by omega) hL dL_law_682 ?_
  refine l_callVi (i := 129) (As := [.int (xs (k + 1)), .int (xs (k + 2)), .int (xs (k + 3)), .int (xs (k + 4))]) (rest := [.int r]) X (c_X9_law l G (xs (k + 1)) (xs (k + 2)) (xs (k + 3)) (xs (k + 4)) σ1 (by rw [e2]; rfl)) md_X9_law gL_law_X9_law (by omega) rfl rfl (kd_in kc_129 (by decide)) (EE_9 _ kc_129) rfl rfl (Nat.le_of_ble_eq_true rfl) dL_law_683 (fun r2 s2 h2 => ?_)
  cases Option.some.inj (e2.symm.trans h2)
  exact l_icmp_eq (tgt := 1358) X dL_law_686 (by decide) (fun _ => kk _ g) (fun h => absurd rfl h)
set_option maxRecDepth 100000 in
set_option maxHeartbeats 2000000 in
theorem la_15 {l : Launch} {G : GX} {K : KX} {b L k : Nat} {xs : Nat → Int32} {σ : MM} (X : FL G K b L xs) (hk : k + 6 ≤ L) (hL : L ≤ 3072) (h : GD σ) (kk : ∀ σ2, GD σ2 → VL l G K 1358 [(3, .int (nI k)), (2, .ref (G.1 129)), (1, .ref (G.1 108)), (0, .ref b)] [] σ2) : VL l G K 691 [(3, .int (nI k)), (2, .ref (G.1 129)), (1, .ref (G.1 108)), (0, .ref b)] [] σ := by
  have sm : SIM (f_X8_hours (xs (k + 1)) σ) (f_X9_hours (xs (k + 1))) := op_hours h
  obtain ⟨r, σ1, σ2, e1, e2, g⟩ := sm
  refine l_aload_n X dL_law_691 2 rfl isr_ref ?_
  refine l_aload_n X dL_law_692 3 rfl isr_ref ?_
  refine l_iload_n X dL_law_693 0 rfl ?_
  refine l_iconst (v := (1 : Int32)) X dL_law_694 (by decide) ?_
  refine l_iadd X dL_law_695 ?_
  refine l_sld X (k + 1) (nI_add k 1) (by omega) hL dL_law_696 ?_
  refine l_callVi (i := 108) (As := [.int (xs (k + 1))]) (rest := []) X (c_X8_hours l G (xs (k + 1)) σ (by rw [e1]; rfl)) md_X8_hours gL_law_X8_hours (by omega) rfl rfl (kd_in kc_108 (by decide)) (EE_8 _ kc_108) rfl rfl (Nat.le_of_ble_eq_true rfl) dL_law_697 (fun r1 s1 h1 => ?_)
  cases Option.some.inj (e1.symm.trans h1)
  refine l_aload_n X dL_law_700 1 rfl isr_ref ?_
  refine l_aload_n X dL_law_701 3 rfl isr_ref ?_
  refine l_iload_n X dL_law_702 0 rfl ?_
  refine l_iconst (v := (1 : Int32)) X dL_law_703 (by decide) ?_
  refine l_iadd X dL_law_704 ?_
  refine l_sld X (k + 1) (nI_add k 1) (by omega) hL dL_law_705 ?_
  refine l_callVi (i := 129) (As := [.int (xs (k + 1))]) (rest := [.int r]) X (c_X9_hours l G (xs (k + 1)) σ1 (by rw [e2]; rfl)) md_X9_hours gL_law_X9_hours (by omega) rfl rfl (kd_in kc_129 (by decide)) (EE_9 _ kc_129) rfl rfl (Nat.le_of_ble_eq_true rfl) dL_law_706 (fun r2 s2 h2 => ?_)
  cases Option.some.inj (e2.symm.trans h2)
  exact l_icmp_eq (tgt := 1358) X dL_law_709 (by decide) (fun _ => kk _ g) (fun h => absurd rfl h)
set_option maxRecDepth 100000 in
set_option maxHeartbeats 2000000 in
theorem la_16 {l : Launch} {G : GX} {K : KX} {b L k : Nat} {xs : Nat → Int32} {σ : MM} (X : FL G K b L xs) (hk : k + 6 ≤ L) (hL : L ≤ 3072) (h : GD σ) (kk : ∀ σ2, GD σ2 → VL l G K 1358 [(3, .int (nI k)), (2, .ref (G.1 129)), (1, .ref (G.1 108)), (0, .ref b)] [] σ2) : VL l G K 714 [(3, .int (nI k)), (2, .ref (G.1 129)), (1, .ref (G.1 108)), (0, .ref b)] [] σ := by
  have sm : SIM (f_X8_loose (xs (k + 1)) σ) (f_X9_loose (xs (k + 1))) := op_loose h
  obtain ⟨r, σ1, σ2, e1, e2, g⟩ := sm
  refine l_aload_n X dL_law_714 2 rfl isr_ref ?_
  refine l_aload_n X dL_law_715 3 rfl isr_ref ?_
  refine l_iload_n X dL_law_716 0 rfl ?_
  refine l_iconst (v := (1 : Int32)) X dL_law_717 (by decide) ?_
  refine l_iadd X dL_law_718 ?_
  refine l_sld X (k + 1) (nI_add k 1) (by omega) hL dL_law_719 ?_
  refine l_callVi (i := 108) (As := [.int (xs (k + 1))]) (rest := []) X (c_X8_loose l G (xs (k + 1)) σ (by rw [e1]; rfl)) md_X8_loose gL_law_X8_loose (by omega) rfl rfl (kd_in kc_108 (by decide)) (EE_8 _ kc_108) rfl rfl (Nat.le_of_ble_eq_true rfl) dL_law_720 (fun r1 s1 h1 => ?_)
  cases Option.some.inj (e1.symm.trans h1)
  refine l_aload_n X dL_law_723 1 rfl isr_ref ?_
  refine l_aload_n X dL_law_724 3 rfl isr_ref ?_
  refine l_iload_n X dL_law_725 0 rfl ?_
  refine l_iconst (v := (1 : Int32)) X dL_law_726 (by decide) ?_
  refine l_iadd X dL_law_727 ?_
  refine l_sld X (k + 1) (nI_add k 1) (by omega) hL dL_law_728 ?_
  refine l_callVi (i := 129) (As := [.int (xs (k + 1))]) (rest := [.int r]) X (c_X9_loose l G (xs (k + 1)) σ1 (by rw [e2]; rfl)) md_X9_loose gL_law_X9_loose (by omega) rfl rfl (kd_in kc_129 (by decide)) (EE_9 _ kc_129) rfl rfl (Nat.le_of_ble_eq_true rfl) dL_law_729 (fun r2 s2 h2 => ?_)
  cases Option.some.inj (e2.symm.trans h2)
  exact l_icmp_eq (tgt := 1358) X dL_law_732 (by decide) (fun _ => kk _ g) (fun h => absurd rfl h)
set_option maxRecDepth 100000 in
set_option maxHeartbeats 2000000 in
theorem la_17 {l : Launch} {G : GX} {K : KX} {b L k : Nat} {xs : Nat → Int32} {σ : MM} (X : FL G K b L xs) (hk : k + 6 ≤ L) (hL : L ≤ 3072) (h : GD σ) (kk : ∀ σ2, GD σ2 → VL l G K 1358 [(3, .int (nI k)), (2, .ref (G.1 129)), (1, .ref (G.1 108)), (0, .ref b)] [] σ2) : VL l G K 737 [(3, .int (nI k)), (2, .ref (G.1 129)), (1, .ref (G.1 108)), (0, .ref b)] [] σ := by
  have sm : SIM (f_X8_seed (xs (k + 1)) σ) (f_X9_seed (xs (k + 1))) := op_seed h
  obtain ⟨r, σ1, σ2, e1, e2, g⟩ := sm
  refine l_aload_n X dL_law_737 2 rfl isr_ref ?_
  refine l_aload_n X dL_law_738 3 rfl isr_ref ?_
  refine l_iload_n X dL_law_739 0 rfl ?_
  refine l_iconst (v := (1 : Int32)) X dL_law_740 (by decide) ?_
  refine l_iadd X dL_law_741 ?_
  refine l_sld X (k + 1) (nI_add k 1) (by omega) hL dL_law_742 ?_
  refine l_callVi (i := 108) (As := [.int (xs (k + 1))]) (rest := []) X (c_X8_seed l G (xs (k + 1)) σ (by rw [e1]; rfl)) md_X8_seed gL_law_X8_seed (by omega) rfl rfl (kd_in kc_108 (by decide)) (EE_8 _ kc_108) rfl rfl (Nat.le_of_ble_eq_true rfl) dL_law_743 (fun r1 s1 h1 => ?_)
  cases Option.some.inj (e1.symm.trans h1)
  refine l_aload_n X dL_law_746 1 rfl isr_ref ?_
  refine l_aload_n X dL_law_747 3 rfl isr_ref ?_
  refine l_iload_n X dL_law_748 0 rfl ?_
  refine l_iconst (v := (1 : Int32)) X dL_law_749 (by decide) ?_
  refine l_iadd X dL_law_750 ?_
  refine l_sld X (k + 1) (nI_add k 1) (by omega) hL dL_law_751 ?_
  refine l_callVi (i := 129) (As := [.int (xs (k + 1))]) (rest := [.int r]) X (c_X9_seed l G (xs (k + 1)) σ1 (by rw [e2]; rfl)) md_X9_seed gL_law_X9_seed (by omega) rfl rfl (kd_in kc_129 (by decide)) (EE_9 _ kc_129) rfl rfl (Nat.le_of_ble_eq_true rfl) dL_law_752 (fun r2 s2 h2 => ?_)
  cases Option.some.inj (e2.symm.trans h2)
  exact l_icmp_eq (tgt := 1358) X dL_law_755 (by decide) (fun _ => kk _ g) (fun h => absurd rfl h)
set_option maxRecDepth 100000 in
set_option maxHeartbeats 2000000 in
theorem la_18 {l : Launch} {G : GX} {K : KX} {b L k : Nat} {xs : Nat → Int32} {σ : MM} (X : FL G K b L xs) (hk : k + 6 ≤ L) (hL : L ≤ 3072) (h : GD σ) (kk : ∀ σ2, GD σ2 → VL l G K 1358 [(3, .int (nI k)), (2, .ref (G.1 129)), (1, .ref (G.1 108)), (0, .ref b)] [] σ2) : VL l G K 760 [(3, .int (nI k)), (2, .ref (G.1 129)), (1, .ref (G.1 108)), (0, .ref b)] [] σ := by
  have sm : SIM (f_X8_words (xs (k + 1)) (xs (k + 2)) σ) (f_X9_words (xs (k + 1)) (xs (k + 2))) := op_words h
  obtain ⟨r, σ1, σ2, e1, e2, g⟩ := sm
  refine l_aload_n X dL_law_760 2 rfl isr_ref ?_
  refine l_aload_n X dL_law_761 3 rfl isr_ref ?_
  refine l_iload_n X dL_law_762 0 rfl ?_
  refine l_iconst (v := (1 : Int32)) X dL_law_763 (by decide) ?_
  refine l_iadd X dL_law_764 ?_
  refine l_sld X (k + 1) (nI_add k 1) (by omega) hL dL_law_765 ?_
  refine l_aload_n X dL_law_766 3 rfl isr_ref ?_
  refine l_iload_n X dL_law_767 0 rfl ?_
  refine l_iconst (v := (2 : Int32)) X dL_law_768 (by decide) ?_
  refine l_iadd X dL_law_769 ?_
  refine l_sld X (k + 2) (nI_add k 2) (by omega) hL dL_law_770 ?_
  refine l_callVi (i := 108) (As := [.int (xs (k + 1)), .int (xs (k + 2))]) (rest := []) X (c_X8_words l G (xs (k + 1)) (xs (k + 2)) σ (by rw [e1]; rfl)) md_X8_words gL_law_X8_words (by omega) rfl rfl (kd_in kc_108 (by decide)) (EE_8 _ kc_108) rfl rfl (Nat.le_of_ble_eq_true rfl) dL_law_771 (fun r1 s1 h1 => ?_)
  cases Option.some.inj (e1.symm.trans h1)
  refine l_aload_n X dL_law_774 1 rfl isr_ref ?_
  refine l_aload_n X dL_law_775 3 rfl isr_ref ?_
  refine l_iload_n X dL_law_776 0 rfl ?_
  refine l_iconst (v := (1 : Int32)) X dL_law_777 (by decide) ?_
  refine l_iadd X dL_law_778 ?_
  refine l_sld X (k + 1) (nI_add k 1) (by omega) hL dL_law_779 ?_
  refine l_aload_n X dL_law_780 3 rfl isr_ref ?_
  refine l_iload_n X dL_law_781 0 rfl ?_
  refine l_iconst (v := (2 : Int32)) X dL_law_782 (by decide) ?_
  refine l_iadd X dL_law_783 ?_
  refine l_sld X (k + 2) (nI_add k 2) (by omega) hL dL_law_784 ?_
  refine l_callVi (i := 129) (As := [.int (xs (k + 1)), .int (xs (k + 2))]) (rest := [.int r]) X (c_X9_words l G (xs (k + 1)) (xs (k + 2)) σ1 (by rw [e2]; rfl)) md_X9_words gL_law_X9_words (by omega) rfl rfl (kd_in kc_129 (by decide)) (EE_9 _ kc_129) rfl rfl (Nat.le_of_ble_eq_true rfl) dL_law_785 (fun r2 s2 h2 => ?_)
  cases Option.some.inj (e2.symm.trans h2)
  exact l_icmp_eq (tgt := 1358) X dL_law_788 (by decide) (fun _ => kk _ g) (fun h => absurd rfl h)
set_option maxRecDepth 100000 in
set_option maxHeartbeats 2000000 in
theorem la_19 {l : Launch} {G : GX} {K : KX} {b L k : Nat} {xs : Nat → Int32} {σ : MM} (X : FL G K b L xs) (hk : k + 6 ≤ L) (hL : L ≤ 3072) (h : GD σ) (kk : ∀ σ2, GD σ2 → VL l G K 1358 [(3, .int (nI k)), (2, .ref (G.1 129)), (1, .ref (G.1 108)), (0, .ref b)] [] σ2) : VL l G K 793 [(3, .int (nI k)), (2, .ref (G.1 129)), (1, .ref (G.1 108)), (0, .ref b)] [] σ := by
  have sm : SIM (f_X8_climb (xs (k + 1)) (xs (k + 2)) (xs (k + 3)) σ) (f_X9_climb (xs (k + 1)) (xs (k + 2)) (xs (k + 3))) := op_climb h
  obtain ⟨r, σ1, σ2, e1, e2, g⟩ := sm
  refine l_aload_n X dL_law_793 2 rfl isr_ref ?_
  refine l_aload_n X dL_law_794 3 rfl isr_ref ?_
  refine l_iload_n X dL_law_795 0 rfl ?_
  refine l_iconst (v := (1 : Int32)) X dL_law_796 (by decide) ?_
  refine l_iadd X dL_law_797 ?_
  refine l_sld X (k + 1) (nI_add k 1) (by omega) hL dL_law_798 ?_
  refine l_aload_n X dL_law_799 3 rfl isr_ref ?_
  refine l_iload_n X dL_law_800 0 rfl ?_
  refine l_iconst (v := (2 : Int32)) X dL_law_801 (by decide) ?_
  refine l_iadd X dL_law_802 ?_
  refine l_sld X (k + 2) (nI_add k 2) (by omega) hL dL_law_803 ?_
  refine l_aload_n X dL_law_804 3 rfl isr_ref ?_
  refine l_iload_n X dL_law_805 0 rfl ?_
  refine l_iconst (v := (3 : Int32)) X dL_law_806 (by decide) ?_
  refine l_iadd X dL_law_807 ?_
  refine l_sld X (k + 3) (nI_add k 3) (by omega) hL dL_law_808 ?_
  refine l_callVi (i := 108) (As := [.int (xs (k + 1)), .int (xs (k + 2)), .int (xs (k + 3))]) (rest := []) X (c_X8_climb l G (xs (k + 1)) (xs (k + 2)) (xs (k + 3)) σ (by rw [e1]; rfl)) md_X8_climb gL_law_X8_climb (by omega) rfl rfl (kd_in kc_108 (by decide)) (EE_8 _ kc_108) rfl rfl (Nat.le_of_ble_eq_true rfl) dL_law_809 (fun r1 s1 h1 => ?_)
  cases Option.some.inj (e1.symm.trans h1)
  refine l_aload_n X dL_law_812 1 rfl isr_ref ?_
  refine l_aload_n X dL_law_813 3 rfl isr_ref ?_
  refine l_iload_n X dL_law_814 0 rfl ?_
  refine l_iconst (v := (1 : Int32)) X dL_law_815 (by decide) ?_
  refine l_iadd X dL_law_816 ?_
  refine l_sld X (k + 1) (nI_add k 1) (by omega) hL dL_law_817 ?_
  refine l_aload_n X dL_law_818 3 rfl isr_ref ?_
  refine l_iload_n X dL_law_819 0 rfl ?_
  refine l_iconst (v := (2 : Int32)) X dL_law_820 (by decide) ?_
  refine l_iadd X dL_law_821 ?_
  refine l_sld X (k + 2) (nI_add k 2) (by omega) hL dL_law_822 ?_
  refine l_aload_n X dL_law_823 3 rfl isr_ref ?_
  refine l_iload_n X dL_law_824 0 rfl ?_
  refine l_iconst (v := (3 : Int32)) X dL_law_825 (by decide) ?_
  refine l_iadd X dL_law_826 ?_
  refine l_sld X (k + 3) (nI_add k 3) (by omega) hL dL_law_827 ?_
  refine l_callVi (i := 129) (As := [.int (xs (k + 1)), .int (xs (k + 2)), .int (xs (k + 3))]) (rest := [.int r]) X (c_X9_climb l G (xs (k + 1)) (xs (k + 2)) (xs (k + 3)) σ1 (by rw [e2]; rfl)) md_X9_climb gL_law_X9_climb (by omega) rfl rfl (kd_in kc_129 (by decide)) (EE_9 _ kc_129) rfl rfl (Nat.le_of_ble_eq_true rfl) dL_law_828 (fun r2 s2 h2 => ?_)
  cases Option.some.inj (e2.symm.trans h2)
  exact l_icmp_eq (tgt := 1358) X dL_law_831 (by decide) (fun _ => kk _ g) (fun h => absurd rfl h)
set_option maxRecDepth 100000 in
set_option maxHeartbeats 2000000 in
theorem la_20 {l : Launch} {G : GX} {K : KX} {b L k : Nat} {xs : Nat → Int32} {σ : MM} (X : FL G K b L xs) (hk : k + 6 ≤ L) (hL : L ≤ 3072) (h : GD σ) (kk : ∀ σ2, GD σ2 → VL l G K 1358 [(3, .int (nI k)), (2, .ref (G.1 129)), (1, .ref (G.1 108)), (0, .ref b)] [] σ2) : VL l G K 836 [(3, .int (nI k)), (2, .ref (G.1 129)), (1, .ref (G.1 108)), (0, .ref b)] [] σ := by
  have sm : SIM (f_X8_fewest (xs (k + 1)) (xs (k + 2)) σ) (f_X9_fewest (xs (k + 1)) (xs (k + 2))) := op_fewest h
  obtain ⟨r, σ1, σ2, e1, e2, g⟩ := sm
  refine l_aload_n X dL_law_836 2 rfl isr_ref ?_
  refine l_aload_n X dL_law_837 3 rfl isr_ref ?_
  refine l_iload_n X dL_law_838 0 rfl ?_
  refine l_iconst (v := (1 : Int32)) X dL_law_839 (by decide) ?_
  refine l_iadd X dL_law_840 ?_
  refine l_sld X (k + 1) (nI_add k 1) (by omega) hL dL_law_841 ?_
  refine l_aload_n X dL_law_842 3 rfl isr_ref ?_
  refine l_iload_n X dL_law_843 0 rfl ?_
  refine l_iconst (v := (2 : Int32)) X dL_law_844 (by decide) ?_
  refine l_iadd X dL_law_845 ?_
  refine l_sld X (k + 2) (nI_add k 2) (by omega) hL dL_law_846 ?_
  refine l_callVi (i := 108) (As := [.int (xs (k + 1)), .int (xs (k + 2))]) (rest := []) X (c_X8_fewest l G (xs (k + 1)) (xs (k + 2)) σ (by rw [e1]; rfl)) md_X8_fewest gL_law_X8_fewest (by omega) rfl rfl (kd_in kc_108 (by decide)) (EE_8 _ kc_108) rfl rfl (Nat.le_of_ble_eq_true rfl) dL_law_847 (fun r1 s1 h1 => ?_)
  cases Option.some.inj (e1.symm.trans h1)
  refine l_aload_n X dL_law_850 1 rfl isr_ref ?_
  refine l_aload_n X dL_law_851 3 rfl isr_ref ?_
  refine l_iload_n X dL_law_852 0 rfl ?_
  refine l_iconst (v := (1 : Int32)) X dL_law_853 (by decide) ?_
  refine l_iadd X dL_law_854 ?_
  refine l_sld X (k + 1) (nI_add k 1) (by omega) hL dL_law_855 ?_
  refine l_aload_n X dL_law_856 3 rfl isr_ref ?_
  refine l_iload_n X dL_law_857 0 rfl ?_
  refine l_iconst (v := (2 : Int32)) X dL_law_858 (by decide) ?_
  refine l_iadd X dL_law_859 ?_
  refine l_sld X (k + 2) (nI_add k 2) (by omega) hL dL_law_860 ?_
  refine l_callVi (i := 129) (As := [.int (xs (k + 1)), .int (xs (k + 2))]) (rest := [.int r]) X (c_X9_fewest l G (xs (k + 1)) (xs (k + 2)) σ1 (by rw [e2]; rfl)) md_X9_fewest gL_law_X9_fewest (by omega) rfl rfl (kd_in kc_129 (by decide)) (EE_9 _ kc_129) rfl rfl (Nat.le_of_ble_eq_true rfl) dL_law_861 (fun r2 s2 h2 => ?_)
  cases Option.some.inj (e2.symm.trans h2)
  exact l_icmp_eq (tgt := 1358) X dL_law_864 (by decide) (fun _ => kk _ g) (fun h => absurd rfl h)
set_option maxRecDepth 100000 in
set_option maxHeartbeats 2000000 in
theorem la_21 {l : Launch} {G : GX} {K : KX} {b L k : Nat} {xs : Nat → Int32} {σ : MM} (X : FL G K b L xs) (hk : k + 6 ≤ L) (hL : L ≤ 3072) (h : GD σ) (kk : ∀ σ2, GD σ2 → VL l G K 1358 [(3, .int (nI k)), (2, .ref (G.1 129)), (1, .ref (G.1 108)), (0, .ref b)] [] σ2) : VL l G K 869 [(3, .int (nI k)), (2, .ref (G.1 129)), (1, .ref (G.1 108)), (0, .ref b)] [] σ := by
  have sm : SIM (f_X8_cheapest (xs (k + 1)) (xs (k + 2)) (xs (k + 3)) σ) (f_X9_cheapest (xs (k + 1)) (xs (k + 2)) (xs (k + 3))) := op_cheapest h
  obtain ⟨r, σ1, σ2, e1, e2, g⟩ := sm
  refine l_aload_n X dL_law_869 2 rfl isr_ref ?_
  refine l_aload_n X dL_law_870 3 rfl isr_ref ?_
  refine l_iload_n X dL_law_871 0 rfl ?_
  refine l_iconst (v := (1 : Int32)) X dL_law_872 (by decide) ?_
  refine l_iadd X dL_law_873 ?_
  refine l_sld X (k + 1) (nI_add k 1) (by omega) hL dL_law_874 ?_
  refine l_aload_n X dL_law_875 3 rfl isr_ref ?_
  refine l_iload_n X dL_law_876 0 rfl ?_
  refine l_iconst (v := (2 : Int32)) X dL_law_877 (by decide) ?_
  refine l_iadd X dL_law_878 ?_
  refine l_sld X (k + 2) (nI_add k 2) (by omega) hL dL_law_879 ?_
  refine l_aload_n X dL_law_880 3 rfl isr_ref ?_
  refine l_iload_n X dL_law_881 0 rfl ?_
  refine l_iconst (v := (3 : Int32)) X dL_law_882 (by decide) ?_
  refine l_iadd X dL_law_883 ?_
  refine l_sld X (k + 3) (nI_add k 3) (by omega) hL dL_law_884 ?_
  refine l_callVi (i := 108) (As := [.int (xs (k + 1)), .int (xs (k + 2)), .int (xs (k + 3))]) (rest := []) X (c_X8_cheapest l G (xs (k + 1)) (xs (k + 2)) (xs (k + 3)) σ (by rw [e1]; rfl)) md_X8_cheapest gL_law_X8_cheapest (by omega) rfl rfl (kd_in kc_108 (by decide)) (EE_8 _ kc_108) rfl rfl (Nat.le_of_ble_eq_true rfl) dL_law_885 (fun r1 s1 h1 => ?_)
  cases Option.some.inj (e1.symm.trans h1)
  refine l_aload_n X dL_law_888 1 rfl isr_ref ?_
  refine l_aload_n X dL_law_889 3 rfl isr_ref ?_
  refine l_iload_n X dL_law_890 0 rfl ?_
  refine l_iconst (v := (1 : Int32)) X dL_law_891 (by decide) ?_
  refine l_iadd X dL_law_892 ?_
  refine l_sld X (k + 1) (nI_add k 1) (by omega) hL dL_law_893 ?_
  refine l_aload_n X dL_law_894 3 rfl isr_ref ?_
  refine l_iload_n X dL_law_895 0 rfl ?_
  refine l_iconst (v := (2 : Int32)) X dL_law_896 (by decide) ?_
  refine l_iadd X dL_law_897 ?_
  refine l_sld X (k + 2) (nI_add k 2) (by omega) hL dL_law_898 ?_
  refine l_aload_n X dL_law_899 3 rfl isr_ref ?_
  refine l_iload_n X dL_law_900 0 rfl ?_
  refine l_iconst (v := (3 : Int32)) X dL_law_901 (by decide) ?_
  refine l_iadd X dL_law_902 ?_
  refine l_sld X (k + 3) (nI_add k 3) (by omega) hL dL_law_903 ?_
  refine l_callVi (i := 129) (As := [.int (xs (k + 1)), .int (xs (k + 2)), .int (xs (k + 3))]) (rest := [.int r]) X (c_X9_cheapest l G (xs (k + 1)) (xs (k + 2)) (xs (k + 3)) σ1 (by rw [e2]; rfl)) md_X9_cheapest gL_law_X9_cheapest (by omega) rfl rfl (kd_in kc_129 (by decide)) (EE_9 _ kc_129) rfl rfl (Nat.le_of_ble_eq_true rfl) dL_law_904 (fun r2 s2 h2 => ?_)
  cases Option.some.inj (e2.symm.trans h2)
  exact l_icmp_eq (tgt := 1358) X dL_law_907 (by decide) (fun _ => kk _ g) (fun h => absurd rfl h)
set_option maxRecDepth 100000 in
set_option maxHeartbeats 2000000 in
theorem la_22 {l : Launch} {G : GX} {K : KX} {b L k : Nat} {xs : Nat → Int32} {σ : MM} (X : FL G K b L xs) (hk : k + 6 ≤ L) (hL : L ≤ 3072) (h : GD σ) (kk : ∀ σ2, GD σ2 → VL l G K 1358 [(3, .int (nI k)), (2, .ref (G.1 129)), (1, .ref (G.1 108)), (0, .ref b)] [] σ2) : VL l G K 912 [(3, .int (nI k)), (2, .ref (G.1 129)), (1, .ref (G.1 108)), (0, .ref b)] [] σ := by
  have sm : SIM (f_X8_odds (xs (k + 1)) (xs (k + 2)) (xs (k + 3)) σ) (f_X9_odds (xs (k + 1)) (xs (k + 2)) (xs (k + 3))) := op_odds h
  obtain ⟨r, σ1, σ2, e1, e2, g⟩ := sm
  refine l_aload_n X dL_law_912 2 rfl isr_ref ?_
  refine l_aload_n X dL_law_913 3 rfl isr_ref ?_
  refine l_iload_n X dL_law_914 0 rfl ?_
  refine l_iconst (v := (1 : Int32)) X dL_law_915 (by decide) ?_
  refine l_iadd X dL_law_916 ?_
  refine l_sld X (k + 1) (nI_add k 1) (by omega) hL dL_law_917 ?_
  refine l_aload_n X dL_law_918 3 rfl isr_ref ?_
  refine l_iload_n X dL_law_919 0 rfl ?_
  refine l_iconst (v := (2 : Int32)) X dL_law_920 (by decide) ?_
  refine l_iadd X dL_law_921 ?_
  refine l_sld X (k + 2) (nI_add k 2) (by omega) hL dL_law_922 ?_
  refine l_aload_n X dL_law_923 3 rfl isr_ref ?_
  refine l_iload_n X dL_law_924 0 rfl ?_
  refine l_iconst (v := (3 : Int32)) X dL_law_925 (by decide) ?_
  refine l_iadd X dL_law_926 ?_
  refine l_sld X (k + 3) (nI_add k 3) (by omega) hL dL_law_927 ?_
  refine l_callVl (i := 108) (As := [.int (xs (k + 1)), .int (xs (k + 2)), .int (xs (k + 3))]) (rest := []) X (c_X8_odds l G (xs (k + 1)) (xs (k + 2)) (xs (k + 3)) σ (by rw [e1]; rfl)) md_X8_odds gL_law_X8_odds (by omega) rfl rfl (kd_in kc_108 (by decide)) (EE_8 _ kc_108) rfl rfl (Nat.le_of_ble_eq_true rfl) dL_law_928 (fun r1 s1 h1 => ?_)
  cases Option.some.inj (e1.symm.trans h1)
  refine l_aload_n X dL_law_931 1 rfl isr_ref ?_
  refine l_aload_n X dL_law_932 3 rfl isr_ref ?_
  refine l_iload_n X dL_law_933 0 rfl ?_
  refine l_iconst (v := (1 : Int32)) X dL_law_934 (by decide) ?_
  refine l_iadd X dL_law_935 ?_
  refine l_sld X (k + 1) (nI_add k 1) (by omega) hL dL_law_936 ?_
  refine l_aload_n X dL_law_937 3 rfl isr_ref ?_
  refine l_iload_n X dL_law_938 0 rfl ?_
  refine l_iconst (v := (2 : Int32)) X dL_law_939 (by decide) ?_
  refine l_iadd X dL_law_940 ?_
  refine l_sld X (k + 2) (nI_add k 2) (by omega) hL dL_law_941 ?_
  refine l_aload_n X dL_law_942 3 rfl isr_ref ?_
  refine l_iload_n X dL_law_943 0 rfl ?_
  refine l_iconst (v := (3 : Int32)) X dL_law_944 (by decide) ?_
  refine l_iadd X dL_law_945 ?_
  refine l_sld X (k + 3) (nI_add k 3) (by omega) hL dL_law_946 ?_
  refine l_callVl (i := 129) (As := [.int (xs (k + 1)), .int (xs (k + 2)), .int (xs (k + 3))]) (rest := [.long r]) X (c_X9_odds l G (xs (k + 1)) (xs (k + 2)) (xs (k + 3)) σ1 (by rw [e2]; rfl)) md_X9_odds gL_law_X9_odds (by omega) rfl rfl (kd_in kc_129 (by decide)) (EE_9 _ kc_129) rfl rfl (Nat.le_of_ble_eq_true rfl) dL_law_947 (fun r2 s2 h2 => ?_)
  cases Option.some.inj (e2.symm.trans h2)
  exact l_lcmp_eq (tgt := 1358) X dL_law_950 dL_law_951 (by decide) (fun _ => kk _ g) (fun h => absurd rfl h)
set_option maxRecDepth 100000 in
set_option maxHeartbeats 2000000 in
theorem la_23 {l : Launch} {G : GX} {K : KX} {b L k : Nat} {xs : Nat → Int32} {σ : MM} (X : FL G K b L xs) (hk : k + 6 ≤ L) (hL : L ≤ 3072) (h : GD σ) (kk : ∀ σ2, GD σ2 → VL l G K 1358 [(3, .int (nI k)), (2, .ref (G.1 129)), (1, .ref (G.1 108)), (0, .ref b)] [] σ2) : VL l G K 956 [(3, .int (nI k)), (2, .ref (G.1 129)), (1, .ref (G.1 108)), (0, .ref b)] [] σ := by
  have sm : SIM (f_X8_fits (xs (k + 1)) (xs (k + 2)) σ) (f_X9_fits (xs (k + 1)) (xs (k + 2))) := op_fits h
  obtain ⟨r, σ1, σ2, e1, e2, g⟩ := sm
  refine l_aload_n X dL_law_956 2 rfl isr_ref ?_
  refine l_aload_n X dL_law_957 3 rfl isr_ref ?_
  refine l_iload_n X dL_law_958 0 rfl ?_
  refine l_iconst (v := (1 : Int32)) X dL_law_959 (by decide) ?_
  refine l_iadd X dL_law_960 ?_
  refine l_sld X (k + 1) (nI_add k 1) (by omega) hL dL_law_961 ?_
  refine l_aload_n X dL_law_962 3 rfl isr_ref ?_
  refine l_iload_n X dL_law_963 0 rfl ?_
  refine l_iconst (v := (2 : Int32)) X dL_law_964 (by decide) ?_
  refine l_iadd X dL_law_965 ?_
  refine l_sld X (k + 2) (nI_add k 2) (by omega) hL dL_law_966 ?_
  refine l_callVi (i := 108) (As := [.int (xs (k + 1)), .int (xs (k + 2))]) (rest := []) X (c_X8_fits l G (xs (k + 1)) (xs (k + 2)) σ (by rw [e1]; rfl)) md_X8_fits gL_law_X8_fits (by omega) rfl rfl (kd_in kc_108 (by decide)) (EE_8 _ kc_108) rfl rfl (Nat.le_of_ble_eq_true rfl) dL_law_967 (fun r1 s1 h1 => ?_)
  cases Option.some.inj (e1.symm.trans h1)
  refine l_aload_n X dL_law_970 1 rfl isr_ref ?_
  refine l_aload_n X dL_law_971 3 rfl isr_ref ?_
  refine l_iload_n X dL_law_972 0 rfl ?_
  refine l_iconst (v := (1 : Int32)) X dL_law_973 (by decide) ?_
  refine l_iadd X dL_law_974 ?_
  refine l_sld X (k + 1) (nI_add k 1) (by omega) hL dL_law_975 ?_
  refine l_aload_n X dL_law_976 3 rfl isr_ref ?_
  refine l_iload_n X dL_law_977 0 rfl ?_
  refine l_iconst (v := (2 : Int32)) X dL_law_978 (by decide) ?_
  refine l_iadd X dL_law_979 ?_
  refine l_sld X (k + 2) (nI_add k 2) (by omega) hL dL_law_980 ?_
  refine l_callVi (i := 129) (As := [.int (xs (k + 1)), .int (xs (k + 2))]) (rest := [.int r]) X (c_X9_fits l G (xs (k + 1)) (xs (k + 2)) σ1 (by rw [e2]; rfl)) md_X9_fits gL_law_X9_fits (by omega) rfl rfl (kd_in kc_129 (by decide)) (EE_9 _ kc_129) rfl rfl (Nat.le_of_ble_eq_true rfl) dL_law_981 (fun r2 s2 h2 => ?_)
  cases Option.some.inj (e2.symm.trans h2)
  exact l_icmp_eq (tgt := 1358) X dL_law_984 (by decide) (fun _ => kk _ g) (fun h => absurd rfl h)
set_option maxRecDepth 100000 in
set_option maxHeartbeats 2000000 in
theorem la_24 {l : Launch} {G : GX} {K : KX} {b L k : Nat} {xs : Nat → Int32} {σ : MM} (X : FL G K b L xs) (hk : k + 6 ≤ L) (hL : L ≤ 3072) (h : GD σ) (kk : ∀ σ2, GD σ2 → VL l G K 1358 [(3, .int (nI k)), (2, .ref (G.1 129)), (1, .ref (G.1 108)), (0, .ref b)] [] σ2) : VL l G K 989 [(3, .int (nI k)), (2, .ref (G.1 129)), (1, .ref (G.1 108)), (0, .ref b)] [] σ := by
  have sm : SIM (f_X8_voice (xs (k + 1)) (xs (k + 2)) (xs (k + 3)) σ) (f_X9_voice (xs (k + 1)) (xs (k + 2)) (xs (k + 3))) := op_voice h
  obtain ⟨r, σ1, σ2, e1, e2, g⟩ := sm
  refine l_aload_n X dL_law_989 2 rfl isr_ref ?_
  refine l_aload_n X dL_law_990 3 rfl isr_ref ?_
  refine l_iload_n X dL_law_991 0 rfl ?_
  refine l_iconst (v := (1 : Int32)) X dL_law_992 (by decide) ?_
  refine l_iadd X dL_law_993 ?_
  refine l_sld X (k + 1) (nI_add k 1) (by omega) hL dL_law_994 ?_
  refine l_aload_n X dL_law_995 3 rfl isr_ref ?_
  refine l_iload_n X dL_law_996 0 rfl ?_
  refine l_iconst (v := (2 : Int32)) X dL_law_997 (by decide) ?_
  refine l_iadd X dL_law_998 ?_
  refine l_sld X (k + 2) (nI_add k 2) (by omega) hL dL_law_999 ?_
  refine l_aload_n X dL_law_1000 3 rfl isr_ref ?_
  refine l_iload_n X dL_law_1001 0 rfl ?_
  refine l_iconst (v := (3 : Int32)) X dL_law_1002 (by decide) ?_
  refine l_iadd X dL_law_1003 ?_
  refine l_sld X (k + 3) (nI_add k 3) (by omega) hL dL_law_1004 ?_
  refine l_callVi (i := 108) (As := [.int (xs (k + 1)), .int (xs (k + 2)), .int (xs (k + 3))]) (rest := []) X (c_X8_voice l G (xs (k + 1)) (xs (k + 2)) (xs (k + 3)) σ (by rw [e1]; rfl)) md_X8_voice gL_law_X8_voice (by omega) rfl rfl (kd_in kc_108 (by decide)) (EE_8 _ kc_108) rfl rfl (Nat.le_of_ble_eq_true rfl) dL_law_1005 (fun r1 s1 h1 => ?_)
  cases Option.some.inj (e1.symm.trans h1)
  refine l_aload_n X dL_law_1008 1 rfl isr_ref ?_
  refine l_aload_n X dL_law_1009 3 rfl isr_ref ?_
  refine l_iload_n X dL_law_1010 0 rfl ?_
  refine l_iconst (v := (1 : Int32)) X dL_law_1011 (by decide) ?_
  refine l_iadd X dL_law_1012 ?_
  refine l_sld X (k + 1) (nI_add k 1) (by omega) hL dL_law_1013 ?_
  refine l_aload_n X dL_law_1014 3 rfl isr_ref ?_
  refine l_iload_n X dL_law_1015 0 rfl ?_
  refine l_iconst (v := (2 : Int32)) X dL_law_1016 (by decide) ?_
  refine l_iadd X dL_law_1017 ?_
  refine l_sld X (k + 2) (nI_add k 2) (by omega) hL dL_law_1018 ?_
  refine l_aload_n X dL_law_1019 3 rfl isr_ref ?_
  refine l_iload_n X dL_law_1020 0 rfl ?_
  refine l_iconst (v := (3 : Int32)) X dL_law_1021 (by decide) ?_
  refine l_iadd X dL_law_1022 ?_
  refine l_sld X (k + 3) (nI_add k 3) (by omega) hL dL_law_1023 ?_
  refine l_callVi (i := 129) (As := [.int (xs (k + 1)), .int (xs (k + 2)), .int (xs (k + 3))]) (rest := [.int r]) X (c_X9_voice l G (xs (k + 1)) (xs (k + 2)) (xs (k + 3)) σ1 (by rw [e2]; rfl)) md_X9_voice gL_law_X9_voice (by omega) rfl rfl (kd_in kc_129 (by decide)) (EE_9 _ kc_129) rfl rfl (Nat.le_of_ble_eq_true rfl) dL_law_1024 (fun r2 s2 h2 => ?_)
  cases Option.some.inj (e2.symm.trans h2)
  exact l_icmp_eq (tgt := 1358) X dL_law_1027 (by decide) (fun _ => kk _ g) (fun h => absurd rfl h)
set_option maxRecDepth 100000 in
set_option maxHeartbeats 2000000 in
theorem la_25 {l : Launch} {G : GX} {K : KX} {b L k : Nat} {xs : Nat → Int32} {σ : MM} (X : FL G K b L xs) (hk : k + 6 ≤ L) (hL : L ≤ 3072) (h : GD σ) (kk : ∀ σ2, GD σ2 → VL l G K 1358 [(3, .int (nI k)), (2, .ref (G.1 129)), (1, .ref (G.1 108)), (0, .ref b)] [] σ2) : VL l G K 1032 [(3, .int (nI k)), (2, .ref (G.1 129)), (1, .ref (G.1 108)), (0, .ref b)] [] σ := by
  have sm : SIM (f_X8_body (xs (k + 1)) σ) (f_X9_body (xs (k + 1))) := op_body h
  obtain ⟨r, σ1, σ2, e1, e2, g⟩ := sm
  refine l_aload_n X dL_law_1032 2 rfl isr_ref ?_
  refine l_aload_n X dL_law_1033 3 rfl isr_ref ?_
  refine l_iload_n X dL_law_1034 0 rfl ?_
  refine l_iconst (v := (1 : Int32)) X dL_law_1035 (by decide) ?_
  refine l_iadd X dL_law_1036 ?_
  refine l_sld X (k + 1) (nI_add k 1) (by omega) hL dL_law_1037 ?_
  refine l_callVi (i := 108) (As := [.int (xs (k + 1))]) (rest := []) X (c_X8_body l G (xs (k + 1)) σ (by rw [e1]; rfl)) md_X8_body gL_law_X8_body (by omega) rfl rfl (kd_in kc_108 (by decide)) (EE_8 _ kc_108) rfl rfl (Nat.le_of_ble_eq_true rfl) dL_law_1038 (fun r1 s1 h1 => ?_)
  cases Option.some.inj (e1.symm.trans h1)
  refine l_aload_n X dL_law_1041 1 rfl isr_ref ?_
  refine l_aload_n X dL_law_1042 3 rfl isr_ref ?_
  refine l_iload_n X dL_law_1043 0 rfl ?_
  refine l_iconst (v := (1 : Int32)) X dL_law_1044 (by decide) ?_
  refine l_iadd X dL_law_1045 ?_
  refine l_sld X (k + 1) (nI_add k 1) (by omega) hL dL_law_1046 ?_
  refine l_callVi (i := 129) (As := [.int (xs (k + 1))]) (rest := [.int r]) X (c_X9_body l G (xs (k + 1)) σ1 (by rw [e2]; rfl)) md_X9_body gL_law_X9_body (by omega) rfl rfl (kd_in kc_129 (by decide)) (EE_9 _ kc_129) rfl rfl (Nat.le_of_ble_eq_true rfl) dL_law_1047 (fun r2 s2 h2 => ?_)
  cases Option.some.inj (e2.symm.trans h2)
  exact l_icmp_eq (tgt := 1358) X dL_law_1050 (by decide) (fun _ => kk _ g) (fun h => absurd rfl h)
set_option maxRecDepth 100000 in
set_option maxHeartbeats 2000000 in
theorem la_26 {l : Launch} {G : GX} {K : KX} {b L k : Nat} {xs : Nat → Int32} {σ : MM} (X : FL G K b L xs) (hk : k + 6 ≤ L) (hL : L ≤ 3072) (h : GD σ) (kk : ∀ σ2, GD σ2 → VL l G K 1358 [(3, .int (nI k)), (2, .ref (G.1 129)), (1, .ref (G.1 108)), (0, .ref b)] [] σ2) : VL l G K 1055 [(3, .int (nI k)), (2, .ref (G.1 129)), (1, .ref (G.1 108)), (0, .ref b)] [] σ := by
  have sm : SIM (f_X8_sheet (xs (k + 1)) (xs (k + 2)) (xs (k + 3)) σ) (f_X9_sheet (xs (k + 1)) (xs (k + 2)) (xs (k + 3))) := op_sheet h
  obtain ⟨r, σ1, σ2, e1, e2, g⟩ := sm
  refine l_aload_n X dL_law_1055 2 rfl isr_ref ?_
  refine l_aload_n X dL_law_1056 3 rfl isr_ref ?_
  refine l_iload_n X dL_law_1057 0 rfl ?_
  refine l_iconst (v := (1 : Int32)) X dL_law_1058 (by decide) ?_
  refine l_iadd X dL_law_1059 ?_
  refine l_sld X (k + 1) (nI_add k 1) (by omega) hL dL_law_1060 ?_
  refine l_aload_n X dL_law_1061 3 rfl isr_ref ?_
  refine l_iload_n X dL_law_1062 0 rfl ?_
  refine l_iconst (v := (2 : Int32)) X dL_law_1063 (by decide) ?_
  refine l_iadd X dL_law_1064 ?_
  refine l_sld X (k + 2) (nI_add k 2) (by omega) hL dL_law_1065 ?_
  refine l_aload_n X dL_law_1066 3 rfl isr_ref ?_
  refine l_iload_n X dL_law_1067 0 rfl ?_
  refine l_iconst (v := (3 : Int32)) X dL_law_1068 (by decide) ?_
  refine l_iadd X dL_law_1069 ?_
  refine l_sld X (k + 3) (nI_add k 3) (by omega) hL dL_law_1070 ?_
  refine l_callVi (i := 108) (As := [.int (xs (k + 1)), .int (xs (k + 2)), .int (xs (k + 3))]) (rest := []) X (c_X8_sheet l G (xs (k + 1)) (xs (k + 2)) (xs (k + 3)) σ (by rw [e1]; rfl)) md_X8_sheet gL_law_X8_sheet (by omega) rfl rfl (kd_in kc_108 (by decide)) (EE_8 _ kc_108) rfl rfl (Nat.le_of_ble_eq_true rfl) dL_law_1071 (fun r1 s1 h1 => ?_)
  cases Option.some.inj (e1.symm.trans h1)
  refine l_aload_n X dL_law_1074 1 rfl isr_ref ?_
  refine l_aload_n X dL_law_1075 3 rfl isr_ref ?_
  refine l_iload_n X dL_law_1076 0 rfl ?_
  refine l_iconst (v := (1 : Int32)) X dL_law_1077 (by decide) ?_
  refine l_iadd X dL_law_1078 ?_
  refine l_sld X (k + 1) (nI_add k 1) (by omega) hL dL_law_1079 ?_
  refine l_aload_n X dL_law_1080 3 rfl isr_ref ?_
  refine l_iload_n X dL_law_1081 0 rfl ?_
  refine l_iconst (v := (2 : Int32)) X dL_law_1082 (by decide) ?_
  refine l_iadd X dL_law_1083 ?_
  refine l_sld X (k + 2) (nI_add k 2) (by omega) hL dL_law_1084 ?_
  refine l_aload_n X dL_law_1085 3 rfl isr_ref ?_
  refine l_iload_n X dL_law_1086 0 rfl ?_
  refine l_iconst (v := (3 : Int32)) X dL_law_1087 (by decide) ?_
  refine l_iadd X dL_law_1088 ?_
  refine l_sld X (k + 3) (nI_add k 3) (by omega) hL dL_law_1089 ?_
  refine l_callVi (i := 129) (As := [.int (xs (k + 1)), .int (xs (k + 2)), .int (xs (k + 3))]) (rest := [.int r]) X (c_X9_sheet l G (xs (k + 1)) (xs (k + 2)) (xs (k + 3)) σ1 (by rw [e2]; rfl)) md_X9_sheet gL_law_X9_sheet (by omega) rfl rfl (kd_in kc_129 (by decide)) (EE_9 _ kc_129) rfl rfl (Nat.le_of_ble_eq_true rfl) dL_law_1090 (fun r2 s2 h2 => ?_)
  cases Option.some.inj (e2.symm.trans h2)
  exact l_icmp_eq (tgt := 1358) X dL_law_1093 (by decide) (fun _ => kk _ g) (fun h => absurd rfl h)
set_option maxRecDepth 100000 in
set_option maxHeartbeats 2000000 in
theorem la_27 {l : Launch} {G : GX} {K : KX} {b L k : Nat} {xs : Nat → Int32} {σ : MM} (X : FL G K b L xs) (hk : k + 6 ≤ L) (hL : L ≤ 3072) (h : GD σ) (kk : ∀ σ2, GD σ2 → VL l G K 1358 [(3, .int (nI k)), (2, .ref (G.1 129)), (1, .ref (G.1 108)), (0, .ref b)] [] σ2) : VL l G K 1098 [(3, .int (nI k)), (2, .ref (G.1 129)), (1, .ref (G.1 108)), (0, .ref b)] [] σ := by
  have sm : SIM (f_X8_put (xs (k + 1)) (xs (k + 2)) (xs (k + 3)) σ) (f_X9_put (xs (k + 1)) (xs (k + 2)) (xs (k + 3))) := op_put h
  obtain ⟨r, σ1, σ2, e1, e2, g⟩ := sm
  refine l_aload_n X dL_law_1098 2 rfl isr_ref ?_
  refine l_aload_n X dL_law_1099 3 rfl isr_ref ?_
  refine l_iload_n X dL_law_1100 0 rfl ?_
  refine l_iconst (v := (1 : Int32)) X dL_law_1101 (by decide) ?_
  refine l_iadd X dL_law_1102 ?_
  refine l_sld X (k + 1) (nI_add k 1) (by omega) hL dL_law_1103 ?_
  refine l_aload_n X dL_law_1104 3 rfl isr_ref ?_
  refine l_iload_n X dL_law_1105 0 rfl ?_
  refine l_iconst (v := (2 : Int32)) X dL_law_1106 (by decide) ?_
  refine l_iadd X dL_law_1107 ?_
  refine l_sld X (k + 2) (nI_add k 2) (by omega) hL dL_law_1108 ?_
  refine l_aload_n X dL_law_1109 3 rfl isr_ref ?_
  refine l_iload_n X dL_law_1110 0 rfl ?_
  refine l_iconst (v := (3 : Int32)) X dL_law_1111 (by decide) ?_
  refine l_iadd X dL_law_1112 ?_
  refine l_sld X (k + 3) (nI_add k 3) (by omega) hL dL_law_1113 ?_
  refine l_callVi (i := 108) (As := [.int (xs (k + 1)), .int (xs (k + 2)), .int (xs (k + 3))]) (rest := []) X (c_X8_put l G (xs (k + 1)) (xs (k + 2)) (xs (k + 3)) σ (by rw [e1]; rfl)) md_X8_put gL_law_X8_put (by omega) rfl rfl (kd_in kc_108 (by decide)) (EE_8 _ kc_108) rfl rfl (Nat.le_of_ble_eq_true rfl) dL_law_1114 (fun r1 s1 h1 => ?_)
  cases Option.some.inj (e1.symm.trans h1)
  refine l_aload_n X dL_law_1117 1 rfl isr_ref ?_
  refine l_aload_n X dL_law_1118 3 rfl isr_ref ?_
  refine l_iload_n X dL_law_1119 0 rfl ?_
  refine l_iconst (v := (1 : Int32)) X dL_law_1120 (by decide) ?_
  refine l_iadd X dL_law_1121 ?_
  refine l_sld X (k + 1) (nI_add k 1) (by omega) hL dL_law_1122 ?_
  refine l_aload_n X dL_law_1123 3 rfl isr_ref ?_
  refine l_iload_n X dL_law_1124 0 rfl ?_
  refine l_iconst (v := (2 : Int32)) X dL_law_1125 (by decide) ?_
  refine l_iadd X dL_law_1126 ?_
  refine l_sld X (k + 2) (nI_add k 2) (by omega) hL dL_law_1127 ?_
  refine l_aload_n X dL_law_1128 3 rfl isr_ref ?_
  refine l_iload_n X dL_law_1129 0 rfl ?_
  refine l_iconst (v := (3 : Int32)) X dL_law_1130 (by decide) ?_
  refine l_iadd X dL_law_1131 ?_
  refine l_sld X (k + 3) (nI_add k 3) (by omega) hL dL_law_1132 ?_
  refine l_callVi (i := 129) (As := [.int (xs (k + 1)), .int (xs (k + 2)), .int (xs (k + 3))]) (rest := [.int r]) X (c_X9_put l G (xs (k + 1)) (xs (k + 2)) (xs (k + 3)) σ1 (by rw [e2]; rfl)) md_X9_put gL_law_X9_put (by omega) rfl rfl (kd_in kc_129 (by decide)) (EE_9 _ kc_129) rfl rfl (Nat.le_of_ble_eq_true rfl) dL_law_1133 (fun r2 s2 h2 => ?_)
  cases Option.some.inj (e2.symm.trans h2)
  exact l_icmp_eq (tgt := 1358) X dL_law_1136 (by decide) (fun _ => kk _ g) (fun h => absurd rfl h)
set_option maxRecDepth 100000 in
set_option maxHeartbeats 2000000 in
theorem la_28 {l : Launch} {G : GX} {K : KX} {b L k : Nat} {xs : Nat → Int32} {σ : MM} (X : FL G K b L xs) (hk : k + 6 ≤ L) (hL : L ≤ 3072) (h : GD σ) (kk : ∀ σ2, GD σ2 → VL l G K 1358 [(3, .int (nI k)), (2, .ref (G.1 129)), (1, .ref (G.1 108)), (0, .ref b)] [] σ2) : VL l G K 1141 [(3, .int (nI k)), (2, .ref (G.1 129)), (1, .ref (G.1 108)), (0, .ref b)] [] σ := by
  have sm : SIM (f_X8_move (xs (k + 1)) (xs (k + 2)) (xs (k + 3)) (xs (k + 4)) (xs (k + 5)) σ) (f_X9_move (xs (k + 1)) (xs (k + 2)) (xs (k + 3)) (xs (k + 4)) (xs (k + 5))) := op_move h
  obtain ⟨r, σ1, σ2, e1, e2, g⟩ := sm
  refine l_aload_n X dL_law_1141 2 rfl isr_ref ?_
  refine l_aload_n X dL_law_1142 3 rfl isr_ref ?_
  refine l_iload_n X dL_law_1143 0 rfl ?_
  refine l_iconst (v := (1 : Int32)) X dL_law_1144 (by decide) ?_
  refine l_iadd X dL_law_1145 ?_
  refine l_sld X (k + 1) (nI_add k 1) (by omega) hL dL_law_1146 ?_
  refine l_aload_n X dL_law_1147 3 rfl isr_ref ?_
  refine l_iload_n X dL_law_1148 0 rfl ?_
  refine l_iconst (v := (2 : Int32)) X dL_law_1149 (by decide) ?_
  refine l_iadd X dL_law_1150 ?_
  refine l_sld X (k + 2) (nI_add k 2) (by omega) hL dL_law_1151 ?_
  refine l_aload_n X dL_law_1152 3 rfl isr_ref ?_
  refine l_iload_n X dL_law_1153 0 rfl ?_
  refine l_iconst (v := (3 : Int32)) X dL_law_1154 (by decide) ?_
  refine l_iadd X dL_law_1155 ?_
  refine l_sld X (k + 3) (nI_add k 3) (by omega) hL dL_law_1156 ?_
  refine l_aload_n X dL_law_1157 3 rfl isr_ref ?_
  refine l_iload_n X dL_law_1158 0 rfl ?_
  refine l_iconst (v := (4 : Int32)) X dL_law_1159 (by decide) ?_
  refine l_iadd X dL_law_1160 ?_
  refine l_sld X (k + 4) (nI_add k 4) (by omega) hL dL_law_1161 ?_
  refine l_aload_n X dL_law_1162 3 rfl isr_ref ?_
  refine l_iload_n X dL_law_1163 0 rfl ?_
  refine l_iconst (v := (5 : Int32)) X dL_law_1164 (by decide) ?_
  refine l_iadd X dL_law_1165 ?_
  refine l_sld X (k + 5) (nI_add k 5) (by omega) hL dL_law_1166 ?_
  refine l_callVi (i := 108) (As := [.int (xs (k + 1)), .int (xs (k + 2)), .int (xs (k + 3)), .int (xs (k + 4)), .int (xs (k + 5))]) (rest := []) X (c_X8_move l G (xs (k + 1)) (xs (k + 2)) (xs (k + 3)) (xs (k + 4)) (xs (k + 5)) σ (by rw [e1]; rfl)) md_X8_move gL_law_X8_move (by omega) rfl rfl (kd_in kc_108 (by decide)) (EE_8 _ kc_108) rfl rfl (Nat.le_of_ble_eq_true rfl) dL_law_1167 (fun r1 s1 h1 => ?_)
  cases Option.some.inj (e1.symm.trans h1)
  refine l_aload_n X dL_law_1170 1 rfl isr_ref ?_
  refine l_aload_n X dL_law_1171 3 rfl isr_ref ?_
  refine l_iload_n X dL_law_1172 0 rfl ?_
  refine l_iconst (v := (1 : Int32)) X dL_law_1173 (by decide) ?_
  refine l_iadd X dL_law_1174 ?_
  refine l_sld X (k + 1) (nI_add k 1) (by omega) hL dL_law_1175 ?_
  refine l_aload_n X dL_law_1176 3 rfl isr_ref ?_
  refine l_iload_n X dL_law_1177 0 rfl ?_
  refine l_iconst (v := (2 : Int32)) X dL_law_1178 (by decide) ?_
  refine l_iadd X dL_law_1179 ?_
  refine l_sld X (k + 2) (nI_add k 2) (by omega) hL dL_law_1180 ?_
  refine l_aload_n X dL_law_1181 3 rfl isr_ref ?_
  refine l_iload_n X dL_law_1182 0 rfl ?_
  refine l_iconst (v := (3 : Int32)) X dL_law_1183 (by decide) ?_
  refine l_iadd X dL_law_1184 ?_
  refine l_sld X (k + 3) (nI_add k 3) (by omega) hL dL_law_1185 ?_
  refine l_aload_n X dL_law_1186 3 rfl isr_ref ?_
  refine l_iload_n X dL_law_1187 0 rfl ?_
  refine l_iconst (v := (4 : Int32)) X dL_law_1188 (by decide) ?_
  refine l_iadd X dL_law_1189 ?_
  refine l_sld X (k + 4) (nI_add k 4) (by omega) hL dL_law_1190 ?_
  refine l_aload_n X dL_law_1191 3 rfl isr_ref ?_
  refine l_iload_n X dL_law_1192 0 rfl ?_
  refine l_iconst (v := (5 : Int32)) X dL_law_1193 (by decide) ?_
  refine l_iadd X dL_law_1194 ?_
  refine l_sld X (k + 5) (nI_add k 5) (by omega) hL dL_law_1195 ?_
  refine l_callVi (i := 129) (As := [.int (xs (k + 1)), .int (xs (k + 2)), .int (xs (k + 3)), .int (xs (k + 4)), .int (xs (k + 5))]) (rest := [.int r]) X (c_X9_move l G (xs (k + 1)) (xs (k + 2)) (xs (k + 3)) (xs (k + 4)) (xs (k + 5)) σ1 (by rw [e2]; rfl)) md_X9_move gL_law_X9_move (by omega) rfl rfl (kd_in kc_129 (by decide)) (EE_9 _ kc_129) rfl rfl (Nat.le_of_ble_eq_true rfl) dL_law_1196 (fun r2 s2 h2 => ?_)
  cases Option.some.inj (e2.symm.trans h2)
  exact l_icmp_eq (tgt := 1358) X dL_law_1199 (by decide) (fun _ => kk _ g) (fun h => absurd rfl h)
set_option maxRecDepth 100000 in
set_option maxHeartbeats 2000000 in
theorem la_29 {l : Launch} {G : GX} {K : KX} {b L k : Nat} {xs : Nat → Int32} {σ : MM} (X : FL G K b L xs) (hk : k + 6 ≤ L) (hL : L ≤ 3072) (h : GD σ) (kk : ∀ σ2, GD σ2 → VL l G K 1358 [(3, .int (nI k)), (2, .ref (G.1 129)), (1, .ref (G.1 108)), (0, .ref b)] [] σ2) : VL l G K 1204 [(3, .int (nI k)), (2, .ref (G.1 129)), (1, .ref (G.1 108)), (0, .ref b)] [] σ := by
  have sm : SIM (f_X8_carries (xs (k + 1)) σ) (f_X9_carries (xs (k + 1))) := op_carries h
  obtain ⟨r, σ1, σ2, e1, e2, g⟩ := sm
  refine l_aload_n X dL_law_1204 2 rfl isr_ref ?_
  refine l_aload_n X dL_law_1205 3 rfl isr_ref ?_
  refine l_iload_n X dL_law_1206 0 rfl ?_
  refine l_iconst (v := (1 : Int32)) X dL_law_1207 (by decide) ?_
  refine l_iadd X dL_law_1208 ?_
  refine l_sld X (k + 1) (nI_add k 1) (by omega) hL dL_law_1209 ?_
  refine l_callVi (i := 108) (As := [.int (xs (k + 1))]) (rest := []) X (c_X8_carries l G (xs (k + 1)) σ (by rw [e1]; rfl)) md_X8_carries gL_law_X8_carries (by omega) rfl rfl (kd_in kc_108 (by decide)) (EE_8 _ kc_108) rfl rfl (Nat.le_of_ble_eq_true rfl) dL_law_1210 (fun r1 s1 h1 => ?_)
  cases Option.some.inj (e1.symm.trans h1)
  refine l_aload_n X dL_law_1213 1 rfl isr_ref ?_
  refine l_aload_n X dL_law_1214 3 rfl isr_ref ?_
  refine l_iload_n X dL_law_1215 0 rfl ?_
  refine l_iconst (v := (1 : Int32)) X dL_law_1216 (by decide) ?_
  refine l_iadd X dL_law_1217 ?_
  refine l_sld X (k + 1) (nI_add k 1) (by omega) hL dL_law_1218 ?_
  refine l_callVi (i := 129) (As := [.int (xs (k + 1))]) (rest := [.int r]) X (c_X9_carries l G (xs (k + 1)) σ1 (by rw [e2]; rfl)) md_X9_carries gL_law_X9_carries (by omega) rfl rfl (kd_in kc_129 (by decide)) (EE_9 _ kc_129) rfl rfl (Nat.le_of_ble_eq_true rfl) dL_law_1219 (fun r2 s2 h2 => ?_)
  cases Option.some.inj (e2.symm.trans h2)
  exact l_icmp_eq (tgt := 1358) X dL_law_1222 (by decide) (fun _ => kk _ g) (fun h => absurd rfl h)
set_option maxRecDepth 100000 in
set_option maxHeartbeats 2000000 in
theorem la_30 {l : Launch} {G : GX} {K : KX} {b L k : Nat} {xs : Nat → Int32} {σ : MM} (X : FL G K b L xs) (hk : k + 6 ≤ L) (hL : L ≤ 3072) (h : GD σ) (kk : ∀ σ2, GD σ2 → VL l G K 1358 [(3, .int (nI k)), (2, .ref (G.1 129)), (1, .ref (G.1 108)), (0, .ref b)] [] σ2) : VL l G K 1227 [(3, .int (nI k)), (2, .ref (G.1 129)), (1, .ref (G.1 108)), (0, .ref b)] [] σ := by
  have sm : SIM (f_X8_judge (xs (k + 1)) σ) (f_X9_judge (xs (k + 1))) := op_judge h
  obtain ⟨r, σ1, σ2, e1, e2, g⟩ := sm
  refine l_aload_n X dL_law_1227 2 rfl isr_ref ?_
  refine l_aload_n X dL_law_1228 3 rfl isr_ref ?_
  refine l_iload_n X dL_law_1229 0 rfl ?_
  refine l_iconst (v := (1 : Int32)) X dL_law_1230 (by decide) ?_
  refine l_iadd X dL_law_1231 ?_
  refine l_sld X (k + 1) (nI_add k 1) (by omega) hL dL_law_1232 ?_
  refine l_callVi (i := 108) (As := [.int (xs (k + 1))]) (rest := []) X (c_X8_judge l G (xs (k + 1)) σ (by rw [e1]; rfl)) md_X8_judge gL_law_X8_judge (by omega) rfl rfl (kd_in kc_108 (by decide)) (EE_8 _ kc_108) rfl rfl (Nat.le_of_ble_eq_true rfl) dL_law_1233 (fun r1 s1 h1 => ?_)
  cases Option.some.inj (e1.symm.trans h1)
  refine l_aload_n X dL_law_1236 1 rfl isr_ref ?_
  refine l_aload_n X dL_law_1237 3 rfl isr_ref ?_
  refine l_iload_n X dL_law_1238 0 rfl ?_
  refine l_iconst (v := (1 : Int32)) X dL_law_1239 (by decide) ?_
  refine l_iadd X dL_law_1240 ?_
  refine l_sld X (k + 1) (nI_add k 1) (by omega) hL dL_law_1241 ?_
  refine l_callVi (i := 129) (As := [.int (xs (k + 1))]) (rest := [.int r]) X (c_X9_judge l G (xs (k + 1)) σ1 (by rw [e2]; rfl)) md_X9_judge gL_law_X9_judge (by omega) rfl rfl (kd_in kc_129 (by decide)) (EE_9 _ kc_129) rfl rfl (Nat.le_of_ble_eq_true rfl) dL_law_1242 (fun r2 s2 h2 => ?_)
  cases Option.some.inj (e2.symm.trans h2)
  exact l_icmp_eq (tgt := 1358) X dL_law_1245 (by decide) (fun _ => kk _ g) (fun h => absurd rfl h)
set_option maxRecDepth 100000 in
set_option maxHeartbeats 2000000 in
theorem la_31 {l : Launch} {G : GX} {K : KX} {b L k : Nat} {xs : Nat → Int32} {σ : MM} (X : FL G K b L xs) (hk : k + 6 ≤ L) (hL : L ≤ 3072) (h : GD σ) (kk : ∀ σ2, GD σ2 → VL l G K 1358 [(3, .int (nI k)), (2, .ref (G.1 129)), (1, .ref (G.1 108)), (0, .ref b)] [] σ2) : VL l G K 1250 [(3, .int (nI k)), (2, .ref (G.1 129)), (1, .ref (G.1 108)), (0, .ref b)] [] σ := by
  have sm : SIM (f_X8_image  σ) (f_X9_image ) := op_image h
  obtain ⟨r, σ1, σ2, e1, e2, g⟩ := sm
  refine l_aload_n X dL_law_1250 2 rfl isr_ref ?_
  refine l_callVi (i := 108) (As := []) (rest := []) X (c_X8_image l G  σ (by rw [e1]; rfl)) md_X8_image gL_law_X8_image (by omega) rfl rfl (kd_in kc_108 (by decide)) (EE_8 _ kc_108) rfl rfl (Nat.le_of_ble_eq_true rfl) dL_law_1251 (fun r1 s1 h1 => ?_)
  cases Option.some.inj (e1.symm.trans h1)
  refine l_aload_n X dL_law_1254 1 rfl isr_ref ?_
  refine l_callVi (i := 129) (As := []) (rest := [.int r]) X (c_X9_image l G  σ1 (by rw [e2]; rfl)) md_X9_image gL_law_X9_image (by omega) rfl rfl (kd_in kc_129 (by decide)) (EE_9 _ kc_129) rfl rfl (Nat.le_of_ble_eq_true rfl) dL_law_1255 (fun r2 s2 h2 => ?_)
  cases Option.some.inj (e2.symm.trans h2)
  exact l_icmp_eq (tgt := 1358) X dL_law_1258 (by decide) (fun _ => kk _ g) (fun h => absurd rfl h)
set_option maxRecDepth 100000 in
set_option maxHeartbeats 2000000 in
theorem la_32 {l : Launch} {G : GX} {K : KX} {b L k : Nat} {xs : Nat → Int32} {σ : MM} (X : FL G K b L xs) (hk : k + 6 ≤ L) (hL : L ≤ 3072) (h : GD σ) (kk : ∀ σ2, GD σ2 → VL l G K 1358 [(3, .int (nI k)), (2, .ref (G.1 129)), (1, .ref (G.1 108)), (0, .ref b)] [] σ2) : VL l G K 1263 [(3, .int (nI k)), (2, .ref (G.1 129)), (1, .ref (G.1 108)), (0, .ref b)] [] σ := by
  have sm : SIM (f_X8_restore  σ) (f_X9_restore ) := op_restore h
  obtain ⟨r, σ1, σ2, e1, e2, g⟩ := sm
  refine l_aload_n X dL_law_1263 2 rfl isr_ref ?_
  refine l_callVi (i := 108) (As := []) (rest := []) X (c_X8_restore l G  σ (by rw [e1]; rfl)) md_X8_restore gL_law_X8_restore (by omega) rfl rfl (kd_in kc_108 (by decide)) (EE_8 _ kc_108) rfl rfl (Nat.le_of_ble_eq_true rfl) dL_law_1264 (fun r1 s1 h1 => ?_)
  cases Option.some.inj (e1.symm.trans h1)
  refine l_aload_n X dL_law_1267 1 rfl isr_ref ?_
  refine l_callVi (i := 129) (As := []) (rest := [.int r]) X (c_X9_restore l G  σ1 (by rw [e2]; rfl)) md_X9_restore gL_law_X9_restore (by omega) rfl rfl (kd_in kc_129 (by decide)) (EE_9 _ kc_129) rfl rfl (Nat.le_of_ble_eq_true rfl) dL_law_1268 (fun r2 s2 h2 => ?_)
  cases Option.some.inj (e2.symm.trans h2)
  exact l_icmp_eq (tgt := 1358) X dL_law_1271 (by decide) (fun _ => kk _ g) (fun h => absurd rfl h)
set_option maxRecDepth 100000 in
set_option maxHeartbeats 2000000 in
theorem la_33 {l : Launch} {G : GX} {K : KX} {b L k : Nat} {xs : Nat → Int32} {σ : MM} (X : FL G K b L xs) (hk : k + 6 ≤ L) (hL : L ≤ 3072) (h : GD σ) (kk : ∀ σ2, GD σ2 → VL l G K 1358 [(3, .int (nI k)), (2, .ref (G.1 129)), (1, .ref (G.1 108)), (0, .ref b)] [] σ2) : VL l G K 1276 [(3, .int (nI k)), (2, .ref (G.1 129)), (1, .ref (G.1 108)), (0, .ref b)] [] σ := by
  have sm : SIM (f_X8_tell (xs (k + 1)) σ) (f_X9_tell (xs (k + 1))) := op_tell h
  obtain ⟨r, σ1, σ2, e1, e2, g⟩ := sm
  refine l_aload_n X dL_law_1276 2 rfl isr_ref ?_
  refine l_aload_n X dL_law_1277 3 rfl isr_ref ?_
  refine l_iload_n X dL_law_1278 0 rfl ?_
  refine l_iconst (v := (1 : Int32)) X dL_law_1279 (by decide) ?_
  refine l_iadd X dL_law_1280 ?_
  refine l_sld X (k + 1) (nI_add k 1) (by omega) hL dL_law_1281 ?_
  refine l_callVi (i := 108) (As := [.int (xs (k + 1))]) (rest := []) X (c_X8_tell l G (xs (k + 1)) σ (by rw [e1]; rfl)) md_X8_tell gL_law_X8_tell (by omega) rfl rfl (kd_in kc_108 (by decide)) (EE_8 _ kc_108) rfl rfl (Nat.le_of_ble_eq_true rfl) dL_law_1282 (fun r1 s1 h1 => ?_)
  cases Option.some.inj (e1.symm.trans h1)
  refine l_aload_n X dL_law_1285 1 rfl isr_ref ?_
  refine l_aload_n X dL_law_1286 3 rfl isr_ref ?_
  refine l_iload_n X dL_law_1287 0 rfl ?_
  refine l_iconst (v := (1 : Int32)) X dL_law_1288 (by decide) ?_
  refine l_iadd X dL_law_1289 ?_
  refine l_sld X (k + 1) (nI_add k 1) (by omega) hL dL_law_1290 ?_
  refine l_callVi (i := 129) (As := [.int (xs (k + 1))]) (rest := [.int r]) X (c_X9_tell l G (xs (k + 1)) σ1 (by rw [e2]; rfl)) md_X9_tell gL_law_X9_tell (by omega) rfl rfl (kd_in kc_129 (by decide)) (EE_9 _ kc_129) rfl rfl (Nat.le_of_ble_eq_true rfl) dL_law_1291 (fun r2 s2 h2 => ?_)
  cases Option.some.inj (e2.symm.trans h2)
  exact l_icmp_eq (tgt := 1358) X dL_law_1294 (by decide) (fun _ => kk _ g) (fun h => absurd rfl h)
set_option maxRecDepth 100000 in
set_option maxHeartbeats 2000000 in
theorem la_34 {l : Launch} {G : GX} {K : KX} {b L k : Nat} {xs : Nat → Int32} {σ : MM} (X : FL G K b L xs) (hk : k + 6 ≤ L) (hL : L ≤ 3072) (h : GD σ) (kk : ∀ σ2, GD σ2 → VL l G K 1358 [(3, .int (nI k)), (2, .ref (G.1 129)), (1, .ref (G.1 108)), (0, .ref b)] [] σ2) : VL l G K 1299 [(3, .int (nI k)), (2, .ref (G.1 129)), (1, .ref (G.1 108)), (0, .ref b)] [] σ := by
  have sm : SIM (f_X8_check  σ) (f_X9_check ) := op_check h
  obtain ⟨r, σ1, σ2, e1, e2, g⟩ := sm
  refine l_aload_n X dL_law_1299 2 rfl isr_ref ?_
  refine l_callVi (i := 108) (As := []) (rest := []) X (c_X8_check l G  σ (by rw [e1]; rfl)) md_X8_check gL_law_X8_check (by omega) rfl rfl (kd_in kc_108 (by decide)) (EE_8 _ kc_108) rfl rfl (Nat.le_of_ble_eq_true rfl) dL_law_1300 (fun r1 s1 h1 => ?_)
  cases Option.some.inj (e1.symm.trans h1)
  refine l_aload_n X dL_law_1303 1 rfl isr_ref ?_
  refine l_callVi (i := 129) (As := []) (rest := [.int r]) X (c_X9_check l G  σ1 (by rw [e2]; rfl)) md_X9_check gL_law_X9_check (by omega) rfl rfl (kd_in kc_129 (by decide)) (EE_9 _ kc_129) rfl rfl (Nat.le_of_ble_eq_true rfl) dL_law_1304 (fun r2 s2 h2 => ?_)
  cases Option.some.inj (e2.symm.trans h2)
  exact l_icmp_eq (tgt := 1358) X dL_law_1307 (by decide) (fun _ => kk _ g) (fun h => absurd rfl h)
set_option maxRecDepth 100000 in
set_option maxHeartbeats 2000000 in
theorem la_35 {l : Launch} {G : GX} {K : KX} {b L k : Nat} {xs : Nat → Int32} {σ : MM} (X : FL G K b L xs) (hk : k + 6 ≤ L) (hL : L ≤ 3072) (h : GD σ) (kk : ∀ σ2, GD σ2 → VL l G K 1358 [(3, .int (nI k)), (2, .ref (G.1 129)), (1, .ref (G.1 108)), (0, .ref b)] [] σ2) : VL l G K 1312 [(3, .int (nI k)), (2, .ref (G.1 129)), (1, .ref (G.1 108)), (0, .ref b)] [] σ := by
  have sm : SIM (f_X8_count (xs (k + 1)) σ) (f_X9_count (xs (k + 1))) := op_count h
  obtain ⟨r, σ1, σ2, e1, e2, g⟩ := sm
  refine l_aload_n X dL_law_1312 2 rfl isr_ref ?_
  refine l_aload_n X dL_law_1313 3 rfl isr_ref ?_
  refine l_iload_n X dL_law_1314 0 rfl ?_
  refine l_iconst (v := (1 : Int32)) X dL_law_1315 (by decide) ?_
  refine l_iadd X dL_law_1316 ?_
  refine l_sld X (k + 1) (nI_add k 1) (by omega) hL dL_law_1317 ?_
  refine l_callVi (i := 108) (As := [.int (xs (k + 1))]) (rest := []) X (c_X8_count l G (xs (k + 1)) σ (by rw [e1]; rfl)) md_X8_count gL_law_X8_count (by omega) rfl rfl (kd_in kc_108 (by decide)) (EE_8 _ kc_108) rfl rfl (Nat.le_of_ble_eq_true rfl) dL_law_1318 (fun r1 s1 h1 => ?_)
  cases Option.some.inj (e1.symm.trans h1)
  refine l_aload_n X dL_law_1321 1 rfl isr_ref ?_
  refine l_aload_n X dL_law_1322 3 rfl isr_ref ?_
  refine l_iload_n X dL_law_1323 0 rfl ?_
  refine l_iconst (v := (1 : Int32)) X dL_law_1324 (by decide) ?_
  refine l_iadd X dL_law_1325 ?_
  refine l_sld X (k + 1) (nI_add k 1) (by omega) hL dL_law_1326 ?_
  refine l_callVi (i := 129) (As := [.int (xs (k + 1))]) (rest := [.int r]) X (c_X9_count l G (xs (k + 1)) σ1 (by rw [e2]; rfl)) md_X9_count gL_law_X9_count (by omega) rfl rfl (kd_in kc_129 (by decide)) (EE_9 _ kc_129) rfl rfl (Nat.le_of_ble_eq_true rfl) dL_law_1327 (fun r2 s2 h2 => ?_)
  cases Option.some.inj (e2.symm.trans h2)
  exact l_icmp_eq (tgt := 1358) X dL_law_1330 (by decide) (fun _ => kk _ g) (fun h => absurd rfl h)
set_option maxRecDepth 100000 in
set_option maxHeartbeats 2000000 in
theorem la_36 {l : Launch} {G : GX} {K : KX} {b L k : Nat} {xs : Nat → Int32} {σ : MM} (X : FL G K b L xs) (hk : k + 6 ≤ L) (hL : L ≤ 3072) (h : GD σ) (kk : ∀ σ2, GD σ2 → VL l G K 1358 [(3, .int (nI k)), (2, .ref (G.1 129)), (1, .ref (G.1 108)), (0, .ref b)] [] σ2) : VL l G K 1335 [(3, .int (nI k)), (2, .ref (G.1 129)), (1, .ref (G.1 108)), (0, .ref b)] [] σ := by
  have sm : SIM (f_X8_told (xs (k + 1)) σ) (f_X9_told (xs (k + 1))) := op_told h
  obtain ⟨r, σ1, σ2, e1, e2, g⟩ := sm
  refine l_aload_n X dL_law_1335 2 rfl isr_ref ?_
  refine l_aload_n X dL_law_1336 3 rfl isr_ref ?_
  refine l_iload_n X dL_law_1337 0 rfl ?_
  refine l_iconst (v := (1 : Int32)) X dL_law_1338 (by decide) ?_
  refine l_iadd X dL_law_1339 ?_
  refine l_sld X (k + 1) (nI_add k 1) (by omega) hL dL_law_1340 ?_
  refine l_callVi (i := 108) (As := [.int (xs (k + 1))]) (rest := []) X (c_X8_told l G (xs (k + 1)) σ (by rw [e1]; rfl)) md_X8_told gL_law_X8_told (by omega) rfl rfl (kd_in kc_108 (by decide)) (EE_8 _ kc_108) rfl rfl (Nat.le_of_ble_eq_true rfl) dL_law_1341 (fun r1 s1 h1 => ?_)
  cases Option.some.inj (e1.symm.trans h1)
  refine l_aload_n X dL_law_1344 1 rfl isr_ref ?_
  refine l_aload_n X dL_law_1345 3 rfl isr_ref ?_
  refine l_iload_n X dL_law_1346 0 rfl ?_
  refine l_iconst (v := (1 : Int32)) X dL_law_1347 (by decide) ?_
  refine l_iadd X dL_law_1348 ?_
  refine l_sld X (k + 1) (nI_add k 1) (by omega) hL dL_law_1349 ?_
  refine l_callVi (i := 129) (As := [.int (xs (k + 1))]) (rest := [.int r]) X (c_X9_told l G (xs (k + 1)) σ1 (by rw [e2]; rfl)) md_X9_told gL_law_X9_told (by omega) rfl rfl (kd_in kc_129 (by decide)) (EE_9 _ kc_129) rfl rfl (Nat.le_of_ble_eq_true rfl) dL_law_1350 (fun r2 s2 h2 => ?_)
  cases Option.some.inj (e2.symm.trans h2)
  exact l_icmp_eq (tgt := 1358) X dL_law_1353 (by decide) (fun _ => kk _ g) (fun h => absurd rfl h)

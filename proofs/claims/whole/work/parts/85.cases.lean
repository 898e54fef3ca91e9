/-! ===== the law's cases ===== -/
section LCS
variable {X : fm_X} {Q : State → Prop} {rC rM : Nat → Nat} {b L i : Nat} {xs : Nat → Int32} {MC MM : fm_M} {Z : fm_Z}
theorem lc_part (hB : gb X cL_law 4 RL (some .boolean)) (hF : fl X rC rM b L xs) (hi : i + 6 ≤ L) (hc : fm_CR Z MC) (hm : fm_MR Z MM) (hw : fm_WZ Z) (kont : ∀ (Z' : fm_Z) (MC' MM' : fm_M), fm_CR Z' MC' → fm_MR Z' MM' → fm_WZ Z' → gw X 4 106 2446 (il X rC rM MC' MM') 1380 [some (.ref b), some (.ref (rC 0)), some (.ref (rM 0)), some (.int (nI i))] [] Q) : gw X 4 106 2446 (il X rC rM MC MM) 196 [some (.ref b), some (.ref (rC 0)), some (.ref (rM 0)), some (.int (nI i))] [] Q := by
  refine g_aload_n hB dL_law_196 rfl rfl ?_
  refine g_aload_n hB dL_law_197 rfl rfl ?_
  refine g_iload_n hB dL_law_198 rfl rfl ?_
  refine g_iconst (v := nI 1) hB dL_law_199 (by decide) ?_
  refine g_iadd hB dL_law_200 ?_
  refine l_sc hB hF (i + 1) dL_law_201 (nI_add i 1) (by omega) ?_
  refine l_callC hB hF _ _ dL_law_202 lm_L_13 (cc_part hc hw) rfl rfl (Nat.le_of_ble_eq_true rfl) (l_rm hF (Nat.le_of_ble_eq_true rfl) (Nat.le_of_ble_eq_true rfl)) (l_rc hF (Nat.le_of_ble_eq_true rfl) (Nat.le_of_ble_eq_true rfl)) ?_
  rintro _ MC9 ⟨rfl, hc9⟩
  refine g_r1 ?_
  refine g_aload_n hB dL_law_205 rfl rfl ?_
  refine g_aload_n hB dL_law_206 rfl rfl ?_
  refine g_iload_n hB dL_law_207 rfl rfl ?_
  refine g_iconst (v := nI 1) hB dL_law_208 (by decide) ?_
  refine g_iadd hB dL_law_209 ?_
  refine l_sc hB hF (i + 1) dL_law_210 (nI_add i 1) (by omega) ?_
  refine l_callM hB hF _ _ dL_law_211 lm_L_17 (mm_part hm hw) rfl rfl (Nat.le_of_ble_eq_true rfl) (l_rm hF (Nat.le_of_ble_eq_true rfl) (Nat.le_of_ble_eq_true rfl)) (l_rc hF (Nat.le_of_ble_eq_true rfl) (Nat.le_of_ble_eq_true rfl)) ?_
  rintro _ MM9 ⟨rfl, hm9⟩
  refine g_r1 ?_
  exact g_icmp_eq (tgt := 1380) hB dL_law_214 (by decide) (fun _ => kont _ _ _ hc9 hm9 ⟨kp_part hw.1 _, hw.2⟩) (fun h => absurd rfl h)
theorem lc_gate (hB : gb X cL_law 4 RL (some .boolean)) (hF : fl X rC rM b L xs) (hi : i + 6 ≤ L) (hc : fm_CR Z MC) (hm : fm_MR Z MM) (hw : fm_WZ Z) (kont : ∀ (Z' : fm_Z) (MC' MM' : fm_M), fm_CR Z' MC' → fm_MR Z' MM' → fm_WZ Z' → gw X 4 106 2446 (il X rC rM MC' MM') 1380 [some (.ref b), some (.ref (rC 0)), some (.ref (rM 0)), some (.int (nI i))] [] Q) : gw X 4 106 2446 (il X rC rM MC MM) 219 [some (.ref b), some (.ref (rC 0)), some (.ref (rM 0)), some (.int (nI i))] [] Q := by
  refine g_aload_n hB dL_law_219 rfl rfl ?_
  refine g_aload_n hB dL_law_220 rfl rfl ?_
  refine g_iload_n hB dL_law_221 rfl rfl ?_
  refine g_iconst (v := nI 1) hB dL_law_222 (by decide) ?_
  refine g_iadd hB dL_law_223 ?_
  refine l_sc hB hF (i + 1) dL_law_224 (nI_add i 1) (by omega) ?_
  refine g_aload_n hB dL_law_225 rfl rfl ?_
  refine g_iload_n hB dL_law_226 rfl rfl ?_
  refine g_iconst (v := nI 2) hB dL_law_227 (by decide) ?_
  refine g_iadd hB dL_law_228 ?_
  refine l_sc hB hF (i + 2) dL_law_229 (nI_add i 2) (by omega) ?_
  refine l_callC hB hF _ _ dL_law_230 lm_L_18 (cc_gate hc hw) rfl rfl (Nat.le_of_ble_eq_true rfl) (l_rm hF (Nat.le_of_ble_eq_true rfl) (Nat.le_of_ble_eq_true rfl)) (l_rc hF (Nat.le_of_ble_eq_true rfl) (Nat.le_of_ble_eq_true rfl)) ?_
  rintro _ MC9 ⟨rfl, hc9⟩
  refine g_r1 ?_
  refine g_aload_n hB dL_law_233 rfl rfl ?_
  refine g_aload_n hB dL_law_234 rfl rfl ?_
  refine g_iload_n hB dL_law_235 rfl rfl ?_
  refine g_iconst (v := nI 1) hB dL_law_236 (by decide) ?_
  refine g_iadd hB dL_law_237 ?_
  refine l_sc hB hF (i + 1) dL_law_238 (nI_add i 1) (by omega) ?_
  refine g_aload_n hB dL_law_239 rfl rfl ?_
  refine g_iload_n hB dL_law_240 rfl rfl ?_
  refine g_iconst (v := nI 2) hB dL_law_241 (by decide) ?_
  refine g_iadd hB dL_law_242 ?_
  refine l_sc hB hF (i + 2) dL_law_243 (nI_add i 2) (by omega) ?_
  refine l_callM hB hF _ _ dL_law_244 lm_L_22 (mm_gate hm hw) rfl rfl (Nat.le_of_ble_eq_true rfl) (l_rm hF (Nat.le_of_ble_eq_true rfl) (Nat.le_of_ble_eq_true rfl)) (l_rc hF (Nat.le_of_ble_eq_true rfl) (Nat.le_of_ble_eq_true rfl)) ?_
  rintro _ MM9 ⟨rfl, hm9⟩
  refine g_r1 ?_
  exact g_icmp_eq (tgt := 1380) hB dL_law_247 (by decide) (fun _ => kont _ _ _ hc9 hm9 ⟨kp_gate hw.1 _ _, hw.2⟩) (fun h => absurd rfl h)
theorem lc_turn (hB : gb X cL_law 4 RL (some .boolean)) (hF : fl X rC rM b L xs) (hi : i + 6 ≤ L) (hc : fm_CR Z MC) (hm : fm_MR Z MM) (hw : fm_WZ Z) (kont : ∀ (Z' : fm_Z) (MC' MM' : fm_M), fm_CR Z' MC' → fm_MR Z' MM' → fm_WZ Z' → gw X 4 106 2446 (il X rC rM MC' MM') 1380 [some (.ref b), some (.ref (rC 0)), some (.ref (rM 0)), some (.int (nI i))] [] Q) : gw X 4 106 2446 (il X rC rM MC MM) 252 [some (.ref b), some (.ref (rC 0)), some (.ref (rM 0)), some (.int (nI i))] [] Q := by
  refine g_aload_n hB dL_law_252 rfl rfl ?_
  refine g_aload_n hB dL_law_253 rfl rfl ?_
  refine g_iload_n hB dL_law_254 rfl rfl ?_
  refine g_iconst (v := nI 1) hB dL_law_255 (by decide) ?_
  refine g_iadd hB dL_law_256 ?_
  refine l_sc hB hF (i + 1) dL_law_257 (nI_add i 1) (by omega) ?_
  refine g_aload_n hB dL_law_258 rfl rfl ?_
  refine g_iload_n hB dL_law_259 rfl rfl ?_
  refine g_iconst (v := nI 2) hB dL_law_260 (by decide) ?_
  refine g_iadd hB dL_law_261 ?_
  refine l_sc hB hF (i + 2) dL_law_262 (nI_add i 2) (by omega) ?_
  refine g_aload_n hB dL_law_263 rfl rfl ?_
  refine g_iload_n hB dL_law_264 rfl rfl ?_
  refine g_iconst (v := nI 3) hB dL_law_265 (by decide) ?_
  refine g_iadd hB dL_law_266 ?_
  refine l_sc hB hF (i + 3) dL_law_267 (nI_add i 3) (by omega) ?_
  refine l_callC hB hF _ _ dL_law_268 lm_L_23 (cc_turn hc hw) rfl rfl (Nat.le_of_ble_eq_true rfl) (l_rm hF (Nat.le_of_ble_eq_true rfl) (Nat.le_of_ble_eq_true rfl)) (l_rc hF (Nat.le_of_ble_eq_true rfl) (Nat.le_of_ble_eq_true rfl)) ?_
  rintro _ MC9 ⟨rfl, hc9⟩
  refine g_r1 ?_
  refine g_aload_n hB dL_law_271 rfl rfl ?_
  refine g_aload_n hB dL_law_272 rfl rfl ?_
  refine g_iload_n hB dL_law_273 rfl rfl ?_
  refine g_iconst (v := nI 1) hB dL_law_274 (by decide) ?_
  refine g_iadd hB dL_law_275 ?_
  refine l_sc hB hF (i + 1) dL_law_276 (nI_add i 1) (by omega) ?_
  refine g_aload_n hB dL_law_277 rfl rfl ?_
  refine g_iload_n hB dL_law_278 rfl rfl ?_
  refine g_iconst (v := nI 2) hB dL_law_279 (by decide) ?_
  refine g_iadd hB dL_law_280 ?_
  refine l_sc hB hF (i + 2) dL_law_281 (nI_add i 2) (by omega) ?_
  refine g_aload_n hB dL_law_282 rfl rfl ?_
  refine g_iload_n hB dL_law_283 rfl rfl ?_
  refine g_iconst (v := nI 3) hB dL_law_284 (by decide) ?_
  refine g_iadd hB dL_law_285 ?_
  refine l_sc hB hF (i + 3) dL_law_286 (nI_add i 3) (by omega) ?_
  refine l_callM hB hF _ _ dL_law_287 lm_L_27 (mm_turn hm hw) rfl rfl (Nat.le_of_ble_eq_true rfl) (l_rm hF (Nat.le_of_ble_eq_true rfl) (Nat.le_of_ble_eq_true rfl)) (l_rc hF (Nat.le_of_ble_eq_true rfl) (Nat.le_of_ble_eq_true rfl)) ?_
  rintro _ MM9 ⟨rfl, hm9⟩
  refine g_r1 ?_
  exact g_icmp_eq (tgt := 1380) hB dL_law_290 (by decide) (fun _ => kont _ _ _ hc9 hm9 ⟨kp_turn hw.1 _ _ _, hw.2⟩) (fun h => absurd rfl h)
theorem lc_join (hB : gb X cL_law 4 RL (some .boolean)) (hF : fl X rC rM b L xs) (hi : i + 6 ≤ L) (hc : fm_CR Z MC) (hm : fm_MR Z MM) (hw : fm_WZ Z) (kont : ∀ (Z' : fm_Z) (MC' MM' : fm_M), fm_CR Z' MC' → fm_MR Z' MM' → fm_WZ Z' → gw X 4 106 2446 (il X rC rM MC' MM') 1380 [some (.ref b), some (.ref (rC 0)), some (.ref (rM 0)), some (.int (nI i))] [] Q) : gw X 4 106 2446 (il X rC rM MC MM) 295 [some (.ref b), some (.ref (rC 0)), some (.ref (rM 0)), some (.int (nI i))] [] Q := by
  refine g_aload_n hB dL_law_295 rfl rfl ?_
  refine g_aload_n hB dL_law_296 rfl rfl ?_
  refine g_iload_n hB dL_law_297 rfl rfl ?_
  refine g_iconst (v := nI 1) hB dL_law_298 (by decide) ?_
  refine g_iadd hB dL_law_299 ?_
  refine l_sc hB hF (i + 1) dL_law_300 (nI_add i 1) (by omega) ?_
  refine g_aload_n hB dL_law_301 rfl rfl ?_
  refine g_iload_n hB dL_law_302 rfl rfl ?_
  refine g_iconst (v := nI 2) hB dL_law_303 (by decide) ?_
  refine g_iadd hB dL_law_304 ?_
  refine l_sc hB hF (i + 2) dL_law_305 (nI_add i 2) (by omega) ?_
  refine l_bool hB dL_law_306 dL_law_309 dL_law_310 dL_law_313 ?_
  refine g_aload_n hB dL_law_314 rfl rfl ?_
  refine g_iload_n hB dL_law_315 rfl rfl ?_
  refine g_iconst (v := nI 3) hB dL_law_316 (by decide) ?_
  refine g_iadd hB dL_law_317 ?_
  refine l_sc hB hF (i + 3) dL_law_318 (nI_add i 3) (by omega) ?_
  refine l_callC hB hF _ _ dL_law_319 lm_L_28 (cc_join hc hw) rfl rfl (Nat.le_of_ble_eq_true rfl) (l_rm hF (Nat.le_of_ble_eq_true rfl) (Nat.le_of_ble_eq_true rfl)) (l_rc hF (Nat.le_of_ble_eq_true rfl) (Nat.le_of_ble_eq_true rfl)) ?_
  rintro _ MC9 ⟨rfl, hc9⟩
  refine g_r1 ?_
  refine g_aload_n hB dL_law_322 rfl rfl ?_
  refine g_aload_n hB dL_law_323 rfl rfl ?_
  refine g_iload_n hB dL_law_324 rfl rfl ?_
  refine g_iconst (v := nI 1) hB dL_law_325 (by decide) ?_
  refine g_iadd hB dL_law_326 ?_
  refine l_sc hB hF (i + 1) dL_law_327 (nI_add i 1) (by omega) ?_
  refine g_aload_n hB dL_law_328 rfl rfl ?_
  refine g_iload_n hB dL_law_329 rfl rfl ?_
  refine g_iconst (v := nI 2) hB dL_law_330 (by decide) ?_
  refine g_iadd hB dL_law_331 ?_
  refine l_sc hB hF (i + 2) dL_law_332 (nI_add i 2) (by omega) ?_
  refine l_bool hB dL_law_333 dL_law_336 dL_law_337 dL_law_340 ?_
  refine g_aload_n hB dL_law_341 rfl rfl ?_
  refine g_iload_n hB dL_law_342 rfl rfl ?_
  refine g_iconst (v := nI 3) hB dL_law_343 (by decide) ?_
  refine g_iadd hB dL_law_344 ?_
  refine l_sc hB hF (i + 3) dL_law_345 (nI_add i 3) (by omega) ?_
  refine l_callM hB hF _ _ dL_law_346 lm_L_32 (mm_join hm hw) rfl rfl (Nat.le_of_ble_eq_true rfl) (l_rm hF (Nat.le_of_ble_eq_true rfl) (Nat.le_of_ble_eq_true rfl)) (l_rc hF (Nat.le_of_ble_eq_true rfl) (Nat.le_of_ble_eq_true rfl)) ?_
  rintro _ MM9 ⟨rfl, hm9⟩
  refine g_r1 ?_
  exact g_icmp_eq (tgt := 1380) hB dL_law_349 (by decide) (fun _ => kont _ _ _ hc9 hm9 ⟨kp_join hw.1 _ _ _, hw.2⟩) (fun h => absurd rfl h)
theorem lc_drop (hB : gb X cL_law 4 RL (some .boolean)) (hF : fl X rC rM b L xs) (hi : i + 6 ≤ L) (hc : fm_CR Z MC) (hm : fm_MR Z MM) (hw : fm_WZ Z) (kont : ∀ (Z' : fm_Z) (MC' MM' : fm_M), fm_CR Z' MC' → fm_MR Z' MM' → fm_WZ Z' → gw X 4 106 2446 (il X rC rM MC' MM') 1380 [some (.ref b), some (.ref (rC 0)), some (.ref (rM 0)), some (.int (nI i))] [] Q) : gw X 4 106 2446 (il X rC rM MC MM) 354 [some (.ref b), some (.ref (rC 0)), some (.ref (rM 0)), some (.int (nI i))] [] Q := by
  refine g_aload_n hB dL_law_354 rfl rfl ?_
  refine g_aload_n hB dL_law_355 rfl rfl ?_
  refine g_iload_n hB dL_law_356 rfl rfl ?_
  refine g_iconst (v := nI 1) hB dL_law_357 (by decide) ?_
  refine g_iadd hB dL_law_358 ?_
  refine l_sc hB hF (i + 1) dL_law_359 (nI_add i 1) (by omega) ?_
  refine l_callC hB hF _ _ dL_law_360 lm_L_33 (cc_drop hc hw) rfl rfl (Nat.le_of_ble_eq_true rfl) (l_rm hF (Nat.le_of_ble_eq_true rfl) (Nat.le_of_ble_eq_true rfl)) (l_rc hF (Nat.le_of_ble_eq_true rfl) (Nat.le_of_ble_eq_true rfl)) ?_
  rintro _ MC9 ⟨rfl, hc9⟩
  refine g_r1 ?_
  refine g_aload_n hB dL_law_363 rfl rfl ?_
  refine g_aload_n hB dL_law_364 rfl rfl ?_
  refine g_iload_n hB dL_law_365 rfl rfl ?_
  refine g_iconst (v := nI 1) hB dL_law_366 (by decide) ?_
  refine g_iadd hB dL_law_367 ?_
  refine l_sc hB hF (i + 1) dL_law_368 (nI_add i 1) (by omega) ?_
  refine l_callM hB hF _ _ dL_law_369 lm_L_36 (mm_drop hm hw) rfl rfl (Nat.le_of_ble_eq_true rfl) (l_rm hF (Nat.le_of_ble_eq_true rfl) (Nat.le_of_ble_eq_true rfl)) (l_rc hF (Nat.le_of_ble_eq_true rfl) (Nat.le_of_ble_eq_true rfl)) ?_
  rintro _ MM9 ⟨rfl, hm9⟩
  refine g_r1 ?_
  exact g_icmp_eq (tgt := 1380) hB dL_law_372 (by decide) (fun _ => kont _ _ _ hc9 hm9 ⟨kp_drop hw.1 _, hw.2⟩) (fun h => absurd rfl h)
theorem lc_top (hB : gb X cL_law 4 RL (some .boolean)) (hF : fl X rC rM b L xs) (hi : i + 6 ≤ L) (hc : fm_CR Z MC) (hm : fm_MR Z MM) (hw : fm_WZ Z) (kont : ∀ (Z' : fm_Z) (MC' MM' : fm_M), fm_CR Z' MC' → fm_MR Z' MM' → fm_WZ Z' → gw X 4 106 2446 (il X rC rM MC' MM') 1380 [some (.ref b), some (.ref (rC 0)), some (.ref (rM 0)), some (.int (nI i))] [] Q) : gw X 4 106 2446 (il X rC rM MC MM) 377 [some (.ref b), some (.ref (rC 0)), some (.ref (rM 0)), some (.int (nI i))] [] Q := by
  refine g_aload_n hB dL_law_377 rfl rfl ?_
  refine g_aload_n hB dL_law_378 rfl rfl ?_
  refine g_iload_n hB dL_law_379 rfl rfl ?_
  refine g_iconst (v := nI 1) hB dL_law_380 (by decide) ?_
  refine g_iadd hB dL_law_381 ?_
  refine l_sc hB hF (i + 1) dL_law_382 (nI_add i 1) (by omega) ?_
  refine l_callC hB hF _ _ dL_law_383 lm_L_37 (cc_top hc hw) rfl rfl (Nat.le_of_ble_eq_true rfl) (l_rm hF (Nat.le_of_ble_eq_true rfl) (Nat.le_of_ble_eq_true rfl)) (l_rc hF (Nat.le_of_ble_eq_true rfl) (Nat.le_of_ble_eq_true rfl)) ?_
  rintro _ MC9 ⟨rfl, hc9⟩
  refine g_r1 ?_
  refine g_aload_n hB dL_law_386 rfl rfl ?_
  refine g_aload_n hB dL_law_387 rfl rfl ?_
  refine g_iload_n hB dL_law_388 rfl rfl ?_
  refine g_iconst (v := nI 1) hB dL_law_389 (by decide) ?_
  refine g_iadd hB dL_law_390 ?_
  refine l_sc hB hF (i + 1) dL_law_391 (nI_add i 1) (by omega) ?_
  refine l_callM hB hF _ _ dL_law_392 lm_L_40 (mm_top hm hw) rfl rfl (Nat.le_of_ble_eq_true rfl) (l_rm hF (Nat.le_of_ble_eq_true rfl) (Nat.le_of_ble_eq_true rfl)) (l_rc hF (Nat.le_of_ble_eq_true rfl) (Nat.le_of_ble_eq_true rfl)) ?_
  rintro _ MM9 ⟨rfl, hm9⟩
  refine g_r1 ?_
  exact g_icmp_eq (tgt := 1380) hB dL_law_395 (by decide) (fun _ => kont _ _ _ hc9 hm9 ⟨kp_top hw.1 _, hw.2⟩) (fun h => absurd rfl h)
theorem lc_cause (hB : gb X cL_law 4 RL (some .boolean)) (hF : fl X rC rM b L xs) (hi : i + 6 ≤ L) (hc : fm_CR Z MC) (hm : fm_MR Z MM) (hw : fm_WZ Z) (kont : ∀ (Z' : fm_Z) (MC' MM' : fm_M), fm_CR Z' MC' → fm_MR Z' MM' → fm_WZ Z' → gw X 4 106 2446 (il X rC rM MC' MM') 1380 [some (.ref b), some (.ref (rC 0)), some (.ref (rM 0)), some (.int (nI i))] [] Q) : gw X 4 106 2446 (il X rC rM MC MM) 400 [some (.ref b), some (.ref (rC 0)), some (.ref (rM 0)), some (.int (nI i))] [] Q := by
  refine g_aload_n hB dL_law_400 rfl rfl ?_
  refine g_aload_n hB dL_law_401 rfl rfl ?_
  refine g_iload_n hB dL_law_402 rfl rfl ?_
  refine g_iconst (v := nI 1) hB dL_law_403 (by decide) ?_
  refine g_iadd hB dL_law_404 ?_
  refine l_sc hB hF (i + 1) dL_law_405 (nI_add i 1) (by omega) ?_
  refine g_aload_n hB dL_law_406 rfl rfl ?_
  refine g_iload_n hB dL_law_407 rfl rfl ?_
  refine g_iconst (v := nI 2) hB dL_law_408 (by decide) ?_
  refine g_iadd hB dL_law_409 ?_
  refine l_sc hB hF (i + 2) dL_law_410 (nI_add i 2) (by omega) ?_
  refine l_callC hB hF _ _ dL_law_411 lm_L_41 (cc_cause hc hw) rfl rfl (Nat.le_of_ble_eq_true rfl) (l_rm hF (Nat.le_of_ble_eq_true rfl) (Nat.le_of_ble_eq_true rfl)) (l_rc hF (Nat.le_of_ble_eq_true rfl) (Nat.le_of_ble_eq_true rfl)) ?_
  rintro _ MC9 ⟨rfl, hc9⟩
  refine g_r1 ?_
  refine g_aload_n hB dL_law_414 rfl rfl ?_
  refine g_aload_n hB dL_law_415 rfl rfl ?_
  refine g_iload_n hB dL_law_416 rfl rfl ?_
  refine g_iconst (v := nI 1) hB dL_law_417 (by decide) ?_
  refine g_iadd hB dL_law_418 ?_
  refine l_sc hB hF (i + 1) dL_law_419 (nI_add i 1) (by omega) ?_
  refine g_aload_n hB dL_law_420 rfl rfl ?_
  refine g_iload_n hB dL_law_421 rfl rfl ?_
  refine g_iconst (v := nI 2) hB dL_law_422 (by decide) ?_
  refine g_iadd hB dL_law_423 ?_
  refine l_sc hB hF (i + 2) dL_law_424 (nI_add i 2) (by omega) ?_
  refine l_callM hB hF _ _ dL_law_425 lm_L_44 (mm_cause hm hw) rfl rfl (Nat.le_of_ble_eq_true rfl) (l_rm hF (Nat.le_of_ble_eq_true rfl) (Nat.le_of_ble_eq_true rfl)) (l_rc hF (Nat.le_of_ble_eq_true rfl) (Nat.le_of_ble_eq_true rfl)) ?_
  rintro _ MM9 ⟨rfl, hm9⟩
  refine g_r1 ?_
  exact g_icmp_eq (tgt := 1380) hB dL_law_428 (by decide) (fun _ => kont _ _ _ hc9 hm9 ⟨kp_cause hw.1 _ _, hw.2⟩) (fun h => absurd rfl h)
theorem lc_odds (hB : gb X cL_law 4 RL (some .boolean)) (hF : fl X rC rM b L xs) (hi : i + 6 ≤ L) (hc : fm_CR Z MC) (hm : fm_MR Z MM) (hw : fm_WZ Z) (kont : ∀ (Z' : fm_Z) (MC' MM' : fm_M), fm_CR Z' MC' → fm_MR Z' MM' → fm_WZ Z' → gw X 4 106 2446 (il X rC rM MC' MM') 1380 [some (.ref b), some (.ref (rC 0)), some (.ref (rM 0)), some (.int (nI i))] [] Q) : gw X 4 106 2446 (il X rC rM MC MM) 433 [some (.ref b), some (.ref (rC 0)), some (.ref (rM 0)), some (.int (nI i))] [] Q := by
  refine g_aload_n hB dL_law_433 rfl rfl ?_
  refine g_aload_n hB dL_law_434 rfl rfl ?_
  refine g_iload_n hB dL_law_435 rfl rfl ?_
  refine g_iconst (v := nI 1) hB dL_law_436 (by decide) ?_
  refine g_iadd hB dL_law_437 ?_
  refine l_sc hB hF (i + 1) dL_law_438 (nI_add i 1) (by omega) ?_
  refine g_aload_n hB dL_law_439 rfl rfl ?_
  refine g_iload_n hB dL_law_440 rfl rfl ?_
  refine g_iconst (v := nI 2) hB dL_law_441 (by decide) ?_
  refine g_iadd hB dL_law_442 ?_
  refine l_sc hB hF (i + 2) dL_law_443 (nI_add i 2) (by omega) ?_
  refine g_aload_n hB dL_law_444 rfl rfl ?_
  refine g_iload_n hB dL_law_445 rfl rfl ?_
  refine g_iconst (v := nI 3) hB dL_law_446 (by decide) ?_
  refine g_iadd hB dL_law_447 ?_
  refine l_sc hB hF (i + 3) dL_law_448 (nI_add i 3) (by omega) ?_
  refine l_callC hB hF _ _ dL_law_449 lm_L_45 (cc_odds hc hw) rfl rfl (Nat.le_of_ble_eq_true rfl) (l_rm hF (Nat.le_of_ble_eq_true rfl) (Nat.le_of_ble_eq_true rfl)) (l_rc hF (Nat.le_of_ble_eq_true rfl) (Nat.le_of_ble_eq_true rfl)) ?_
  rintro _ MC9 ⟨rfl, hc9⟩
  refine g_r1 ?_
  refine g_aload_n hB dL_law_452 rfl rfl ?_
  refine g_aload_n hB dL_law_453 rfl rfl ?_
  refine g_iload_n hB dL_law_454 rfl rfl ?_
  refine g_iconst (v := nI 1) hB dL_law_455 (by decide) ?_
  refine g_iadd hB dL_law_456 ?_
  refine l_sc hB hF (i + 1) dL_law_457 (nI_add i 1) (by omega) ?_
  refine g_aload_n hB dL_law_458 rfl rfl ?_
  refine g_iload_n hB dL_law_459 rfl rfl ?_
  refine g_iconst (v := nI 2) hB dL_law_460 (by decide) ?_
  refine g_iadd hB dL_law_461 ?_
  refine l_sc hB hF (i + 2) dL_law_462 (nI_add i 2) (by omega) ?_
  refine g_aload_n hB dL_law_463 rfl rfl ?_
  refine g_iload_n hB dL_law_464 rfl rfl ?_
  refine g_iconst (v := nI 3) hB dL_law_465 (by decide) ?_
  refine g_iadd hB dL_law_466 ?_
  refine l_sc hB hF (i + 3) dL_law_467 (nI_add i 3) (by omega) ?_
  refine l_callM hB hF _ _ dL_law_468 lm_L_48 (mm_odds hm hw) rfl rfl (Nat.le_of_ble_eq_true rfl) (l_rm hF (Nat.le_of_ble_eq_true rfl) (Nat.le_of_ble_eq_true rfl)) (l_rc hF (Nat.le_of_ble_eq_true rfl) (Nat.le_of_ble_eq_true rfl)) ?_
  rintro _ MM9 ⟨rfl, hm9⟩
  refine g_r1 ?_
  exact g_icmp_eq (tgt := 1380) hB dL_law_471 (by decide) (fun _ => kont _ _ _ hc9 hm9 ⟨kp_odds hw.1 _ _ _, hw.2⟩) (fun h => absurd rfl h)
theorem lc_of (hB : gb X cL_law 4 RL (some .boolean)) (hF : fl X rC rM b L xs) (hi : i + 6 ≤ L) (hc : fm_CR Z MC) (hm : fm_MR Z MM) (hw : fm_WZ Z) (kont : ∀ (Z' : fm_Z) (MC' MM' : fm_M), fm_CR Z' MC' → fm_MR Z' MM' → fm_WZ Z' → gw X 4 106 2446 (il X rC rM MC' MM') 1380 [some (.ref b), some (.ref (rC 0)), some (.ref (rM 0)), some (.int (nI i))] [] Q) : gw X 4 106 2446 (il X rC rM MC MM) 476 [some (.ref b), some (.ref (rC 0)), some (.ref (rM 0)), some (.int (nI i))] [] Q := by
  refine g_aload_n hB dL_law_476 rfl rfl ?_
  refine g_aload_n hB dL_law_477 rfl rfl ?_
  refine g_iload_n hB dL_law_478 rfl rfl ?_
  refine g_iconst (v := nI 1) hB dL_law_479 (by decide) ?_
  refine g_iadd hB dL_law_480 ?_
  refine l_sc hB hF (i + 1) dL_law_481 (nI_add i 1) (by omega) ?_
  refine g_aload_n hB dL_law_482 rfl rfl ?_
  refine g_iload_n hB dL_law_483 rfl rfl ?_
  refine g_iconst (v := nI 2) hB dL_law_484 (by decide) ?_
  refine g_iadd hB dL_law_485 ?_
  refine l_sc hB hF (i + 2) dL_law_486 (nI_add i 2) (by omega) ?_
  refine g_aload_n hB dL_law_487 rfl rfl ?_
  refine g_iload_n hB dL_law_488 rfl rfl ?_
  refine g_iconst (v := nI 3) hB dL_law_489 (by decide) ?_
  refine g_iadd hB dL_law_490 ?_
  refine l_sc hB hF (i + 3) dL_law_491 (nI_add i 3) (by omega) ?_
  refine l_callC hB hF _ _ dL_law_492 lm_L_49 (cc_of hc hw) rfl rfl (Nat.le_of_ble_eq_true rfl) (l_rm hF (Nat.le_of_ble_eq_true rfl) (Nat.le_of_ble_eq_true rfl)) (l_rc hF (Nat.le_of_ble_eq_true rfl) (Nat.le_of_ble_eq_true rfl)) ?_
  rintro _ MC9 ⟨rfl, eC9⟩
  refine g_r1 ?_
  refine g_aload_n hB dL_law_495 rfl rfl ?_
  refine g_aload_n hB dL_law_496 rfl rfl ?_
  refine g_iload_n hB dL_law_497 rfl rfl ?_
  refine g_iconst (v := nI 1) hB dL_law_498 (by decide) ?_
  refine g_iadd hB dL_law_499 ?_
  refine l_sc hB hF (i + 1) dL_law_500 (nI_add i 1) (by omega) ?_
  refine g_aload_n hB dL_law_501 rfl rfl ?_
  refine g_iload_n hB dL_law_502 rfl rfl ?_
  refine g_iconst (v := nI 2) hB dL_law_503 (by decide) ?_
  refine g_iadd hB dL_law_504 ?_
  refine l_sc hB hF (i + 2) dL_law_505 (nI_add i 2) (by omega) ?_
  refine g_aload_n hB dL_law_506 rfl rfl ?_
  refine g_iload_n hB dL_law_507 rfl rfl ?_
  refine g_iconst (v := nI 3) hB dL_law_508 (by decide) ?_
  refine g_iadd hB dL_law_509 ?_
  refine l_sc hB hF (i + 3) dL_law_510 (nI_add i 3) (by omega) ?_
  refine l_callM hB hF _ _ dL_law_511 lm_L_52 (mm_of hm hw) rfl rfl (Nat.le_of_ble_eq_true rfl) (l_rm hF (Nat.le_of_ble_eq_true rfl) (Nat.le_of_ble_eq_true rfl)) (l_rc hF (Nat.le_of_ble_eq_true rfl) (Nat.le_of_ble_eq_true rfl)) ?_
  rintro _ MM9 ⟨rfl, eM9⟩
  refine g_r1 ?_
  exact g_icmp_eq (tgt := 1380) hB dL_law_514 (by decide) (fun _ => kont Z _ _ (by rw [eC9]; exact hc) (by rw [eM9]; exact hm) hw) (fun h => absurd rfl h)
theorem lc_feed (hB : gb X cL_law 4 RL (some .boolean)) (hF : fl X rC rM b L xs) (hi : i + 6 ≤ L) (hc : fm_CR Z MC) (hm : fm_MR Z MM) (hw : fm_WZ Z) (kont : ∀ (Z' : fm_Z) (MC' MM' : fm_M), fm_CR Z' MC' → fm_MR Z' MM' → fm_WZ Z' → gw X 4 106 2446 (il X rC rM MC' MM') 1380 [some (.ref b), some (.ref (rC 0)), some (.ref (rM 0)), some (.int (nI i))] [] Q) : gw X 4 106 2446 (il X rC rM MC MM) 519 [some (.ref b), some (.ref (rC 0)), some (.ref (rM 0)), some (.int (nI i))] [] Q := by
  refine g_aload_n hB dL_law_519 rfl rfl ?_
  refine g_aload_n hB dL_law_520 rfl rfl ?_
  refine g_iload_n hB dL_law_521 rfl rfl ?_
  refine g_iconst (v := nI 1) hB dL_law_522 (by decide) ?_
  refine g_iadd hB dL_law_523 ?_
  refine l_sc hB hF (i + 1) dL_law_524 (nI_add i 1) (by omega) ?_
  refine l_callC hB hF _ _ dL_law_525 lm_L_53 (cc_feed hc hw) rfl rfl (Nat.le_of_ble_eq_true rfl) (l_rm hF (Nat.le_of_ble_eq_true rfl) (Nat.le_of_ble_eq_true rfl)) (l_rc hF (Nat.le_of_ble_eq_true rfl) (Nat.le_of_ble_eq_true rfl)) ?_
  rintro _ MC9 ⟨rfl, hc9⟩
  refine g_r1 ?_
  refine g_aload_n hB dL_law_528 rfl rfl ?_
  refine g_aload_n hB dL_law_529 rfl rfl ?_
  refine g_iload_n hB dL_law_530 rfl rfl ?_
  refine g_iconst (v := nI 1) hB dL_law_531 (by decide) ?_
  refine g_iadd hB dL_law_532 ?_
  refine l_sc hB hF (i + 1) dL_law_533 (nI_add i 1) (by omega) ?_
  refine l_callM hB hF _ _ dL_law_534 lm_L_56 (mm_feed hm hw) rfl rfl (Nat.le_of_ble_eq_true rfl) (l_rm hF (Nat.le_of_ble_eq_true rfl) (Nat.le_of_ble_eq_true rfl)) (l_rc hF (Nat.le_of_ble_eq_true rfl) (Nat.le_of_ble_eq_true rfl)) ?_
  rintro _ MM9 ⟨rfl, hm9⟩
  refine g_r1 ?_
  exact g_icmp_eq (tgt := 1380) hB dL_law_537 (by decide) (fun _ => kont _ _ _ hc9 hm9 (kz_feed hw _)) (fun h => absurd rfl h)
theorem lc_read (hB : gb X cL_law 4 RL (some .boolean)) (hF : fl X rC rM b L xs) (hi : i + 6 ≤ L) (hc : fm_CR Z MC) (hm : fm_MR Z MM) (hw : fm_WZ Z) (kont : ∀ (Z' : fm_Z) (MC' MM' : fm_M), fm_CR Z' MC' → fm_MR Z' MM' → fm_WZ Z' → gw X 4 106 2446 (il X rC rM MC' MM') 1380 [some (.ref b), some (.ref (rC 0)), some (.ref (rM 0)), some (.int (nI i))] [] Q) : gw X 4 106 2446 (il X rC rM MC MM) 542 [some (.ref b), some (.ref (rC 0)), some (.ref (rM 0)), some (.int (nI i))] [] Q := by
  refine g_aload_n hB dL_law_542 rfl rfl ?_
  refine l_callC hB hF _ _ dL_law_543 lm_L_57 (cc_read hc hw) rfl rfl (Nat.le_of_ble_eq_true rfl) (l_rm hF (Nat.le_of_ble_eq_true rfl) (Nat.le_of_ble_eq_true rfl)) (l_rc hF (Nat.le_of_ble_eq_true rfl) (Nat.le_of_ble_eq_true rfl)) ?_
  rintro _ MC9 ⟨R, rfl, hc9⟩
  refine g_r1 ?_
  refine g_aload_n hB dL_law_546 rfl rfl ?_
  refine l_callM hB hF _ _ dL_law_547 lm_L_61 (mm_read (R := R) hm hw) rfl rfl (Nat.le_of_ble_eq_true rfl) (l_rm hF (Nat.le_of_ble_eq_true rfl) (Nat.le_of_ble_eq_true rfl)) (l_rc hF (Nat.le_of_ble_eq_true rfl) (Nat.le_of_ble_eq_true rfl)) ?_
  rintro _ MM9 ⟨rfl, hm9⟩
  refine g_r1 ?_
  exact g_icmp_eq (tgt := 1380) hB dL_law_550 (by decide) (fun _ => kont _ _ _ hc9 hm9 (kz_read hw R)) (fun h => absurd rfl h)
theorem lc_fails (hB : gb X cL_law 4 RL (some .boolean)) (hF : fl X rC rM b L xs) (hi : i + 6 ≤ L) (hc : fm_CR Z MC) (hm : fm_MR Z MM) (hw : fm_WZ Z) (kont : ∀ (Z' : fm_Z) (MC' MM' : fm_M), fm_CR Z' MC' → fm_MR Z' MM' → fm_WZ Z' → gw X 4 106 2446 (il X rC rM MC' MM') 1380 [some (.ref b), some (.ref (rC 0)), some (.ref (rM 0)), some (.int (nI i))] [] Q) : gw X 4 106 2446 (il X rC rM MC MM) 555 [some (.ref b), some (.ref (rC 0)), some (.ref (rM 0)), some (.int (nI i))] [] Q := by
  refine g_aload_n hB dL_law_555 rfl rfl ?_
  refine g_aload_n hB dL_law_556 rfl rfl ?_
  refine g_iload_n hB dL_law_557 rfl rfl ?_
  refine g_iconst (v := nI 1) hB dL_law_558 (by decide) ?_
  refine g_iadd hB dL_law_559 ?_
  refine l_sc hB hF (i + 1) dL_law_560 (nI_add i 1) (by omega) ?_
  refine g_aload_n hB dL_law_561 rfl rfl ?_
  refine g_iload_n hB dL_law_562 rfl rfl ?_
  refine g_iconst (v := nI 2) hB dL_law_563 (by decide) ?_
  refine g_iadd hB dL_law_564 ?_
  refine l_sc hB hF (i + 2) dL_law_565 (nI_add i 2) (by omega) ?_
  refine l_callC hB hF _ _ dL_law_566 lm_L_62 (cc_fails hc hw) rfl rfl (Nat.le_of_ble_eq_true rfl) (l_rm hF (Nat.le_of_ble_eq_true rfl) (Nat.le_of_ble_eq_true rfl)) (l_rc hF (Nat.le_of_ble_eq_true rfl) (Nat.le_of_ble_eq_true rfl)) ?_
  rintro _ MC9 ⟨rfl, hc9⟩
  refine g_r1 ?_
  refine g_aload_n hB dL_law_569 rfl rfl ?_
  refine g_aload_n hB dL_law_570 rfl rfl ?_
  refine g_iload_n hB dL_law_571 rfl rfl ?_
  refine g_iconst (v := nI 1) hB dL_law_572 (by decide) ?_
  refine g_iadd hB dL_law_573 ?_
  refine l_sc hB hF (i + 1) dL_law_574 (nI_add i 1) (by omega) ?_
  refine g_aload_n hB dL_law_575 rfl rfl ?_
  refine g_iload_n hB dL_law_576 rfl rfl ?_
  refine g_iconst (v := nI 2) hB dL_law_577 (by decide) ?_
  refine g_iadd hB dL_law_578 ?_
  refine l_sc hB hF (i + 2) dL_law_579 (nI_add i 2) (by omega) ?_
  refine l_callM hB hF _ _ dL_law_580 lm_L_65 (mm_fails hm hw) rfl rfl (Nat.le_of_ble_eq_true rfl) (l_rm hF (Nat.le_of_ble_eq_true rfl) (Nat.le_of_ble_eq_true rfl)) (l_rc hF (Nat.le_of_ble_eq_true rfl) (Nat.le_of_ble_eq_true rfl)) ?_
  rintro _ MM9 ⟨rfl, hm9⟩
  refine g_r1 ?_
  exact g_icmp_eq (tgt := 1380) hB dL_law_583 (by decide) (fun _ => kont Z _ _ (hc.fr hc9) (hm.mf hm9) hw) (fun h => absurd rfl h)
theorem lc_move (hB : gb X cL_law 4 RL (some .boolean)) (hF : fl X rC rM b L xs) (hi : i + 6 ≤ L) (hc : fm_CR Z MC) (hm : fm_MR Z MM) (hw : fm_WZ Z) (kont : ∀ (Z' : fm_Z) (MC' MM' : fm_M), fm_CR Z' MC' → fm_MR Z' MM' → fm_WZ Z' → gw X 4 106 2446 (il X rC rM MC' MM') 1380 [some (.ref b), some (.ref (rC 0)), some (.ref (rM 0)), some (.int (nI i))] [] Q) : gw X 4 106 2446 (il X rC rM MC MM) 588 [some (.ref b), some (.ref (rC 0)), some (.ref (rM 0)), some (.int (nI i))] [] Q := by
  refine g_aload_n hB dL_law_588 rfl rfl ?_
  refine g_aload_n hB dL_law_589 rfl rfl ?_
  refine g_iload_n hB dL_law_590 rfl rfl ?_
  refine g_iconst (v := nI 1) hB dL_law_591 (by decide) ?_
  refine g_iadd hB dL_law_592 ?_
  refine l_sc hB hF (i + 1) dL_law_593 (nI_add i 1) (by omega) ?_
  refine g_aload_n hB dL_law_594 rfl rfl ?_
  refine g_iload_n hB dL_law_595 rfl rfl ?_
  refine g_iconst (v := nI 2) hB dL_law_596 (by decide) ?_
  refine g_iadd hB dL_law_597 ?_
  refine l_sc hB hF (i + 2) dL_law_598 (nI_add i 2) (by omega) ?_
  refine l_callC hB hF _ _ dL_law_599 lm_L_66 (cc_move hc hw) rfl rfl (Nat.le_of_ble_eq_true rfl) (l_rm hF (Nat.le_of_ble_eq_true rfl) (Nat.le_of_ble_eq_true rfl)) (l_rc hF (Nat.le_of_ble_eq_true rfl) (Nat.le_of_ble_eq_true rfl)) ?_
  rintro _ MC9 ⟨rfl, hc9⟩
  refine g_r1 ?_
  refine g_aload_n hB dL_law_602 rfl rfl ?_
  refine g_aload_n hB dL_law_603 rfl rfl ?_
  refine g_iload_n hB dL_law_604 rfl rfl ?_
  refine g_iconst (v := nI 1) hB dL_law_605 (by decide) ?_
  refine g_iadd hB dL_law_606 ?_
  refine l_sc hB hF (i + 1) dL_law_607 (nI_add i 1) (by omega) ?_
  refine g_aload_n hB dL_law_608 rfl rfl ?_
  refine g_iload_n hB dL_law_609 rfl rfl ?_
  refine g_iconst (v := nI 2) hB dL_law_610 (by decide) ?_
  refine g_iadd hB dL_law_611 ?_
  refine l_sc hB hF (i + 2) dL_law_612 (nI_add i 2) (by omega) ?_
  refine l_callM hB hF _ _ dL_law_613 lm_L_69 (mm_move hm hw) rfl rfl (Nat.le_of_ble_eq_true rfl) (l_rm hF (Nat.le_of_ble_eq_true rfl) (Nat.le_of_ble_eq_true rfl)) (l_rc hF (Nat.le_of_ble_eq_true rfl) (Nat.le_of_ble_eq_true rfl)) ?_
  rintro _ MM9 ⟨rfl, hm9⟩
  refine g_r1 ?_
  exact g_icmp_eq (tgt := 1380) hB dL_law_616 (by decide) (fun _ => kont _ _ _ hc9 hm9 ⟨kp_move hw.1 _ _, hw.2⟩) (fun h => absurd rfl h)
theorem lc_sift (hB : gb X cL_law 4 RL (some .boolean)) (hF : fl X rC rM b L xs) (hi : i + 6 ≤ L) (hc : fm_CR Z MC) (hm : fm_MR Z MM) (hw : fm_WZ Z) (kont : ∀ (Z' : fm_Z) (MC' MM' : fm_M), fm_CR Z' MC' → fm_MR Z' MM' → fm_WZ Z' → gw X 4 106 2446 (il X rC rM MC' MM') 1380 [some (.ref b), some (.ref (rC 0)), some (.ref (rM 0)), some (.int (nI i))] [] Q) : gw X 4 106 2446 (il X rC rM MC MM) 621 [some (.ref b), some (.ref (rC 0)), some (.ref (rM 0)), some (.int (nI i))] [] Q := by
  refine g_aload_n hB dL_law_621 rfl rfl ?_
  refine g_aload_n hB dL_law_622 rfl rfl ?_
  refine g_iload_n hB dL_law_623 rfl rfl ?_
  refine g_iconst (v := nI 1) hB dL_law_624 (by decide) ?_
  refine g_iadd hB dL_law_625 ?_
  refine l_sc hB hF (i + 1) dL_law_626 (nI_add i 1) (by omega) ?_
  refine l_callC hB hF _ _ dL_law_627 lm_L_70 (cc_sift hc hw) rfl rfl (Nat.le_of_ble_eq_true rfl) (l_rm hF (Nat.le_of_ble_eq_true rfl) (Nat.le_of_ble_eq_true rfl)) (l_rc hF (Nat.le_of_ble_eq_true rfl) (Nat.le_of_ble_eq_true rfl)) ?_
  rintro _ MC9 ⟨rfl, hc9⟩
  refine g_r1 ?_
  refine g_aload_n hB dL_law_630 rfl rfl ?_
  refine g_aload_n hB dL_law_631 rfl rfl ?_
  refine g_iload_n hB dL_law_632 rfl rfl ?_
  refine g_iconst (v := nI 1) hB dL_law_633 (by decide) ?_
  refine g_iadd hB dL_law_634 ?_
  refine l_sc hB hF (i + 1) dL_law_635 (nI_add i 1) (by omega) ?_
  refine l_callM hB hF _ _ dL_law_636 lm_L_73 (mm_sift hm hw) rfl rfl (Nat.le_of_ble_eq_true rfl) (l_rm hF (Nat.le_of_ble_eq_true rfl) (Nat.le_of_ble_eq_true rfl)) (l_rc hF (Nat.le_of_ble_eq_true rfl) (Nat.le_of_ble_eq_true rfl)) ?_
  rintro _ MM9 ⟨rfl, hm9⟩
  refine g_r1 ?_
  exact g_icmp_eq (tgt := 1380) hB dL_law_639 (by decide) (fun _ => kont _ _ _ hc9 hm9 ⟨kp_sift hw.1 _, hw.2⟩) (fun h => absurd rfl h)
theorem lc_at (hB : gb X cL_law 4 RL (some .boolean)) (hF : fl X rC rM b L xs) (hi : i + 6 ≤ L) (hc : fm_CR Z MC) (hm : fm_MR Z MM) (hw : fm_WZ Z) (kont : ∀ (Z' : fm_Z) (MC' MM' : fm_M), fm_CR Z' MC' → fm_MR Z' MM' → fm_WZ Z' → gw X 4 106 2446 (il X rC rM MC' MM') 1380 [some (.ref b), some (.ref (rC 0)), some (.ref (rM 0)), some (.int (nI i))] [] Q) : gw X 4 106 2446 (il X rC rM MC MM) 644 [some (.ref b), some (.ref (rC 0)), some (.ref (rM 0)), some (.int (nI i))] [] Q := by
  refine g_aload_n hB dL_law_644 rfl rfl ?_
  refine g_aload_n hB dL_law_645 rfl rfl ?_
  refine g_iload_n hB dL_law_646 rfl rfl ?_
  refine g_iconst (v := nI 1) hB dL_law_647 (by decide) ?_
  refine g_iadd hB dL_law_648 ?_
  refine l_sc hB hF (i + 1) dL_law_649 (nI_add i 1) (by omega) ?_
  refine l_callC hB hF _ _ dL_law_650 lm_L_74 (cc_at hc hw) rfl rfl (Nat.le_of_ble_eq_true rfl) (l_rm hF (Nat.le_of_ble_eq_true rfl) (Nat.le_of_ble_eq_true rfl)) (l_rc hF (Nat.le_of_ble_eq_true rfl) (Nat.le_of_ble_eq_true rfl)) ?_
  rintro _ MC9 ⟨rfl, eC9⟩
  refine g_r1 ?_
  refine g_aload_n hB dL_law_653 rfl rfl ?_
  refine g_aload_n hB dL_law_654 rfl rfl ?_
  refine g_iload_n hB dL_law_655 rfl rfl ?_
  refine g_iconst (v := nI 1) hB dL_law_656 (by decide) ?_
  refine g_iadd hB dL_law_657 ?_
  refine l_sc hB hF (i + 1) dL_law_658 (nI_add i 1) (by omega) ?_
  refine l_callM hB hF _ _ dL_law_659 lm_L_77 (mm_at hm hw) rfl rfl (Nat.le_of_ble_eq_true rfl) (l_rm hF (Nat.le_of_ble_eq_true rfl) (Nat.le_of_ble_eq_true rfl)) (l_rc hF (Nat.le_of_ble_eq_true rfl) (Nat.le_of_ble_eq_true rfl)) ?_
  rintro _ MM9 ⟨rfl, eM9⟩
  refine g_r1 ?_
  exact g_icmp_eq (tgt := 1380) hB dL_law_662 (by decide) (fun _ => kont Z _ _ (by rw [eC9]; exact hc) (by rw [eM9]; exact hm) hw) (fun h => absurd rfl h)
theorem lc_node (hB : gb X cL_law 4 RL (some .boolean)) (hF : fl X rC rM b L xs) (hi : i + 6 ≤ L) (hc : fm_CR Z MC) (hm : fm_MR Z MM) (hw : fm_WZ Z) (kont : ∀ (Z' : fm_Z) (MC' MM' : fm_M), fm_CR Z' MC' → fm_MR Z' MM' → fm_WZ Z' → gw X 4 106 2446 (il X rC rM MC' MM') 1380 [some (.ref b), some (.ref (rC 0)), some (.ref (rM 0)), some (.int (nI i))] [] Q) : gw X 4 106 2446 (il X rC rM MC MM) 667 [some (.ref b), some (.ref (rC 0)), some (.ref (rM 0)), some (.int (nI i))] [] Q := by
  refine g_aload_n hB dL_law_667 rfl rfl ?_
  refine g_aload_n hB dL_law_668 rfl rfl ?_
  refine g_iload_n hB dL_law_669 rfl rfl ?_
  refine g_iconst (v := nI 1) hB dL_law_670 (by decide) ?_
  refine g_iadd hB dL_law_671 ?_
  refine l_sc hB hF (i + 1) dL_law_672 (nI_add i 1) (by omega) ?_
  refine g_aload_n hB dL_law_673 rfl rfl ?_
  refine g_iload_n hB dL_law_674 rfl rfl ?_
  refine g_iconst (v := nI 2) hB dL_law_675 (by decide) ?_
  refine g_iadd hB dL_law_676 ?_
  refine l_sc hB hF (i + 2) dL_law_677 (nI_add i 2) (by omega) ?_
  refine l_callC hB hF _ _ dL_law_678 lm_L_78 (cc_node hc hw) rfl rfl (Nat.le_of_ble_eq_true rfl) (l_rm hF (Nat.le_of_ble_eq_true rfl) (Nat.le_of_ble_eq_true rfl)) (l_rc hF (Nat.le_of_ble_eq_true rfl) (Nat.le_of_ble_eq_true rfl)) ?_
  rintro _ MC9 ⟨rfl, hc9⟩
  refine g_r1 ?_
  refine g_aload_n hB dL_law_681 rfl rfl ?_
  refine g_aload_n hB dL_law_682 rfl rfl ?_
  refine g_iload_n hB dL_law_683 rfl rfl ?_
  refine g_iconst (v := nI 1) hB dL_law_684 (by decide) ?_
  refine g_iadd hB dL_law_685 ?_
  refine l_sc hB hF (i + 1) dL_law_686 (nI_add i 1) (by omega) ?_
  refine g_aload_n hB dL_law_687 rfl rfl ?_
  refine g_iload_n hB dL_law_688 rfl rfl ?_
  refine g_iconst (v := nI 2) hB dL_law_689 (by decide) ?_
  refine g_iadd hB dL_law_690 ?_
  refine l_sc hB hF (i + 2) dL_law_691 (nI_add i 2) (by omega) ?_
  refine l_callM hB hF _ _ dL_law_692 lm_L_81 (mm_node hm hw) rfl rfl (Nat.le_of_ble_eq_true rfl) (l_rm hF (Nat.le_of_ble_eq_true rfl) (Nat.le_of_ble_eq_true rfl)) (l_rc hF (Nat.le_of_ble_eq_true rfl) (Nat.le_of_ble_eq_true rfl)) ?_
  rintro _ MM9 ⟨rfl, hm9⟩
  refine g_r1 ?_
  exact g_icmp_eq (tgt := 1380) hB dL_law_695 (by decide) (fun _ => kont Z _ _ (hc.fr hc9) (hm.mf hm9) hw) (fun h => absurd rfl h)
theorem lc_told (hB : gb X cL_law 4 RL (some .boolean)) (hF : fl X rC rM b L xs) (hi : i + 6 ≤ L) (hc : fm_CR Z MC) (hm : fm_MR Z MM) (hw : fm_WZ Z) (kont : ∀ (Z' : fm_Z) (MC' MM' : fm_M), fm_CR Z' MC' → fm_MR Z' MM' → fm_WZ Z' → gw X 4 106 2446 (il X rC rM MC' MM') 1380 [some (.ref b), some (.ref (rC 0)), some (.ref (rM 0)), some (.int (nI i))] [] Q) : gw X 4 106 2446 (il X rC rM MC MM) 700 [some (.ref b), some (.ref (rC 0)), some (.ref (rM 0)), some (.int (nI i))] [] Q := by
  refine g_aload_n hB dL_law_700 rfl rfl ?_
  refine g_aload_n hB dL_law_701 rfl rfl ?_
  refine g_iload_n hB dL_law_702 rfl rfl ?_
  refine g_iconst (v := nI 1) hB dL_law_703 (by decide) ?_
  refine g_iadd hB dL_law_704 ?_
  refine l_sc hB hF (i + 1) dL_law_705 (nI_add i 1) (by omega) ?_
  refine l_callC hB hF _ _ dL_law_706 lm_L_82 (cc_told hc hw) rfl rfl (Nat.le_of_ble_eq_true rfl) (l_rm hF (Nat.le_of_ble_eq_true rfl) (Nat.le_of_ble_eq_true rfl)) (l_rc hF (Nat.le_of_ble_eq_true rfl) (Nat.le_of_ble_eq_true rfl)) ?_
  rintro _ MC9 ⟨rfl, hc9⟩
  refine g_r1 ?_
  refine g_aload_n hB dL_law_709 rfl rfl ?_
  refine g_aload_n hB dL_law_710 rfl rfl ?_
  refine g_iload_n hB dL_law_711 rfl rfl ?_
  refine g_iconst (v := nI 1) hB dL_law_712 (by decide) ?_
  refine g_iadd hB dL_law_713 ?_
  refine l_sc hB hF (i + 1) dL_law_714 (nI_add i 1) (by omega) ?_
  refine l_callM hB hF _ _ dL_law_715 lm_L_85 (mm_told hm hw) rfl rfl (Nat.le_of_ble_eq_true rfl) (l_rm hF (Nat.le_of_ble_eq_true rfl) (Nat.le_of_ble_eq_true rfl)) (l_rc hF (Nat.le_of_ble_eq_true rfl) (Nat.le_of_ble_eq_true rfl)) ?_
  rintro _ MM9 ⟨rfl, hm9⟩
  refine g_r1 ?_
  exact g_icmp_eq (tgt := 1380) hB dL_law_718 (by decide) (fun _ => kont Z _ _ (hc.fr hc9) (hm.mf hm9) hw) (fun h => absurd rfl h)
theorem lc_cut (hB : gb X cL_law 4 RL (some .boolean)) (hF : fl X rC rM b L xs) (hi : i + 6 ≤ L) (hc : fm_CR Z MC) (hm : fm_MR Z MM) (hw : fm_WZ Z) (kont : ∀ (Z' : fm_Z) (MC' MM' : fm_M), fm_CR Z' MC' → fm_MR Z' MM' → fm_WZ Z' → gw X 4 106 2446 (il X rC rM MC' MM') 1380 [some (.ref b), some (.ref (rC 0)), some (.ref (rM 0)), some (.int (nI i))] [] Q) : gw X 4 106 2446 (il X rC rM MC MM) 723 [some (.ref b), some (.ref (rC 0)), some (.ref (rM 0)), some (.int (nI i))] [] Q := by
  refine g_aload_n hB dL_law_723 rfl rfl ?_
  refine g_aload_n hB dL_law_724 rfl rfl ?_
  refine g_iload_n hB dL_law_725 rfl rfl ?_
  refine g_iconst (v := nI 1) hB dL_law_726 (by decide) ?_
  refine g_iadd hB dL_law_727 ?_
  refine l_sc hB hF (i + 1) dL_law_728 (nI_add i 1) (by omega) ?_
  refine l_callC hB hF _ _ dL_law_729 lm_L_86 (cc_cut hc hw) rfl rfl (Nat.le_of_ble_eq_true rfl) (l_rm hF (Nat.le_of_ble_eq_true rfl) (Nat.le_of_ble_eq_true rfl)) (l_rc hF (Nat.le_of_ble_eq_true rfl) (Nat.le_of_ble_eq_true rfl)) ?_
  rintro _ MC9 ⟨rfl, hc9⟩
  refine g_r1 ?_
  refine g_aload_n hB dL_law_732 rfl rfl ?_
  refine g_aload_n hB dL_law_733 rfl rfl ?_
  refine g_iload_n hB dL_law_734 rfl rfl ?_
  refine g_iconst (v := nI 1) hB dL_law_735 (by decide) ?_
  refine g_iadd hB dL_law_736 ?_
  refine l_sc hB hF (i + 1) dL_law_737 (nI_add i 1) (by omega) ?_
  refine l_callM hB hF _ _ dL_law_738 lm_L_89 (mm_cut hm hw) rfl rfl (Nat.le_of_ble_eq_true rfl) (l_rm hF (Nat.le_of_ble_eq_true rfl) (Nat.le_of_ble_eq_true rfl)) (l_rc hF (Nat.le_of_ble_eq_true rfl) (Nat.le_of_ble_eq_true rfl)) ?_
  rintro _ MM9 ⟨rfl, hm9⟩
  refine g_r1 ?_
  exact g_icmp_eq (tgt := 1380) hB dL_law_741 (by decide) (fun _ => kont Z _ _ (hc.fr hc9) (hm.mf hm9) hw) (fun h => absurd rfl h)
theorem lc_path (hB : gb X cL_law 4 RL (some .boolean)) (hF : fl X rC rM b L xs) (hi : i + 6 ≤ L) (hc : fm_CR Z MC) (hm : fm_MR Z MM) (hw : fm_WZ Z) (kont : ∀ (Z' : fm_Z) (MC' MM' : fm_M), fm_CR Z' MC' → fm_MR Z' MM' → fm_WZ Z' → gw X 4 106 2446 (il X rC rM MC' MM') 1380 [some (.ref b), some (.ref (rC 0)), some (.ref (rM 0)), some (.int (nI i))] [] Q) : gw X 4 106 2446 (il X rC rM MC MM) 746 [some (.ref b), some (.ref (rC 0)), some (.ref (rM 0)), some (.int (nI i))] [] Q := by
  refine g_aload_n hB dL_law_746 rfl rfl ?_
  refine g_aload_n hB dL_law_747 rfl rfl ?_
  refine g_iload_n hB dL_law_748 rfl rfl ?_
  refine g_iconst (v := nI 1) hB dL_law_749 (by decide) ?_
  refine g_iadd hB dL_law_750 ?_
  refine l_sc hB hF (i + 1) dL_law_751 (nI_add i 1) (by omega) ?_
  refine l_callC hB hF _ _ dL_law_752 lm_L_90 (cc_path hc hw) rfl rfl (Nat.le_of_ble_eq_true rfl) (l_rm hF (Nat.le_of_ble_eq_true rfl) (Nat.le_of_ble_eq_true rfl)) (l_rc hF (Nat.le_of_ble_eq_true rfl) (Nat.le_of_ble_eq_true rfl)) ?_
  rintro _ MC9 ⟨rfl, hc9⟩
  refine g_r1 ?_
  refine g_aload_n hB dL_law_755 rfl rfl ?_
  refine g_aload_n hB dL_law_756 rfl rfl ?_
  refine g_iload_n hB dL_law_757 rfl rfl ?_
  refine g_iconst (v := nI 1) hB dL_law_758 (by decide) ?_
  refine g_iadd hB dL_law_759 ?_
  refine l_sc hB hF (i + 1) dL_law_760 (nI_add i 1) (by omega) ?_
  refine l_callM hB hF _ _ dL_law_761 lm_L_93 (mm_path hm hw) rfl rfl (Nat.le_of_ble_eq_true rfl) (l_rm hF (Nat.le_of_ble_eq_true rfl) (Nat.le_of_ble_eq_true rfl)) (l_rc hF (Nat.le_of_ble_eq_true rfl) (Nat.le_of_ble_eq_true rfl)) ?_
  rintro _ MM9 ⟨rfl, hm9⟩
  refine g_r1 ?_
  exact g_icmp_eq (tgt := 1380) hB dL_law_764 (by decide) (fun _ => kont Z _ _ (hc.fr hc9) (hm.mf hm9) hw) (fun h => absurd rfl h)
theorem lc_chance (hB : gb X cL_law 4 RL (some .boolean)) (hF : fl X rC rM b L xs) (hi : i + 6 ≤ L) (hc : fm_CR Z MC) (hm : fm_MR Z MM) (hw : fm_WZ Z) (kont : ∀ (Z' : fm_Z) (MC' MM' : fm_M), fm_CR Z' MC' → fm_MR Z' MM' → fm_WZ Z' → gw X 4 106 2446 (il X rC rM MC' MM') 1380 [some (.ref b), some (.ref (rC 0)), some (.ref (rM 0)), some (.int (nI i))] [] Q) : gw X 4 106 2446 (il X rC rM MC MM) 769 [some (.ref b), some (.ref (rC 0)), some (.ref (rM 0)), some (.int (nI i))] [] Q := by
  refine g_aload_n hB dL_law_769 rfl rfl ?_
  refine g_aload_n hB dL_law_770 rfl rfl ?_
  refine g_iload_n hB dL_law_771 rfl rfl ?_
  refine g_iconst (v := nI 1) hB dL_law_772 (by decide) ?_
  refine g_iadd hB dL_law_773 ?_
  refine l_sc hB hF (i + 1) dL_law_774 (nI_add i 1) (by omega) ?_
  refine l_callC hB hF _ _ dL_law_775 lm_L_94 (cc_chance hc hw) rfl rfl (Nat.le_of_ble_eq_true rfl) (l_rm hF (Nat.le_of_ble_eq_true rfl) (Nat.le_of_ble_eq_true rfl)) (l_rc hF (Nat.le_of_ble_eq_true rfl) (Nat.le_of_ble_eq_true rfl)) ?_
  rintro _ MC9 ⟨rfl, hc9⟩
  refine g_r1 ?_
  refine g_aload_n hB dL_law_778 rfl rfl ?_
  refine g_aload_n hB dL_law_779 rfl rfl ?_
  refine g_iload_n hB dL_law_780 rfl rfl ?_
  refine g_iconst (v := nI 1) hB dL_law_781 (by decide) ?_
  refine g_iadd hB dL_law_782 ?_
  refine l_sc hB hF (i + 1) dL_law_783 (nI_add i 1) (by omega) ?_
  refine l_callM hB hF _ _ dL_law_784 lm_L_98 (mm_chance hm hw) rfl rfl (Nat.le_of_ble_eq_true rfl) (l_rm hF (Nat.le_of_ble_eq_true rfl) (Nat.le_of_ble_eq_true rfl)) (l_rc hF (Nat.le_of_ble_eq_true rfl) (Nat.le_of_ble_eq_true rfl)) ?_
  rintro _ MM9 ⟨rfl, hm9⟩
  refine g_r1 ?_
  refine g_lcmp hB dL_law_787 ?_
  exact g_if_eq (tgt := 1380) hB dL_law_788 (by decide) (fun _ => kont Z _ _ (hc.fr hc9) (hm.mf hm9) hw) (fun h => absurd ((lg_cmp_eq _ _).mpr rfl) h)
theorem lc_given (hB : gb X cL_law 4 RL (some .boolean)) (hF : fl X rC rM b L xs) (hi : i + 6 ≤ L) (hc : fm_CR Z MC) (hm : fm_MR Z MM) (hw : fm_WZ Z) (kont : ∀ (Z' : fm_Z) (MC' MM' : fm_M), fm_CR Z' MC' → fm_MR Z' MM' → fm_WZ Z' → gw X 4 106 2446 (il X rC rM MC' MM') 1380 [some (.ref b), some (.ref (rC 0)), some (.ref (rM 0)), some (.int (nI i))] [] Q) : gw X 4 106 2446 (il X rC rM MC MM) 793 [some (.ref b), some (.ref (rC 0)), some (.ref (rM 0)), some (.int (nI i))] [] Q := by
  refine g_aload_n hB dL_law_793 rfl rfl ?_
  refine g_aload_n hB dL_law_794 rfl rfl ?_
  refine g_iload_n hB dL_law_795 rfl rfl ?_
  refine g_iconst (v := nI 1) hB dL_law_796 (by decide) ?_
  refine g_iadd hB dL_law_797 ?_
  refine l_sc hB hF (i + 1) dL_law_798 (nI_add i 1) (by omega) ?_
  refine g_aload_n hB dL_law_799 rfl rfl ?_
  refine g_iload_n hB dL_law_800 rfl rfl ?_
  refine g_iconst (v := nI 2) hB dL_law_801 (by decide) ?_
  refine g_iadd hB dL_law_802 ?_
  refine l_sc hB hF (i + 2) dL_law_803 (nI_add i 2) (by omega) ?_
  refine l_bool hB dL_law_804 dL_law_807 dL_law_808 dL_law_811 ?_
  refine g_aload_n hB dL_law_812 rfl rfl ?_
  refine g_iload_n hB dL_law_813 rfl rfl ?_
  refine g_iconst (v := nI 3) hB dL_law_814 (by decide) ?_
  refine g_iadd hB dL_law_815 ?_
  refine l_sc hB hF (i + 3) dL_law_816 (nI_add i 3) (by omega) ?_
  refine l_callC hB hF _ _ dL_law_817 lm_L_99 (cc_given hc hw) rfl rfl (Nat.le_of_ble_eq_true rfl) (l_rm hF (Nat.le_of_ble_eq_true rfl) (Nat.le_of_ble_eq_true rfl)) (l_rc hF (Nat.le_of_ble_eq_true rfl) (Nat.le_of_ble_eq_true rfl)) ?_
  rintro _ MC9 ⟨rfl, hc9⟩
  refine g_r1 ?_
  refine g_aload_n hB dL_law_820 rfl rfl ?_
  refine g_aload_n hB dL_law_821 rfl rfl ?_
  refine g_iload_n hB dL_law_822 rfl rfl ?_
  refine g_iconst (v := nI 1) hB dL_law_823 (by decide) ?_
  refine g_iadd hB dL_law_824 ?_
  refine l_sc hB hF (i + 1) dL_law_825 (nI_add i 1) (by omega) ?_
  refine g_aload_n hB dL_law_826 rfl rfl ?_
  refine g_iload_n hB dL_law_827 rfl rfl ?_
  refine g_iconst (v := nI 2) hB dL_law_828 (by decide) ?_
  refine g_iadd hB dL_law_829 ?_
  refine l_sc hB hF (i + 2) dL_law_830 (nI_add i 2) (by omega) ?_
  refine l_bool hB dL_law_831 dL_law_834 dL_law_835 dL_law_838 ?_
  refine g_aload_n hB dL_law_839 rfl rfl ?_
  refine g_iload_n hB dL_law_840 rfl rfl ?_
  refine g_iconst (v := nI 3) hB dL_law_841 (by decide) ?_
  refine g_iadd hB dL_law_842 ?_
  refine l_sc hB hF (i + 3) dL_law_843 (nI_add i 3) (by omega) ?_
  refine l_callM hB hF _ _ dL_law_844 lm_L_103 (mm_given hm hw) rfl rfl (Nat.le_of_ble_eq_true rfl) (l_rm hF (Nat.le_of_ble_eq_true rfl) (Nat.le_of_ble_eq_true rfl)) (l_rc hF (Nat.le_of_ble_eq_true rfl) (Nat.le_of_ble_eq_true rfl)) ?_
  rintro _ MM9 ⟨rfl, hm9⟩
  refine g_r1 ?_
  refine g_lcmp hB dL_law_847 ?_
  exact g_if_eq (tgt := 1380) hB dL_law_848 (by decide) (fun _ => kont Z _ _ (hc.fr hc9) (hm.mf hm9) hw) (fun h => absurd ((lg_cmp_eq _ _).mpr rfl) h)
theorem lc_weight (hB : gb X cL_law 4 RL (some .boolean)) (hF : fl X rC rM b L xs) (hi : i + 6 ≤ L) (hc : fm_CR Z MC) (hm : fm_MR Z MM) (hw : fm_WZ Z) (kont : ∀ (Z' : fm_Z) (MC' MM' : fm_M), fm_CR Z' MC' → fm_MR Z' MM' → fm_WZ Z' → gw X 4 106 2446 (il X rC rM MC' MM') 1380 [some (.ref b), some (.ref (rC 0)), some (.ref (rM 0)), some (.int (nI i))] [] Q) : gw X 4 106 2446 (il X rC rM MC MM) 853 [some (.ref b), some (.ref (rC 0)), some (.ref (rM 0)), some (.int (nI i))] [] Q := by
  refine g_aload_n hB dL_law_853 rfl rfl ?_
  refine g_aload_n hB dL_law_854 rfl rfl ?_
  refine g_iload_n hB dL_law_855 rfl rfl ?_
  refine g_iconst (v := nI 1) hB dL_law_856 (by decide) ?_
  refine g_iadd hB dL_law_857 ?_
  refine l_sc hB hF (i + 1) dL_law_858 (nI_add i 1) (by omega) ?_
  refine g_aload_n hB dL_law_859 rfl rfl ?_
  refine g_iload_n hB dL_law_860 rfl rfl ?_
  refine g_iconst (v := nI 2) hB dL_law_861 (by decide) ?_
  refine g_iadd hB dL_law_862 ?_
  refine l_sc hB hF (i + 2) dL_law_863 (nI_add i 2) (by omega) ?_
  refine l_callC hB hF _ _ dL_law_864 lm_L_104 (cc_weight hc hw) rfl rfl (Nat.le_of_ble_eq_true rfl) (l_rm hF (Nat.le_of_ble_eq_true rfl) (Nat.le_of_ble_eq_true rfl)) (l_rc hF (Nat.le_of_ble_eq_true rfl) (Nat.le_of_ble_eq_true rfl)) ?_
  rintro _ MC9 ⟨rfl, hc9⟩
  refine g_r1 ?_
  refine g_aload_n hB dL_law_867 rfl rfl ?_
  refine g_aload_n hB dL_law_868 rfl rfl ?_
  refine g_iload_n hB dL_law_869 rfl rfl ?_
  refine g_iconst (v := nI 1) hB dL_law_870 (by decide) ?_
  refine g_iadd hB dL_law_871 ?_
  refine l_sc hB hF (i + 1) dL_law_872 (nI_add i 1) (by omega) ?_
  refine g_aload_n hB dL_law_873 rfl rfl ?_
  refine g_iload_n hB dL_law_874 rfl rfl ?_
  refine g_iconst (v := nI 2) hB dL_law_875 (by decide) ?_
  refine g_iadd hB dL_law_876 ?_
  refine l_sc hB hF (i + 2) dL_law_877 (nI_add i 2) (by omega) ?_
  refine l_callM hB hF _ _ dL_law_878 lm_L_108 (mm_weight hm hw) rfl rfl (Nat.le_of_ble_eq_true rfl) (l_rm hF (Nat.le_of_ble_eq_true rfl) (Nat.le_of_ble_eq_true rfl)) (l_rc hF (Nat.le_of_ble_eq_true rfl) (Nat.le_of_ble_eq_true rfl)) ?_
  rintro _ MM9 ⟨rfl, hm9⟩
  refine g_r1 ?_
  refine g_lcmp hB dL_law_881 ?_
  exact g_if_eq (tgt := 1380) hB dL_law_882 (by decide) (fun _ => kont Z _ _ (hc.fr hc9) (hm.mf hm9) hw) (fun h => absurd ((lg_cmp_eq _ _).mpr rfl) h)
theorem lc_see (hB : gb X cL_law 4 RL (some .boolean)) (hF : fl X rC rM b L xs) (hi : i + 6 ≤ L) (hc : fm_CR Z MC) (hm : fm_MR Z MM) (hw : fm_WZ Z) (kont : ∀ (Z' : fm_Z) (MC' MM' : fm_M), fm_CR Z' MC' → fm_MR Z' MM' → fm_WZ Z' → gw X 4 106 2446 (il X rC rM MC' MM') 1380 [some (.ref b), some (.ref (rC 0)), some (.ref (rM 0)), some (.int (nI i))] [] Q) : gw X 4 106 2446 (il X rC rM MC MM) 887 [some (.ref b), some (.ref (rC 0)), some (.ref (rM 0)), some (.int (nI i))] [] Q := by
  refine g_aload_n hB dL_law_887 rfl rfl ?_
  refine g_aload_n hB dL_law_888 rfl rfl ?_
  refine g_iload_n hB dL_law_889 rfl rfl ?_
  refine g_iconst (v := nI 1) hB dL_law_890 (by decide) ?_
  refine g_iadd hB dL_law_891 ?_
  refine l_sc hB hF (i + 1) dL_law_892 (nI_add i 1) (by omega) ?_
  refine g_aload_n hB dL_law_893 rfl rfl ?_
  refine g_iload_n hB dL_law_894 rfl rfl ?_
  refine g_iconst (v := nI 2) hB dL_law_895 (by decide) ?_
  refine g_iadd hB dL_law_896 ?_
  refine l_sc hB hF (i + 2) dL_law_897 (nI_add i 2) (by omega) ?_
  refine l_bool hB dL_law_898 dL_law_901 dL_law_902 dL_law_905 ?_
  refine l_callC hB hF _ _ dL_law_906 lm_L_109 (cc_see hc hw) rfl rfl (Nat.le_of_ble_eq_true rfl) (l_rm hF (Nat.le_of_ble_eq_true rfl) (Nat.le_of_ble_eq_true rfl)) (l_rc hF (Nat.le_of_ble_eq_true rfl) (Nat.le_of_ble_eq_true rfl)) ?_
  rintro _ MC9 ⟨rfl, hc9⟩
  refine g_r1 ?_
  refine g_aload_n hB dL_law_909 rfl rfl ?_
  refine g_aload_n hB dL_law_910 rfl rfl ?_
  refine g_iload_n hB dL_law_911 rfl rfl ?_
  refine g_iconst (v := nI 1) hB dL_law_912 (by decide) ?_
  refine g_iadd hB dL_law_913 ?_
  refine l_sc hB hF (i + 1) dL_law_914 (nI_add i 1) (by omega) ?_
  refine g_aload_n hB dL_law_915 rfl rfl ?_
  refine g_iload_n hB dL_law_916 rfl rfl ?_
  refine g_iconst (v := nI 2) hB dL_law_917 (by decide) ?_
  refine g_iadd hB dL_law_918 ?_
  refine l_sc hB hF (i + 2) dL_law_919 (nI_add i 2) (by omega) ?_
  refine l_bool hB dL_law_920 dL_law_923 dL_law_924 dL_law_927 ?_
  refine l_callM hB hF _ _ dL_law_928 lm_L_113 (mm_see hm hw) rfl rfl (Nat.le_of_ble_eq_true rfl) (l_rm hF (Nat.le_of_ble_eq_true rfl) (Nat.le_of_ble_eq_true rfl)) (l_rc hF (Nat.le_of_ble_eq_true rfl) (Nat.le_of_ble_eq_true rfl)) ?_
  rintro _ MM9 ⟨rfl, hm9⟩
  refine g_r1 ?_
  exact g_icmp_eq (tgt := 1380) hB dL_law_931 (by decide) (fun _ => kont _ _ _ hc9 hm9 ⟨kp_see hw.1 _ _, hw.2⟩) (fun h => absurd rfl h)
theorem lc_fits (hB : gb X cL_law 4 RL (some .boolean)) (hF : fl X rC rM b L xs) (hi : i + 6 ≤ L) (hc : fm_CR Z MC) (hm : fm_MR Z MM) (hw : fm_WZ Z) (kont : ∀ (Z' : fm_Z) (MC' MM' : fm_M), fm_CR Z' MC' → fm_MR Z' MM' → fm_WZ Z' → gw X 4 106 2446 (il X rC rM MC' MM') 1380 [some (.ref b), some (.ref (rC 0)), some (.ref (rM 0)), some (.int (nI i))] [] Q) : gw X 4 106 2446 (il X rC rM MC MM) 936 [some (.ref b), some (.ref (rC 0)), some (.ref (rM 0)), some (.int (nI i))] [] Q := by
  refine g_aload_n hB dL_law_936 rfl rfl ?_
  refine g_aload_n hB dL_law_937 rfl rfl ?_
  refine g_iload_n hB dL_law_938 rfl rfl ?_
  refine g_iconst (v := nI 1) hB dL_law_939 (by decide) ?_
  refine g_iadd hB dL_law_940 ?_
  refine l_sc hB hF (i + 1) dL_law_941 (nI_add i 1) (by omega) ?_
  refine g_aload_n hB dL_law_942 rfl rfl ?_
  refine g_iload_n hB dL_law_943 rfl rfl ?_
  refine g_iconst (v := nI 2) hB dL_law_944 (by decide) ?_
  refine g_iadd hB dL_law_945 ?_
  refine l_sc hB hF (i + 2) dL_law_946 (nI_add i 2) (by omega) ?_
  refine l_callC hB hF _ _ dL_law_947 lm_L_114 (cc_fits hc hw) rfl rfl (Nat.le_of_ble_eq_true rfl) (l_rm hF (Nat.le_of_ble_eq_true rfl) (Nat.le_of_ble_eq_true rfl)) (l_rc hF (Nat.le_of_ble_eq_true rfl) (Nat.le_of_ble_eq_true rfl)) ?_
  rintro _ MC9 ⟨rfl, hc9⟩
  refine g_r1 ?_
  refine g_aload_n hB dL_law_950 rfl rfl ?_
  refine g_aload_n hB dL_law_951 rfl rfl ?_
  refine g_iload_n hB dL_law_952 rfl rfl ?_
  refine g_iconst (v := nI 1) hB dL_law_953 (by decide) ?_
  refine g_iadd hB dL_law_954 ?_
  refine l_sc hB hF (i + 1) dL_law_955 (nI_add i 1) (by omega) ?_
  refine g_aload_n hB dL_law_956 rfl rfl ?_
  refine g_iload_n hB dL_law_957 rfl rfl ?_
  refine g_iconst (v := nI 2) hB dL_law_958 (by decide) ?_
  refine g_iadd hB dL_law_959 ?_
  refine l_sc hB hF (i + 2) dL_law_960 (nI_add i 2) (by omega) ?_
  refine l_callM hB hF _ _ dL_law_961 lm_L_117 (mm_fits hm hw) rfl rfl (Nat.le_of_ble_eq_true rfl) (l_rm hF (Nat.le_of_ble_eq_true rfl) (Nat.le_of_ble_eq_true rfl)) (l_rc hF (Nat.le_of_ble_eq_true rfl) (Nat.le_of_ble_eq_true rfl)) ?_
  rintro _ MM9 ⟨rfl, hm9⟩
  refine g_r1 ?_
  exact g_icmp_eq (tgt := 1380) hB dL_law_964 (by decide) (fun _ => kont Z _ _ (hc.fr hc9) (hm.mf hm9) hw) (fun h => absurd rfl h)
theorem lc_mean (hB : gb X cL_law 4 RL (some .boolean)) (hF : fl X rC rM b L xs) (hi : i + 6 ≤ L) (hc : fm_CR Z MC) (hm : fm_MR Z MM) (hw : fm_WZ Z) (kont : ∀ (Z' : fm_Z) (MC' MM' : fm_M), fm_CR Z' MC' → fm_MR Z' MM' → fm_WZ Z' → gw X 4 106 2446 (il X rC rM MC' MM') 1380 [some (.ref b), some (.ref (rC 0)), some (.ref (rM 0)), some (.int (nI i))] [] Q) : gw X 4 106 2446 (il X rC rM MC MM) 969 [some (.ref b), some (.ref (rC 0)), some (.ref (rM 0)), some (.int (nI i))] [] Q := by
  refine g_aload_n hB dL_law_969 rfl rfl ?_
  refine g_aload_n hB dL_law_970 rfl rfl ?_
  refine g_iload_n hB dL_law_971 rfl rfl ?_
  refine g_iconst (v := nI 1) hB dL_law_972 (by decide) ?_
  refine g_iadd hB dL_law_973 ?_
  refine l_sc hB hF (i + 1) dL_law_974 (nI_add i 1) (by omega) ?_
  refine l_callC hB hF _ _ dL_law_975 lm_L_118 (cc_mean hc hw) rfl rfl (Nat.le_of_ble_eq_true rfl) (l_rm hF (Nat.le_of_ble_eq_true rfl) (Nat.le_of_ble_eq_true rfl)) (l_rc hF (Nat.le_of_ble_eq_true rfl) (Nat.le_of_ble_eq_true rfl)) ?_
  rintro _ MC9 ⟨rfl, hc9⟩
  refine g_r1 ?_
  refine g_aload_n hB dL_law_978 rfl rfl ?_
  refine g_aload_n hB dL_law_979 rfl rfl ?_
  refine g_iload_n hB dL_law_980 rfl rfl ?_
  refine g_iconst (v := nI 1) hB dL_law_981 (by decide) ?_
  refine g_iadd hB dL_law_982 ?_
  refine l_sc hB hF (i + 1) dL_law_983 (nI_add i 1) (by omega) ?_
  refine l_callM hB hF _ _ dL_law_984 lm_L_121 (mm_mean hm hw) rfl rfl (Nat.le_of_ble_eq_true rfl) (l_rm hF (Nat.le_of_ble_eq_true rfl) (Nat.le_of_ble_eq_true rfl)) (l_rc hF (Nat.le_of_ble_eq_true rfl) (Nat.le_of_ble_eq_true rfl)) ?_
  rintro _ MM9 ⟨rfl, hm9⟩
  refine g_r1 ?_
  refine g_lcmp hB dL_law_987 ?_
  exact g_if_eq (tgt := 1380) hB dL_law_988 (by decide) (fun _ => kont Z _ _ (hc.fr hc9) (hm.mf hm9) hw) (fun h => absurd ((lg_cmp_eq _ _).mpr rfl) h)
theorem lc_event (hB : gb X cL_law 4 RL (some .boolean)) (hF : fl X rC rM b L xs) (hi : i + 6 ≤ L) (hc : fm_CR Z MC) (hm : fm_MR Z MM) (hw : fm_WZ Z) (kont : ∀ (Z' : fm_Z) (MC' MM' : fm_M), fm_CR Z' MC' → fm_MR Z' MM' → fm_WZ Z' → gw X 4 106 2446 (il X rC rM MC' MM') 1380 [some (.ref b), some (.ref (rC 0)), some (.ref (rM 0)), some (.int (nI i))] [] Q) : gw X 4 106 2446 (il X rC rM MC MM) 993 [some (.ref b), some (.ref (rC 0)), some (.ref (rM 0)), some (.int (nI i))] [] Q := by
  refine g_aload_n hB dL_law_993 rfl rfl ?_
  refine g_aload_n hB dL_law_994 rfl rfl ?_
  refine g_iload_n hB dL_law_995 rfl rfl ?_
  refine g_iconst (v := nI 1) hB dL_law_996 (by decide) ?_
  refine g_iadd hB dL_law_997 ?_
  refine l_sc hB hF (i + 1) dL_law_998 (nI_add i 1) (by omega) ?_
  refine g_aload_n hB dL_law_999 rfl rfl ?_
  refine g_iload_n hB dL_law_1000 rfl rfl ?_
  refine g_iconst (v := nI 2) hB dL_law_1001 (by decide) ?_
  refine g_iadd hB dL_law_1002 ?_
  refine l_sc hB hF (i + 2) dL_law_1003 (nI_add i 2) (by omega) ?_
  refine l_callC hB hF _ _ dL_law_1004 lm_L_122 (cc_event hc hw) rfl rfl (Nat.le_of_ble_eq_true rfl) (l_rm hF (Nat.le_of_ble_eq_true rfl) (Nat.le_of_ble_eq_true rfl)) (l_rc hF (Nat.le_of_ble_eq_true rfl) (Nat.le_of_ble_eq_true rfl)) ?_
  rintro _ MC9 ⟨rfl, hc9⟩
  refine g_r1 ?_
  refine g_aload_n hB dL_law_1007 rfl rfl ?_
  refine g_aload_n hB dL_law_1008 rfl rfl ?_
  refine g_iload_n hB dL_law_1009 rfl rfl ?_
  refine g_iconst (v := nI 1) hB dL_law_1010 (by decide) ?_
  refine g_iadd hB dL_law_1011 ?_
  refine l_sc hB hF (i + 1) dL_law_1012 (nI_add i 1) (by omega) ?_
  refine g_aload_n hB dL_law_1013 rfl rfl ?_
  refine g_iload_n hB dL_law_1014 rfl rfl ?_
  refine g_iconst (v := nI 2) hB dL_law_1015 (by decide) ?_
  refine g_iadd hB dL_law_1016 ?_
  refine l_sc hB hF (i + 2) dL_law_1017 (nI_add i 2) (by omega) ?_
  refine l_callM hB hF _ _ dL_law_1018 lm_L_125 (mm_event hm hw) rfl rfl (Nat.le_of_ble_eq_true rfl) (l_rm hF (Nat.le_of_ble_eq_true rfl) (Nat.le_of_ble_eq_true rfl)) (l_rc hF (Nat.le_of_ble_eq_true rfl) (Nat.le_of_ble_eq_true rfl)) ?_
  rintro _ MM9 ⟨rfl, hm9⟩
  refine g_r1 ?_
  exact g_icmp_eq (tgt := 1380) hB dL_law_1021 (by decide) (fun _ => kont _ _ _ hc9 hm9 ⟨kp_event hw.1 _ _, hw.2⟩) (fun h => absurd rfl h)
theorem lc_after (hB : gb X cL_law 4 RL (some .boolean)) (hF : fl X rC rM b L xs) (hi : i + 6 ≤ L) (hc : fm_CR Z MC) (hm : fm_MR Z MM) (hw : fm_WZ Z) (kont : ∀ (Z' : fm_Z) (MC' MM' : fm_M), fm_CR Z' MC' → fm_MR Z' MM' → fm_WZ Z' → gw X 4 106 2446 (il X rC rM MC' MM') 1380 [some (.ref b), some (.ref (rC 0)), some (.ref (rM 0)), some (.int (nI i))] [] Q) : gw X 4 106 2446 (il X rC rM MC MM) 1026 [some (.ref b), some (.ref (rC 0)), some (.ref (rM 0)), some (.int (nI i))] [] Q := by
  refine g_aload_n hB dL_law_1026 rfl rfl ?_
  refine g_aload_n hB dL_law_1027 rfl rfl ?_
  refine g_iload_n hB dL_law_1028 rfl rfl ?_
  refine g_iconst (v := nI 1) hB dL_law_1029 (by decide) ?_
  refine g_iadd hB dL_law_1030 ?_
  refine l_sc hB hF (i + 1) dL_law_1031 (nI_add i 1) (by omega) ?_
  refine l_callC hB hF _ _ dL_law_1032 lm_L_126 (cc_after hc hw) rfl rfl (Nat.le_of_ble_eq_true rfl) (l_rm hF (Nat.le_of_ble_eq_true rfl) (Nat.le_of_ble_eq_true rfl)) (l_rc hF (Nat.le_of_ble_eq_true rfl) (Nat.le_of_ble_eq_true rfl)) ?_
  rintro _ MC9 ⟨rfl, hc9⟩
  refine g_r1 ?_
  refine g_aload_n hB dL_law_1035 rfl rfl ?_
  refine g_aload_n hB dL_law_1036 rfl rfl ?_
  refine g_iload_n hB dL_law_1037 rfl rfl ?_
  refine g_iconst (v := nI 1) hB dL_law_1038 (by decide) ?_
  refine g_iadd hB dL_law_1039 ?_
  refine l_sc hB hF (i + 1) dL_law_1040 (nI_add i 1) (by omega) ?_
  refine l_callM hB hF _ _ dL_law_1041 lm_L_129 (mm_after hm hw) rfl rfl (Nat.le_of_ble_eq_true rfl) (l_rm hF (Nat.le_of_ble_eq_true rfl) (Nat.le_of_ble_eq_true rfl)) (l_rc hF (Nat.le_of_ble_eq_true rfl) (Nat.le_of_ble_eq_true rfl)) ?_
  rintro _ MM9 ⟨rfl, hm9⟩
  refine g_r1 ?_
  exact g_icmp_eq (tgt := 1380) hB dL_law_1044 (by decide) (fun _ => kont Z _ _ (hc.fr hc9) (hm.mf hm9) hw) (fun h => absurd rfl h)
theorem lc_book (hB : gb X cL_law 4 RL (some .boolean)) (hF : fl X rC rM b L xs) (hi : i + 6 ≤ L) (hc : fm_CR Z MC) (hm : fm_MR Z MM) (hw : fm_WZ Z) (kont : ∀ (Z' : fm_Z) (MC' MM' : fm_M), fm_CR Z' MC' → fm_MR Z' MM' → fm_WZ Z' → gw X 4 106 2446 (il X rC rM MC' MM') 1380 [some (.ref b), some (.ref (rC 0)), some (.ref (rM 0)), some (.int (nI i))] [] Q) : gw X 4 106 2446 (il X rC rM MC MM) 1049 [some (.ref b), some (.ref (rC 0)), some (.ref (rM 0)), some (.int (nI i))] [] Q := by
  refine g_aload_n hB dL_law_1049 rfl rfl ?_
  refine g_aload_n hB dL_law_1050 rfl rfl ?_
  refine g_iload_n hB dL_law_1051 rfl rfl ?_
  refine g_iconst (v := nI 1) hB dL_law_1052 (by decide) ?_
  refine g_iadd hB dL_law_1053 ?_
  refine l_sc hB hF (i + 1) dL_law_1054 (nI_add i 1) (by omega) ?_
  refine l_callC hB hF _ _ dL_law_1055 lm_L_130 (cc_book hc hw) rfl rfl (Nat.le_of_ble_eq_true rfl) (l_rm hF (Nat.le_of_ble_eq_true rfl) (Nat.le_of_ble_eq_true rfl)) (l_rc hF (Nat.le_of_ble_eq_true rfl) (Nat.le_of_ble_eq_true rfl)) ?_
  rintro _ MC9 ⟨rfl, hc9⟩
  refine g_r1 ?_
  refine g_aload_n hB dL_law_1058 rfl rfl ?_
  refine g_aload_n hB dL_law_1059 rfl rfl ?_
  refine g_iload_n hB dL_law_1060 rfl rfl ?_
  refine g_iconst (v := nI 1) hB dL_law_1061 (by decide) ?_
  refine g_iadd hB dL_law_1062 ?_
  refine l_sc hB hF (i + 1) dL_law_1063 (nI_add i 1) (by omega) ?_
  refine l_callM hB hF _ _ dL_law_1064 lm_L_133 (mm_book hm hw) rfl rfl (Nat.le_of_ble_eq_true rfl) (l_rm hF (Nat.le_of_ble_eq_true rfl) (Nat.le_of_ble_eq_true rfl)) (l_rc hF (Nat.le_of_ble_eq_true rfl) (Nat.le_of_ble_eq_true rfl)) ?_
  rintro _ MM9 ⟨rfl, hm9⟩
  refine g_r1 ?_
  exact g_icmp_eq (tgt := 1380) hB dL_law_1067 (by decide) (fun _ => kont _ _ _ hc9 hm9 ⟨kp_book hw.1 _, hw.2⟩) (fun h => absurd rfl h)
theorem lc_looked (hB : gb X cL_law 4 RL (some .boolean)) (hF : fl X rC rM b L xs) (hi : i + 6 ≤ L) (hc : fm_CR Z MC) (hm : fm_MR Z MM) (hw : fm_WZ Z) (kont : ∀ (Z' : fm_Z) (MC' MM' : fm_M), fm_CR Z' MC' → fm_MR Z' MM' → fm_WZ Z' → gw X 4 106 2446 (il X rC rM MC' MM') 1380 [some (.ref b), some (.ref (rC 0)), some (.ref (rM 0)), some (.int (nI i))] [] Q) : gw X 4 106 2446 (il X rC rM MC MM) 1072 [some (.ref b), some (.ref (rC 0)), some (.ref (rM 0)), some (.int (nI i))] [] Q := by
  refine g_aload_n hB dL_law_1072 rfl rfl ?_
  refine l_callC hB hF _ _ dL_law_1073 lm_L_134 (cc_looked hc hw) rfl rfl (Nat.le_of_ble_eq_true rfl) (l_rm hF (Nat.le_of_ble_eq_true rfl) (Nat.le_of_ble_eq_true rfl)) (l_rc hF (Nat.le_of_ble_eq_true rfl) (Nat.le_of_ble_eq_true rfl)) ?_
  rintro _ MC9 ⟨rfl, hc9⟩
  refine g_r1 ?_
  refine g_aload_n hB dL_law_1076 rfl rfl ?_
  refine l_callM hB hF _ _ dL_law_1077 lm_L_137 (mm_looked hm hw) rfl rfl (Nat.le_of_ble_eq_true rfl) (l_rm hF (Nat.le_of_ble_eq_true rfl) (Nat.le_of_ble_eq_true rfl)) (l_rc hF (Nat.le_of_ble_eq_true rfl) (Nat.le_of_ble_eq_true rfl)) ?_
  rintro _ MM9 ⟨rfl, hm9⟩
  refine g_r1 ?_
  exact g_icmp_eq (tgt := 1380) hB dL_law_1080 (by decide) (fun _ => kont Z _ _ (hc.fr hc9) (hm.mf hm9) hw) (fun h => absurd rfl h)
theorem lc_judge (hB : gb X cL_law 4 RL (some .boolean)) (hF : fl X rC rM b L xs) (hi : i + 6 ≤ L) (hc : fm_CR Z MC) (hm : fm_MR Z MM) (hw : fm_WZ Z) (kont : ∀ (Z' : fm_Z) (MC' MM' : fm_M), fm_CR Z' MC' → fm_MR Z' MM' → fm_WZ Z' → gw X 4 106 2446 (il X rC rM MC' MM') 1380 [some (.ref b), some (.ref (rC 0)), some (.ref (rM 0)), some (.int (nI i))] [] Q) : gw X 4 106 2446 (il X rC rM MC MM) 1085 [some (.ref b), some (.ref (rC 0)), some (.ref (rM 0)), some (.int (nI i))] [] Q := by
  refine g_aload_n hB dL_law_1085 rfl rfl ?_
  refine g_aload_n hB dL_law_1086 rfl rfl ?_
  refine g_iload_n hB dL_law_1087 rfl rfl ?_
  refine g_iconst (v := nI 1) hB dL_law_1088 (by decide) ?_
  refine g_iadd hB dL_law_1089 ?_
  refine l_sc hB hF (i + 1) dL_law_1090 (nI_add i 1) (by omega) ?_
  refine g_aload_n hB dL_law_1091 rfl rfl ?_
  refine g_iload_n hB dL_law_1092 rfl rfl ?_
  refine g_iconst (v := nI 2) hB dL_law_1093 (by decide) ?_
  refine g_iadd hB dL_law_1094 ?_
  refine l_sc hB hF (i + 2) dL_law_1095 (nI_add i 2) (by omega) ?_
  refine l_callC hB hF _ _ dL_law_1096 lm_L_138 (cc_judge hc hw) rfl rfl (Nat.le_of_ble_eq_true rfl) (l_rm hF (Nat.le_of_ble_eq_true rfl) (Nat.le_of_ble_eq_true rfl)) (l_rc hF (Nat.le_of_ble_eq_true rfl) (Nat.le_of_ble_eq_true rfl)) ?_
  rintro _ MC9 ⟨rfl, hc9⟩
  refine g_r1 ?_
  refine g_aload_n hB dL_law_1099 rfl rfl ?_
  refine g_aload_n hB dL_law_1100 rfl rfl ?_
  refine g_iload_n hB dL_law_1101 rfl rfl ?_
  refine g_iconst (v := nI 1) hB dL_law_1102 (by decide) ?_
  refine g_iadd hB dL_law_1103 ?_
  refine l_sc hB hF (i + 1) dL_law_1104 (nI_add i 1) (by omega) ?_
  refine g_aload_n hB dL_law_1105 rfl rfl ?_
  refine g_iload_n hB dL_law_1106 rfl rfl ?_
  refine g_iconst (v := nI 2) hB dL_law_1107 (by decide) ?_
  refine g_iadd hB dL_law_1108 ?_
  refine l_sc hB hF (i + 2) dL_law_1109 (nI_add i 2) (by omega) ?_
  refine l_callM hB hF _ _ dL_law_1110 lm_L_141 (mm_judge hm hw) rfl rfl (Nat.le_of_ble_eq_true rfl) (l_rm hF (Nat.le_of_ble_eq_true rfl) (Nat.le_of_ble_eq_true rfl)) (l_rc hF (Nat.le_of_ble_eq_true rfl) (Nat.le_of_ble_eq_true rfl)) ?_
  rintro _ MM9 ⟨rfl, hm9⟩
  refine g_r1 ?_
  exact g_icmp_eq (tgt := 1380) hB dL_law_1113 (by decide) (fun _ => kont Z _ _ (hc.fr hc9) (hm.mf hm9) hw) (fun h => absurd rfl h)
theorem lc_image (hB : gb X cL_law 4 RL (some .boolean)) (hF : fl X rC rM b L xs) (hi : i + 6 ≤ L) (hc : fm_CR Z MC) (hm : fm_MR Z MM) (hw : fm_WZ Z) (kont : ∀ (Z' : fm_Z) (MC' MM' : fm_M), fm_CR Z' MC' → fm_MR Z' MM' → fm_WZ Z' → gw X 4 106 2446 (il X rC rM MC' MM') 1380 [some (.ref b), some (.ref (rC 0)), some (.ref (rM 0)), some (.int (nI i))] [] Q) : gw X 4 106 2446 (il X rC rM MC MM) 1118 [some (.ref b), some (.ref (rC 0)), some (.ref (rM 0)), some (.int (nI i))] [] Q := by
  refine g_aload_n hB dL_law_1118 rfl rfl ?_
  refine l_callC hB hF _ _ dL_law_1119 lm_L_142 (cc_image hc hw) rfl rfl (Nat.le_of_ble_eq_true rfl) (l_rm hF (Nat.le_of_ble_eq_true rfl) (Nat.le_of_ble_eq_true rfl)) (l_rc hF (Nat.le_of_ble_eq_true rfl) (Nat.le_of_ble_eq_true rfl)) ?_
  rintro _ MC9 ⟨rfl, hc9⟩
  refine g_r1 ?_
  refine g_aload_n hB dL_law_1122 rfl rfl ?_
  refine l_callM hB hF _ _ dL_law_1123 lm_L_145 (mm_image hm hw) rfl rfl (Nat.le_of_ble_eq_true rfl) (l_rm hF (Nat.le_of_ble_eq_true rfl) (Nat.le_of_ble_eq_true rfl)) (l_rc hF (Nat.le_of_ble_eq_true rfl) (Nat.le_of_ble_eq_true rfl)) ?_
  rintro _ MM9 ⟨rfl, hm9⟩
  refine g_r1 ?_
  exact g_icmp_eq (tgt := 1380) hB dL_law_1126 (by decide) (fun _ => kont _ _ _ hc9 hm9 (kz_image hw)) (fun h => absurd rfl h)
theorem lc_undo (hB : gb X cL_law 4 RL (some .boolean)) (hF : fl X rC rM b L xs) (hi : i + 6 ≤ L) (hc : fm_CR Z MC) (hm : fm_MR Z MM) (hw : fm_WZ Z) (kont : ∀ (Z' : fm_Z) (MC' MM' : fm_M), fm_CR Z' MC' → fm_MR Z' MM' → fm_WZ Z' → gw X 4 106 2446 (il X rC rM MC' MM') 1380 [some (.ref b), some (.ref (rC 0)), some (.ref (rM 0)), some (.int (nI i))] [] Q) : gw X 4 106 2446 (il X rC rM MC MM) 1131 [some (.ref b), some (.ref (rC 0)), some (.ref (rM 0)), some (.int (nI i))] [] Q := by
  refine g_aload_n hB dL_law_1131 rfl rfl ?_
  refine l_callC hB hF _ _ dL_law_1132 lm_L_146 (cc_undo hc hw) rfl rfl (Nat.le_of_ble_eq_true rfl) (l_rm hF (Nat.le_of_ble_eq_true rfl) (Nat.le_of_ble_eq_true rfl)) (l_rc hF (Nat.le_of_ble_eq_true rfl) (Nat.le_of_ble_eq_true rfl)) ?_
  rintro _ MC9 ⟨rfl, hc9⟩
  refine g_r1 ?_
  refine g_aload_n hB dL_law_1135 rfl rfl ?_
  refine l_callM hB hF _ _ dL_law_1136 lm_L_149 (mm_undo hm hw) rfl rfl (Nat.le_of_ble_eq_true rfl) (l_rm hF (Nat.le_of_ble_eq_true rfl) (Nat.le_of_ble_eq_true rfl)) (l_rc hF (Nat.le_of_ble_eq_true rfl) (Nat.le_of_ble_eq_true rfl)) ?_
  rintro _ MM9 ⟨rfl, hm9⟩
  refine g_r1 ?_
  exact g_icmp_eq (tgt := 1380) hB dL_law_1139 (by decide) (fun _ => kont _ _ _ hc9 hm9 (kz_undo hw)) (fun h => absurd rfl h)
theorem lc_count (hB : gb X cL_law 4 RL (some .boolean)) (hF : fl X rC rM b L xs) (hi : i + 6 ≤ L) (hc : fm_CR Z MC) (hm : fm_MR Z MM) (hw : fm_WZ Z) (kont : ∀ (Z' : fm_Z) (MC' MM' : fm_M), fm_CR Z' MC' → fm_MR Z' MM' → fm_WZ Z' → gw X 4 106 2446 (il X rC rM MC' MM') 1380 [some (.ref b), some (.ref (rC 0)), some (.ref (rM 0)), some (.int (nI i))] [] Q) : gw X 4 106 2446 (il X rC rM MC MM) 1144 [some (.ref b), some (.ref (rC 0)), some (.ref (rM 0)), some (.int (nI i))] [] Q := by
  refine g_aload_n hB dL_law_1144 rfl rfl ?_
  refine g_aload_n hB dL_law_1145 rfl rfl ?_
  refine g_iload_n hB dL_law_1146 rfl rfl ?_
  refine g_iconst (v := nI 1) hB dL_law_1147 (by decide) ?_
  refine g_iadd hB dL_law_1148 ?_
  refine l_sc hB hF (i + 1) dL_law_1149 (nI_add i 1) (by omega) ?_
  refine l_callC hB hF _ _ dL_law_1150 lm_L_150 (cc_count hc hw) rfl rfl (Nat.le_of_ble_eq_true rfl) (l_rm hF (Nat.le_of_ble_eq_true rfl) (Nat.le_of_ble_eq_true rfl)) (l_rc hF (Nat.le_of_ble_eq_true rfl) (Nat.le_of_ble_eq_true rfl)) ?_
  rintro _ MC9 ⟨rfl, eC9⟩
  refine g_r1 ?_
  refine g_aload_n hB dL_law_1153 rfl rfl ?_
  refine g_aload_n hB dL_law_1154 rfl rfl ?_
  refine g_iload_n hB dL_law_1155 rfl rfl ?_
  refine g_iconst (v := nI 1) hB dL_law_1156 (by decide) ?_
  refine g_iadd hB dL_law_1157 ?_
  refine l_sc hB hF (i + 1) dL_law_1158 (nI_add i 1) (by omega) ?_
  refine l_callM hB hF _ _ dL_law_1159 lm_L_153 (mm_count hm hw) rfl rfl (Nat.le_of_ble_eq_true rfl) (l_rm hF (Nat.le_of_ble_eq_true rfl) (Nat.le_of_ble_eq_true rfl)) (l_rc hF (Nat.le_of_ble_eq_true rfl) (Nat.le_of_ble_eq_true rfl)) ?_
  rintro _ MM9 ⟨rfl, eM9⟩
  refine g_r1 ?_
  exact g_icmp_eq (tgt := 1380) hB dL_law_1162 (by decide) (fun _ => kont Z _ _ (by rw [eC9]; exact hc) (by rw [eM9]; exact hm) hw) (fun h => absurd rfl h)
theorem lc_tape (hB : gb X cL_law 4 RL (some .boolean)) (hF : fl X rC rM b L xs) (hi : i + 6 ≤ L) (hc : fm_CR Z MC) (hm : fm_MR Z MM) (hw : fm_WZ Z) (kont : ∀ (Z' : fm_Z) (MC' MM' : fm_M), fm_CR Z' MC' → fm_MR Z' MM' → fm_WZ Z' → gw X 4 106 2446 (il X rC rM MC' MM') 1380 [some (.ref b), some (.ref (rC 0)), some (.ref (rM 0)), some (.int (nI i))] [] Q) : gw X 4 106 2446 (il X rC rM MC MM) 1167 [some (.ref b), some (.ref (rC 0)), some (.ref (rM 0)), some (.int (nI i))] [] Q := by
  refine g_aload_n hB dL_law_1167 rfl rfl ?_
  refine g_aload_n hB dL_law_1168 rfl rfl ?_
  refine g_iload_n hB dL_law_1169 rfl rfl ?_
  refine g_iconst (v := nI 1) hB dL_law_1170 (by decide) ?_
  refine g_iadd hB dL_law_1171 ?_
  refine l_sc hB hF (i + 1) dL_law_1172 (nI_add i 1) (by omega) ?_
  refine g_aload_n hB dL_law_1173 rfl rfl ?_
  refine g_iload_n hB dL_law_1174 rfl rfl ?_
  refine g_iconst (v := nI 2) hB dL_law_1175 (by decide) ?_
  refine g_iadd hB dL_law_1176 ?_
  refine l_sc hB hF (i + 2) dL_law_1177 (nI_add i 2) (by omega) ?_
  refine g_aload_n hB dL_law_1178 rfl rfl ?_
  refine g_iload_n hB dL_law_1179 rfl rfl ?_
  refine g_iconst (v := nI 3) hB dL_law_1180 (by decide) ?_
  refine g_iadd hB dL_law_1181 ?_
  refine l_sc hB hF (i + 3) dL_law_1182 (nI_add i 3) (by omega) ?_
  refine l_callC hB hF _ _ dL_law_1183 lm_L_154 (cc_tape hc hw) rfl rfl (Nat.le_of_ble_eq_true rfl) (l_rm hF (Nat.le_of_ble_eq_true rfl) (Nat.le_of_ble_eq_true rfl)) (l_rc hF (Nat.le_of_ble_eq_true rfl) (Nat.le_of_ble_eq_true rfl)) ?_
  rintro _ MC9 ⟨rfl, hc9⟩
  refine g_r1 ?_
  refine g_aload_n hB dL_law_1186 rfl rfl ?_
  refine g_aload_n hB dL_law_1187 rfl rfl ?_
  refine g_iload_n hB dL_law_1188 rfl rfl ?_
  refine g_iconst (v := nI 1) hB dL_law_1189 (by decide) ?_
  refine g_iadd hB dL_law_1190 ?_
  refine l_sc hB hF (i + 1) dL_law_1191 (nI_add i 1) (by omega) ?_
  refine g_aload_n hB dL_law_1192 rfl rfl ?_
  refine g_iload_n hB dL_law_1193 rfl rfl ?_
  refine g_iconst (v := nI 2) hB dL_law_1194 (by decide) ?_
  refine g_iadd hB dL_law_1195 ?_
  refine l_sc hB hF (i + 2) dL_law_1196 (nI_add i 2) (by omega) ?_
  refine g_aload_n hB dL_law_1197 rfl rfl ?_
  refine g_iload_n hB dL_law_1198 rfl rfl ?_
  refine g_iconst (v := nI 3) hB dL_law_1199 (by decide) ?_
  refine g_iadd hB dL_law_1200 ?_
  refine l_sc hB hF (i + 3) dL_law_1201 (nI_add i 3) (by omega) ?_
  refine l_callM hB hF _ _ dL_law_1202 lm_L_157 (mm_tape hm hw) rfl rfl (Nat.le_of_ble_eq_true rfl) (l_rm hF (Nat.le_of_ble_eq_true rfl) (Nat.le_of_ble_eq_true rfl)) (l_rc hF (Nat.le_of_ble_eq_true rfl) (Nat.le_of_ble_eq_true rfl)) ?_
  rintro _ MM9 ⟨rfl, hm9⟩
  refine g_r1 ?_
  exact g_icmp_eq (tgt := 1380) hB dL_law_1205 (by decide) (fun _ => kont _ _ _ hc9 hm9 (kz_tape hw _ _ _)) (fun h => absurd rfl h)
theorem lc_item (hB : gb X cL_law 4 RL (some .boolean)) (hF : fl X rC rM b L xs) (hi : i + 6 ≤ L) (hc : fm_CR Z MC) (hm : fm_MR Z MM) (hw : fm_WZ Z) (kont : ∀ (Z' : fm_Z) (MC' MM' : fm_M), fm_CR Z' MC' → fm_MR Z' MM' → fm_WZ Z' → gw X 4 106 2446 (il X rC rM MC' MM') 1380 [some (.ref b), some (.ref (rC 0)), some (.ref (rM 0)), some (.int (nI i))] [] Q) : gw X 4 106 2446 (il X rC rM MC MM) 1210 [some (.ref b), some (.ref (rC 0)), some (.ref (rM 0)), some (.int (nI i))] [] Q := by
  refine g_aload_n hB dL_law_1210 rfl rfl ?_
  refine g_aload_n hB dL_law_1211 rfl rfl ?_
  refine g_iload_n hB dL_law_1212 rfl rfl ?_
  refine g_iconst (v := nI 1) hB dL_law_1213 (by decide) ?_
  refine g_iadd hB dL_law_1214 ?_
  refine l_sc hB hF (i + 1) dL_law_1215 (nI_add i 1) (by omega) ?_
  refine g_aload_n hB dL_law_1216 rfl rfl ?_
  refine g_iload_n hB dL_law_1217 rfl rfl ?_
  refine g_iconst (v := nI 2) hB dL_law_1218 (by decide) ?_
  refine g_iadd hB dL_law_1219 ?_
  refine l_sc hB hF (i + 2) dL_law_1220 (nI_add i 2) (by omega) ?_
  refine g_aload_n hB dL_law_1221 rfl rfl ?_
  refine g_iload_n hB dL_law_1222 rfl rfl ?_
  refine g_iconst (v := nI 3) hB dL_law_1223 (by decide) ?_
  refine g_iadd hB dL_law_1224 ?_
  refine l_sc hB hF (i + 3) dL_law_1225 (nI_add i 3) (by omega) ?_
  refine g_i2l (v := (xs (i + 3)).toInt64) hB dL_law_1226 rfl ?_
  refine g_bipush (v := nI 32) hB dL_law_1227 (by decide) ?_
  refine g_lshl (v := _) hB dL_law_1229 rfl ?_
  refine g_aload_n hB dL_law_1230 rfl rfl ?_
  refine g_iload_n hB dL_law_1231 rfl rfl ?_
  refine g_iconst (v := nI 4) hB dL_law_1232 (by decide) ?_
  refine g_iadd hB dL_law_1233 ?_
  refine l_sc hB hF (i + 4) dL_law_1234 (nI_add i 4) (by omega) ?_
  refine g_i2l (v := (xs (i + 4)).toInt64) hB dL_law_1235 rfl ?_
  refine g_ldc2 (v := 4294967295) hB dL_law_1236 lc_L_158 ?_
  refine g_land hB dL_law_1239 ?_
  refine g_lor hB dL_law_1240 ?_
  refine l_callC hB hF _ _ dL_law_1241 lm_L_160 (cc_item hc hw) rfl rfl (Nat.le_of_ble_eq_true rfl) (l_rm hF (Nat.le_of_ble_eq_true rfl) (Nat.le_of_ble_eq_true rfl)) (l_rc hF (Nat.le_of_ble_eq_true rfl) (Nat.le_of_ble_eq_true rfl)) ?_
  rintro _ MC9 ⟨rfl, hc9⟩
  refine g_r1 ?_
  refine g_aload_n hB dL_law_1244 rfl rfl ?_
  refine g_aload_n hB dL_law_1245 rfl rfl ?_
  refine g_iload_n hB dL_law_1246 rfl rfl ?_
  refine g_iconst (v := nI 1) hB dL_law_1247 (by decide) ?_
  refine g_iadd hB dL_law_1248 ?_
  refine l_sc hB hF (i + 1) dL_law_1249 (nI_add i 1) (by omega) ?_
  refine g_aload_n hB dL_law_1250 rfl rfl ?_
  refine g_iload_n hB dL_law_1251 rfl rfl ?_
  refine g_iconst (v := nI 2) hB dL_law_1252 (by decide) ?_
  refine g_iadd hB dL_law_1253 ?_
  refine l_sc hB hF (i + 2) dL_law_1254 (nI_add i 2) (by omega) ?_
  refine g_aload_n hB dL_law_1255 rfl rfl ?_
  refine g_iload_n hB dL_law_1256 rfl rfl ?_
  refine g_iconst (v := nI 3) hB dL_law_1257 (by decide) ?_
  refine g_iadd hB dL_law_1258 ?_
  refine l_sc hB hF (i + 3) dL_law_1259 (nI_add i 3) (by omega) ?_
  refine g_i2l (v := (xs (i + 3)).toInt64) hB dL_law_1260 rfl ?_
  refine g_bipush (v := nI 32) hB dL_law_1261 (by decide) ?_
  refine g_lshl (v := _) hB dL_law_1263 rfl ?_
  refine g_aload_n hB dL_law_1264 rfl rfl ?_
  refine g_iload_n hB dL_law_1265 rfl rfl ?_
  refine g_iconst (v := nI 4) hB dL_law_1266 (by decide) ?_
  refine g_iadd hB dL_law_1267 ?_
  refine l_sc hB hF (i + 4) dL_law_1268 (nI_add i 4) (by omega) ?_
  refine g_i2l (v := (xs (i + 4)).toInt64) hB dL_law_1269 rfl ?_
  refine g_ldc2 (v := 4294967295) hB dL_law_1270 lc_L_158 ?_
  refine g_land hB dL_law_1273 ?_
  refine g_lor hB dL_law_1274 ?_
  refine l_callM hB hF _ _ dL_law_1275 lm_L_164 (mm_item hm hw) rfl rfl (Nat.le_of_ble_eq_true rfl) (l_rm hF (Nat.le_of_ble_eq_true rfl) (Nat.le_of_ble_eq_true rfl)) (l_rc hF (Nat.le_of_ble_eq_true rfl) (Nat.le_of_ble_eq_true rfl)) ?_
  rintro _ MM9 ⟨rfl, hm9⟩
  refine g_r1 ?_
  exact g_icmp_eq (tgt := 1380) hB dL_law_1278 (by decide) (fun _ => kont _ _ _ hc9 hm9 (kz_item hw _ _ _)) (fun h => absurd rfl h)
theorem lc_peek (hB : gb X cL_law 4 RL (some .boolean)) (hF : fl X rC rM b L xs) (hi : i + 6 ≤ L) (hc : fm_CR Z MC) (hm : fm_MR Z MM) (hw : fm_WZ Z) (kont : ∀ (Z' : fm_Z) (MC' MM' : fm_M), fm_CR Z' MC' → fm_MR Z' MM' → fm_WZ Z' → gw X 4 106 2446 (il X rC rM MC' MM') 1380 [some (.ref b), some (.ref (rC 0)), some (.ref (rM 0)), some (.int (nI i))] [] Q) : gw X 4 106 2446 (il X rC rM MC MM) 1283 [some (.ref b), some (.ref (rC 0)), some (.ref (rM 0)), some (.int (nI i))] [] Q := by
  refine g_aload_n hB dL_law_1283 rfl rfl ?_
  refine g_aload_n hB dL_law_1284 rfl rfl ?_
  refine g_iload_n hB dL_law_1285 rfl rfl ?_
  refine g_iconst (v := nI 1) hB dL_law_1286 (by decide) ?_
  refine g_iadd hB dL_law_1287 ?_
  refine l_sc hB hF (i + 1) dL_law_1288 (nI_add i 1) (by omega) ?_
  refine g_aload_n hB dL_law_1289 rfl rfl ?_
  refine g_iload_n hB dL_law_1290 rfl rfl ?_
  refine g_iconst (v := nI 2) hB dL_law_1291 (by decide) ?_
  refine g_iadd hB dL_law_1292 ?_
  refine l_sc hB hF (i + 2) dL_law_1293 (nI_add i 2) (by omega) ?_
  refine l_callC hB hF _ _ dL_law_1294 lm_L_165 (cc_peek hc hw) rfl rfl (Nat.le_of_ble_eq_true rfl) (l_rm hF (Nat.le_of_ble_eq_true rfl) (Nat.le_of_ble_eq_true rfl)) (l_rc hF (Nat.le_of_ble_eq_true rfl) (Nat.le_of_ble_eq_true rfl)) ?_
  rintro _ MC9 ⟨rfl, eC9⟩
  refine g_r1 ?_
  refine g_aload_n hB dL_law_1297 rfl rfl ?_
  refine g_aload_n hB dL_law_1298 rfl rfl ?_
  refine g_iload_n hB dL_law_1299 rfl rfl ?_
  refine g_iconst (v := nI 1) hB dL_law_1300 (by decide) ?_
  refine g_iadd hB dL_law_1301 ?_
  refine l_sc hB hF (i + 1) dL_law_1302 (nI_add i 1) (by omega) ?_
  refine g_aload_n hB dL_law_1303 rfl rfl ?_
  refine g_iload_n hB dL_law_1304 rfl rfl ?_
  refine g_iconst (v := nI 2) hB dL_law_1305 (by decide) ?_
  refine g_iadd hB dL_law_1306 ?_
  refine l_sc hB hF (i + 2) dL_law_1307 (nI_add i 2) (by omega) ?_
  refine l_callM hB hF _ _ dL_law_1308 lm_L_168 (mm_peek hm hw) rfl rfl (Nat.le_of_ble_eq_true rfl) (l_rm hF (Nat.le_of_ble_eq_true rfl) (Nat.le_of_ble_eq_true rfl)) (l_rc hF (Nat.le_of_ble_eq_true rfl) (Nat.le_of_ble_eq_true rfl)) ?_
  rintro _ MM9 ⟨rfl, eM9⟩
  refine g_r1 ?_
  refine g_lcmp hB dL_law_1311 ?_
  exact g_if_eq (tgt := 1380) hB dL_law_1312 (by decide) (fun _ => kont Z _ _ (by rw [eC9]; exact hc) (by rw [eM9]; exact hm) hw) (fun h => absurd ((lg_cmp_eq _ _).mpr rfl) h)
theorem lc_shift (hB : gb X cL_law 4 RL (some .boolean)) (hF : fl X rC rM b L xs) (hi : i + 6 ≤ L) (hc : fm_CR Z MC) (hm : fm_MR Z MM) (hw : fm_WZ Z) (kont : ∀ (Z' : fm_Z) (MC' MM' : fm_M), fm_CR Z' MC' → fm_MR Z' MM' → fm_WZ Z' → gw X 4 106 2446 (il X rC rM MC' MM') 1380 [some (.ref b), some (.ref (rC 0)), some (.ref (rM 0)), some (.int (nI i))] [] Q) : gw X 4 106 2446 (il X rC rM MC MM) 1317 [some (.ref b), some (.ref (rC 0)), some (.ref (rM 0)), some (.int (nI i))] [] Q := by
  refine g_aload_n hB dL_law_1317 rfl rfl ?_
  refine g_aload_n hB dL_law_1318 rfl rfl ?_
  refine g_iload_n hB dL_law_1319 rfl rfl ?_
  refine g_iconst (v := nI 1) hB dL_law_1320 (by decide) ?_
  refine g_iadd hB dL_law_1321 ?_
  refine l_sc hB hF (i + 1) dL_law_1322 (nI_add i 1) (by omega) ?_
  refine g_aload_n hB dL_law_1323 rfl rfl ?_
  refine g_iload_n hB dL_law_1324 rfl rfl ?_
  refine g_iconst (v := nI 2) hB dL_law_1325 (by decide) ?_
  refine g_iadd hB dL_law_1326 ?_
  refine l_sc hB hF (i + 2) dL_law_1327 (nI_add i 2) (by omega) ?_
  refine g_aload_n hB dL_law_1328 rfl rfl ?_
  refine g_iload_n hB dL_law_1329 rfl rfl ?_
  refine g_iconst (v := nI 3) hB dL_law_1330 (by decide) ?_
  refine g_iadd hB dL_law_1331 ?_
  refine l_sc hB hF (i + 3) dL_law_1332 (nI_add i 3) (by omega) ?_
  refine g_aload_n hB dL_law_1333 rfl rfl ?_
  refine g_iload_n hB dL_law_1334 rfl rfl ?_
  refine g_iconst (v := nI 4) hB dL_law_1335 (by decide) ?_
  refine g_iadd hB dL_law_1336 ?_
  refine l_sc hB hF (i + 4) dL_law_1337 (nI_add i 4) (by omega) ?_
  refine g_aload_n hB dL_law_1338 rfl rfl ?_
  refine g_iload_n hB dL_law_1339 rfl rfl ?_
  refine g_iconst (v := nI 5) hB dL_law_1340 (by decide) ?_
  refine g_iadd hB dL_law_1341 ?_
  refine l_sc hB hF (i + 5) dL_law_1342 (nI_add i 5) (by omega) ?_
  refine l_callC hB hF _ _ dL_law_1343 lm_L_169 (cc_shift hc hw) rfl rfl (Nat.le_of_ble_eq_true rfl) (l_rm hF (Nat.le_of_ble_eq_true rfl) (Nat.le_of_ble_eq_true rfl)) (l_rc hF (Nat.le_of_ble_eq_true rfl) (Nat.le_of_ble_eq_true rfl)) ?_
  rintro _ MC9 ⟨rfl, hc9⟩
  refine g_r1 ?_
  refine g_aload_n hB dL_law_1346 rfl rfl ?_
  refine g_aload_n hB dL_law_1347 rfl rfl ?_
  refine g_iload_n hB dL_law_1348 rfl rfl ?_
  refine g_iconst (v := nI 1) hB dL_law_1349 (by decide) ?_
  refine g_iadd hB dL_law_1350 ?_
  refine l_sc hB hF (i + 1) dL_law_1351 (nI_add i 1) (by omega) ?_
  refine g_aload_n hB dL_law_1352 rfl rfl ?_
  refine g_iload_n hB dL_law_1353 rfl rfl ?_
  refine g_iconst (v := nI 2) hB dL_law_1354 (by decide) ?_
  refine g_iadd hB dL_law_1355 ?_
  refine l_sc hB hF (i + 2) dL_law_1356 (nI_add i 2) (by omega) ?_
  refine g_aload_n hB dL_law_1357 rfl rfl ?_
  refine g_iload_n hB dL_law_1358 rfl rfl ?_
  refine g_iconst (v := nI 3) hB dL_law_1359 (by decide) ?_
  refine g_iadd hB dL_law_1360 ?_
  refine l_sc hB hF (i + 3) dL_law_1361 (nI_add i 3) (by omega) ?_
  refine g_aload_n hB dL_law_1362 rfl rfl ?_
  refine g_iload_n hB dL_law_1363 rfl rfl ?_
  refine g_iconst (v := nI 4) hB dL_law_1364 (by decide) ?_
  refine g_iadd hB dL_law_1365 ?_
  refine l_sc hB hF (i + 4) dL_law_1366 (nI_add i 4) (by omega) ?_
  refine g_aload_n hB dL_law_1367 rfl rfl ?_
  refine g_iload_n hB dL_law_1368 rfl rfl ?_
  refine g_iconst (v := nI 5) hB dL_law_1369 (by decide) ?_
  refine g_iadd hB dL_law_1370 ?_
  refine l_sc hB hF (i + 5) dL_law_1371 (nI_add i 5) (by omega) ?_
  refine l_callM hB hF _ _ dL_law_1372 lm_L_173 (mm_shift hm hw) rfl rfl (Nat.le_of_ble_eq_true rfl) (l_rm hF (Nat.le_of_ble_eq_true rfl) (Nat.le_of_ble_eq_true rfl)) (l_rc hF (Nat.le_of_ble_eq_true rfl) (Nat.le_of_ble_eq_true rfl)) ?_
  rintro _ MM9 ⟨rfl, hm9⟩
  refine g_r1 ?_
  exact g_icmp_eq (tgt := 1380) hB dL_law_1375 (by decide) (fun _ => kont _ _ _ hc9 hm9 (kz_shift hw _ _ _ _ _)) (fun h => absurd rfl h)
theorem law_step (hB : gb X cL_law 4 RL (some .boolean)) (hF : fl X rC rM b L xs) (hi : i + 6 ≤ L) (hc : fm_CR Z MC) (hm : fm_MR Z MM) (hw : fm_WZ Z) (kont : ∀ (Z' : fm_Z) (MC' MM' : fm_M), fm_CR Z' MC' → fm_MR Z' MM' → fm_WZ Z' → gw X 4 106 2446 (il X rC rM MC' MM') 1380 [some (.ref b), some (.ref (rC 0)), some (.ref (rM 0)), some (.int (nI i))] [] Q) : gw X 4 106 2446 (il X rC rM MC MM) 27 [some (.ref b), some (.ref (rC 0)), some (.ref (rM 0)), some (.int (nI i))] [] Q := by
  refine g_aload_n hB dL_law_27 rfl rfl ?_
  refine g_iload_n hB dL_law_28 rfl rfl ?_
  refine l_sc hB hF i dL_law_29 rfl (by omega) ?_
  refine g_bipush (v := nI 63) hB dL_law_30 (by decide) ?_
  refine g_iand hB dL_law_32 ?_
  rcases fm_cases (xs i &&& nI 63) 37 (by decide) with ⟨k, hk, e⟩ | hout
  · refine g_eqi (nI k) e ?_
    rcases (show k = 0 ∨ k = 1 ∨ k = 2 ∨ k = 3 ∨ k = 4 ∨ k = 5 ∨ k = 6 ∨ k = 7 ∨ k = 8 ∨ k = 9 ∨ k = 10 ∨ k = 11 ∨ k = 12 ∨ k = 13 ∨ k = 14 ∨ k = 15 ∨ k = 16 ∨ k = 17 ∨ k = 18 ∨ k = 19 ∨ k = 20 ∨ k = 21 ∨ k = 22 ∨ k = 23 ∨ k = 24 ∨ k = 25 ∨ k = 26 ∨ k = 27 ∨ k = 28 ∨ k = 29 ∨ k = 30 ∨ k = 31 ∨ k = 32 ∨ k = 33 ∨ k = 34 ∨ k = 35 ∨ k = 36 by omega) with rfl | rfl | rfl | rfl | rfl | rfl | rfl | rfl | rfl | rfl | rfl | rfl | rfl | rfl | rfl | rfl | rfl | rfl | rfl | rfl | rfl | rfl | rfl | rfl | rfl | rfl | rfl | rfl | rfl | rfl | rfl | rfl | rfl | rfl | rfl | rfl | rfl
    · exact g_tableIn (tgt := 196) hB dL_law_33 (by decide) (by decide) (by rfl) (by decide) (lc_part hB hF hi hc hm hw kont)
    · exact g_tableIn (tgt := 219) hB dL_law_33 (by decide) (by decide) (by rfl) (by decide) (lc_gate hB hF hi hc hm hw kont)
    · exact g_tableIn (tgt := 252) hB dL_law_33 (by decide) (by decide) (by rfl) (by decide) (lc_turn hB hF hi hc hm hw kont)
    · exact g_tableIn (tgt := 295) hB dL_law_33 (by decide) (by decide) (by rfl) (by decide) (lc_join hB hF hi hc hm hw kont)
    · exact g_tableIn (tgt := 354) hB dL_law_33 (by decide) (by decide) (by rfl) (by decide) (lc_drop hB hF hi hc hm hw kont)
    · exact g_tableIn (tgt := 377) hB dL_law_33 (by decide) (by decide) (by rfl) (by decide) (lc_top hB hF hi hc hm hw kont)
    · exact g_tableIn (tgt := 400) hB dL_law_33 (by decide) (by decide) (by rfl) (by decide) (lc_cause hB hF hi hc hm hw kont)
    · exact g_tableIn (tgt := 433) hB dL_law_33 (by decide) (by decide) (by rfl) (by decide) (lc_odds hB hF hi hc hm hw kont)
    · exact g_tableIn (tgt := 476) hB dL_law_33 (by decide) (by decide) (by rfl) (by decide) (lc_of hB hF hi hc hm hw kont)
    · exact g_tableIn (tgt := 519) hB dL_law_33 (by decide) (by decide) (by rfl) (by decide) (lc_feed hB hF hi hc hm hw kont)
    · exact g_tableIn (tgt := 542) hB dL_law_33 (by decide) (by decide) (by rfl) (by decide) (lc_read hB hF hi hc hm hw kont)
    · exact g_tableIn (tgt := 555) hB dL_law_33 (by decide) (by decide) (by rfl) (by decide) (lc_fails hB hF hi hc hm hw kont)
    · exact g_tableIn (tgt := 588) hB dL_law_33 (by decide) (by decide) (by rfl) (by decide) (lc_move hB hF hi hc hm hw kont)
    · exact g_tableIn (tgt := 621) hB dL_law_33 (by decide) (by decide) (by rfl) (by decide) (lc_sift hB hF hi hc hm hw kont)
    · exact g_tableIn (tgt := 644) hB dL_law_33 (by decide) (by decide) (by rfl) (by decide) (lc_at hB hF hi hc hm hw kont)
    · exact g_tableIn (tgt := 667) hB dL_law_33 (by decide) (by decide) (by rfl) (by decide) (lc_node hB hF hi hc hm hw kont)
    · exact g_tableIn (tgt := 700) hB dL_law_33 (by decide) (by decide) (by rfl) (by decide) (lc_told hB hF hi hc hm hw kont)
    · exact g_tableIn (tgt := 723) hB dL_law_33 (by decide) (by decide) (by rfl) (by decide) (lc_cut hB hF hi hc hm hw kont)
    · exact g_tableIn (tgt := 746) hB dL_law_33 (by decide) (by decide) (by rfl) (by decide) (lc_path hB hF hi hc hm hw kont)
    · exact g_tableIn (tgt := 769) hB dL_law_33 (by decide) (by decide) (by rfl) (by decide) (lc_chance hB hF hi hc hm hw kont)
    · exact g_tableIn (tgt := 793) hB dL_law_33 (by decide) (by decide) (by rfl) (by decide) (lc_given hB hF hi hc hm hw kont)
    · exact g_tableIn (tgt := 853) hB dL_law_33 (by decide) (by decide) (by rfl) (by decide) (lc_weight hB hF hi hc hm hw kont)
    · exact g_tableIn (tgt := 887) hB dL_law_33 (by decide) (by decide) (by rfl) (by decide) (lc_see hB hF hi hc hm hw kont)
    · exact g_tableIn (tgt := 936) hB dL_law_33 (by decide) (by decide) (by rfl) (by decide) (lc_fits hB hF hi hc hm hw kont)
    · exact g_tableIn (tgt := 969) hB dL_law_33 (by decide) (by decide) (by rfl) (by decide) (lc_mean hB hF hi hc hm hw kont)
    · exact g_tableIn (tgt := 993) hB dL_law_33 (by decide) (by decide) (by rfl) (by decide) (lc_event hB hF hi hc hm hw kont)
    · exact g_tableIn (tgt := 1026) hB dL_law_33 (by decide) (by decide) (by rfl) (by decide) (lc_after hB hF hi hc hm hw kont)
    · exact g_tableIn (tgt := 1049) hB dL_law_33 (by decide) (by decide) (by rfl) (by decide) (lc_book hB hF hi hc hm hw kont)
    · exact g_tableIn (tgt := 1072) hB dL_law_33 (by decide) (by decide) (by rfl) (by decide) (lc_looked hB hF hi hc hm hw kont)
    · exact g_tableIn (tgt := 1085) hB dL_law_33 (by decide) (by decide) (by rfl) (by decide) (lc_judge hB hF hi hc hm hw kont)
    · exact g_tableIn (tgt := 1118) hB dL_law_33 (by decide) (by decide) (by rfl) (by decide) (lc_image hB hF hi hc hm hw kont)
    · exact g_tableIn (tgt := 1131) hB dL_law_33 (by decide) (by decide) (by rfl) (by decide) (lc_undo hB hF hi hc hm hw kont)
    · exact g_tableIn (tgt := 1144) hB dL_law_33 (by decide) (by decide) (by rfl) (by decide) (lc_count hB hF hi hc hm hw kont)
    · exact g_tableIn (tgt := 1167) hB dL_law_33 (by decide) (by decide) (by rfl) (by decide) (lc_tape hB hF hi hc hm hw kont)
    · exact g_tableIn (tgt := 1210) hB dL_law_33 (by decide) (by decide) (by rfl) (by decide) (lc_item hB hF hi hc hm hw kont)
    · exact g_tableIn (tgt := 1283) hB dL_law_33 (by decide) (by decide) (by rfl) (by decide) (lc_peek hB hF hi hc hm hw kont)
    · exact g_tableIn (tgt := 1317) hB dL_law_33 (by decide) (by decide) (by rfl) (by decide) (lc_shift hB hF hi hc hm hw kont)
  · exact g_tableOut (tgt := 1380) hB dL_law_33 (by omega) (by decide) (kont Z MC MM hc hm hw)
theorem law_loop (hB : gb X cL_law 4 RL (some .boolean)) (hF : fl X rC rM b L xs) (kend : ∀ (MC MM : fm_M) (lv : List (Option Value)), gw X 4 106 2446 (il X rC rM MC MM) 1386 lv [] Q) : ∀ (d i : Nat) (Z : fm_Z) (MC MM : fm_M), L < i + 6 * d → i ≤ L → fm_CR Z MC → fm_MR Z MM → fm_WZ Z → gw X 4 106 2446 (il X rC rM MC MM) 18 [some (.ref b), some (.ref (rC 0)), some (.ref (rM 0)), some (.int (nI i))] [] Q := by
  have hL := hF.2.2.2.2.2.2.2.1
  intro d
  induction d with
  | zero => intro i Z MC MM h1 h2; omega
  | succ d ih =>
    intro i Z MC MM h1 h2 hc hm hw
    refine g_iload_n hB dL_law_18 rfl rfl ?_
    refine g_aload_n hB dL_law_19 rfl rfl ?_
    refine l_len hB hF dL_law_20 ?_
    refine g_bipush (v := nI 6) hB dL_law_21 (by decide) ?_
    refine g_isub hB dL_law_23 ?_
    refine g_icmp_gt (tgt := 1386) hB dL_law_24 (by decide) (fun _ => kend _ _ _) (fun h => ?_)
    have hi := l_le6 hL (by omega) h
    refine law_step hB hF hi hc hm hw (fun Z' MC' MM' hc' hm' hw' => ?_)
    refine g_iinc (v := nI (i + 6)) hB dL_law_1380 rfl (by rw [show Int32.ofInt 6 = nI 6 by decide, nI_add]) (by decide) rfl ?_
    refine g_goto (tgt := 18) hB dL_law_1383 (by decide) ?_
    exact ih (i + 6) Z' MC' MM' (by omega) hi hc' hm' hw'
end LCS

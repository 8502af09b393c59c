section LWC
variable {p : Program} {l : Launch} {e : Env} {s : State} {m : MethodId} {below : List Frame} {meth : Method} {c : Code} {b L : Nat} {xs : Nat → Int32} {G1 G2 : am_G} {i : Nat} {K : Int} {H : Heap} {locs : List Loc} {ls : Array Slot} {Z : State → Prop}
theorem lkL_13 : Cond.methodLink R_law 13 mX9_addSource.1 ∈ lw_tbl ∧ Cond.instanceMethod mX9_addSource.1 ∈ lw_tbl ∧ Cond.selects mX9_addSource.1.cls mX9_addSource.1 mX9_addSource.1 ∈ lw_tbl := ⟨List.mem_of_getElem? (i := 369) (by decide +kernel), List.mem_of_getElem? (i := 370) (by decide +kernel), List.mem_of_getElem? (i := 371) (by decide +kernel)⟩
theorem lkL_17 : Cond.methodLink R_law 17 mX10_addSource.1 ∈ lw_tbl ∧ Cond.instanceMethod mX10_addSource.1 ∈ lw_tbl ∧ Cond.selects mX10_addSource.1.cls mX10_addSource.1 mX10_addSource.1 ∈ lw_tbl := ⟨List.mem_of_getElem? (i := 1176) (by decide +kernel), List.mem_of_getElem? (i := 1177) (by decide +kernel), List.mem_of_getElem? (i := 1178) (by decide +kernel)⟩
theorem lc_0 (C0 : lw_At p s m meth c b L xs) (hL : L ≤ 3072) (hG : lw_C s G1 G2) (hi : i + 6 ≤ L) (hK : K < 99999) (hV : lw_S s G1 G2 K H locs) (hl : lv_has ls 4 (lw_l G1 G2 b i)) (kk : ∀ (H2 : Heap) (locs2 : List Loc), lw_S s G1 G2 (K + 1) H2 locs2 → W p l e room_1 s m #[Value.ref b] below meth c H2 locs2 180 36349 Z (F0 m 1654 ls [])) : W p l e room_1 s m #[Value.ref b] below meth c H locs 180 36349 Z (F0 m 240 ls []) := by
  obtain ⟨hx, hb, hret, hml, hown, hts, hX, hbl, hlocks, hgv⟩ := id C0
  obtain ⟨a1, a2, a3, a4, a5⟩ := id hG
  obtain ⟨hS, μ, ν, hJ, hR1, hR2, om, on⟩ := hV
  obtain ⟨P, R, c1, c2, hPR⟩ := jc_addSource (x1 := (xs (i + 1)).toInt) (x2 := (xs (i + 2)).toInt) (x3 := (xs (i + 3)).toInt) (x4 := (xs (i + 4)).toInt) hJ hK
  refine lv_aload_n hx hb dL_law_240 rfl (lv_at hl 1 rfl) ?_
  refine lw_arg (j := 1) C0 hS (lv_at hl 0 rfl) (lv_at hl 3 rfl) hL (by omega) (by decide) dL_law_241 dL_law_242 dL_law_243 dL_law_244 dL_law_245 ?_
  refine lw_arg (j := 2) C0 hS (lv_at hl 0 rfl) (lv_at hl 3 rfl) hL (by omega) (by decide) dL_law_246 dL_law_247 dL_law_248 dL_law_249 dL_law_250 ?_
  refine lw_arg (j := 3) C0 hS (lv_at hl 0 rfl) (lv_at hl 3 rfl) hL (by omega) (by decide) dL_law_251 dL_law_252 dL_law_253 dL_law_254 dL_law_255 ?_
  refine lw_arg (j := 4) C0 hS (lv_at hl 0 rfl) (lv_at hl 3 rfl) hL (by omega) (by decide) dL_law_256 dL_law_257 dL_law_258 dL_law_259 dL_law_260 ?_
  refine lw_call (G := G1) (K := kC) (As := [vI (xs (i + 1)).toInt, vI (xs (i + 2)).toInt, vI (xs (i + 3)).toInt, vI (xs (i + 4)).toInt]) (rest := []) C0 dL_law_261 lkL_13 lmX9_addSource kn0 lw_k9 rfl (by decide) c1 (am_oks_cons (am_ti (xs (i + 1))) (am_oks_cons (am_ti (xs (i + 2))) (am_oks_cons (am_ti (xs (i + 3))) (am_oks_cons (am_ti (xs (i + 4))) am_okn)))) om a1 a2 hS hR1 hl.1 (Nat.zero_le _) (Nat.le_of_ble_eq_true rfl) (Nat.le_of_ble_eq_true rfl) (by simp [am_cv, Int32.ofInt_toInt]) (fun z m2 H1 locs1 hP1 hz hR1 om hS1 hk1 => ?_)
  have hR2 := lw_kept hR2 hG.d2 hk1
  refine lv_aload_n hx hb dL_law_264 rfl (lv_at hl 2 rfl) ?_
  refine lw_arg (j := 1) C0 hS1 (lv_at hl 0 rfl) (lv_at hl 3 rfl) hL (by omega) (by decide) dL_law_265 dL_law_266 dL_law_267 dL_law_268 dL_law_269 ?_
  refine lw_arg (j := 2) C0 hS1 (lv_at hl 0 rfl) (lv_at hl 3 rfl) hL (by omega) (by decide) dL_law_270 dL_law_271 dL_law_272 dL_law_273 dL_law_274 ?_
  refine lw_arg (j := 3) C0 hS1 (lv_at hl 0 rfl) (lv_at hl 3 rfl) hL (by omega) (by decide) dL_law_275 dL_law_276 dL_law_277 dL_law_278 dL_law_279 ?_
  refine lw_arg (j := 4) C0 hS1 (lv_at hl 0 rfl) (lv_at hl 3 rfl) hL (by omega) (by decide) dL_law_280 dL_law_281 dL_law_282 dL_law_283 dL_law_284 ?_
  refine lw_call (G := G2) (K := kR) (As := [vI (xs (i + 1)).toInt, vI (xs (i + 2)).toInt, vI (xs (i + 3)).toInt, vI (xs (i + 4)).toInt]) (rest := [.int (Int32.ofInt z)]) C0 dL_law_285 lkL_17 lmX10_addSource rn0 lw_k10 rfl (by decide) c2 (am_oks_cons (am_ti (xs (i + 1))) (am_oks_cons (am_ti (xs (i + 2))) (am_oks_cons (am_ti (xs (i + 3))) (am_oks_cons (am_ti (xs (i + 4))) am_okn)))) on hG.lo2 a5 hS1 hR2 hl.1 (Nat.le_of_ble_eq_true rfl) (Nat.le_of_ble_eq_true rfl) (Nat.le_of_ble_eq_true rfl) (by simp [am_cv, Int32.ofInt_toInt]) (fun y n2 H2 locs2 hP2 hy hR2 on hS2 hk2 => ?_)
  have hR1 := lw_kept hR1 hG.d1 hk2
  obtain ⟨rfl, hJ⟩ := hPR z y m2 n2 hP1 hP2
  exact lv_icmp_eq (tgt := 1654) hx hb dL_law_288 (by decide) (fun _ => kk H2 locs2 ⟨hS2, m2, n2, hJ, hR1, hR2, om, on⟩) (fun q => absurd rfl q)
theorem lkL_18 : Cond.methodLink R_law 18 mX9_source.1 ∈ lw_tbl ∧ Cond.instanceMethod mX9_source.1 ∈ lw_tbl ∧ Cond.selects mX9_source.1.cls mX9_source.1 mX9_source.1 ∈ lw_tbl := ⟨List.mem_of_getElem? (i := 404) (by decide +kernel), List.mem_of_getElem? (i := 405) (by decide +kernel), List.mem_of_getElem? (i := 406) (by decide +kernel)⟩
theorem lkL_22 : Cond.methodLink R_law 22 mX10_source.1 ∈ lw_tbl ∧ Cond.instanceMethod mX10_source.1 ∈ lw_tbl ∧ Cond.selects mX10_source.1.cls mX10_source.1 mX10_source.1 ∈ lw_tbl := ⟨List.mem_of_getElem? (i := 1202) (by decide +kernel), List.mem_of_getElem? (i := 1203) (by decide +kernel), List.mem_of_getElem? (i := 1204) (by decide +kernel)⟩
theorem lc_1 (C0 : lw_At p s m meth c b L xs) (hL : L ≤ 3072) (hG : lw_C s G1 G2) (hi : i + 6 ≤ L) (hK : K < 99999) (hV : lw_S s G1 G2 K H locs) (hl : lv_has ls 4 (lw_l G1 G2 b i)) (kk : ∀ (H2 : Heap) (locs2 : List Loc), lw_S s G1 G2 (K + 1) H2 locs2 → W p l e room_1 s m #[Value.ref b] below meth c H2 locs2 180 36349 Z (F0 m 1654 ls [])) : W p l e room_1 s m #[Value.ref b] below meth c H locs 180 36349 Z (F0 m 293 ls []) := by
  obtain ⟨hx, hb, hret, hml, hown, hts, hX, hbl, hlocks, hgv⟩ := id C0
  obtain ⟨a1, a2, a3, a4, a5⟩ := id hG
  obtain ⟨hS, μ, ν, hJ, hR1, hR2, om, on⟩ := hV
  obtain ⟨P, R, c1, c2, hPR⟩ := jc_source (x1 := (xs (i + 1)).toInt) (x2 := (xs (i + 2)).toInt) hJ hK
  refine lv_aload_n hx hb dL_law_293 rfl (lv_at hl 1 rfl) ?_
  refine lw_arg (j := 1) C0 hS (lv_at hl 0 rfl) (lv_at hl 3 rfl) hL (by omega) (by decide) dL_law_294 dL_law_295 dL_law_296 dL_law_297 dL_law_298 ?_
  refine lw_arg (j := 2) C0 hS (lv_at hl 0 rfl) (lv_at hl 3 rfl) hL (by omega) (by decide) dL_law_299 dL_law_300 dL_law_301 dL_law_302 dL_law_303 ?_
  refine lw_call (G := G1) (K := kC) (As := [vI (xs (i + 1)).toInt, vI (xs (i + 2)).toInt]) (rest := []) C0 dL_law_304 lkL_18 lmX9_source kn0 lw_k9 rfl (by decide) c1 (am_oks_cons (am_ti (xs (i + 1))) (am_oks_cons (am_ti (xs (i + 2))) am_okn)) om a1 a2 hS hR1 hl.1 (Nat.zero_le _) (Nat.le_of_ble_eq_true rfl) (Nat.le_of_ble_eq_true rfl) (by simp [am_cv, Int32.ofInt_toInt]) (fun z m2 H1 locs1 hP1 hz hR1 om hS1 hk1 => ?_)
  have hR2 := lw_kept hR2 hG.d2 hk1
  refine lv_aload_n hx hb dL_law_307 rfl (lv_at hl 2 rfl) ?_
  refine lw_arg (j := 1) C0 hS1 (lv_at hl 0 rfl) (lv_at hl 3 rfl) hL (by omega) (by decide) dL_law_308 dL_law_309 dL_law_310 dL_law_311 dL_law_312 ?_
  refine lw_arg (j := 2) C0 hS1 (lv_at hl 0 rfl) (lv_at hl 3 rfl) hL (by omega) (by decide) dL_law_313 dL_law_314 dL_law_315 dL_law_316 dL_law_317 ?_
  refine lw_call (G := G2) (K := kR) (As := [vI (xs (i + 1)).toInt, vI (xs (i + 2)).toInt]) (rest := [.int (Int32.ofInt z)]) C0 dL_law_318 lkL_22 lmX10_source rn0 lw_k10 rfl (by decide) c2 (am_oks_cons (am_ti (xs (i + 1))) (am_oks_cons (am_ti (xs (i + 2))) am_okn)) on hG.lo2 a5 hS1 hR2 hl.1 (Nat.le_of_ble_eq_true rfl) (Nat.le_of_ble_eq_true rfl) (Nat.le_of_ble_eq_true rfl) (by simp [am_cv, Int32.ofInt_toInt]) (fun y n2 H2 locs2 hP2 hy hR2 on hS2 hk2 => ?_)
  have hR1 := lw_kept hR1 hG.d1 hk2
  obtain ⟨rfl, hJ⟩ := hPR z y m2 n2 hP1 hP2
  exact lv_icmp_eq (tgt := 1654) hx hb dL_law_321 (by decide) (fun _ => kk H2 locs2 ⟨hS2, m2, n2, hJ, hR1, hR2, om, on⟩) (fun q => absurd rfl q)
theorem lkL_23 : Cond.methodLink R_law 23 mX9_sourceValue.1 ∈ lw_tbl ∧ Cond.instanceMethod mX9_sourceValue.1 ∈ lw_tbl ∧ Cond.selects mX9_sourceValue.1.cls mX9_sourceValue.1 mX9_sourceValue.1 ∈ lw_tbl := ⟨List.mem_of_getElem? (i := 500) (by decide +kernel), List.mem_of_getElem? (i := 501) (by decide +kernel), List.mem_of_getElem? (i := 502) (by decide +kernel)⟩
theorem lkL_26 : Cond.methodLink R_law 26 mX10_sourceValue.1 ∈ lw_tbl ∧ Cond.instanceMethod mX10_sourceValue.1 ∈ lw_tbl ∧ Cond.selects mX10_sourceValue.1.cls mX10_sourceValue.1 mX10_sourceValue.1 ∈ lw_tbl := ⟨List.mem_of_getElem? (i := 1223) (by decide +kernel), List.mem_of_getElem? (i := 1224) (by decide +kernel), List.mem_of_getElem? (i := 1225) (by decide +kernel)⟩
theorem lc_2 (C0 : lw_At p s m meth c b L xs) (hL : L ≤ 3072) (hG : lw_C s G1 G2) (hi : i + 6 ≤ L) (hK : K < 99999) (hV : lw_S s G1 G2 K H locs) (hl : lv_has ls 4 (lw_l G1 G2 b i)) (kk : ∀ (H2 : Heap) (locs2 : List Loc), lw_S s G1 G2 (K + 1) H2 locs2 → W p l e room_1 s m #[Value.ref b] below meth c H2 locs2 180 36349 Z (F0 m 1654 ls [])) : W p l e room_1 s m #[Value.ref b] below meth c H locs 180 36349 Z (F0 m 326 ls []) := by
  obtain ⟨hx, hb, hret, hml, hown, hts, hX, hbl, hlocks, hgv⟩ := id C0
  obtain ⟨a1, a2, a3, a4, a5⟩ := id hG
  obtain ⟨hS, μ, ν, hJ, hR1, hR2, om, on⟩ := hV
  obtain ⟨P, R, c1, c2, hPR⟩ := jc_sourceValue (x1 := (xs (i + 1)).toInt) (x2 := (xs (i + 2)).toInt) hJ hK
  refine lv_aload_n hx hb dL_law_326 rfl (lv_at hl 1 rfl) ?_
  refine lw_arg (j := 1) C0 hS (lv_at hl 0 rfl) (lv_at hl 3 rfl) hL (by omega) (by decide) dL_law_327 dL_law_328 dL_law_329 dL_law_330 dL_law_331 ?_
  refine lw_arg (j := 2) C0 hS (lv_at hl 0 rfl) (lv_at hl 3 rfl) hL (by omega) (by decide) dL_law_332 dL_law_333 dL_law_334 dL_law_335 dL_law_336 ?_
  refine lw_call (G := G1) (K := kC) (As := [vI (xs (i + 1)).toInt, vI (xs (i + 2)).toInt]) (rest := []) C0 dL_law_337 lkL_23 lmX9_sourceValue kn0 lw_k9 rfl (by decide) c1 (am_oks_cons (am_ti (xs (i + 1))) (am_oks_cons (am_ti (xs (i + 2))) am_okn)) om a1 a2 hS hR1 hl.1 (Nat.zero_le _) (Nat.le_of_ble_eq_true rfl) (Nat.le_of_ble_eq_true rfl) (by simp [am_cv, Int32.ofInt_toInt]) (fun z m2 H1 locs1 hP1 hz hR1 om hS1 hk1 => ?_)
  have hR2 := lw_kept hR2 hG.d2 hk1
  refine lv_aload_n hx hb dL_law_340 rfl (lv_at hl 2 rfl) ?_
  refine lw_arg (j := 1) C0 hS1 (lv_at hl 0 rfl) (lv_at hl 3 rfl) hL (by omega) (by decide) dL_law_341 dL_law_342 dL_law_343 dL_law_344 dL_law_345 ?_
  refine lw_arg (j := 2) C0 hS1 (lv_at hl 0 rfl) (lv_at hl 3 rfl) hL (by omega) (by decide) dL_law_346 dL_law_347 dL_law_348 dL_law_349 dL_law_350 ?_
  refine lw_call (G := G2) (K := kR) (As := [vI (xs (i + 1)).toInt, vI (xs (i + 2)).toInt]) (rest := [.int (Int32.ofInt z)]) C0 dL_law_351 lkL_26 lmX10_sourceValue rn0 lw_k10 rfl (by decide) c2 (am_oks_cons (am_ti (xs (i + 1))) (am_oks_cons (am_ti (xs (i + 2))) am_okn)) on hG.lo2 a5 hS1 hR2 hl.1 (Nat.le_of_ble_eq_true rfl) (Nat.le_of_ble_eq_true rfl) (Nat.le_of_ble_eq_true rfl) (by simp [am_cv, Int32.ofInt_toInt]) (fun y n2 H2 locs2 hP2 hy hR2 on hS2 hk2 => ?_)
  have hR1 := lw_kept hR1 hG.d1 hk2
  obtain ⟨rfl, hJ⟩ := hPR z y m2 n2 hP1 hP2
  exact lv_icmp_eq (tgt := 1654) hx hb dL_law_354 (by decide) (fun _ => kk H2 locs2 ⟨hS2, m2, n2, hJ, hR1, hR2, om, on⟩) (fun q => absurd rfl q)
theorem lkL_27 : Cond.methodLink R_law 27 mX9_set.1 ∈ lw_tbl ∧ Cond.instanceMethod mX9_set.1 ∈ lw_tbl ∧ Cond.selects mX9_set.1.cls mX9_set.1 mX9_set.1 ∈ lw_tbl := ⟨List.mem_of_getElem? (i := 505) (by decide +kernel), List.mem_of_getElem? (i := 506) (by decide +kernel), List.mem_of_getElem? (i := 507) (by decide +kernel)⟩
theorem lkL_30 : Cond.methodLink R_law 30 mX10_set.1 ∈ lw_tbl ∧ Cond.instanceMethod mX10_set.1 ∈ lw_tbl ∧ Cond.selects mX10_set.1.cls mX10_set.1 mX10_set.1 ∈ lw_tbl := ⟨List.mem_of_getElem? (i := 1227) (by decide +kernel), List.mem_of_getElem? (i := 1228) (by decide +kernel), List.mem_of_getElem? (i := 1229) (by decide +kernel)⟩
theorem lc_3 (C0 : lw_At p s m meth c b L xs) (hL : L ≤ 3072) (hG : lw_C s G1 G2) (hi : i + 6 ≤ L) (hK : K < 99999) (hV : lw_S s G1 G2 K H locs) (hl : lv_has ls 4 (lw_l G1 G2 b i)) (kk : ∀ (H2 : Heap) (locs2 : List Loc), lw_S s G1 G2 (K + 1) H2 locs2 → W p l e room_1 s m #[Value.ref b] below meth c H2 locs2 180 36349 Z (F0 m 1654 ls [])) : W p l e room_1 s m #[Value.ref b] below meth c H locs 180 36349 Z (F0 m 359 ls []) := by
  obtain ⟨hx, hb, hret, hml, hown, hts, hX, hbl, hlocks, hgv⟩ := id C0
  obtain ⟨a1, a2, a3, a4, a5⟩ := id hG
  obtain ⟨hS, μ, ν, hJ, hR1, hR2, om, on⟩ := hV
  obtain ⟨P, R, c1, c2, hPR⟩ := jc_set (x1 := (xs (i + 1)).toInt) (x2 := (xs (i + 2)).toInt) hJ hK
  refine lv_aload_n hx hb dL_law_359 rfl (lv_at hl 1 rfl) ?_
  refine lw_arg (j := 1) C0 hS (lv_at hl 0 rfl) (lv_at hl 3 rfl) hL (by omega) (by decide) dL_law_360 dL_law_361 dL_law_362 dL_law_363 dL_law_364 ?_
  refine lw_arg (j := 2) C0 hS (lv_at hl 0 rfl) (lv_at hl 3 rfl) hL (by omega) (by decide) dL_law_365 dL_law_366 dL_law_367 dL_law_368 dL_law_369 ?_
  refine lw_call (G := G1) (K := kC) (As := [vI (xs (i + 1)).toInt, vI (xs (i + 2)).toInt]) (rest := []) C0 dL_law_370 lkL_27 lmX9_set kn0 lw_k9 rfl (by decide) c1 (am_oks_cons (am_ti (xs (i + 1))) (am_oks_cons (am_ti (xs (i + 2))) am_okn)) om a1 a2 hS hR1 hl.1 (Nat.zero_le _) (Nat.le_of_ble_eq_true rfl) (Nat.le_of_ble_eq_true rfl) (by simp [am_cv, Int32.ofInt_toInt]) (fun z m2 H1 locs1 hP1 hz hR1 om hS1 hk1 => ?_)
  have hR2 := lw_kept hR2 hG.d2 hk1
  refine lv_aload_n hx hb dL_law_373 rfl (lv_at hl 2 rfl) ?_
  refine lw_arg (j := 1) C0 hS1 (lv_at hl 0 rfl) (lv_at hl 3 rfl) hL (by omega) (by decide) dL_law_374 dL_law_375 dL_law_376 dL_law_377 dL_law_378 ?_
  refine lw_arg (j := 2) C0 hS1 (lv_at hl 0 rfl) (lv_at hl 3 rfl) hL (by omega) (by decide) dL_law_379 dL_law_380 dL_law_381 dL_law_382 dL_law_383 ?_
  refine lw_call (G := G2) (K := kR) (As := [vI (xs (i + 1)).toInt, vI (xs (i + 2)).toInt]) (rest := [.int (Int32.ofInt z)]) C0 dL_law_384 lkL_30 lmX10_set rn0 lw_k10 rfl (by decide) c2 (am_oks_cons (am_ti (xs (i + 1))) (am_oks_cons (am_ti (xs (i + 2))) am_okn)) on hG.lo2 a5 hS1 hR2 hl.1 (Nat.le_of_ble_eq_true rfl) (Nat.le_of_ble_eq_true rfl) (Nat.le_of_ble_eq_true rfl) (by simp [am_cv, Int32.ofInt_toInt]) (fun y n2 H2 locs2 hP2 hy hR2 on hS2 hk2 => ?_)
  have hR1 := lw_kept hR1 hG.d1 hk2
  obtain ⟨rfl, hJ⟩ := hPR z y m2 n2 hP1 hP2
  exact lv_icmp_eq (tgt := 1654) hx hb dL_law_387 (by decide) (fun _ => kk H2 locs2 ⟨hS2, m2, n2, hJ, hR1, hR2, om, on⟩) (fun q => absurd rfl q)
theorem lkL_31 : Cond.methodLink R_law 31 mX9_setTrack.1 ∈ lw_tbl ∧ Cond.instanceMethod mX9_setTrack.1 ∈ lw_tbl ∧ Cond.selects mX9_setTrack.1.cls mX9_setTrack.1 mX9_setTrack.1 ∈ lw_tbl := ⟨List.mem_of_getElem? (i := 517) (by decide +kernel), List.mem_of_getElem? (i := 518) (by decide +kernel), List.mem_of_getElem? (i := 519) (by decide +kernel)⟩
theorem lkL_35 : Cond.methodLink R_law 35 mX10_setTrack.1 ∈ lw_tbl ∧ Cond.instanceMethod mX10_setTrack.1 ∈ lw_tbl ∧ Cond.selects mX10_setTrack.1.cls mX10_setTrack.1 mX10_setTrack.1 ∈ lw_tbl := ⟨List.mem_of_getElem? (i := 1234) (by decide +kernel), List.mem_of_getElem? (i := 1235) (by decide +kernel), List.mem_of_getElem? (i := 1236) (by decide +kernel)⟩
theorem lc_4 (C0 : lw_At p s m meth c b L xs) (hL : L ≤ 3072) (hG : lw_C s G1 G2) (hi : i + 6 ≤ L) (hK : K < 99999) (hV : lw_S s G1 G2 K H locs) (hl : lv_has ls 4 (lw_l G1 G2 b i)) (kk : ∀ (H2 : Heap) (locs2 : List Loc), lw_S s G1 G2 (K + 1) H2 locs2 → W p l e room_1 s m #[Value.ref b] below meth c H2 locs2 180 36349 Z (F0 m 1654 ls [])) : W p l e room_1 s m #[Value.ref b] below meth c H locs 180 36349 Z (F0 m 392 ls []) := by
  obtain ⟨hx, hb, hret, hml, hown, hts, hX, hbl, hlocks, hgv⟩ := id C0
  obtain ⟨a1, a2, a3, a4, a5⟩ := id hG
  obtain ⟨hS, μ, ν, hJ, hR1, hR2, om, on⟩ := hV
  obtain ⟨P, R, c1, c2, hPR⟩ := jc_setTrack (x1 := (xs (i + 1)).toInt) (x2 := (xs (i + 2)).toInt) (x3 := (xs (i + 3)).toInt) hJ hK
  refine lv_aload_n hx hb dL_law_392 rfl (lv_at hl 1 rfl) ?_
  refine lw_arg (j := 1) C0 hS (lv_at hl 0 rfl) (lv_at hl 3 rfl) hL (by omega) (by decide) dL_law_393 dL_law_394 dL_law_395 dL_law_396 dL_law_397 ?_
  refine lw_arg (j := 2) C0 hS (lv_at hl 0 rfl) (lv_at hl 3 rfl) hL (by omega) (by decide) dL_law_398 dL_law_399 dL_law_400 dL_law_401 dL_law_402 ?_
  refine lw_arg (j := 3) C0 hS (lv_at hl 0 rfl) (lv_at hl 3 rfl) hL (by omega) (by decide) dL_law_403 dL_law_404 dL_law_405 dL_law_406 dL_law_407 ?_
  refine lw_call (G := G1) (K := kC) (As := [vI (xs (i + 1)).toInt, vI (xs (i + 2)).toInt, vI (xs (i + 3)).toInt]) (rest := []) C0 dL_law_408 lkL_31 lmX9_setTrack kn0 lw_k9 rfl (by decide) c1 (am_oks_cons (am_ti (xs (i + 1))) (am_oks_cons (am_ti (xs (i + 2))) (am_oks_cons (am_ti (xs (i + 3))) am_okn))) om a1 a2 hS hR1 hl.1 (Nat.zero_le _) (Nat.le_of_ble_eq_true rfl) (Nat.le_of_ble_eq_true rfl) (by simp [am_cv, Int32.ofInt_toInt]) (fun z m2 H1 locs1 hP1 hz hR1 om hS1 hk1 => ?_)
  have hR2 := lw_kept hR2 hG.d2 hk1
  refine lv_aload_n hx hb dL_law_411 rfl (lv_at hl 2 rfl) ?_
  refine lw_arg (j := 1) C0 hS1 (lv_at hl 0 rfl) (lv_at hl 3 rfl) hL (by omega) (by decide) dL_law_412 dL_law_413 dL_law_414 dL_law_415 dL_law_416 ?_
  refine lw_arg (j := 2) C0 hS1 (lv_at hl 0 rfl) (lv_at hl 3 rfl) hL (by omega) (by decide) dL_law_417 dL_law_418 dL_law_419 dL_law_420 dL_law_421 ?_
  refine lw_arg (j := 3) C0 hS1 (lv_at hl 0 rfl) (lv_at hl 3 rfl) hL (by omega) (by decide) dL_law_422 dL_law_423 dL_law_424 dL_law_425 dL_law_426 ?_
  refine lw_call (G := G2) (K := kR) (As := [vI (xs (i + 1)).toInt, vI (xs (i + 2)).toInt, vI (xs (i + 3)).toInt]) (rest := [.int (Int32.ofInt z)]) C0 dL_law_427 lkL_35 lmX10_setTrack rn0 lw_k10 rfl (by decide) c2 (am_oks_cons (am_ti (xs (i + 1))) (am_oks_cons (am_ti (xs (i + 2))) (am_oks_cons (am_ti (xs (i + 3))) am_okn))) on hG.lo2 a5 hS1 hR2 hl.1 (Nat.le_of_ble_eq_true rfl) (Nat.le_of_ble_eq_true rfl) (Nat.le_of_ble_eq_true rfl) (by simp [am_cv, Int32.ofInt_toInt]) (fun y n2 H2 locs2 hP2 hy hR2 on hS2 hk2 => ?_)
  have hR1 := lw_kept hR1 hG.d1 hk2
  obtain ⟨rfl, hJ⟩ := hPR z y m2 n2 hP1 hP2
  exact lv_icmp_eq (tgt := 1654) hx hb dL_law_430 (by decide) (fun _ => kk H2 locs2 ⟨hS2, m2, n2, hJ, hR1, hR2, om, on⟩) (fun q => absurd rfl q)
theorem lkL_36 : Cond.methodLink R_law 36 mX9_track.1 ∈ lw_tbl ∧ Cond.instanceMethod mX9_track.1 ∈ lw_tbl ∧ Cond.selects mX9_track.1.cls mX9_track.1 mX9_track.1 ∈ lw_tbl := ⟨List.mem_of_getElem? (i := 535) (by decide +kernel), List.mem_of_getElem? (i := 536) (by decide +kernel), List.mem_of_getElem? (i := 537) (by decide +kernel)⟩
theorem lkL_39 : Cond.methodLink R_law 39 mX10_track.1 ∈ lw_tbl ∧ Cond.instanceMethod mX10_track.1 ∈ lw_tbl ∧ Cond.selects mX10_track.1.cls mX10_track.1 mX10_track.1 ∈ lw_tbl := ⟨List.mem_of_getElem? (i := 1248) (by decide +kernel), List.mem_of_getElem? (i := 1249) (by decide +kernel), List.mem_of_getElem? (i := 1250) (by decide +kernel)⟩
theorem lc_5 (C0 : lw_At p s m meth c b L xs) (hL : L ≤ 3072) (hG : lw_C s G1 G2) (hi : i + 6 ≤ L) (hK : K < 99999) (hV : lw_S s G1 G2 K H locs) (hl : lv_has ls 4 (lw_l G1 G2 b i)) (kk : ∀ (H2 : Heap) (locs2 : List Loc), lw_S s G1 G2 (K + 1) H2 locs2 → W p l e room_1 s m #[Value.ref b] below meth c H2 locs2 180 36349 Z (F0 m 1654 ls [])) : W p l e room_1 s m #[Value.ref b] below meth c H locs 180 36349 Z (F0 m 435 ls []) := by
  obtain ⟨hx, hb, hret, hml, hown, hts, hX, hbl, hlocks, hgv⟩ := id C0
  obtain ⟨a1, a2, a3, a4, a5⟩ := id hG
  obtain ⟨hS, μ, ν, hJ, hR1, hR2, om, on⟩ := hV
  obtain ⟨P, R, c1, c2, hPR⟩ := jc_track (x1 := (xs (i + 1)).toInt) (x2 := (xs (i + 2)).toInt) hJ hK
  refine lv_aload_n hx hb dL_law_435 rfl (lv_at hl 1 rfl) ?_
  refine lw_arg (j := 1) C0 hS (lv_at hl 0 rfl) (lv_at hl 3 rfl) hL (by omega) (by decide) dL_law_436 dL_law_437 dL_law_438 dL_law_439 dL_law_440 ?_
  refine lw_arg (j := 2) C0 hS (lv_at hl 0 rfl) (lv_at hl 3 rfl) hL (by omega) (by decide) dL_law_441 dL_law_442 dL_law_443 dL_law_444 dL_law_445 ?_
  refine lw_call (G := G1) (K := kC) (As := [vI (xs (i + 1)).toInt, vI (xs (i + 2)).toInt]) (rest := []) C0 dL_law_446 lkL_36 lmX9_track kn0 lw_k9 rfl (by decide) c1 (am_oks_cons (am_ti (xs (i + 1))) (am_oks_cons (am_ti (xs (i + 2))) am_okn)) om a1 a2 hS hR1 hl.1 (Nat.zero_le _) (Nat.le_of_ble_eq_true rfl) (Nat.le_of_ble_eq_true rfl) (by simp [am_cv, Int32.ofInt_toInt]) (fun z m2 H1 locs1 hP1 hz hR1 om hS1 hk1 => ?_)
  have hR2 := lw_kept hR2 hG.d2 hk1
  refine lv_aload_n hx hb dL_law_449 rfl (lv_at hl 2 rfl) ?_
  refine lw_arg (j := 1) C0 hS1 (lv_at hl 0 rfl) (lv_at hl 3 rfl) hL (by omega) (by decide) dL_law_450 dL_law_451 dL_law_452 dL_law_453 dL_law_454 ?_
  refine lw_arg (j := 2) C0 hS1 (lv_at hl 0 rfl) (lv_at hl 3 rfl) hL (by omega) (by decide) dL_law_455 dL_law_456 dL_law_457 dL_law_458 dL_law_459 ?_
  refine lw_call (G := G2) (K := kR) (As := [vI (xs (i + 1)).toInt, vI (xs (i + 2)).toInt]) (rest := [.int (Int32.ofInt z)]) C0 dL_law_460 lkL_39 lmX10_track rn0 lw_k10 rfl (by decide) c2 (am_oks_cons (am_ti (xs (i + 1))) (am_oks_cons (am_ti (xs (i + 2))) am_okn)) on hG.lo2 a5 hS1 hR2 hl.1 (Nat.le_of_ble_eq_true rfl) (Nat.le_of_ble_eq_true rfl) (Nat.le_of_ble_eq_true rfl) (by simp [am_cv, Int32.ofInt_toInt]) (fun y n2 H2 locs2 hP2 hy hR2 on hS2 hk2 => ?_)
  have hR1 := lw_kept hR1 hG.d1 hk2
  obtain ⟨rfl, hJ⟩ := hPR z y m2 n2 hP1 hP2
  exact lv_icmp_eq (tgt := 1654) hx hb dL_law_463 (by decide) (fun _ => kk H2 locs2 ⟨hS2, m2, n2, hJ, hR1, hR2, om, on⟩) (fun q => absurd rfl q)
theorem lkL_40 : Cond.methodLink R_law 40 mX9_addClip.1 ∈ lw_tbl ∧ Cond.instanceMethod mX9_addClip.1 ∈ lw_tbl ∧ Cond.selects mX9_addClip.1.cls mX9_addClip.1 mX9_addClip.1 ∈ lw_tbl := ⟨List.mem_of_getElem? (i := 565) (by decide +kernel), List.mem_of_getElem? (i := 566) (by decide +kernel), List.mem_of_getElem? (i := 567) (by decide +kernel)⟩
theorem lkL_44 : Cond.methodLink R_law 44 mX10_addClip.1 ∈ lw_tbl ∧ Cond.instanceMethod mX10_addClip.1 ∈ lw_tbl ∧ Cond.selects mX10_addClip.1.cls mX10_addClip.1 mX10_addClip.1 ∈ lw_tbl := ⟨List.mem_of_getElem? (i := 1272) (by decide +kernel), List.mem_of_getElem? (i := 1273) (by decide +kernel), List.mem_of_getElem? (i := 1274) (by decide +kernel)⟩
theorem lc_6 (C0 : lw_At p s m meth c b L xs) (hL : L ≤ 3072) (hG : lw_C s G1 G2) (hi : i + 6 ≤ L) (hK : K < 99999) (hV : lw_S s G1 G2 K H locs) (hl : lv_has ls 4 (lw_l G1 G2 b i)) (kk : ∀ (H2 : Heap) (locs2 : List Loc), lw_S s G1 G2 (K + 1) H2 locs2 → W p l e room_1 s m #[Value.ref b] below meth c H2 locs2 180 36349 Z (F0 m 1654 ls [])) : W p l e room_1 s m #[Value.ref b] below meth c H locs 180 36349 Z (F0 m 468 ls []) := by
  obtain ⟨hx, hb, hret, hml, hown, hts, hX, hbl, hlocks, hgv⟩ := id C0
  obtain ⟨a1, a2, a3, a4, a5⟩ := id hG
  obtain ⟨hS, μ, ν, hJ, hR1, hR2, om, on⟩ := hV
  obtain ⟨P, R, c1, c2, hPR⟩ := jc_addClip (x1 := (xs (i + 1)).toInt) (x2 := (xs (i + 2)).toInt) (x3 := (xs (i + 3)).toInt) (x4 := (xs (i + 4)).toInt) (x5 := (xs (i + 5)).toInt) hJ hK
  refine lv_aload_n hx hb dL_law_468 rfl (lv_at hl 1 rfl) ?_
  refine lw_arg (j := 1) C0 hS (lv_at hl 0 rfl) (lv_at hl 3 rfl) hL (by omega) (by decide) dL_law_469 dL_law_470 dL_law_471 dL_law_472 dL_law_473 ?_
  refine lw_arg (j := 2) C0 hS (lv_at hl 0 rfl) (lv_at hl 3 rfl) hL (by omega) (by decide) dL_law_474 dL_law_475 dL_law_476 dL_law_477 dL_law_478 ?_
  refine lw_arg (j := 3) C0 hS (lv_at hl 0 rfl) (lv_at hl 3 rfl) hL (by omega) (by decide) dL_law_479 dL_law_480 dL_law_481 dL_law_482 dL_law_483 ?_
  refine lw_arg (j := 4) C0 hS (lv_at hl 0 rfl) (lv_at hl 3 rfl) hL (by omega) (by decide) dL_law_484 dL_law_485 dL_law_486 dL_law_487 dL_law_488 ?_
  refine lw_arg (j := 5) C0 hS (lv_at hl 0 rfl) (lv_at hl 3 rfl) hL (by omega) (by decide) dL_law_489 dL_law_490 dL_law_491 dL_law_492 dL_law_493 ?_
  refine lw_call (G := G1) (K := kC) (As := [vI (xs (i + 1)).toInt, vI (xs (i + 2)).toInt, vI (xs (i + 3)).toInt, vI (xs (i + 4)).toInt, vI (xs (i + 5)).toInt]) (rest := []) C0 dL_law_494 lkL_40 lmX9_addClip kn0 lw_k9 rfl (by decide) c1 (am_oks_cons (am_ti (xs (i + 1))) (am_oks_cons (am_ti (xs (i + 2))) (am_oks_cons (am_ti (xs (i + 3))) (am_oks_cons (am_ti (xs (i + 4))) (am_oks_cons (am_ti (xs (i + 5))) am_okn))))) om a1 a2 hS hR1 hl.1 (Nat.zero_le _) (Nat.le_of_ble_eq_true rfl) (Nat.le_of_ble_eq_true rfl) (by simp [am_cv, Int32.ofInt_toInt]) (fun z m2 H1 locs1 hP1 hz hR1 om hS1 hk1 => ?_)
  have hR2 := lw_kept hR2 hG.d2 hk1
  refine lv_aload_n hx hb dL_law_497 rfl (lv_at hl 2 rfl) ?_
  refine lw_arg (j := 1) C0 hS1 (lv_at hl 0 rfl) (lv_at hl 3 rfl) hL (by omega) (by decide) dL_law_498 dL_law_499 dL_law_500 dL_law_501 dL_law_502 ?_
  refine lw_arg (j := 2) C0 hS1 (lv_at hl 0 rfl) (lv_at hl 3 rfl) hL (by omega) (by decide) dL_law_503 dL_law_504 dL_law_505 dL_law_506 dL_law_507 ?_
  refine lw_arg (j := 3) C0 hS1 (lv_at hl 0 rfl) (lv_at hl 3 rfl) hL (by omega) (by decide) dL_law_508 dL_law_509 dL_law_510 dL_law_511 dL_law_512 ?_
  refine lw_arg (j := 4) C0 hS1 (lv_at hl 0 rfl) (lv_at hl 3 rfl) hL (by omega) (by decide) dL_law_513 dL_law_514 dL_law_515 dL_law_516 dL_law_517 ?_
  refine lw_arg (j := 5) C0 hS1 (lv_at hl 0 rfl) (lv_at hl 3 rfl) hL (by omega) (by decide) dL_law_518 dL_law_519 dL_law_520 dL_law_521 dL_law_522 ?_
  refine lw_call (G := G2) (K := kR) (As := [vI (xs (i + 1)).toInt, vI (xs (i + 2)).toInt, vI (xs (i + 3)).toInt, vI (xs (i + 4)).toInt, vI (xs (i + 5)).toInt]) (rest := [.int (Int32.ofInt z)]) C0 dL_law_523 lkL_44 lmX10_addClip rn0 lw_k10 rfl (by decide) c2 (am_oks_cons (am_ti (xs (i + 1))) (am_oks_cons (am_ti (xs (i + 2))) (am_oks_cons (am_ti (xs (i + 3))) (am_oks_cons (am_ti (xs (i + 4))) (am_oks_cons (am_ti (xs (i + 5))) am_okn))))) on hG.lo2 a5 hS1 hR2 hl.1 (Nat.le_of_ble_eq_true rfl) (Nat.le_of_ble_eq_true rfl) (Nat.le_of_ble_eq_true rfl) (by simp [am_cv, Int32.ofInt_toInt]) (fun y n2 H2 locs2 hP2 hy hR2 on hS2 hk2 => ?_)
  have hR1 := lw_kept hR1 hG.d1 hk2
  obtain ⟨rfl, hJ⟩ := hPR z y m2 n2 hP1 hP2
  exact lv_icmp_eq (tgt := 1654) hx hb dL_law_526 (by decide) (fun _ => kk H2 locs2 ⟨hS2, m2, n2, hJ, hR1, hR2, om, on⟩) (fun q => absurd rfl q)
theorem lkL_45 : Cond.methodLink R_law 45 mX9_clip.1 ∈ lw_tbl ∧ Cond.instanceMethod mX9_clip.1 ∈ lw_tbl ∧ Cond.selects mX9_clip.1.cls mX9_clip.1 mX9_clip.1 ∈ lw_tbl := ⟨List.mem_of_getElem? (i := 593) (by decide +kernel), List.mem_of_getElem? (i := 594) (by decide +kernel), List.mem_of_getElem? (i := 595) (by decide +kernel)⟩
theorem lkL_48 : Cond.methodLink R_law 48 mX10_clip.1 ∈ lw_tbl ∧ Cond.instanceMethod mX10_clip.1 ∈ lw_tbl ∧ Cond.selects mX10_clip.1.cls mX10_clip.1 mX10_clip.1 ∈ lw_tbl := ⟨List.mem_of_getElem? (i := 1284) (by decide +kernel), List.mem_of_getElem? (i := 1285) (by decide +kernel), List.mem_of_getElem? (i := 1286) (by decide +kernel)⟩
theorem lc_7 (C0 : lw_At p s m meth c b L xs) (hL : L ≤ 3072) (hG : lw_C s G1 G2) (hi : i + 6 ≤ L) (hK : K < 99999) (hV : lw_S s G1 G2 K H locs) (hl : lv_has ls 4 (lw_l G1 G2 b i)) (kk : ∀ (H2 : Heap) (locs2 : List Loc), lw_S s G1 G2 (K + 1) H2 locs2 → W p l e room_1 s m #[Value.ref b] below meth c H2 locs2 180 36349 Z (F0 m 1654 ls [])) : W p l e room_1 s m #[Value.ref b] below meth c H locs 180 36349 Z (F0 m 531 ls []) := by
  obtain ⟨hx, hb, hret, hml, hown, hts, hX, hbl, hlocks, hgv⟩ := id C0
  obtain ⟨a1, a2, a3, a4, a5⟩ := id hG
  obtain ⟨hS, μ, ν, hJ, hR1, hR2, om, on⟩ := hV
  obtain ⟨P, R, c1, c2, hPR⟩ := jc_clip (x1 := (xs (i + 1)).toInt) (x2 := (xs (i + 2)).toInt) hJ hK
  refine lv_aload_n hx hb dL_law_531 rfl (lv_at hl 1 rfl) ?_
  refine lw_arg (j := 1) C0 hS (lv_at hl 0 rfl) (lv_at hl 3 rfl) hL (by omega) (by decide) dL_law_532 dL_law_533 dL_law_534 dL_law_535 dL_law_536 ?_
  refine lw_arg (j := 2) C0 hS (lv_at hl 0 rfl) (lv_at hl 3 rfl) hL (by omega) (by decide) dL_law_537 dL_law_538 dL_law_539 dL_law_540 dL_law_541 ?_
  refine lw_call (G := G1) (K := kC) (As := [vI (xs (i + 1)).toInt, vI (xs (i + 2)).toInt]) (rest := []) C0 dL_law_542 lkL_45 lmX9_clip kn0 lw_k9 rfl (by decide) c1 (am_oks_cons (am_ti (xs (i + 1))) (am_oks_cons (am_ti (xs (i + 2))) am_okn)) om a1 a2 hS hR1 hl.1 (Nat.zero_le _) (Nat.le_of_ble_eq_true rfl) (Nat.le_of_ble_eq_true rfl) (by simp [am_cv, Int32.ofInt_toInt]) (fun z m2 H1 locs1 hP1 hz hR1 om hS1 hk1 => ?_)
  have hR2 := lw_kept hR2 hG.d2 hk1
  refine lv_aload_n hx hb dL_law_545 rfl (lv_at hl 2 rfl) ?_
  refine lw_arg (j := 1) C0 hS1 (lv_at hl 0 rfl) (lv_at hl 3 rfl) hL (by omega) (by decide) dL_law_546 dL_law_547 dL_law_548 dL_law_549 dL_law_550 ?_
  refine lw_arg (j := 2) C0 hS1 (lv_at hl 0 rfl) (lv_at hl 3 rfl) hL (by omega) (by decide) dL_law_551 dL_law_552 dL_law_553 dL_law_554 dL_law_555 ?_
  refine lw_call (G := G2) (K := kR) (As := [vI (xs (i + 1)).toInt, vI (xs (i + 2)).toInt]) (rest := [.int (Int32.ofInt z)]) C0 dL_law_556 lkL_48 lmX10_clip rn0 lw_k10 rfl (by decide) c2 (am_oks_cons (am_ti (xs (i + 1))) (am_oks_cons (am_ti (xs (i + 2))) am_okn)) on hG.lo2 a5 hS1 hR2 hl.1 (Nat.le_of_ble_eq_true rfl) (Nat.le_of_ble_eq_true rfl) (Nat.le_of_ble_eq_true rfl) (by simp [am_cv, Int32.ofInt_toInt]) (fun y n2 H2 locs2 hP2 hy hR2 on hS2 hk2 => ?_)
  have hR1 := lw_kept hR1 hG.d1 hk2
  obtain ⟨rfl, hJ⟩ := hPR z y m2 n2 hP1 hP2
  exact lv_icmp_eq (tgt := 1654) hx hb dL_law_559 (by decide) (fun _ => kk H2 locs2 ⟨hS2, m2, n2, hJ, hR1, hR2, om, on⟩) (fun q => absurd rfl q)
theorem lkL_49 : Cond.methodLink R_law 49 mX9_setClip.1 ∈ lw_tbl ∧ Cond.instanceMethod mX9_setClip.1 ∈ lw_tbl ∧ Cond.selects mX9_setClip.1.cls mX9_setClip.1 mX9_setClip.1 ∈ lw_tbl := ⟨List.mem_of_getElem? (i := 610) (by decide +kernel), List.mem_of_getElem? (i := 611) (by decide +kernel), List.mem_of_getElem? (i := 612) (by decide +kernel)⟩
theorem lkL_52 : Cond.methodLink R_law 52 mX10_setClip.1 ∈ lw_tbl ∧ Cond.instanceMethod mX10_setClip.1 ∈ lw_tbl ∧ Cond.selects mX10_setClip.1.cls mX10_setClip.1 mX10_setClip.1 ∈ lw_tbl := ⟨List.mem_of_getElem? (i := 1292) (by decide +kernel), List.mem_of_getElem? (i := 1293) (by decide +kernel), List.mem_of_getElem? (i := 1294) (by decide +kernel)⟩
theorem lc_8 (C0 : lw_At p s m meth c b L xs) (hL : L ≤ 3072) (hG : lw_C s G1 G2) (hi : i + 6 ≤ L) (hK : K < 99999) (hV : lw_S s G1 G2 K H locs) (hl : lv_has ls 4 (lw_l G1 G2 b i)) (kk : ∀ (H2 : Heap) (locs2 : List Loc), lw_S s G1 G2 (K + 1) H2 locs2 → W p l e room_1 s m #[Value.ref b] below meth c H2 locs2 180 36349 Z (F0 m 1654 ls [])) : W p l e room_1 s m #[Value.ref b] below meth c H locs 180 36349 Z (F0 m 564 ls []) := by
  obtain ⟨hx, hb, hret, hml, hown, hts, hX, hbl, hlocks, hgv⟩ := id C0
  obtain ⟨a1, a2, a3, a4, a5⟩ := id hG
  obtain ⟨hS, μ, ν, hJ, hR1, hR2, om, on⟩ := hV
  obtain ⟨P, R, c1, c2, hPR⟩ := jc_setClip (x1 := (xs (i + 1)).toInt) (x2 := (xs (i + 2)).toInt) (x3 := (xs (i + 3)).toInt) hJ hK
  refine lv_aload_n hx hb dL_law_564 rfl (lv_at hl 1 rfl) ?_
  refine lw_arg (j := 1) C0 hS (lv_at hl 0 rfl) (lv_at hl 3 rfl) hL (by omega) (by decide) dL_law_565 dL_law_566 dL_law_567 dL_law_568 dL_law_569 ?_
  refine lw_arg (j := 2) C0 hS (lv_at hl 0 rfl) (lv_at hl 3 rfl) hL (by omega) (by decide) dL_law_570 dL_law_571 dL_law_572 dL_law_573 dL_law_574 ?_
  refine lw_arg (j := 3) C0 hS (lv_at hl 0 rfl) (lv_at hl 3 rfl) hL (by omega) (by decide) dL_law_575 dL_law_576 dL_law_577 dL_law_578 dL_law_579 ?_
  refine lw_call (G := G1) (K := kC) (As := [vI (xs (i + 1)).toInt, vI (xs (i + 2)).toInt, vI (xs (i + 3)).toInt]) (rest := []) C0 dL_law_580 lkL_49 lmX9_setClip kn0 lw_k9 rfl (by decide) c1 (am_oks_cons (am_ti (xs (i + 1))) (am_oks_cons (am_ti (xs (i + 2))) (am_oks_cons (am_ti (xs (i + 3))) am_okn))) om a1 a2 hS hR1 hl.1 (Nat.zero_le _) (Nat.le_of_ble_eq_true rfl) (Nat.le_of_ble_eq_true rfl) (by simp [am_cv, Int32.ofInt_toInt]) (fun z m2 H1 locs1 hP1 hz hR1 om hS1 hk1 => ?_)
  have hR2 := lw_kept hR2 hG.d2 hk1
  refine lv_aload_n hx hb dL_law_583 rfl (lv_at hl 2 rfl) ?_
  refine lw_arg (j := 1) C0 hS1 (lv_at hl 0 rfl) (lv_at hl 3 rfl) hL (by omega) (by decide) dL_law_584 dL_law_585 dL_law_586 dL_law_587 dL_law_588 ?_
  refine lw_arg (j := 2) C0 hS1 (lv_at hl 0 rfl) (lv_at hl 3 rfl) hL (by omega) (by decide) dL_law_589 dL_law_590 dL_law_591 dL_law_592 dL_law_593 ?_
  refine lw_arg (j := 3) C0 hS1 (lv_at hl 0 rfl) (lv_at hl 3 rfl) hL (by omega) (by decide) dL_law_594 dL_law_595 dL_law_596 dL_law_597 dL_law_598 ?_
  refine lw_call (G := G2) (K := kR) (As := [vI (xs (i + 1)).toInt, vI (xs (i + 2)).toInt, vI (xs (i + 3)).toInt]) (rest := [.int (Int32.ofInt z)]) C0 dL_law_599 lkL_52 lmX10_setClip rn0 lw_k10 rfl (by decide) c2 (am_oks_cons (am_ti (xs (i + 1))) (am_oks_cons (am_ti (xs (i + 2))) (am_oks_cons (am_ti (xs (i + 3))) am_okn))) on hG.lo2 a5 hS1 hR2 hl.1 (Nat.le_of_ble_eq_true rfl) (Nat.le_of_ble_eq_true rfl) (Nat.le_of_ble_eq_true rfl) (by simp [am_cv, Int32.ofInt_toInt]) (fun y n2 H2 locs2 hP2 hy hR2 on hS2 hk2 => ?_)
  have hR1 := lw_kept hR1 hG.d1 hk2
  obtain ⟨rfl, hJ⟩ := hPR z y m2 n2 hP1 hP2
  exact lv_icmp_eq (tgt := 1654) hx hb dL_law_602 (by decide) (fun _ => kk H2 locs2 ⟨hS2, m2, n2, hJ, hR1, hR2, om, on⟩) (fun q => absurd rfl q)
theorem lkL_53 : Cond.methodLink R_law 53 mX9_moveClip.1 ∈ lw_tbl ∧ Cond.instanceMethod mX9_moveClip.1 ∈ lw_tbl ∧ Cond.selects mX9_moveClip.1.cls mX9_moveClip.1 mX9_moveClip.1 ∈ lw_tbl := ⟨List.mem_of_getElem? (i := 620) (by decide +kernel), List.mem_of_getElem? (i := 621) (by decide +kernel), List.mem_of_getElem? (i := 622) (by decide +kernel)⟩
theorem lkL_56 : Cond.methodLink R_law 56 mX10_moveClip.1 ∈ lw_tbl ∧ Cond.instanceMethod mX10_moveClip.1 ∈ lw_tbl ∧ Cond.selects mX10_moveClip.1.cls mX10_moveClip.1 mX10_moveClip.1 ∈ lw_tbl := ⟨List.mem_of_getElem? (i := 1296) (by decide +kernel), List.mem_of_getElem? (i := 1297) (by decide +kernel), List.mem_of_getElem? (i := 1298) (by decide +kernel)⟩
theorem lc_9 (C0 : lw_At p s m meth c b L xs) (hL : L ≤ 3072) (hG : lw_C s G1 G2) (hi : i + 6 ≤ L) (hK : K < 99999) (hV : lw_S s G1 G2 K H locs) (hl : lv_has ls 4 (lw_l G1 G2 b i)) (kk : ∀ (H2 : Heap) (locs2 : List Loc), lw_S s G1 G2 (K + 1) H2 locs2 → W p l e room_1 s m #[Value.ref b] below meth c H2 locs2 180 36349 Z (F0 m 1654 ls [])) : W p l e room_1 s m #[Value.ref b] below meth c H locs 180 36349 Z (F0 m 607 ls []) := by
  obtain ⟨hx, hb, hret, hml, hown, hts, hX, hbl, hlocks, hgv⟩ := id C0
  obtain ⟨a1, a2, a3, a4, a5⟩ := id hG
  obtain ⟨hS, μ, ν, hJ, hR1, hR2, om, on⟩ := hV
  obtain ⟨P, R, c1, c2, hPR⟩ := jc_moveClip (x1 := (xs (i + 1)).toInt) (x2 := (xs (i + 2)).toInt) (x3 := (xs (i + 3)).toInt) hJ hK
  refine lv_aload_n hx hb dL_law_607 rfl (lv_at hl 1 rfl) ?_
  refine lw_arg (j := 1) C0 hS (lv_at hl 0 rfl) (lv_at hl 3 rfl) hL (by omega) (by decide) dL_law_608 dL_law_609 dL_law_610 dL_law_611 dL_law_612 ?_
  refine lw_arg (j := 2) C0 hS (lv_at hl 0 rfl) (lv_at hl 3 rfl) hL (by omega) (by decide) dL_law_613 dL_law_614 dL_law_615 dL_law_616 dL_law_617 ?_
  refine lw_arg (j := 3) C0 hS (lv_at hl 0 rfl) (lv_at hl 3 rfl) hL (by omega) (by decide) dL_law_618 dL_law_619 dL_law_620 dL_law_621 dL_law_622 ?_
  refine lw_call (G := G1) (K := kC) (As := [vI (xs (i + 1)).toInt, vI (xs (i + 2)).toInt, vI (xs (i + 3)).toInt]) (rest := []) C0 dL_law_623 lkL_53 lmX9_moveClip kn0 lw_k9 rfl (by decide) c1 (am_oks_cons (am_ti (xs (i + 1))) (am_oks_cons (am_ti (xs (i + 2))) (am_oks_cons (am_ti (xs (i + 3))) am_okn))) om a1 a2 hS hR1 hl.1 (Nat.zero_le _) (Nat.le_of_ble_eq_true rfl) (Nat.le_of_ble_eq_true rfl) (by simp [am_cv, Int32.ofInt_toInt]) (fun z m2 H1 locs1 hP1 hz hR1 om hS1 hk1 => ?_)
  have hR2 := lw_kept hR2 hG.d2 hk1
  refine lv_aload_n hx hb dL_law_626 rfl (lv_at hl 2 rfl) ?_
  refine lw_arg (j := 1) C0 hS1 (lv_at hl 0 rfl) (lv_at hl 3 rfl) hL (by omega) (by decide) dL_law_627 dL_law_628 dL_law_629 dL_law_630 dL_law_631 ?_
  refine lw_arg (j := 2) C0 hS1 (lv_at hl 0 rfl) (lv_at hl 3 rfl) hL (by omega) (by decide) dL_law_632 dL_law_633 dL_law_634 dL_law_635 dL_law_636 ?_
  refine lw_arg (j := 3) C0 hS1 (lv_at hl 0 rfl) (lv_at hl 3 rfl) hL (by omega) (by decide) dL_law_637 dL_law_638 dL_law_639 dL_law_640 dL_law_641 ?_
  refine lw_call (G := G2) (K := kR) (As := [vI (xs (i + 1)).toInt, vI (xs (i + 2)).toInt, vI (xs (i + 3)).toInt]) (rest := [.int (Int32.ofInt z)]) C0 dL_law_642 lkL_56 lmX10_moveClip rn0 lw_k10 rfl (by decide) c2 (am_oks_cons (am_ti (xs (i + 1))) (am_oks_cons (am_ti (xs (i + 2))) (am_oks_cons (am_ti (xs (i + 3))) am_okn))) on hG.lo2 a5 hS1 hR2 hl.1 (Nat.le_of_ble_eq_true rfl) (Nat.le_of_ble_eq_true rfl) (Nat.le_of_ble_eq_true rfl) (by simp [am_cv, Int32.ofInt_toInt]) (fun y n2 H2 locs2 hP2 hy hR2 on hS2 hk2 => ?_)
  have hR1 := lw_kept hR1 hG.d1 hk2
  obtain ⟨rfl, hJ⟩ := hPR z y m2 n2 hP1 hP2
  exact lv_icmp_eq (tgt := 1654) hx hb dL_law_645 (by decide) (fun _ => kk H2 locs2 ⟨hS2, m2, n2, hJ, hR1, hR2, om, on⟩) (fun q => absurd rfl q)
theorem lkL_57 : Cond.methodLink R_law 57 mX9_trim.1 ∈ lw_tbl ∧ Cond.instanceMethod mX9_trim.1 ∈ lw_tbl ∧ Cond.selects mX9_trim.1.cls mX9_trim.1 mX9_trim.1 ∈ lw_tbl := ⟨List.mem_of_getElem? (i := 644) (by decide +kernel), List.mem_of_getElem? (i := 645) (by decide +kernel), List.mem_of_getElem? (i := 646) (by decide +kernel)⟩
theorem lkL_60 : Cond.methodLink R_law 60 mX10_trim.1 ∈ lw_tbl ∧ Cond.instanceMethod mX10_trim.1 ∈ lw_tbl ∧ Cond.selects mX10_trim.1.cls mX10_trim.1 mX10_trim.1 ∈ lw_tbl := ⟨List.mem_of_getElem? (i := 1327) (by decide +kernel), List.mem_of_getElem? (i := 1328) (by decide +kernel), List.mem_of_getElem? (i := 1329) (by decide +kernel)⟩
theorem lc_10 (C0 : lw_At p s m meth c b L xs) (hL : L ≤ 3072) (hG : lw_C s G1 G2) (hi : i + 6 ≤ L) (hK : K < 99999) (hV : lw_S s G1 G2 K H locs) (hl : lv_has ls 4 (lw_l G1 G2 b i)) (kk : ∀ (H2 : Heap) (locs2 : List Loc), lw_S s G1 G2 (K + 1) H2 locs2 → W p l e room_1 s m #[Value.ref b] below meth c H2 locs2 180 36349 Z (F0 m 1654 ls [])) : W p l e room_1 s m #[Value.ref b] below meth c H locs 180 36349 Z (F0 m 650 ls []) := by
  obtain ⟨hx, hb, hret, hml, hown, hts, hX, hbl, hlocks, hgv⟩ := id C0
  obtain ⟨a1, a2, a3, a4, a5⟩ := id hG
  obtain ⟨hS, μ, ν, hJ, hR1, hR2, om, on⟩ := hV
  obtain ⟨P, R, c1, c2, hPR⟩ := jc_trim (x1 := (xs (i + 1)).toInt) (x2 := (xs (i + 2)).toInt) (x3 := (xs (i + 3)).toInt) hJ hK
  refine lv_aload_n hx hb dL_law_650 rfl (lv_at hl 1 rfl) ?_
  refine lw_arg (j := 1) C0 hS (lv_at hl 0 rfl) (lv_at hl 3 rfl) hL (by omega) (by decide) dL_law_651 dL_law_652 dL_law_653 dL_law_654 dL_law_655 ?_
  refine lw_arg (j := 2) C0 hS (lv_at hl 0 rfl) (lv_at hl 3 rfl) hL (by omega) (by decide) dL_law_656 dL_law_657 dL_law_658 dL_law_659 dL_law_660 ?_
  refine lw_arg (j := 3) C0 hS (lv_at hl 0 rfl) (lv_at hl 3 rfl) hL (by omega) (by decide) dL_law_661 dL_law_662 dL_law_663 dL_law_664 dL_law_665 ?_
  refine lw_call (G := G1) (K := kC) (As := [vI (xs (i + 1)).toInt, vI (xs (i + 2)).toInt, vI (xs (i + 3)).toInt]) (rest := []) C0 dL_law_666 lkL_57 lmX9_trim kn0 lw_k9 rfl (by decide) c1 (am_oks_cons (am_ti (xs (i + 1))) (am_oks_cons (am_ti (xs (i + 2))) (am_oks_cons (am_ti (xs (i + 3))) am_okn))) om a1 a2 hS hR1 hl.1 (Nat.zero_le _) (Nat.le_of_ble_eq_true rfl) (Nat.le_of_ble_eq_true rfl) (by simp [am_cv, Int32.ofInt_toInt]) (fun z m2 H1 locs1 hP1 hz hR1 om hS1 hk1 => ?_)
  have hR2 := lw_kept hR2 hG.d2 hk1
  refine lv_aload_n hx hb dL_law_669 rfl (lv_at hl 2 rfl) ?_
  refine lw_arg (j := 1) C0 hS1 (lv_at hl 0 rfl) (lv_at hl 3 rfl) hL (by omega) (by decide) dL_law_670 dL_law_671 dL_law_672 dL_law_673 dL_law_674 ?_
  refine lw_arg (j := 2) C0 hS1 (lv_at hl 0 rfl) (lv_at hl 3 rfl) hL (by omega) (by decide) dL_law_675 dL_law_676 dL_law_677 dL_law_678 dL_law_679 ?_
  refine lw_arg (j := 3) C0 hS1 (lv_at hl 0 rfl) (lv_at hl 3 rfl) hL (by omega) (by decide) dL_law_680 dL_law_681 dL_law_682 dL_law_683 dL_law_684 ?_
  refine lw_call (G := G2) (K := kR) (As := [vI (xs (i + 1)).toInt, vI (xs (i + 2)).toInt, vI (xs (i + 3)).toInt]) (rest := [.int (Int32.ofInt z)]) C0 dL_law_685 lkL_60 lmX10_trim rn0 lw_k10 rfl (by decide) c2 (am_oks_cons (am_ti (xs (i + 1))) (am_oks_cons (am_ti (xs (i + 2))) (am_oks_cons (am_ti (xs (i + 3))) am_okn))) on hG.lo2 a5 hS1 hR2 hl.1 (Nat.le_of_ble_eq_true rfl) (Nat.le_of_ble_eq_true rfl) (Nat.le_of_ble_eq_true rfl) (by simp [am_cv, Int32.ofInt_toInt]) (fun y n2 H2 locs2 hP2 hy hR2 on hS2 hk2 => ?_)
  have hR1 := lw_kept hR1 hG.d1 hk2
  obtain ⟨rfl, hJ⟩ := hPR z y m2 n2 hP1 hP2
  exact lv_icmp_eq (tgt := 1654) hx hb dL_law_688 (by decide) (fun _ => kk H2 locs2 ⟨hS2, m2, n2, hJ, hR1, hR2, om, on⟩) (fun q => absurd rfl q)
theorem lkL_61 : Cond.methodLink R_law 61 mX9_divide.1 ∈ lw_tbl ∧ Cond.instanceMethod mX9_divide.1 ∈ lw_tbl ∧ Cond.selects mX9_divide.1.cls mX9_divide.1 mX9_divide.1 ∈ lw_tbl := ⟨List.mem_of_getElem? (i := 659) (by decide +kernel), List.mem_of_getElem? (i := 660) (by decide +kernel), List.mem_of_getElem? (i := 661) (by decide +kernel)⟩
theorem lkL_64 : Cond.methodLink R_law 64 mX10_divide.1 ∈ lw_tbl ∧ Cond.instanceMethod mX10_divide.1 ∈ lw_tbl ∧ Cond.selects mX10_divide.1.cls mX10_divide.1 mX10_divide.1 ∈ lw_tbl := ⟨List.mem_of_getElem? (i := 1335) (by decide +kernel), List.mem_of_getElem? (i := 1336) (by decide +kernel), List.mem_of_getElem? (i := 1337) (by decide +kernel)⟩
theorem lc_11 (C0 : lw_At p s m meth c b L xs) (hL : L ≤ 3072) (hG : lw_C s G1 G2) (hi : i + 6 ≤ L) (hK : K < 99999) (hV : lw_S s G1 G2 K H locs) (hl : lv_has ls 4 (lw_l G1 G2 b i)) (kk : ∀ (H2 : Heap) (locs2 : List Loc), lw_S s G1 G2 (K + 1) H2 locs2 → W p l e room_1 s m #[Value.ref b] below meth c H2 locs2 180 36349 Z (F0 m 1654 ls [])) : W p l e room_1 s m #[Value.ref b] below meth c H locs 180 36349 Z (F0 m 693 ls []) := by
  obtain ⟨hx, hb, hret, hml, hown, hts, hX, hbl, hlocks, hgv⟩ := id C0
  obtain ⟨a1, a2, a3, a4, a5⟩ := id hG
  obtain ⟨hS, μ, ν, hJ, hR1, hR2, om, on⟩ := hV
  obtain ⟨P, R, c1, c2, hPR⟩ := jc_divide (x1 := (xs (i + 1)).toInt) (x2 := (xs (i + 2)).toInt) hJ hK
  refine lv_aload_n hx hb dL_law_693 rfl (lv_at hl 1 rfl) ?_
  refine lw_arg (j := 1) C0 hS (lv_at hl 0 rfl) (lv_at hl 3 rfl) hL (by omega) (by decide) dL_law_694 dL_law_695 dL_law_696 dL_law_697 dL_law_698 ?_
  refine lw_arg (j := 2) C0 hS (lv_at hl 0 rfl) (lv_at hl 3 rfl) hL (by omega) (by decide) dL_law_699 dL_law_700 dL_law_701 dL_law_702 dL_law_703 ?_
  refine lw_call (G := G1) (K := kC) (As := [vI (xs (i + 1)).toInt, vI (xs (i + 2)).toInt]) (rest := []) C0 dL_law_704 lkL_61 lmX9_divide kn0 lw_k9 rfl (by decide) c1 (am_oks_cons (am_ti (xs (i + 1))) (am_oks_cons (am_ti (xs (i + 2))) am_okn)) om a1 a2 hS hR1 hl.1 (Nat.zero_le _) (Nat.le_of_ble_eq_true rfl) (Nat.le_of_ble_eq_true rfl) (by simp [am_cv, Int32.ofInt_toInt]) (fun z m2 H1 locs1 hP1 hz hR1 om hS1 hk1 => ?_)
  have hR2 := lw_kept hR2 hG.d2 hk1
  refine lv_aload_n hx hb dL_law_707 rfl (lv_at hl 2 rfl) ?_
  refine lw_arg (j := 1) C0 hS1 (lv_at hl 0 rfl) (lv_at hl 3 rfl) hL (by omega) (by decide) dL_law_708 dL_law_709 dL_law_710 dL_law_711 dL_law_712 ?_
  refine lw_arg (j := 2) C0 hS1 (lv_at hl 0 rfl) (lv_at hl 3 rfl) hL (by omega) (by decide) dL_law_713 dL_law_714 dL_law_715 dL_law_716 dL_law_717 ?_
  refine lw_call (G := G2) (K := kR) (As := [vI (xs (i + 1)).toInt, vI (xs (i + 2)).toInt]) (rest := [.int (Int32.ofInt z)]) C0 dL_law_718 lkL_64 lmX10_divide rn0 lw_k10 rfl (by decide) c2 (am_oks_cons (am_ti (xs (i + 1))) (am_oks_cons (am_ti (xs (i + 2))) am_okn)) on hG.lo2 a5 hS1 hR2 hl.1 (Nat.le_of_ble_eq_true rfl) (Nat.le_of_ble_eq_true rfl) (Nat.le_of_ble_eq_true rfl) (by simp [am_cv, Int32.ofInt_toInt]) (fun y n2 H2 locs2 hP2 hy hR2 on hS2 hk2 => ?_)
  have hR1 := lw_kept hR1 hG.d1 hk2
  obtain ⟨rfl, hJ⟩ := hPR z y m2 n2 hP1 hP2
  exact lv_icmp_eq (tgt := 1654) hx hb dL_law_721 (by decide) (fun _ => kk H2 locs2 ⟨hS2, m2, n2, hJ, hR1, hR2, om, on⟩) (fun q => absurd rfl q)
theorem lkL_65 : Cond.methodLink R_law 65 mX9_remove.1 ∈ lw_tbl ∧ Cond.instanceMethod mX9_remove.1 ∈ lw_tbl ∧ Cond.selects mX9_remove.1.cls mX9_remove.1 mX9_remove.1 ∈ lw_tbl := ⟨List.mem_of_getElem? (i := 672) (by decide +kernel), List.mem_of_getElem? (i := 673) (by decide +kernel), List.mem_of_getElem? (i := 674) (by decide +kernel)⟩
theorem lkL_69 : Cond.methodLink R_law 69 mX10_remove.1 ∈ lw_tbl ∧ Cond.instanceMethod mX10_remove.1 ∈ lw_tbl ∧ Cond.selects mX10_remove.1.cls mX10_remove.1 mX10_remove.1 ∈ lw_tbl := ⟨List.mem_of_getElem? (i := 1343) (by decide +kernel), List.mem_of_getElem? (i := 1344) (by decide +kernel), List.mem_of_getElem? (i := 1345) (by decide +kernel)⟩
theorem lc_12 (C0 : lw_At p s m meth c b L xs) (hL : L ≤ 3072) (hG : lw_C s G1 G2) (hi : i + 6 ≤ L) (hK : K < 99999) (hV : lw_S s G1 G2 K H locs) (hl : lv_has ls 4 (lw_l G1 G2 b i)) (kk : ∀ (H2 : Heap) (locs2 : List Loc), lw_S s G1 G2 (K + 1) H2 locs2 → W p l e room_1 s m #[Value.ref b] below meth c H2 locs2 180 36349 Z (F0 m 1654 ls [])) : W p l e room_1 s m #[Value.ref b] below meth c H locs 180 36349 Z (F0 m 726 ls []) := by
  obtain ⟨hx, hb, hret, hml, hown, hts, hX, hbl, hlocks, hgv⟩ := id C0
  obtain ⟨a1, a2, a3, a4, a5⟩ := id hG
  obtain ⟨hS, μ, ν, hJ, hR1, hR2, om, on⟩ := hV
  obtain ⟨P, R, c1, c2, hPR⟩ := jc_remove (x1 := (xs (i + 1)).toInt) hJ hK
  refine lv_aload_n hx hb dL_law_726 rfl (lv_at hl 1 rfl) ?_
  refine lw_arg (j := 1) C0 hS (lv_at hl 0 rfl) (lv_at hl 3 rfl) hL (by omega) (by decide) dL_law_727 dL_law_728 dL_law_729 dL_law_730 dL_law_731 ?_
  refine lw_call (G := G1) (K := kC) (As := [vI (xs (i + 1)).toInt]) (rest := []) C0 dL_law_732 lkL_65 lmX9_remove kn0 lw_k9 rfl (by decide) c1 (am_oks_cons (am_ti (xs (i + 1))) am_okn) om a1 a2 hS hR1 hl.1 (Nat.zero_le _) (Nat.le_of_ble_eq_true rfl) (Nat.le_of_ble_eq_true rfl) (by simp [am_cv, Int32.ofInt_toInt]) (fun z m2 H1 locs1 hP1 hz hR1 om hS1 hk1 => ?_)
  have hR2 := lw_kept hR2 hG.d2 hk1
  refine lv_aload_n hx hb dL_law_735 rfl (lv_at hl 2 rfl) ?_
  refine lw_arg (j := 1) C0 hS1 (lv_at hl 0 rfl) (lv_at hl 3 rfl) hL (by omega) (by decide) dL_law_736 dL_law_737 dL_law_738 dL_law_739 dL_law_740 ?_
  refine lw_call (G := G2) (K := kR) (As := [vI (xs (i + 1)).toInt]) (rest := [.int (Int32.ofInt z)]) C0 dL_law_741 lkL_69 lmX10_remove rn0 lw_k10 rfl (by decide) c2 (am_oks_cons (am_ti (xs (i + 1))) am_okn) on hG.lo2 a5 hS1 hR2 hl.1 (Nat.le_of_ble_eq_true rfl) (Nat.le_of_ble_eq_true rfl) (Nat.le_of_ble_eq_true rfl) (by simp [am_cv, Int32.ofInt_toInt]) (fun y n2 H2 locs2 hP2 hy hR2 on hS2 hk2 => ?_)
  have hR1 := lw_kept hR1 hG.d1 hk2
  obtain ⟨rfl, hJ⟩ := hPR z y m2 n2 hP1 hP2
  exact lv_icmp_eq (tgt := 1654) hx hb dL_law_744 (by decide) (fun _ => kk H2 locs2 ⟨hS2, m2, n2, hJ, hR1, hR2, om, on⟩) (fun q => absurd rfl q)
theorem lkL_70 : Cond.methodLink R_law 70 mX9_room.1 ∈ lw_tbl ∧ Cond.instanceMethod mX9_room.1 ∈ lw_tbl ∧ Cond.selects mX9_room.1.cls mX9_room.1 mX9_room.1 ∈ lw_tbl := ⟨List.mem_of_getElem? (i := 680) (by decide +kernel), List.mem_of_getElem? (i := 681) (by decide +kernel), List.mem_of_getElem? (i := 682) (by decide +kernel)⟩
theorem lkL_73 : Cond.methodLink R_law 73 mX10_room.1 ∈ lw_tbl ∧ Cond.instanceMethod mX10_room.1 ∈ lw_tbl ∧ Cond.selects mX10_room.1.cls mX10_room.1 mX10_room.1 ∈ lw_tbl := ⟨List.mem_of_getElem? (i := 1347) (by decide +kernel), List.mem_of_getElem? (i := 1348) (by decide +kernel), List.mem_of_getElem? (i := 1349) (by decide +kernel)⟩
theorem lc_13 (C0 : lw_At p s m meth c b L xs) (hL : L ≤ 3072) (hG : lw_C s G1 G2) (hi : i + 6 ≤ L) (hK : K < 99999) (hV : lw_S s G1 G2 K H locs) (hl : lv_has ls 4 (lw_l G1 G2 b i)) (kk : ∀ (H2 : Heap) (locs2 : List Loc), lw_S s G1 G2 (K + 1) H2 locs2 → W p l e room_1 s m #[Value.ref b] below meth c H2 locs2 180 36349 Z (F0 m 1654 ls [])) : W p l e room_1 s m #[Value.ref b] below meth c H locs 180 36349 Z (F0 m 749 ls []) := by
  obtain ⟨hx, hb, hret, hml, hown, hts, hX, hbl, hlocks, hgv⟩ := id C0
  obtain ⟨a1, a2, a3, a4, a5⟩ := id hG
  obtain ⟨hS, μ, ν, hJ, hR1, hR2, om, on⟩ := hV
  obtain ⟨P, R, c1, c2, hPR⟩ := jc_room (x1 := (xs (i + 1)).toInt) (x2 := (xs (i + 2)).toInt) (x3 := (xs (i + 3)).toInt) hJ hK
  refine lv_aload_n hx hb dL_law_749 rfl (lv_at hl 1 rfl) ?_
  refine lw_arg (j := 1) C0 hS (lv_at hl 0 rfl) (lv_at hl 3 rfl) hL (by omega) (by decide) dL_law_750 dL_law_751 dL_law_752 dL_law_753 dL_law_754 ?_
  refine lw_arg (j := 2) C0 hS (lv_at hl 0 rfl) (lv_at hl 3 rfl) hL (by omega) (by decide) dL_law_755 dL_law_756 dL_law_757 dL_law_758 dL_law_759 ?_
  refine lw_arg (j := 3) C0 hS (lv_at hl 0 rfl) (lv_at hl 3 rfl) hL (by omega) (by decide) dL_law_760 dL_law_761 dL_law_762 dL_law_763 dL_law_764 ?_
  refine lw_call (G := G1) (K := kC) (As := [vI (xs (i + 1)).toInt, vI (xs (i + 2)).toInt, vI (xs (i + 3)).toInt]) (rest := []) C0 dL_law_765 lkL_70 lmX9_room kn0 lw_k9 rfl (by decide) c1 (am_oks_cons (am_ti (xs (i + 1))) (am_oks_cons (am_ti (xs (i + 2))) (am_oks_cons (am_ti (xs (i + 3))) am_okn))) om a1 a2 hS hR1 hl.1 (Nat.zero_le _) (Nat.le_of_ble_eq_true rfl) (Nat.le_of_ble_eq_true rfl) (by simp [am_cv, Int32.ofInt_toInt]) (fun z m2 H1 locs1 hP1 hz hR1 om hS1 hk1 => ?_)
  have hR2 := lw_kept hR2 hG.d2 hk1
  refine lv_aload_n hx hb dL_law_768 rfl (lv_at hl 2 rfl) ?_
  refine lw_arg (j := 1) C0 hS1 (lv_at hl 0 rfl) (lv_at hl 3 rfl) hL (by omega) (by decide) dL_law_769 dL_law_770 dL_law_771 dL_law_772 dL_law_773 ?_
  refine lw_arg (j := 2) C0 hS1 (lv_at hl 0 rfl) (lv_at hl 3 rfl) hL (by omega) (by decide) dL_law_774 dL_law_775 dL_law_776 dL_law_777 dL_law_778 ?_
  refine lw_arg (j := 3) C0 hS1 (lv_at hl 0 rfl) (lv_at hl 3 rfl) hL (by omega) (by decide) dL_law_779 dL_law_780 dL_law_781 dL_law_782 dL_law_783 ?_
  refine lw_call (G := G2) (K := kR) (As := [vI (xs (i + 1)).toInt, vI (xs (i + 2)).toInt, vI (xs (i + 3)).toInt]) (rest := [.int (Int32.ofInt z)]) C0 dL_law_784 lkL_73 lmX10_room rn0 lw_k10 rfl (by decide) c2 (am_oks_cons (am_ti (xs (i + 1))) (am_oks_cons (am_ti (xs (i + 2))) (am_oks_cons (am_ti (xs (i + 3))) am_okn))) on hG.lo2 a5 hS1 hR2 hl.1 (Nat.le_of_ble_eq_true rfl) (Nat.le_of_ble_eq_true rfl) (Nat.le_of_ble_eq_true rfl) (by simp [am_cv, Int32.ofInt_toInt]) (fun y n2 H2 locs2 hP2 hy hR2 on hS2 hk2 => ?_)
  have hR1 := lw_kept hR1 hG.d1 hk2
  obtain ⟨rfl, hJ⟩ := hPR z y m2 n2 hP1 hP2
  exact lv_icmp_eq (tgt := 1654) hx hb dL_law_787 (by decide) (fun _ => kk H2 locs2 ⟨hS2, m2, n2, hJ, hR1, hR2, om, on⟩) (fun q => absurd rfl q)
theorem lkL_74 : Cond.methodLink R_law 74 mX9_copyClip.1 ∈ lw_tbl ∧ Cond.instanceMethod mX9_copyClip.1 ∈ lw_tbl ∧ Cond.selects mX9_copyClip.1.cls mX9_copyClip.1 mX9_copyClip.1 ∈ lw_tbl := ⟨List.mem_of_getElem? (i := 688) (by decide +kernel), List.mem_of_getElem? (i := 689) (by decide +kernel), List.mem_of_getElem? (i := 690) (by decide +kernel)⟩
theorem lkL_77 : Cond.methodLink R_law 77 mX10_copyClip.1 ∈ lw_tbl ∧ Cond.instanceMethod mX10_copyClip.1 ∈ lw_tbl ∧ Cond.selects mX10_copyClip.1.cls mX10_copyClip.1 mX10_copyClip.1 ∈ lw_tbl := ⟨List.mem_of_getElem? (i := 1308) (by decide +kernel), List.mem_of_getElem? (i := 1309) (by decide +kernel), List.mem_of_getElem? (i := 1310) (by decide +kernel)⟩
theorem lc_14 (C0 : lw_At p s m meth c b L xs) (hL : L ≤ 3072) (hG : lw_C s G1 G2) (hi : i + 6 ≤ L) (hK : K < 99999) (hV : lw_S s G1 G2 K H locs) (hl : lv_has ls 4 (lw_l G1 G2 b i)) (kk : ∀ (H2 : Heap) (locs2 : List Loc), lw_S s G1 G2 (K + 1) H2 locs2 → W p l e room_1 s m #[Value.ref b] below meth c H2 locs2 180 36349 Z (F0 m 1654 ls [])) : W p l e room_1 s m #[Value.ref b] below meth c H locs 180 36349 Z (F0 m 792 ls []) := by
  obtain ⟨hx, hb, hret, hml, hown, hts, hX, hbl, hlocks, hgv⟩ := id C0
  obtain ⟨a1, a2, a3, a4, a5⟩ := id hG
  obtain ⟨hS, μ, ν, hJ, hR1, hR2, om, on⟩ := hV
  obtain ⟨P, R, c1, c2, hPR⟩ := jc_copyClip (x1 := (xs (i + 1)).toInt) (x2 := (xs (i + 2)).toInt) (x3 := (xs (i + 3)).toInt) hJ hK
  refine lv_aload_n hx hb dL_law_792 rfl (lv_at hl 1 rfl) ?_
  refine lw_arg (j := 1) C0 hS (lv_at hl 0 rfl) (lv_at hl 3 rfl) hL (by omega) (by decide) dL_law_793 dL_law_794 dL_law_795 dL_law_796 dL_law_797 ?_
  refine lw_arg (j := 2) C0 hS (lv_at hl 0 rfl) (lv_at hl 3 rfl) hL (by omega) (by decide) dL_law_798 dL_law_799 dL_law_800 dL_law_801 dL_law_802 ?_
  refine lw_arg (j := 3) C0 hS (lv_at hl 0 rfl) (lv_at hl 3 rfl) hL (by omega) (by decide) dL_law_803 dL_law_804 dL_law_805 dL_law_806 dL_law_807 ?_
  refine lw_call (G := G1) (K := kC) (As := [vI (xs (i + 1)).toInt, vI (xs (i + 2)).toInt, vI (xs (i + 3)).toInt]) (rest := []) C0 dL_law_808 lkL_74 lmX9_copyClip kn0 lw_k9 rfl (by decide) c1 (am_oks_cons (am_ti (xs (i + 1))) (am_oks_cons (am_ti (xs (i + 2))) (am_oks_cons (am_ti (xs (i + 3))) am_okn))) om a1 a2 hS hR1 hl.1 (Nat.zero_le _) (Nat.le_of_ble_eq_true rfl) (Nat.le_of_ble_eq_true rfl) (by simp [am_cv, Int32.ofInt_toInt]) (fun z m2 H1 locs1 hP1 hz hR1 om hS1 hk1 => ?_)
  have hR2 := lw_kept hR2 hG.d2 hk1
  refine lv_aload_n hx hb dL_law_811 rfl (lv_at hl 2 rfl) ?_
  refine lw_arg (j := 1) C0 hS1 (lv_at hl 0 rfl) (lv_at hl 3 rfl) hL (by omega) (by decide) dL_law_812 dL_law_813 dL_law_814 dL_law_815 dL_law_816 ?_
  refine lw_arg (j := 2) C0 hS1 (lv_at hl 0 rfl) (lv_at hl 3 rfl) hL (by omega) (by decide) dL_law_817 dL_law_818 dL_law_819 dL_law_820 dL_law_821 ?_
  refine lw_arg (j := 3) C0 hS1 (lv_at hl 0 rfl) (lv_at hl 3 rfl) hL (by omega) (by decide) dL_law_822 dL_law_823 dL_law_824 dL_law_825 dL_law_826 ?_
  refine lw_call (G := G2) (K := kR) (As := [vI (xs (i + 1)).toInt, vI (xs (i + 2)).toInt, vI (xs (i + 3)).toInt]) (rest := [.int (Int32.ofInt z)]) C0 dL_law_827 lkL_77 lmX10_copyClip rn0 lw_k10 rfl (by decide) c2 (am_oks_cons (am_ti (xs (i + 1))) (am_oks_cons (am_ti (xs (i + 2))) (am_oks_cons (am_ti (xs (i + 3))) am_okn))) on hG.lo2 a5 hS1 hR2 hl.1 (Nat.le_of_ble_eq_true rfl) (Nat.le_of_ble_eq_true rfl) (Nat.le_of_ble_eq_true rfl) (by simp [am_cv, Int32.ofInt_toInt]) (fun y n2 H2 locs2 hP2 hy hR2 on hS2 hk2 => ?_)
  have hR1 := lw_kept hR1 hG.d1 hk2
  obtain ⟨rfl, hJ⟩ := hPR z y m2 n2 hP1 hP2
  exact lv_icmp_eq (tgt := 1654) hx hb dL_law_830 (by decide) (fun _ => kk H2 locs2 ⟨hS2, m2, n2, hJ, hR1, hR2, om, on⟩) (fun q => absurd rfl q)
theorem lkL_78 : Cond.methodLink R_law 78 mX9_clipAt.1 ∈ lw_tbl ∧ Cond.instanceMethod mX9_clipAt.1 ∈ lw_tbl ∧ Cond.selects mX9_clipAt.1.cls mX9_clipAt.1 mX9_clipAt.1 ∈ lw_tbl := ⟨List.mem_of_getElem? (i := 696) (by decide +kernel), List.mem_of_getElem? (i := 697) (by decide +kernel), List.mem_of_getElem? (i := 698) (by decide +kernel)⟩
theorem lkL_81 : Cond.methodLink R_law 81 mX10_clipAt.1 ∈ lw_tbl ∧ Cond.instanceMethod mX10_clipAt.1 ∈ lw_tbl ∧ Cond.selects mX10_clipAt.1.cls mX10_clipAt.1 mX10_clipAt.1 ∈ lw_tbl := ⟨List.mem_of_getElem? (i := 1312) (by decide +kernel), List.mem_of_getElem? (i := 1313) (by decide +kernel), List.mem_of_getElem? (i := 1314) (by decide +kernel)⟩
theorem lc_15 (C0 : lw_At p s m meth c b L xs) (hL : L ≤ 3072) (hG : lw_C s G1 G2) (hi : i + 6 ≤ L) (hK : K < 99999) (hV : lw_S s G1 G2 K H locs) (hl : lv_has ls 4 (lw_l G1 G2 b i)) (kk : ∀ (H2 : Heap) (locs2 : List Loc), lw_S s G1 G2 (K + 1) H2 locs2 → W p l e room_1 s m #[Value.ref b] below meth c H2 locs2 180 36349 Z (F0 m 1654 ls [])) : W p l e room_1 s m #[Value.ref b] below meth c H locs 180 36349 Z (F0 m 835 ls []) := by
  obtain ⟨hx, hb, hret, hml, hown, hts, hX, hbl, hlocks, hgv⟩ := id C0
  obtain ⟨a1, a2, a3, a4, a5⟩ := id hG
  obtain ⟨hS, μ, ν, hJ, hR1, hR2, om, on⟩ := hV
  obtain ⟨P, R, c1, c2, hPR⟩ := jc_clipAt (x1 := (xs (i + 1)).toInt) (x2 := (xs (i + 2)).toInt) hJ hK
  refine lv_aload_n hx hb dL_law_835 rfl (lv_at hl 1 rfl) ?_
  refine lw_arg (j := 1) C0 hS (lv_at hl 0 rfl) (lv_at hl 3 rfl) hL (by omega) (by decide) dL_law_836 dL_law_837 dL_law_838 dL_law_839 dL_law_840 ?_
  refine lw_arg (j := 2) C0 hS (lv_at hl 0 rfl) (lv_at hl 3 rfl) hL (by omega) (by decide) dL_law_841 dL_law_842 dL_law_843 dL_law_844 dL_law_845 ?_
  refine lw_call (G := G1) (K := kC) (As := [vI (xs (i + 1)).toInt, vI (xs (i + 2)).toInt]) (rest := []) C0 dL_law_846 lkL_78 lmX9_clipAt kn0 lw_k9 rfl (by decide) c1 (am_oks_cons (am_ti (xs (i + 1))) (am_oks_cons (am_ti (xs (i + 2))) am_okn)) om a1 a2 hS hR1 hl.1 (Nat.zero_le _) (Nat.le_of_ble_eq_true rfl) (Nat.le_of_ble_eq_true rfl) (by simp [am_cv, Int32.ofInt_toInt]) (fun z m2 H1 locs1 hP1 hz hR1 om hS1 hk1 => ?_)
  have hR2 := lw_kept hR2 hG.d2 hk1
  refine lv_aload_n hx hb dL_law_849 rfl (lv_at hl 2 rfl) ?_
  refine lw_arg (j := 1) C0 hS1 (lv_at hl 0 rfl) (lv_at hl 3 rfl) hL (by omega) (by decide) dL_law_850 dL_law_851 dL_law_852 dL_law_853 dL_law_854 ?_
  refine lw_arg (j := 2) C0 hS1 (lv_at hl 0 rfl) (lv_at hl 3 rfl) hL (by omega) (by decide) dL_law_855 dL_law_856 dL_law_857 dL_law_858 dL_law_859 ?_
  refine lw_call (G := G2) (K := kR) (As := [vI (xs (i + 1)).toInt, vI (xs (i + 2)).toInt]) (rest := [.int (Int32.ofInt z)]) C0 dL_law_860 lkL_81 lmX10_clipAt rn0 lw_k10 rfl (by decide) c2 (am_oks_cons (am_ti (xs (i + 1))) (am_oks_cons (am_ti (xs (i + 2))) am_okn)) on hG.lo2 a5 hS1 hR2 hl.1 (Nat.le_of_ble_eq_true rfl) (Nat.le_of_ble_eq_true rfl) (Nat.le_of_ble_eq_true rfl) (by simp [am_cv, Int32.ofInt_toInt]) (fun y n2 H2 locs2 hP2 hy hR2 on hS2 hk2 => ?_)
  have hR1 := lw_kept hR1 hG.d1 hk2
  obtain ⟨rfl, hJ⟩ := hPR z y m2 n2 hP1 hP2
  exact lv_icmp_eq (tgt := 1654) hx hb dL_law_863 (by decide) (fun _ => kk H2 locs2 ⟨hS2, m2, n2, hJ, hR1, hR2, om, on⟩) (fun q => absurd rfl q)
theorem lkL_82 : Cond.methodLink R_law 82 mX9_explain.1 ∈ lw_tbl ∧ Cond.instanceMethod mX9_explain.1 ∈ lw_tbl ∧ Cond.selects mX9_explain.1.cls mX9_explain.1 mX9_explain.1 ∈ lw_tbl := ⟨List.mem_of_getElem? (i := 704) (by decide +kernel), List.mem_of_getElem? (i := 705) (by decide +kernel), List.mem_of_getElem? (i := 706) (by decide +kernel)⟩
theorem lkL_85 : Cond.methodLink R_law 85 mX10_explain.1 ∈ lw_tbl ∧ Cond.instanceMethod mX10_explain.1 ∈ lw_tbl ∧ Cond.selects mX10_explain.1.cls mX10_explain.1 mX10_explain.1 ∈ lw_tbl := ⟨List.mem_of_getElem? (i := 1323) (by decide +kernel), List.mem_of_getElem? (i := 1324) (by decide +kernel), List.mem_of_getElem? (i := 1325) (by decide +kernel)⟩
theorem lc_16 (C0 : lw_At p s m meth c b L xs) (hL : L ≤ 3072) (hG : lw_C s G1 G2) (hi : i + 6 ≤ L) (hK : K < 99999) (hV : lw_S s G1 G2 K H locs) (hl : lv_has ls 4 (lw_l G1 G2 b i)) (kk : ∀ (H2 : Heap) (locs2 : List Loc), lw_S s G1 G2 (K + 1) H2 locs2 → W p l e room_1 s m #[Value.ref b] below meth c H2 locs2 180 36349 Z (F0 m 1654 ls [])) : W p l e room_1 s m #[Value.ref b] below meth c H locs 180 36349 Z (F0 m 868 ls []) := by
  obtain ⟨hx, hb, hret, hml, hown, hts, hX, hbl, hlocks, hgv⟩ := id C0
  obtain ⟨a1, a2, a3, a4, a5⟩ := id hG
  obtain ⟨hS, μ, ν, hJ, hR1, hR2, om, on⟩ := hV
  obtain ⟨P, R, c1, c2, hPR⟩ := jc_explain (x1 := (xs (i + 1)).toInt) (x2 := (xs (i + 2)).toInt) hJ hK
  refine lv_aload_n hx hb dL_law_868 rfl (lv_at hl 1 rfl) ?_
  refine lw_arg (j := 1) C0 hS (lv_at hl 0 rfl) (lv_at hl 3 rfl) hL (by omega) (by decide) dL_law_869 dL_law_870 dL_law_871 dL_law_872 dL_law_873 ?_
  refine lw_arg (j := 2) C0 hS (lv_at hl 0 rfl) (lv_at hl 3 rfl) hL (by omega) (by decide) dL_law_874 dL_law_875 dL_law_876 dL_law_877 dL_law_878 ?_
  refine lw_call (G := G1) (K := kC) (As := [vI (xs (i + 1)).toInt, vI (xs (i + 2)).toInt]) (rest := []) C0 dL_law_879 lkL_82 lmX9_explain kn0 lw_k9 rfl (by decide) c1 (am_oks_cons (am_ti (xs (i + 1))) (am_oks_cons (am_ti (xs (i + 2))) am_okn)) om a1 a2 hS hR1 hl.1 (Nat.zero_le _) (Nat.le_of_ble_eq_true rfl) (Nat.le_of_ble_eq_true rfl) (by simp [am_cv, Int32.ofInt_toInt]) (fun z m2 H1 locs1 hP1 hz hR1 om hS1 hk1 => ?_)
  have hR2 := lw_kept hR2 hG.d2 hk1
  refine lv_aload_n hx hb dL_law_882 rfl (lv_at hl 2 rfl) ?_
  refine lw_arg (j := 1) C0 hS1 (lv_at hl 0 rfl) (lv_at hl 3 rfl) hL (by omega) (by decide) dL_law_883 dL_law_884 dL_law_885 dL_law_886 dL_law_887 ?_
  refine lw_arg (j := 2) C0 hS1 (lv_at hl 0 rfl) (lv_at hl 3 rfl) hL (by omega) (by decide) dL_law_888 dL_law_889 dL_law_890 dL_law_891 dL_law_892 ?_
  refine lw_call (G := G2) (K := kR) (As := [vI (xs (i + 1)).toInt, vI (xs (i + 2)).toInt]) (rest := [.int (Int32.ofInt z)]) C0 dL_law_893 lkL_85 lmX10_explain rn0 lw_k10 rfl (by decide) c2 (am_oks_cons (am_ti (xs (i + 1))) (am_oks_cons (am_ti (xs (i + 2))) am_okn)) on hG.lo2 a5 hS1 hR2 hl.1 (Nat.le_of_ble_eq_true rfl) (Nat.le_of_ble_eq_true rfl) (Nat.le_of_ble_eq_true rfl) (by simp [am_cv, Int32.ofInt_toInt]) (fun y n2 H2 locs2 hP2 hy hR2 on hS2 hk2 => ?_)
  have hR1 := lw_kept hR1 hG.d1 hk2
  obtain ⟨rfl, hJ⟩ := hPR z y m2 n2 hP1 hP2
  exact lv_icmp_eq (tgt := 1654) hx hb dL_law_896 (by decide) (fun _ => kk H2 locs2 ⟨hS2, m2, n2, hJ, hR1, hR2, om, on⟩) (fun q => absurd rfl q)
theorem lkL_86 : Cond.methodLink R_law 86 mX9_cut.1 ∈ lw_tbl ∧ Cond.instanceMethod mX9_cut.1 ∈ lw_tbl ∧ Cond.selects mX9_cut.1.cls mX9_cut.1 mX9_cut.1 ∈ lw_tbl := ⟨List.mem_of_getElem? (i := 713) (by decide +kernel), List.mem_of_getElem? (i := 714) (by decide +kernel), List.mem_of_getElem? (i := 715) (by decide +kernel)⟩
theorem lkL_89 : Cond.methodLink R_law 89 mX10_cut.1 ∈ lw_tbl ∧ Cond.instanceMethod mX10_cut.1 ∈ lw_tbl ∧ Cond.selects mX10_cut.1.cls mX10_cut.1 mX10_cut.1 ∈ lw_tbl := ⟨List.mem_of_getElem? (i := 1351) (by decide +kernel), List.mem_of_getElem? (i := 1352) (by decide +kernel), List.mem_of_getElem? (i := 1353) (by decide +kernel)⟩
theorem lc_17 (C0 : lw_At p s m meth c b L xs) (hL : L ≤ 3072) (hG : lw_C s G1 G2) (hi : i + 6 ≤ L) (hK : K < 99999) (hV : lw_S s G1 G2 K H locs) (hl : lv_has ls 4 (lw_l G1 G2 b i)) (kk : ∀ (H2 : Heap) (locs2 : List Loc), lw_S s G1 G2 (K + 1) H2 locs2 → W p l e room_1 s m #[Value.ref b] below meth c H2 locs2 180 36349 Z (F0 m 1654 ls [])) : W p l e room_1 s m #[Value.ref b] below meth c H locs 180 36349 Z (F0 m 901 ls []) := by
  obtain ⟨hx, hb, hret, hml, hown, hts, hX, hbl, hlocks, hgv⟩ := id C0
  obtain ⟨a1, a2, a3, a4, a5⟩ := id hG
  obtain ⟨hS, μ, ν, hJ, hR1, hR2, om, on⟩ := hV
  obtain ⟨P, R, c1, c2, hPR⟩ := jc_cut (x1 := (xs (i + 1)).toInt) (x2 := (xs (i + 2)).toInt) hJ hK
  refine lv_aload_n hx hb dL_law_901 rfl (lv_at hl 1 rfl) ?_
  refine lw_arg (j := 1) C0 hS (lv_at hl 0 rfl) (lv_at hl 3 rfl) hL (by omega) (by decide) dL_law_902 dL_law_903 dL_law_904 dL_law_905 dL_law_906 ?_
  refine lw_arg (j := 2) C0 hS (lv_at hl 0 rfl) (lv_at hl 3 rfl) hL (by omega) (by decide) dL_law_907 dL_law_908 dL_law_909 dL_law_910 dL_law_911 ?_
  refine lw_call (G := G1) (K := kC) (As := [vI (xs (i + 1)).toInt, vI (xs (i + 2)).toInt]) (rest := []) C0 dL_law_912 lkL_86 lmX9_cut kn0 lw_k9 rfl (by decide) c1 (am_oks_cons (am_ti (xs (i + 1))) (am_oks_cons (am_ti (xs (i + 2))) am_okn)) om a1 a2 hS hR1 hl.1 (Nat.zero_le _) (Nat.le_of_ble_eq_true rfl) (Nat.le_of_ble_eq_true rfl) (by simp [am_cv, Int32.ofInt_toInt]) (fun z m2 H1 locs1 hP1 hz hR1 om hS1 hk1 => ?_)
  have hR2 := lw_kept hR2 hG.d2 hk1
  refine lv_aload_n hx hb dL_law_915 rfl (lv_at hl 2 rfl) ?_
  refine lw_arg (j := 1) C0 hS1 (lv_at hl 0 rfl) (lv_at hl 3 rfl) hL (by omega) (by decide) dL_law_916 dL_law_917 dL_law_918 dL_law_919 dL_law_920 ?_
  refine lw_arg (j := 2) C0 hS1 (lv_at hl 0 rfl) (lv_at hl 3 rfl) hL (by omega) (by decide) dL_law_921 dL_law_922 dL_law_923 dL_law_924 dL_law_925 ?_
  refine lw_call (G := G2) (K := kR) (As := [vI (xs (i + 1)).toInt, vI (xs (i + 2)).toInt]) (rest := [.int (Int32.ofInt z)]) C0 dL_law_926 lkL_89 lmX10_cut rn0 lw_k10 rfl (by decide) c2 (am_oks_cons (am_ti (xs (i + 1))) (am_oks_cons (am_ti (xs (i + 2))) am_okn)) on hG.lo2 a5 hS1 hR2 hl.1 (Nat.le_of_ble_eq_true rfl) (Nat.le_of_ble_eq_true rfl) (Nat.le_of_ble_eq_true rfl) (by simp [am_cv, Int32.ofInt_toInt]) (fun y n2 H2 locs2 hP2 hy hR2 on hS2 hk2 => ?_)
  have hR1 := lw_kept hR1 hG.d1 hk2
  obtain ⟨rfl, hJ⟩ := hPR z y m2 n2 hP1 hP2
  exact lv_icmp_eq (tgt := 1654) hx hb dL_law_929 (by decide) (fun _ => kk H2 locs2 ⟨hS2, m2, n2, hJ, hR1, hR2, om, on⟩) (fun q => absurd rfl q)
theorem lkL_90 : Cond.methodLink R_law 90 mX9_insert.1 ∈ lw_tbl ∧ Cond.instanceMethod mX9_insert.1 ∈ lw_tbl ∧ Cond.selects mX9_insert.1.cls mX9_insert.1 mX9_insert.1 ∈ lw_tbl := ⟨List.mem_of_getElem? (i := 741) (by decide +kernel), List.mem_of_getElem? (i := 742) (by decide +kernel), List.mem_of_getElem? (i := 743) (by decide +kernel)⟩
theorem lkL_93 : Cond.methodLink R_law 93 mX10_insert.1 ∈ lw_tbl ∧ Cond.instanceMethod mX10_insert.1 ∈ lw_tbl ∧ Cond.selects mX10_insert.1.cls mX10_insert.1 mX10_insert.1 ∈ lw_tbl := ⟨List.mem_of_getElem? (i := 1398) (by decide +kernel), List.mem_of_getElem? (i := 1399) (by decide +kernel), List.mem_of_getElem? (i := 1400) (by decide +kernel)⟩
theorem lc_18 (C0 : lw_At p s m meth c b L xs) (hL : L ≤ 3072) (hG : lw_C s G1 G2) (hi : i + 6 ≤ L) (hK : K < 99999) (hV : lw_S s G1 G2 K H locs) (hl : lv_has ls 4 (lw_l G1 G2 b i)) (kk : ∀ (H2 : Heap) (locs2 : List Loc), lw_S s G1 G2 (K + 1) H2 locs2 → W p l e room_1 s m #[Value.ref b] below meth c H2 locs2 180 36349 Z (F0 m 1654 ls [])) : W p l e room_1 s m #[Value.ref b] below meth c H locs 180 36349 Z (F0 m 934 ls []) := by
  obtain ⟨hx, hb, hret, hml, hown, hts, hX, hbl, hlocks, hgv⟩ := id C0
  obtain ⟨a1, a2, a3, a4, a5⟩ := id hG
  obtain ⟨hS, μ, ν, hJ, hR1, hR2, om, on⟩ := hV
  obtain ⟨P, R, c1, c2, hPR⟩ := jc_insert (x1 := (xs (i + 1)).toInt) (x2 := (xs (i + 2)).toInt) hJ hK
  refine lv_aload_n hx hb dL_law_934 rfl (lv_at hl 1 rfl) ?_
  refine lw_arg (j := 1) C0 hS (lv_at hl 0 rfl) (lv_at hl 3 rfl) hL (by omega) (by decide) dL_law_935 dL_law_936 dL_law_937 dL_law_938 dL_law_939 ?_
  refine lw_arg (j := 2) C0 hS (lv_at hl 0 rfl) (lv_at hl 3 rfl) hL (by omega) (by decide) dL_law_940 dL_law_941 dL_law_942 dL_law_943 dL_law_944 ?_
  refine lw_call (G := G1) (K := kC) (As := [vI (xs (i + 1)).toInt, vI (xs (i + 2)).toInt]) (rest := []) C0 dL_law_945 lkL_90 lmX9_insert kn0 lw_k9 rfl (by decide) c1 (am_oks_cons (am_ti (xs (i + 1))) (am_oks_cons (am_ti (xs (i + 2))) am_okn)) om a1 a2 hS hR1 hl.1 (Nat.zero_le _) (Nat.le_of_ble_eq_true rfl) (Nat.le_of_ble_eq_true rfl) (by simp [am_cv, Int32.ofInt_toInt]) (fun z m2 H1 locs1 hP1 hz hR1 om hS1 hk1 => ?_)
  have hR2 := lw_kept hR2 hG.d2 hk1
  refine lv_aload_n hx hb dL_law_948 rfl (lv_at hl 2 rfl) ?_
  refine lw_arg (j := 1) C0 hS1 (lv_at hl 0 rfl) (lv_at hl 3 rfl) hL (by omega) (by decide) dL_law_949 dL_law_950 dL_law_951 dL_law_952 dL_law_953 ?_
  refine lw_arg (j := 2) C0 hS1 (lv_at hl 0 rfl) (lv_at hl 3 rfl) hL (by omega) (by decide) dL_law_954 dL_law_955 dL_law_956 dL_law_957 dL_law_958 ?_
  refine lw_call (G := G2) (K := kR) (As := [vI (xs (i + 1)).toInt, vI (xs (i + 2)).toInt]) (rest := [.int (Int32.ofInt z)]) C0 dL_law_959 lkL_93 lmX10_insert rn0 lw_k10 rfl (by decide) c2 (am_oks_cons (am_ti (xs (i + 1))) (am_oks_cons (am_ti (xs (i + 2))) am_okn)) on hG.lo2 a5 hS1 hR2 hl.1 (Nat.le_of_ble_eq_true rfl) (Nat.le_of_ble_eq_true rfl) (Nat.le_of_ble_eq_true rfl) (by simp [am_cv, Int32.ofInt_toInt]) (fun y n2 H2 locs2 hP2 hy hR2 on hS2 hk2 => ?_)
  have hR1 := lw_kept hR1 hG.d1 hk2
  obtain ⟨rfl, hJ⟩ := hPR z y m2 n2 hP1 hP2
  exact lv_icmp_eq (tgt := 1654) hx hb dL_law_962 (by decide) (fun _ => kk H2 locs2 ⟨hS2, m2, n2, hJ, hR1, hR2, om, on⟩) (fun q => absurd rfl q)
theorem lkL_94 : Cond.methodLink R_law 94 mX9_chapter.1 ∈ lw_tbl ∧ Cond.instanceMethod mX9_chapter.1 ∈ lw_tbl ∧ Cond.selects mX9_chapter.1.cls mX9_chapter.1 mX9_chapter.1 ∈ lw_tbl := ⟨List.mem_of_getElem? (i := 771) (by decide +kernel), List.mem_of_getElem? (i := 772) (by decide +kernel), List.mem_of_getElem? (i := 773) (by decide +kernel)⟩
theorem lkL_97 : Cond.methodLink R_law 97 mX10_chapter.1 ∈ lw_tbl ∧ Cond.instanceMethod mX10_chapter.1 ∈ lw_tbl ∧ Cond.selects mX10_chapter.1.cls mX10_chapter.1 mX10_chapter.1 ∈ lw_tbl := ⟨List.mem_of_getElem? (i := 1414) (by decide +kernel), List.mem_of_getElem? (i := 1415) (by decide +kernel), List.mem_of_getElem? (i := 1416) (by decide +kernel)⟩
theorem lc_19 (C0 : lw_At p s m meth c b L xs) (hL : L ≤ 3072) (hG : lw_C s G1 G2) (hi : i + 6 ≤ L) (hK : K < 99999) (hV : lw_S s G1 G2 K H locs) (hl : lv_has ls 4 (lw_l G1 G2 b i)) (kk : ∀ (H2 : Heap) (locs2 : List Loc), lw_S s G1 G2 (K + 1) H2 locs2 → W p l e room_1 s m #[Value.ref b] below meth c H2 locs2 180 36349 Z (F0 m 1654 ls [])) : W p l e room_1 s m #[Value.ref b] below meth c H locs 180 36349 Z (F0 m 967 ls []) := by
  obtain ⟨hx, hb, hret, hml, hown, hts, hX, hbl, hlocks, hgv⟩ := id C0
  obtain ⟨a1, a2, a3, a4, a5⟩ := id hG
  obtain ⟨hS, μ, ν, hJ, hR1, hR2, om, on⟩ := hV
  obtain ⟨P, R, c1, c2, hPR⟩ := jc_chapter (x1 := (xs (i + 1)).toInt) (x2 := (xs (i + 2)).toInt) hJ hK
  refine lv_aload_n hx hb dL_law_967 rfl (lv_at hl 1 rfl) ?_
  refine lw_arg (j := 1) C0 hS (lv_at hl 0 rfl) (lv_at hl 3 rfl) hL (by omega) (by decide) dL_law_968 dL_law_969 dL_law_970 dL_law_971 dL_law_972 ?_
  refine lw_arg (j := 2) C0 hS (lv_at hl 0 rfl) (lv_at hl 3 rfl) hL (by omega) (by decide) dL_law_973 dL_law_974 dL_law_975 dL_law_976 dL_law_977 ?_
  refine lw_call (G := G1) (K := kC) (As := [vI (xs (i + 1)).toInt, vI (xs (i + 2)).toInt]) (rest := []) C0 dL_law_978 lkL_94 lmX9_chapter kn0 lw_k9 rfl (by decide) c1 (am_oks_cons (am_ti (xs (i + 1))) (am_oks_cons (am_ti (xs (i + 2))) am_okn)) om a1 a2 hS hR1 hl.1 (Nat.zero_le _) (Nat.le_of_ble_eq_true rfl) (Nat.le_of_ble_eq_true rfl) (by simp [am_cv, Int32.ofInt_toInt]) (fun z m2 H1 locs1 hP1 hz hR1 om hS1 hk1 => ?_)
  have hR2 := lw_kept hR2 hG.d2 hk1
  refine lv_aload_n hx hb dL_law_981 rfl (lv_at hl 2 rfl) ?_
  refine lw_arg (j := 1) C0 hS1 (lv_at hl 0 rfl) (lv_at hl 3 rfl) hL (by omega) (by decide) dL_law_982 dL_law_983 dL_law_984 dL_law_985 dL_law_986 ?_
  refine lw_arg (j := 2) C0 hS1 (lv_at hl 0 rfl) (lv_at hl 3 rfl) hL (by omega) (by decide) dL_law_987 dL_law_988 dL_law_989 dL_law_990 dL_law_991 ?_
  refine lw_call (G := G2) (K := kR) (As := [vI (xs (i + 1)).toInt, vI (xs (i + 2)).toInt]) (rest := [.int (Int32.ofInt z)]) C0 dL_law_992 lkL_97 lmX10_chapter rn0 lw_k10 rfl (by decide) c2 (am_oks_cons (am_ti (xs (i + 1))) (am_oks_cons (am_ti (xs (i + 2))) am_okn)) on hG.lo2 a5 hS1 hR2 hl.1 (Nat.le_of_ble_eq_true rfl) (Nat.le_of_ble_eq_true rfl) (Nat.le_of_ble_eq_true rfl) (by simp [am_cv, Int32.ofInt_toInt]) (fun y n2 H2 locs2 hP2 hy hR2 on hS2 hk2 => ?_)
  have hR1 := lw_kept hR1 hG.d1 hk2
  obtain ⟨rfl, hJ⟩ := hPR z y m2 n2 hP1 hP2
  exact lv_icmp_eq (tgt := 1654) hx hb dL_law_995 (by decide) (fun _ => kk H2 locs2 ⟨hS2, m2, n2, hJ, hR1, hR2, om, on⟩) (fun q => absurd rfl q)
theorem lkL_98 : Cond.methodLink R_law 98 mX9_dropChapter.1 ∈ lw_tbl ∧ Cond.instanceMethod mX9_dropChapter.1 ∈ lw_tbl ∧ Cond.selects mX9_dropChapter.1.cls mX9_dropChapter.1 mX9_dropChapter.1 ∈ lw_tbl := ⟨List.mem_of_getElem? (i := 785) (by decide +kernel), List.mem_of_getElem? (i := 786) (by decide +kernel), List.mem_of_getElem? (i := 787) (by decide +kernel)⟩
theorem lkL_101 : Cond.methodLink R_law 101 mX10_dropChapter.1 ∈ lw_tbl ∧ Cond.instanceMethod mX10_dropChapter.1 ∈ lw_tbl ∧ Cond.selects mX10_dropChapter.1.cls mX10_dropChapter.1 mX10_dropChapter.1 ∈ lw_tbl := ⟨List.mem_of_getElem? (i := 1422) (by decide +kernel), List.mem_of_getElem? (i := 1423) (by decide +kernel), List.mem_of_getElem? (i := 1424) (by decide +kernel)⟩
theorem lc_20 (C0 : lw_At p s m meth c b L xs) (hL : L ≤ 3072) (hG : lw_C s G1 G2) (hi : i + 6 ≤ L) (hK : K < 99999) (hV : lw_S s G1 G2 K H locs) (hl : lv_has ls 4 (lw_l G1 G2 b i)) (kk : ∀ (H2 : Heap) (locs2 : List Loc), lw_S s G1 G2 (K + 1) H2 locs2 → W p l e room_1 s m #[Value.ref b] below meth c H2 locs2 180 36349 Z (F0 m 1654 ls [])) : W p l e room_1 s m #[Value.ref b] below meth c H locs 180 36349 Z (F0 m 1000 ls []) := by
  obtain ⟨hx, hb, hret, hml, hown, hts, hX, hbl, hlocks, hgv⟩ := id C0
  obtain ⟨a1, a2, a3, a4, a5⟩ := id hG
  obtain ⟨hS, μ, ν, hJ, hR1, hR2, om, on⟩ := hV
  obtain ⟨P, R, c1, c2, hPR⟩ := jc_dropChapter (x1 := (xs (i + 1)).toInt) hJ hK
  refine lv_aload_n hx hb dL_law_1000 rfl (lv_at hl 1 rfl) ?_
  refine lw_arg (j := 1) C0 hS (lv_at hl 0 rfl) (lv_at hl 3 rfl) hL (by omega) (by decide) dL_law_1001 dL_law_1002 dL_law_1003 dL_law_1004 dL_law_1005 ?_
  refine lw_call (G := G1) (K := kC) (As := [vI (xs (i + 1)).toInt]) (rest := []) C0 dL_law_1006 lkL_98 lmX9_dropChapter kn0 lw_k9 rfl (by decide) c1 (am_oks_cons (am_ti (xs (i + 1))) am_okn) om a1 a2 hS hR1 hl.1 (Nat.zero_le _) (Nat.le_of_ble_eq_true rfl) (Nat.le_of_ble_eq_true rfl) (by simp [am_cv, Int32.ofInt_toInt]) (fun z m2 H1 locs1 hP1 hz hR1 om hS1 hk1 => ?_)
  have hR2 := lw_kept hR2 hG.d2 hk1
  refine lv_aload_n hx hb dL_law_1009 rfl (lv_at hl 2 rfl) ?_
  refine lw_arg (j := 1) C0 hS1 (lv_at hl 0 rfl) (lv_at hl 3 rfl) hL (by omega) (by decide) dL_law_1010 dL_law_1011 dL_law_1012 dL_law_1013 dL_law_1014 ?_
  refine lw_call (G := G2) (K := kR) (As := [vI (xs (i + 1)).toInt]) (rest := [.int (Int32.ofInt z)]) C0 dL_law_1015 lkL_101 lmX10_dropChapter rn0 lw_k10 rfl (by decide) c2 (am_oks_cons (am_ti (xs (i + 1))) am_okn) on hG.lo2 a5 hS1 hR2 hl.1 (Nat.le_of_ble_eq_true rfl) (Nat.le_of_ble_eq_true rfl) (Nat.le_of_ble_eq_true rfl) (by simp [am_cv, Int32.ofInt_toInt]) (fun y n2 H2 locs2 hP2 hy hR2 on hS2 hk2 => ?_)
  have hR1 := lw_kept hR1 hG.d1 hk2
  obtain ⟨rfl, hJ⟩ := hPR z y m2 n2 hP1 hP2
  exact lv_icmp_eq (tgt := 1654) hx hb dL_law_1018 (by decide) (fun _ => kk H2 locs2 ⟨hS2, m2, n2, hJ, hR1, hR2, om, on⟩) (fun q => absurd rfl q)
theorem lkL_102 : Cond.methodLink R_law 102 mX9_ofChapter.1 ∈ lw_tbl ∧ Cond.instanceMethod mX9_ofChapter.1 ∈ lw_tbl ∧ Cond.selects mX9_ofChapter.1.cls mX9_ofChapter.1 mX9_ofChapter.1 ∈ lw_tbl := ⟨List.mem_of_getElem? (i := 793) (by decide +kernel), List.mem_of_getElem? (i := 794) (by decide +kernel), List.mem_of_getElem? (i := 795) (by decide +kernel)⟩
theorem lkL_105 : Cond.methodLink R_law 105 mX10_ofChapter.1 ∈ lw_tbl ∧ Cond.instanceMethod mX10_ofChapter.1 ∈ lw_tbl ∧ Cond.selects mX10_ofChapter.1.cls mX10_ofChapter.1 mX10_ofChapter.1 ∈ lw_tbl := ⟨List.mem_of_getElem? (i := 1430) (by decide +kernel), List.mem_of_getElem? (i := 1431) (by decide +kernel), List.mem_of_getElem? (i := 1432) (by decide +kernel)⟩
theorem lc_21 (C0 : lw_At p s m meth c b L xs) (hL : L ≤ 3072) (hG : lw_C s G1 G2) (hi : i + 6 ≤ L) (hK : K < 99999) (hV : lw_S s G1 G2 K H locs) (hl : lv_has ls 4 (lw_l G1 G2 b i)) (kk : ∀ (H2 : Heap) (locs2 : List Loc), lw_S s G1 G2 (K + 1) H2 locs2 → W p l e room_1 s m #[Value.ref b] below meth c H2 locs2 180 36349 Z (F0 m 1654 ls [])) : W p l e room_1 s m #[Value.ref b] below meth c H locs 180 36349 Z (F0 m 1023 ls []) := by
  obtain ⟨hx, hb, hret, hml, hown, hts, hX, hbl, hlocks, hgv⟩ := id C0
  obtain ⟨a1, a2, a3, a4, a5⟩ := id hG
  obtain ⟨hS, μ, ν, hJ, hR1, hR2, om, on⟩ := hV
  obtain ⟨P, R, c1, c2, hPR⟩ := jc_ofChapter (x1 := (xs (i + 1)).toInt) (x2 := (xs (i + 2)).toInt) hJ hK
  refine lv_aload_n hx hb dL_law_1023 rfl (lv_at hl 1 rfl) ?_
  refine lw_arg (j := 1) C0 hS (lv_at hl 0 rfl) (lv_at hl 3 rfl) hL (by omega) (by decide) dL_law_1024 dL_law_1025 dL_law_1026 dL_law_1027 dL_law_1028 ?_
  refine lw_arg (j := 2) C0 hS (lv_at hl 0 rfl) (lv_at hl 3 rfl) hL (by omega) (by decide) dL_law_1029 dL_law_1030 dL_law_1031 dL_law_1032 dL_law_1033 ?_
  refine lw_call (G := G1) (K := kC) (As := [vI (xs (i + 1)).toInt, vI (xs (i + 2)).toInt]) (rest := []) C0 dL_law_1034 lkL_102 lmX9_ofChapter kn0 lw_k9 rfl (by decide) c1 (am_oks_cons (am_ti (xs (i + 1))) (am_oks_cons (am_ti (xs (i + 2))) am_okn)) om a1 a2 hS hR1 hl.1 (Nat.zero_le _) (Nat.le_of_ble_eq_true rfl) (Nat.le_of_ble_eq_true rfl) (by simp [am_cv, Int32.ofInt_toInt]) (fun z m2 H1 locs1 hP1 hz hR1 om hS1 hk1 => ?_)
  have hR2 := lw_kept hR2 hG.d2 hk1
  refine lv_aload_n hx hb dL_law_1037 rfl (lv_at hl 2 rfl) ?_
  refine lw_arg (j := 1) C0 hS1 (lv_at hl 0 rfl) (lv_at hl 3 rfl) hL (by omega) (by decide) dL_law_1038 dL_law_1039 dL_law_1040 dL_law_1041 dL_law_1042 ?_
  refine lw_arg (j := 2) C0 hS1 (lv_at hl 0 rfl) (lv_at hl 3 rfl) hL (by omega) (by decide) dL_law_1043 dL_law_1044 dL_law_1045 dL_law_1046 dL_law_1047 ?_
  refine lw_call (G := G2) (K := kR) (As := [vI (xs (i + 1)).toInt, vI (xs (i + 2)).toInt]) (rest := [.int (Int32.ofInt z)]) C0 dL_law_1048 lkL_105 lmX10_ofChapter rn0 lw_k10 rfl (by decide) c2 (am_oks_cons (am_ti (xs (i + 1))) (am_oks_cons (am_ti (xs (i + 2))) am_okn)) on hG.lo2 a5 hS1 hR2 hl.1 (Nat.le_of_ble_eq_true rfl) (Nat.le_of_ble_eq_true rfl) (Nat.le_of_ble_eq_true rfl) (by simp [am_cv, Int32.ofInt_toInt]) (fun y n2 H2 locs2 hP2 hy hR2 on hS2 hk2 => ?_)
  have hR1 := lw_kept hR1 hG.d1 hk2
  obtain ⟨rfl, hJ⟩ := hPR z y m2 n2 hP1 hP2
  exact lv_icmp_eq (tgt := 1654) hx hb dL_law_1051 (by decide) (fun _ => kk H2 locs2 ⟨hS2, m2, n2, hJ, hR1, hR2, om, on⟩) (fun q => absurd rfl q)
theorem lkL_106 : Cond.methodLink R_law 106 mX9_chapterAt.1 ∈ lw_tbl ∧ Cond.instanceMethod mX9_chapterAt.1 ∈ lw_tbl ∧ Cond.selects mX9_chapterAt.1.cls mX9_chapterAt.1 mX9_chapterAt.1 ∈ lw_tbl := ⟨List.mem_of_getElem? (i := 816) (by decide +kernel), List.mem_of_getElem? (i := 817) (by decide +kernel), List.mem_of_getElem? (i := 818) (by decide +kernel)⟩
theorem lkL_109 : Cond.methodLink R_law 109 mX10_chapterAt.1 ∈ lw_tbl ∧ Cond.instanceMethod mX10_chapterAt.1 ∈ lw_tbl ∧ Cond.selects mX10_chapterAt.1.cls mX10_chapterAt.1 mX10_chapterAt.1 ∈ lw_tbl := ⟨List.mem_of_getElem? (i := 1434) (by decide +kernel), List.mem_of_getElem? (i := 1435) (by decide +kernel), List.mem_of_getElem? (i := 1436) (by decide +kernel)⟩
theorem lc_22 (C0 : lw_At p s m meth c b L xs) (hL : L ≤ 3072) (hG : lw_C s G1 G2) (hi : i + 6 ≤ L) (hK : K < 99999) (hV : lw_S s G1 G2 K H locs) (hl : lv_has ls 4 (lw_l G1 G2 b i)) (kk : ∀ (H2 : Heap) (locs2 : List Loc), lw_S s G1 G2 (K + 1) H2 locs2 → W p l e room_1 s m #[Value.ref b] below meth c H2 locs2 180 36349 Z (F0 m 1654 ls [])) : W p l e room_1 s m #[Value.ref b] below meth c H locs 180 36349 Z (F0 m 1056 ls []) := by
  obtain ⟨hx, hb, hret, hml, hown, hts, hX, hbl, hlocks, hgv⟩ := id C0
  obtain ⟨a1, a2, a3, a4, a5⟩ := id hG
  obtain ⟨hS, μ, ν, hJ, hR1, hR2, om, on⟩ := hV
  obtain ⟨P, R, c1, c2, hPR⟩ := jc_chapterAt (x1 := (xs (i + 1)).toInt) hJ hK
  refine lv_aload_n hx hb dL_law_1056 rfl (lv_at hl 1 rfl) ?_
  refine lw_arg (j := 1) C0 hS (lv_at hl 0 rfl) (lv_at hl 3 rfl) hL (by omega) (by decide) dL_law_1057 dL_law_1058 dL_law_1059 dL_law_1060 dL_law_1061 ?_
  refine lw_call (G := G1) (K := kC) (As := [vI (xs (i + 1)).toInt]) (rest := []) C0 dL_law_1062 lkL_106 lmX9_chapterAt kn0 lw_k9 rfl (by decide) c1 (am_oks_cons (am_ti (xs (i + 1))) am_okn) om a1 a2 hS hR1 hl.1 (Nat.zero_le _) (Nat.le_of_ble_eq_true rfl) (Nat.le_of_ble_eq_true rfl) (by simp [am_cv, Int32.ofInt_toInt]) (fun z m2 H1 locs1 hP1 hz hR1 om hS1 hk1 => ?_)
  have hR2 := lw_kept hR2 hG.d2 hk1
  refine lv_aload_n hx hb dL_law_1065 rfl (lv_at hl 2 rfl) ?_
  refine lw_arg (j := 1) C0 hS1 (lv_at hl 0 rfl) (lv_at hl 3 rfl) hL (by omega) (by decide) dL_law_1066 dL_law_1067 dL_law_1068 dL_law_1069 dL_law_1070 ?_
  refine lw_call (G := G2) (K := kR) (As := [vI (xs (i + 1)).toInt]) (rest := [.int (Int32.ofInt z)]) C0 dL_law_1071 lkL_109 lmX10_chapterAt rn0 lw_k10 rfl (by decide) c2 (am_oks_cons (am_ti (xs (i + 1))) am_okn) on hG.lo2 a5 hS1 hR2 hl.1 (Nat.le_of_ble_eq_true rfl) (Nat.le_of_ble_eq_true rfl) (Nat.le_of_ble_eq_true rfl) (by simp [am_cv, Int32.ofInt_toInt]) (fun y n2 H2 locs2 hP2 hy hR2 on hS2 hk2 => ?_)
  have hR1 := lw_kept hR1 hG.d1 hk2
  obtain ⟨rfl, hJ⟩ := hPR z y m2 n2 hP1 hP2
  exact lv_icmp_eq (tgt := 1654) hx hb dL_law_1074 (by decide) (fun _ => kk H2 locs2 ⟨hS2, m2, n2, hJ, hR1, hR2, om, on⟩) (fun q => absurd rfl q)
theorem lkL_110 : Cond.methodLink R_law 110 mX9_value.1 ∈ lw_tbl ∧ Cond.instanceMethod mX9_value.1 ∈ lw_tbl ∧ Cond.selects mX9_value.1.cls mX9_value.1 mX9_value.1 ∈ lw_tbl := ⟨List.mem_of_getElem? (i := 821) (by decide +kernel), List.mem_of_getElem? (i := 822) (by decide +kernel), List.mem_of_getElem? (i := 823) (by decide +kernel)⟩
theorem lkL_113 : Cond.methodLink R_law 113 mX10_value.1 ∈ lw_tbl ∧ Cond.instanceMethod mX10_value.1 ∈ lw_tbl ∧ Cond.selects mX10_value.1.cls mX10_value.1 mX10_value.1 ∈ lw_tbl := ⟨List.mem_of_getElem? (i := 1438) (by decide +kernel), List.mem_of_getElem? (i := 1439) (by decide +kernel), List.mem_of_getElem? (i := 1440) (by decide +kernel)⟩
theorem lc_23 (C0 : lw_At p s m meth c b L xs) (hL : L ≤ 3072) (hG : lw_C s G1 G2) (hi : i + 6 ≤ L) (hK : K < 99999) (hV : lw_S s G1 G2 K H locs) (hl : lv_has ls 4 (lw_l G1 G2 b i)) (kk : ∀ (H2 : Heap) (locs2 : List Loc), lw_S s G1 G2 (K + 1) H2 locs2 → W p l e room_1 s m #[Value.ref b] below meth c H2 locs2 180 36349 Z (F0 m 1654 ls [])) : W p l e room_1 s m #[Value.ref b] below meth c H locs 180 36349 Z (F0 m 1079 ls []) := by
  obtain ⟨hx, hb, hret, hml, hown, hts, hX, hbl, hlocks, hgv⟩ := id C0
  obtain ⟨a1, a2, a3, a4, a5⟩ := id hG
  obtain ⟨hS, μ, ν, hJ, hR1, hR2, om, on⟩ := hV
  obtain ⟨P, R, c1, c2, hPR⟩ := jc_value (x1 := (xs (i + 1)).toInt) (x2 := (xs (i + 2)).toInt) (x3 := (xs (i + 3)).toInt) hJ hK
  refine lv_aload_n hx hb dL_law_1079 rfl (lv_at hl 1 rfl) ?_
  refine lw_arg (j := 1) C0 hS (lv_at hl 0 rfl) (lv_at hl 3 rfl) hL (by omega) (by decide) dL_law_1080 dL_law_1081 dL_law_1082 dL_law_1083 dL_law_1084 ?_
  refine lw_arg (j := 2) C0 hS (lv_at hl 0 rfl) (lv_at hl 3 rfl) hL (by omega) (by decide) dL_law_1085 dL_law_1086 dL_law_1087 dL_law_1088 dL_law_1089 ?_
  refine lw_arg (j := 3) C0 hS (lv_at hl 0 rfl) (lv_at hl 3 rfl) hL (by omega) (by decide) dL_law_1090 dL_law_1091 dL_law_1092 dL_law_1093 dL_law_1094 ?_
  refine lw_call (G := G1) (K := kC) (As := [vI (xs (i + 1)).toInt, vI (xs (i + 2)).toInt, vI (xs (i + 3)).toInt]) (rest := []) C0 dL_law_1095 lkL_110 lmX9_value kn0 lw_k9 rfl (by decide) c1 (am_oks_cons (am_ti (xs (i + 1))) (am_oks_cons (am_ti (xs (i + 2))) (am_oks_cons (am_ti (xs (i + 3))) am_okn))) om a1 a2 hS hR1 hl.1 (Nat.zero_le _) (Nat.le_of_ble_eq_true rfl) (Nat.le_of_ble_eq_true rfl) (by simp [am_cv, Int32.ofInt_toInt]) (fun z m2 H1 locs1 hP1 hz hR1 om hS1 hk1 => ?_)
  have hR2 := lw_kept hR2 hG.d2 hk1
  refine lv_aload_n hx hb dL_law_1098 rfl (lv_at hl 2 rfl) ?_
  refine lw_arg (j := 1) C0 hS1 (lv_at hl 0 rfl) (lv_at hl 3 rfl) hL (by omega) (by decide) dL_law_1099 dL_law_1100 dL_law_1101 dL_law_1102 dL_law_1103 ?_
  refine lw_arg (j := 2) C0 hS1 (lv_at hl 0 rfl) (lv_at hl 3 rfl) hL (by omega) (by decide) dL_law_1104 dL_law_1105 dL_law_1106 dL_law_1107 dL_law_1108 ?_
  refine lw_arg (j := 3) C0 hS1 (lv_at hl 0 rfl) (lv_at hl 3 rfl) hL (by omega) (by decide) dL_law_1109 dL_law_1110 dL_law_1111 dL_law_1112 dL_law_1113 ?_
  refine lw_call (G := G2) (K := kR) (As := [vI (xs (i + 1)).toInt, vI (xs (i + 2)).toInt, vI (xs (i + 3)).toInt]) (rest := [.int (Int32.ofInt z)]) C0 dL_law_1114 lkL_113 lmX10_value rn0 lw_k10 rfl (by decide) c2 (am_oks_cons (am_ti (xs (i + 1))) (am_oks_cons (am_ti (xs (i + 2))) (am_oks_cons (am_ti (xs (i + 3))) am_okn))) on hG.lo2 a5 hS1 hR2 hl.1 (Nat.le_of_ble_eq_true rfl) (Nat.le_of_ble_eq_true rfl) (Nat.le_of_ble_eq_true rfl) (by simp [am_cv, Int32.ofInt_toInt]) (fun y n2 H2 locs2 hP2 hy hR2 on hS2 hk2 => ?_)
  have hR1 := lw_kept hR1 hG.d1 hk2
  obtain ⟨rfl, hJ⟩ := hPR z y m2 n2 hP1 hP2
  exact lv_icmp_eq (tgt := 1654) hx hb dL_law_1117 (by decide) (fun _ => kk H2 locs2 ⟨hS2, m2, n2, hJ, hR1, hR2, om, on⟩) (fun q => absurd rfl q)
theorem lkL_114 : Cond.methodLink R_law 114 mX9_mix.1 ∈ lw_tbl ∧ Cond.instanceMethod mX9_mix.1 ∈ lw_tbl ∧ Cond.selects mX9_mix.1.cls mX9_mix.1 mX9_mix.1 ∈ lw_tbl := ⟨List.mem_of_getElem? (i := 835) (by decide +kernel), List.mem_of_getElem? (i := 836) (by decide +kernel), List.mem_of_getElem? (i := 837) (by decide +kernel)⟩
theorem lkL_117 : Cond.methodLink R_law 117 mX10_mix.1 ∈ lw_tbl ∧ Cond.instanceMethod mX10_mix.1 ∈ lw_tbl ∧ Cond.selects mX10_mix.1.cls mX10_mix.1 mX10_mix.1 ∈ lw_tbl := ⟨List.mem_of_getElem? (i := 1442) (by decide +kernel), List.mem_of_getElem? (i := 1443) (by decide +kernel), List.mem_of_getElem? (i := 1444) (by decide +kernel)⟩
theorem lc_24 (C0 : lw_At p s m meth c b L xs) (hL : L ≤ 3072) (hG : lw_C s G1 G2) (hi : i + 6 ≤ L) (hK : K < 99999) (hV : lw_S s G1 G2 K H locs) (hl : lv_has ls 4 (lw_l G1 G2 b i)) (kk : ∀ (H2 : Heap) (locs2 : List Loc), lw_S s G1 G2 (K + 1) H2 locs2 → W p l e room_1 s m #[Value.ref b] below meth c H2 locs2 180 36349 Z (F0 m 1654 ls [])) : W p l e room_1 s m #[Value.ref b] below meth c H locs 180 36349 Z (F0 m 1122 ls []) := by
  obtain ⟨hx, hb, hret, hml, hown, hts, hX, hbl, hlocks, hgv⟩ := id C0
  obtain ⟨a1, a2, a3, a4, a5⟩ := id hG
  obtain ⟨hS, μ, ν, hJ, hR1, hR2, om, on⟩ := hV
  obtain ⟨P, R, c1, c2, hPR⟩ := jc_mix (x1 := (xs (i + 1)).toInt) hJ hK
  refine lv_aload_n hx hb dL_law_1122 rfl (lv_at hl 1 rfl) ?_
  refine lw_arg (j := 1) C0 hS (lv_at hl 0 rfl) (lv_at hl 3 rfl) hL (by omega) (by decide) dL_law_1123 dL_law_1124 dL_law_1125 dL_law_1126 dL_law_1127 ?_
  refine lw_call (G := G1) (K := kC) (As := [vI (xs (i + 1)).toInt]) (rest := []) C0 dL_law_1128 lkL_114 lmX9_mix kn0 lw_k9 rfl (by decide) c1 (am_oks_cons (am_ti (xs (i + 1))) am_okn) om a1 a2 hS hR1 hl.1 (Nat.zero_le _) (Nat.le_of_ble_eq_true rfl) (Nat.le_of_ble_eq_true rfl) (by simp [am_cv, Int32.ofInt_toInt]) (fun z m2 H1 locs1 hP1 hz hR1 om hS1 hk1 => ?_)
  have hR2 := lw_kept hR2 hG.d2 hk1
  refine lv_aload_n hx hb dL_law_1131 rfl (lv_at hl 2 rfl) ?_
  refine lw_arg (j := 1) C0 hS1 (lv_at hl 0 rfl) (lv_at hl 3 rfl) hL (by omega) (by decide) dL_law_1132 dL_law_1133 dL_law_1134 dL_law_1135 dL_law_1136 ?_
  refine lw_call (G := G2) (K := kR) (As := [vI (xs (i + 1)).toInt]) (rest := [.int (Int32.ofInt z)]) C0 dL_law_1137 lkL_117 lmX10_mix rn0 lw_k10 rfl (by decide) c2 (am_oks_cons (am_ti (xs (i + 1))) am_okn) on hG.lo2 a5 hS1 hR2 hl.1 (Nat.le_of_ble_eq_true rfl) (Nat.le_of_ble_eq_true rfl) (Nat.le_of_ble_eq_true rfl) (by simp [am_cv, Int32.ofInt_toInt]) (fun y n2 H2 locs2 hP2 hy hR2 on hS2 hk2 => ?_)
  have hR1 := lw_kept hR1 hG.d1 hk2
  obtain ⟨rfl, hJ⟩ := hPR z y m2 n2 hP1 hP2
  exact lv_icmp_eq (tgt := 1654) hx hb dL_law_1140 (by decide) (fun _ => kk H2 locs2 ⟨hS2, m2, n2, hJ, hR1, hR2, om, on⟩) (fun q => absurd rfl q)
theorem lkL_118 : Cond.methodLink R_law 118 mX9_peak.1 ∈ lw_tbl ∧ Cond.instanceMethod mX9_peak.1 ∈ lw_tbl ∧ Cond.selects mX9_peak.1.cls mX9_peak.1 mX9_peak.1 ∈ lw_tbl := ⟨List.mem_of_getElem? (i := 840) (by decide +kernel), List.mem_of_getElem? (i := 841) (by decide +kernel), List.mem_of_getElem? (i := 842) (by decide +kernel)⟩
theorem lkL_121 : Cond.methodLink R_law 121 mX10_peak.1 ∈ lw_tbl ∧ Cond.instanceMethod mX10_peak.1 ∈ lw_tbl ∧ Cond.selects mX10_peak.1.cls mX10_peak.1 mX10_peak.1 ∈ lw_tbl := ⟨List.mem_of_getElem? (i := 1446) (by decide +kernel), List.mem_of_getElem? (i := 1447) (by decide +kernel), List.mem_of_getElem? (i := 1448) (by decide +kernel)⟩
theorem lc_25 (C0 : lw_At p s m meth c b L xs) (hL : L ≤ 3072) (hG : lw_C s G1 G2) (hi : i + 6 ≤ L) (hK : K < 99999) (hV : lw_S s G1 G2 K H locs) (hl : lv_has ls 4 (lw_l G1 G2 b i)) (kk : ∀ (H2 : Heap) (locs2 : List Loc), lw_S s G1 G2 (K + 1) H2 locs2 → W p l e room_1 s m #[Value.ref b] below meth c H2 locs2 180 36349 Z (F0 m 1654 ls [])) : W p l e room_1 s m #[Value.ref b] below meth c H locs 180 36349 Z (F0 m 1145 ls []) := by
  obtain ⟨hx, hb, hret, hml, hown, hts, hX, hbl, hlocks, hgv⟩ := id C0
  obtain ⟨a1, a2, a3, a4, a5⟩ := id hG
  obtain ⟨hS, μ, ν, hJ, hR1, hR2, om, on⟩ := hV
  obtain ⟨P, R, c1, c2, hPR⟩ := jc_peak (x1 := (xs (i + 1)).toInt) hJ hK
  refine lv_aload_n hx hb dL_law_1145 rfl (lv_at hl 1 rfl) ?_
  refine lw_arg (j := 1) C0 hS (lv_at hl 0 rfl) (lv_at hl 3 rfl) hL (by omega) (by decide) dL_law_1146 dL_law_1147 dL_law_1148 dL_law_1149 dL_law_1150 ?_
  refine lw_call (G := G1) (K := kC) (As := [vI (xs (i + 1)).toInt]) (rest := []) C0 dL_law_1151 lkL_118 lmX9_peak kn0 lw_k9 rfl (by decide) c1 (am_oks_cons (am_ti (xs (i + 1))) am_okn) om a1 a2 hS hR1 hl.1 (Nat.zero_le _) (Nat.le_of_ble_eq_true rfl) (Nat.le_of_ble_eq_true rfl) (by simp [am_cv, Int32.ofInt_toInt]) (fun z m2 H1 locs1 hP1 hz hR1 om hS1 hk1 => ?_)
  have hR2 := lw_kept hR2 hG.d2 hk1
  refine lv_aload_n hx hb dL_law_1154 rfl (lv_at hl 2 rfl) ?_
  refine lw_arg (j := 1) C0 hS1 (lv_at hl 0 rfl) (lv_at hl 3 rfl) hL (by omega) (by decide) dL_law_1155 dL_law_1156 dL_law_1157 dL_law_1158 dL_law_1159 ?_
  refine lw_call (G := G2) (K := kR) (As := [vI (xs (i + 1)).toInt]) (rest := [.int (Int32.ofInt z)]) C0 dL_law_1160 lkL_121 lmX10_peak rn0 lw_k10 rfl (by decide) c2 (am_oks_cons (am_ti (xs (i + 1))) am_okn) on hG.lo2 a5 hS1 hR2 hl.1 (Nat.le_of_ble_eq_true rfl) (Nat.le_of_ble_eq_true rfl) (Nat.le_of_ble_eq_true rfl) (by simp [am_cv, Int32.ofInt_toInt]) (fun y n2 H2 locs2 hP2 hy hR2 on hS2 hk2 => ?_)
  have hR1 := lw_kept hR1 hG.d1 hk2
  obtain ⟨rfl, hJ⟩ := hPR z y m2 n2 hP1 hP2
  exact lv_icmp_eq (tgt := 1654) hx hb dL_law_1163 (by decide) (fun _ => kk H2 locs2 ⟨hS2, m2, n2, hJ, hR1, hR2, om, on⟩) (fun q => absurd rfl q)
theorem lkL_122 : Cond.methodLink R_law 122 mX9_level.1 ∈ lw_tbl ∧ Cond.instanceMethod mX9_level.1 ∈ lw_tbl ∧ Cond.selects mX9_level.1.cls mX9_level.1 mX9_level.1 ∈ lw_tbl := ⟨List.mem_of_getElem? (i := 857) (by decide +kernel), List.mem_of_getElem? (i := 858) (by decide +kernel), List.mem_of_getElem? (i := 859) (by decide +kernel)⟩
theorem lkL_125 : Cond.methodLink R_law 125 mX10_level.1 ∈ lw_tbl ∧ Cond.instanceMethod mX10_level.1 ∈ lw_tbl ∧ Cond.selects mX10_level.1.cls mX10_level.1 mX10_level.1 ∈ lw_tbl := ⟨List.mem_of_getElem? (i := 1450) (by decide +kernel), List.mem_of_getElem? (i := 1451) (by decide +kernel), List.mem_of_getElem? (i := 1452) (by decide +kernel)⟩
theorem lc_26 (C0 : lw_At p s m meth c b L xs) (hL : L ≤ 3072) (hG : lw_C s G1 G2) (hi : i + 6 ≤ L) (hK : K < 99999) (hV : lw_S s G1 G2 K H locs) (hl : lv_has ls 4 (lw_l G1 G2 b i)) (kk : ∀ (H2 : Heap) (locs2 : List Loc), lw_S s G1 G2 (K + 1) H2 locs2 → W p l e room_1 s m #[Value.ref b] below meth c H2 locs2 180 36349 Z (F0 m 1654 ls [])) : W p l e room_1 s m #[Value.ref b] below meth c H locs 180 36349 Z (F0 m 1168 ls []) := by
  obtain ⟨hx, hb, hret, hml, hown, hts, hX, hbl, hlocks, hgv⟩ := id C0
  obtain ⟨a1, a2, a3, a4, a5⟩ := id hG
  obtain ⟨hS, μ, ν, hJ, hR1, hR2, om, on⟩ := hV
  obtain ⟨P, R, c1, c2, hPR⟩ := jc_level (x1 := (xs (i + 1)).toInt) hJ hK
  refine lv_aload_n hx hb dL_law_1168 rfl (lv_at hl 1 rfl) ?_
  refine lw_arg (j := 1) C0 hS (lv_at hl 0 rfl) (lv_at hl 3 rfl) hL (by omega) (by decide) dL_law_1169 dL_law_1170 dL_law_1171 dL_law_1172 dL_law_1173 ?_
  refine lw_call (G := G1) (K := kC) (As := [vI (xs (i + 1)).toInt]) (rest := []) C0 dL_law_1174 lkL_122 lmX9_level kn0 lw_k9 rfl (by decide) c1 (am_oks_cons (am_ti (xs (i + 1))) am_okn) om a1 a2 hS hR1 hl.1 (Nat.zero_le _) (Nat.le_of_ble_eq_true rfl) (Nat.le_of_ble_eq_true rfl) (by simp [am_cv, Int32.ofInt_toInt]) (fun z m2 H1 locs1 hP1 hz hR1 om hS1 hk1 => ?_)
  have hR2 := lw_kept hR2 hG.d2 hk1
  refine lv_aload_n hx hb dL_law_1177 rfl (lv_at hl 2 rfl) ?_
  refine lw_arg (j := 1) C0 hS1 (lv_at hl 0 rfl) (lv_at hl 3 rfl) hL (by omega) (by decide) dL_law_1178 dL_law_1179 dL_law_1180 dL_law_1181 dL_law_1182 ?_
  refine lw_call (G := G2) (K := kR) (As := [vI (xs (i + 1)).toInt]) (rest := [.int (Int32.ofInt z)]) C0 dL_law_1183 lkL_125 lmX10_level rn0 lw_k10 rfl (by decide) c2 (am_oks_cons (am_ti (xs (i + 1))) am_okn) on hG.lo2 a5 hS1 hR2 hl.1 (Nat.le_of_ble_eq_true rfl) (Nat.le_of_ble_eq_true rfl) (Nat.le_of_ble_eq_true rfl) (by simp [am_cv, Int32.ofInt_toInt]) (fun y n2 H2 locs2 hP2 hy hR2 on hS2 hk2 => ?_)
  have hR1 := lw_kept hR1 hG.d1 hk2
  obtain ⟨rfl, hJ⟩ := hPR z y m2 n2 hP1 hP2
  exact lv_icmp_eq (tgt := 1654) hx hb dL_law_1186 (by decide) (fun _ => kk H2 locs2 ⟨hS2, m2, n2, hJ, hR1, hR2, om, on⟩) (fun q => absurd rfl q)
theorem lkL_126 : Cond.methodLink R_law 126 mX9_loudness.1 ∈ lw_tbl ∧ Cond.instanceMethod mX9_loudness.1 ∈ lw_tbl ∧ Cond.selects mX9_loudness.1.cls mX9_loudness.1 mX9_loudness.1 ∈ lw_tbl := ⟨List.mem_of_getElem? (i := 880) (by decide +kernel), List.mem_of_getElem? (i := 881) (by decide +kernel), List.mem_of_getElem? (i := 882) (by decide +kernel)⟩
theorem lkL_129 : Cond.methodLink R_law 129 mX10_loudness.1 ∈ lw_tbl ∧ Cond.instanceMethod mX10_loudness.1 ∈ lw_tbl ∧ Cond.selects mX10_loudness.1.cls mX10_loudness.1 mX10_loudness.1 ∈ lw_tbl := ⟨List.mem_of_getElem? (i := 1454) (by decide +kernel), List.mem_of_getElem? (i := 1455) (by decide +kernel), List.mem_of_getElem? (i := 1456) (by decide +kernel)⟩
theorem lc_27 (C0 : lw_At p s m meth c b L xs) (hL : L ≤ 3072) (hG : lw_C s G1 G2) (hi : i + 6 ≤ L) (hK : K < 99999) (hV : lw_S s G1 G2 K H locs) (hl : lv_has ls 4 (lw_l G1 G2 b i)) (kk : ∀ (H2 : Heap) (locs2 : List Loc), lw_S s G1 G2 (K + 1) H2 locs2 → W p l e room_1 s m #[Value.ref b] below meth c H2 locs2 180 36349 Z (F0 m 1654 ls [])) : W p l e room_1 s m #[Value.ref b] below meth c H locs 180 36349 Z (F0 m 1191 ls []) := by
  obtain ⟨hx, hb, hret, hml, hown, hts, hX, hbl, hlocks, hgv⟩ := id C0
  obtain ⟨a1, a2, a3, a4, a5⟩ := id hG
  obtain ⟨hS, μ, ν, hJ, hR1, hR2, om, on⟩ := hV
  obtain ⟨P, R, c1, c2, hPR⟩ := jc_loudness (x1 := (xs (i + 1)).toInt) hJ hK
  refine lv_aload_n hx hb dL_law_1191 rfl (lv_at hl 1 rfl) ?_
  refine lw_arg (j := 1) C0 hS (lv_at hl 0 rfl) (lv_at hl 3 rfl) hL (by omega) (by decide) dL_law_1192 dL_law_1193 dL_law_1194 dL_law_1195 dL_law_1196 ?_
  refine lw_call (G := G1) (K := kC) (As := [vI (xs (i + 1)).toInt]) (rest := []) C0 dL_law_1197 lkL_126 lmX9_loudness kn0 lw_k9 rfl (by decide) c1 (am_oks_cons (am_ti (xs (i + 1))) am_okn) om a1 a2 hS hR1 hl.1 (Nat.zero_le _) (Nat.le_of_ble_eq_true rfl) (Nat.le_of_ble_eq_true rfl) (by simp [am_cv, Int32.ofInt_toInt]) (fun z m2 H1 locs1 hP1 hz hR1 om hS1 hk1 => ?_)
  have hR2 := lw_kept hR2 hG.d2 hk1
  refine lv_aload_n hx hb dL_law_1200 rfl (lv_at hl 2 rfl) ?_
  refine lw_arg (j := 1) C0 hS1 (lv_at hl 0 rfl) (lv_at hl 3 rfl) hL (by omega) (by decide) dL_law_1201 dL_law_1202 dL_law_1203 dL_law_1204 dL_law_1205 ?_
  refine lw_call (G := G2) (K := kR) (As := [vI (xs (i + 1)).toInt]) (rest := [.int (Int32.ofInt z)]) C0 dL_law_1206 lkL_129 lmX10_loudness rn0 lw_k10 rfl (by decide) c2 (am_oks_cons (am_ti (xs (i + 1))) am_okn) on hG.lo2 a5 hS1 hR2 hl.1 (Nat.le_of_ble_eq_true rfl) (Nat.le_of_ble_eq_true rfl) (Nat.le_of_ble_eq_true rfl) (by simp [am_cv, Int32.ofInt_toInt]) (fun y n2 H2 locs2 hP2 hy hR2 on hS2 hk2 => ?_)
  have hR1 := lw_kept hR1 hG.d1 hk2
  obtain ⟨rfl, hJ⟩ := hPR z y m2 n2 hP1 hP2
  exact lv_icmp_eq (tgt := 1654) hx hb dL_law_1209 (by decide) (fun _ => kk H2 locs2 ⟨hS2, m2, n2, hJ, hR1, hR2, om, on⟩) (fun q => absurd rfl q)
theorem lkL_130 : Cond.methodLink R_law 130 mX9_masterFor.1 ∈ lw_tbl ∧ Cond.instanceMethod mX9_masterFor.1 ∈ lw_tbl ∧ Cond.selects mX9_masterFor.1.cls mX9_masterFor.1 mX9_masterFor.1 ∈ lw_tbl := ⟨List.mem_of_getElem? (i := 884) (by decide +kernel), List.mem_of_getElem? (i := 885) (by decide +kernel), List.mem_of_getElem? (i := 886) (by decide +kernel)⟩
theorem lkL_133 : Cond.methodLink R_law 133 mX10_masterFor.1 ∈ lw_tbl ∧ Cond.instanceMethod mX10_masterFor.1 ∈ lw_tbl ∧ Cond.selects mX10_masterFor.1.cls mX10_masterFor.1 mX10_masterFor.1 ∈ lw_tbl := ⟨List.mem_of_getElem? (i := 1463) (by decide +kernel), List.mem_of_getElem? (i := 1464) (by decide +kernel), List.mem_of_getElem? (i := 1465) (by decide +kernel)⟩
theorem lc_28 (C0 : lw_At p s m meth c b L xs) (hL : L ≤ 3072) (hG : lw_C s G1 G2) (hi : i + 6 ≤ L) (hK : K < 99999) (hV : lw_S s G1 G2 K H locs) (hl : lv_has ls 4 (lw_l G1 G2 b i)) (kk : ∀ (H2 : Heap) (locs2 : List Loc), lw_S s G1 G2 (K + 1) H2 locs2 → W p l e room_1 s m #[Value.ref b] below meth c H2 locs2 180 36349 Z (F0 m 1654 ls [])) : W p l e room_1 s m #[Value.ref b] below meth c H locs 180 36349 Z (F0 m 1214 ls []) := by
  obtain ⟨hx, hb, hret, hml, hown, hts, hX, hbl, hlocks, hgv⟩ := id C0
  obtain ⟨a1, a2, a3, a4, a5⟩ := id hG
  obtain ⟨hS, μ, ν, hJ, hR1, hR2, om, on⟩ := hV
  obtain ⟨P, R, c1, c2, hPR⟩ := jc_masterFor (x1 := (xs (i + 1)).toInt) hJ hK
  refine lv_aload_n hx hb dL_law_1214 rfl (lv_at hl 1 rfl) ?_
  refine lw_arg (j := 1) C0 hS (lv_at hl 0 rfl) (lv_at hl 3 rfl) hL (by omega) (by decide) dL_law_1215 dL_law_1216 dL_law_1217 dL_law_1218 dL_law_1219 ?_
  refine lw_call (G := G1) (K := kC) (As := [vI (xs (i + 1)).toInt]) (rest := []) C0 dL_law_1220 lkL_130 lmX9_masterFor kn0 lw_k9 rfl (by decide) c1 (am_oks_cons (am_ti (xs (i + 1))) am_okn) om a1 a2 hS hR1 hl.1 (Nat.zero_le _) (Nat.le_of_ble_eq_true rfl) (Nat.le_of_ble_eq_true rfl) (by simp [am_cv, Int32.ofInt_toInt]) (fun z m2 H1 locs1 hP1 hz hR1 om hS1 hk1 => ?_)
  have hR2 := lw_kept hR2 hG.d2 hk1
  refine lv_aload_n hx hb dL_law_1223 rfl (lv_at hl 2 rfl) ?_
  refine lw_arg (j := 1) C0 hS1 (lv_at hl 0 rfl) (lv_at hl 3 rfl) hL (by omega) (by decide) dL_law_1224 dL_law_1225 dL_law_1226 dL_law_1227 dL_law_1228 ?_
  refine lw_call (G := G2) (K := kR) (As := [vI (xs (i + 1)).toInt]) (rest := [.int (Int32.ofInt z)]) C0 dL_law_1229 lkL_133 lmX10_masterFor rn0 lw_k10 rfl (by decide) c2 (am_oks_cons (am_ti (xs (i + 1))) am_okn) on hG.lo2 a5 hS1 hR2 hl.1 (Nat.le_of_ble_eq_true rfl) (Nat.le_of_ble_eq_true rfl) (Nat.le_of_ble_eq_true rfl) (by simp [am_cv, Int32.ofInt_toInt]) (fun y n2 H2 locs2 hP2 hy hR2 on hS2 hk2 => ?_)
  have hR1 := lw_kept hR1 hG.d1 hk2
  obtain ⟨rfl, hJ⟩ := hPR z y m2 n2 hP1 hP2
  exact lv_icmp_eq (tgt := 1654) hx hb dL_law_1232 (by decide) (fun _ => kk H2 locs2 ⟨hS2, m2, n2, hJ, hR1, hR2, om, on⟩) (fun q => absurd rfl q)
theorem lkL_134 : Cond.methodLink R_law 134 mX9_normalize.1 ∈ lw_tbl ∧ Cond.instanceMethod mX9_normalize.1 ∈ lw_tbl ∧ Cond.selects mX9_normalize.1.cls mX9_normalize.1 mX9_normalize.1 ∈ lw_tbl := ⟨List.mem_of_getElem? (i := 892) (by decide +kernel), List.mem_of_getElem? (i := 893) (by decide +kernel), List.mem_of_getElem? (i := 894) (by decide +kernel)⟩
theorem lkL_137 : Cond.methodLink R_law 137 mX10_normalize.1 ∈ lw_tbl ∧ Cond.instanceMethod mX10_normalize.1 ∈ lw_tbl ∧ Cond.selects mX10_normalize.1.cls mX10_normalize.1 mX10_normalize.1 ∈ lw_tbl := ⟨List.mem_of_getElem? (i := 1467) (by decide +kernel), List.mem_of_getElem? (i := 1468) (by decide +kernel), List.mem_of_getElem? (i := 1469) (by decide +kernel)⟩
theorem lc_29 (C0 : lw_At p s m meth c b L xs) (hL : L ≤ 3072) (hG : lw_C s G1 G2) (hi : i + 6 ≤ L) (hK : K < 99999) (hV : lw_S s G1 G2 K H locs) (hl : lv_has ls 4 (lw_l G1 G2 b i)) (kk : ∀ (H2 : Heap) (locs2 : List Loc), lw_S s G1 G2 (K + 1) H2 locs2 → W p l e room_1 s m #[Value.ref b] below meth c H2 locs2 180 36349 Z (F0 m 1654 ls [])) : W p l e room_1 s m #[Value.ref b] below meth c H locs 180 36349 Z (F0 m 1237 ls []) := by
  obtain ⟨hx, hb, hret, hml, hown, hts, hX, hbl, hlocks, hgv⟩ := id C0
  obtain ⟨a1, a2, a3, a4, a5⟩ := id hG
  obtain ⟨hS, μ, ν, hJ, hR1, hR2, om, on⟩ := hV
  obtain ⟨P, R, c1, c2, hPR⟩ := jc_normalize (x1 := (xs (i + 1)).toInt) hJ hK
  refine lv_aload_n hx hb dL_law_1237 rfl (lv_at hl 1 rfl) ?_
  refine lw_arg (j := 1) C0 hS (lv_at hl 0 rfl) (lv_at hl 3 rfl) hL (by omega) (by decide) dL_law_1238 dL_law_1239 dL_law_1240 dL_law_1241 dL_law_1242 ?_
  refine lw_call (G := G1) (K := kC) (As := [vI (xs (i + 1)).toInt]) (rest := []) C0 dL_law_1243 lkL_134 lmX9_normalize kn0 lw_k9 rfl (by decide) c1 (am_oks_cons (am_ti (xs (i + 1))) am_okn) om a1 a2 hS hR1 hl.1 (Nat.zero_le _) (Nat.le_of_ble_eq_true rfl) (Nat.le_of_ble_eq_true rfl) (by simp [am_cv, Int32.ofInt_toInt]) (fun z m2 H1 locs1 hP1 hz hR1 om hS1 hk1 => ?_)
  have hR2 := lw_kept hR2 hG.d2 hk1
  refine lv_aload_n hx hb dL_law_1246 rfl (lv_at hl 2 rfl) ?_
  refine lw_arg (j := 1) C0 hS1 (lv_at hl 0 rfl) (lv_at hl 3 rfl) hL (by omega) (by decide) dL_law_1247 dL_law_1248 dL_law_1249 dL_law_1250 dL_law_1251 ?_
  refine lw_call (G := G2) (K := kR) (As := [vI (xs (i + 1)).toInt]) (rest := [.int (Int32.ofInt z)]) C0 dL_law_1252 lkL_137 lmX10_normalize rn0 lw_k10 rfl (by decide) c2 (am_oks_cons (am_ti (xs (i + 1))) am_okn) on hG.lo2 a5 hS1 hR2 hl.1 (Nat.le_of_ble_eq_true rfl) (Nat.le_of_ble_eq_true rfl) (Nat.le_of_ble_eq_true rfl) (by simp [am_cv, Int32.ofInt_toInt]) (fun y n2 H2 locs2 hP2 hy hR2 on hS2 hk2 => ?_)
  have hR1 := lw_kept hR1 hG.d1 hk2
  obtain ⟨rfl, hJ⟩ := hPR z y m2 n2 hP1 hP2
  exact lv_icmp_eq (tgt := 1654) hx hb dL_law_1255 (by decide) (fun _ => kk H2 locs2 ⟨hS2, m2, n2, hJ, hR1, hR2, om, on⟩) (fun q => absurd rfl q)
theorem lkL_138 : Cond.methodLink R_law 138 mX9_covered.1 ∈ lw_tbl ∧ Cond.instanceMethod mX9_covered.1 ∈ lw_tbl ∧ Cond.selects mX9_covered.1.cls mX9_covered.1 mX9_covered.1 ∈ lw_tbl := ⟨List.mem_of_getElem? (i := 896) (by decide +kernel), List.mem_of_getElem? (i := 897) (by decide +kernel), List.mem_of_getElem? (i := 898) (by decide +kernel)⟩
theorem lkL_141 : Cond.methodLink R_law 141 mX10_covered.1 ∈ lw_tbl ∧ Cond.instanceMethod mX10_covered.1 ∈ lw_tbl ∧ Cond.selects mX10_covered.1.cls mX10_covered.1 mX10_covered.1 ∈ lw_tbl := ⟨List.mem_of_getElem? (i := 1472) (by decide +kernel), List.mem_of_getElem? (i := 1473) (by decide +kernel), List.mem_of_getElem? (i := 1474) (by decide +kernel)⟩
theorem lc_30 (C0 : lw_At p s m meth c b L xs) (hL : L ≤ 3072) (hG : lw_C s G1 G2) (hi : i + 6 ≤ L) (hK : K < 99999) (hV : lw_S s G1 G2 K H locs) (hl : lv_has ls 4 (lw_l G1 G2 b i)) (kk : ∀ (H2 : Heap) (locs2 : List Loc), lw_S s G1 G2 (K + 1) H2 locs2 → W p l e room_1 s m #[Value.ref b] below meth c H2 locs2 180 36349 Z (F0 m 1654 ls [])) : W p l e room_1 s m #[Value.ref b] below meth c H locs 180 36349 Z (F0 m 1260 ls []) := by
  obtain ⟨hx, hb, hret, hml, hown, hts, hX, hbl, hlocks, hgv⟩ := id C0
  obtain ⟨a1, a2, a3, a4, a5⟩ := id hG
  obtain ⟨hS, μ, ν, hJ, hR1, hR2, om, on⟩ := hV
  obtain ⟨P, R, c1, c2, hPR⟩ := jc_covered (x1 := (xs (i + 1)).toInt) hJ hK
  refine lv_aload_n hx hb dL_law_1260 rfl (lv_at hl 1 rfl) ?_
  refine lw_arg (j := 1) C0 hS (lv_at hl 0 rfl) (lv_at hl 3 rfl) hL (by omega) (by decide) dL_law_1261 dL_law_1262 dL_law_1263 dL_law_1264 dL_law_1265 ?_
  refine lw_call (G := G1) (K := kC) (As := [vI (xs (i + 1)).toInt]) (rest := []) C0 dL_law_1266 lkL_138 lmX9_covered kn0 lw_k9 rfl (by decide) c1 (am_oks_cons (am_ti (xs (i + 1))) am_okn) om a1 a2 hS hR1 hl.1 (Nat.zero_le _) (Nat.le_of_ble_eq_true rfl) (Nat.le_of_ble_eq_true rfl) (by simp [am_cv, Int32.ofInt_toInt]) (fun z m2 H1 locs1 hP1 hz hR1 om hS1 hk1 => ?_)
  have hR2 := lw_kept hR2 hG.d2 hk1
  refine lv_aload_n hx hb dL_law_1269 rfl (lv_at hl 2 rfl) ?_
  refine lw_arg (j := 1) C0 hS1 (lv_at hl 0 rfl) (lv_at hl 3 rfl) hL (by omega) (by decide) dL_law_1270 dL_law_1271 dL_law_1272 dL_law_1273 dL_law_1274 ?_
  refine lw_call (G := G2) (K := kR) (As := [vI (xs (i + 1)).toInt]) (rest := [.int (Int32.ofInt z)]) C0 dL_law_1275 lkL_141 lmX10_covered rn0 lw_k10 rfl (by decide) c2 (am_oks_cons (am_ti (xs (i + 1))) am_okn) on hG.lo2 a5 hS1 hR2 hl.1 (Nat.le_of_ble_eq_true rfl) (Nat.le_of_ble_eq_true rfl) (Nat.le_of_ble_eq_true rfl) (by simp [am_cv, Int32.ofInt_toInt]) (fun y n2 H2 locs2 hP2 hy hR2 on hS2 hk2 => ?_)
  have hR1 := lw_kept hR1 hG.d1 hk2
  obtain ⟨rfl, hJ⟩ := hPR z y m2 n2 hP1 hP2
  exact lv_icmp_eq (tgt := 1654) hx hb dL_law_1278 (by decide) (fun _ => kk H2 locs2 ⟨hS2, m2, n2, hJ, hR1, hR2, om, on⟩) (fun q => absurd rfl q)
theorem lkL_142 : Cond.methodLink R_law 142 mX9_loudnessAgain.1 ∈ lw_tbl ∧ Cond.instanceMethod mX9_loudnessAgain.1 ∈ lw_tbl ∧ Cond.selects mX9_loudnessAgain.1.cls mX9_loudnessAgain.1 mX9_loudnessAgain.1 ∈ lw_tbl := ⟨List.mem_of_getElem? (i := 900) (by decide +kernel), List.mem_of_getElem? (i := 901) (by decide +kernel), List.mem_of_getElem? (i := 902) (by decide +kernel)⟩
theorem lkL_146 : Cond.methodLink R_law 146 mX10_loudnessAgain.1 ∈ lw_tbl ∧ Cond.instanceMethod mX10_loudnessAgain.1 ∈ lw_tbl ∧ Cond.selects mX10_loudnessAgain.1.cls mX10_loudnessAgain.1 mX10_loudnessAgain.1 ∈ lw_tbl := ⟨List.mem_of_getElem? (i := 1458) (by decide +kernel), List.mem_of_getElem? (i := 1459) (by decide +kernel), List.mem_of_getElem? (i := 1460) (by decide +kernel)⟩
theorem lc_31 (C0 : lw_At p s m meth c b L xs) (hL : L ≤ 3072) (hG : lw_C s G1 G2) (hi : i + 6 ≤ L) (hK : K < 99999) (hV : lw_S s G1 G2 K H locs) (hl : lv_has ls 4 (lw_l G1 G2 b i)) (kk : ∀ (H2 : Heap) (locs2 : List Loc), lw_S s G1 G2 (K + 1) H2 locs2 → W p l e room_1 s m #[Value.ref b] below meth c H2 locs2 180 36349 Z (F0 m 1654 ls [])) : W p l e room_1 s m #[Value.ref b] below meth c H locs 180 36349 Z (F0 m 1283 ls []) := by
  obtain ⟨hx, hb, hret, hml, hown, hts, hX, hbl, hlocks, hgv⟩ := id C0
  obtain ⟨a1, a2, a3, a4, a5⟩ := id hG
  obtain ⟨hS, μ, ν, hJ, hR1, hR2, om, on⟩ := hV
  obtain ⟨P, R, c1, c2, hPR⟩ := jc_loudnessAgain  hJ hK
  refine lv_aload_n hx hb dL_law_1283 rfl (lv_at hl 1 rfl) ?_
  refine lw_call (G := G1) (K := kC) (As := []) (rest := []) C0 dL_law_1284 lkL_142 lmX9_loudnessAgain kn0 lw_k9 rfl (by decide) c1 am_okn om a1 a2 hS hR1 hl.1 (Nat.zero_le _) (Nat.le_of_ble_eq_true rfl) (Nat.le_of_ble_eq_true rfl) (rfl) (fun z m2 H1 locs1 hP1 hz hR1 om hS1 hk1 => ?_)
  have hR2 := lw_kept hR2 hG.d2 hk1
  refine lv_aload_n hx hb dL_law_1287 rfl (lv_at hl 2 rfl) ?_
  refine lw_call (G := G2) (K := kR) (As := []) (rest := [.int (Int32.ofInt z)]) C0 dL_law_1288 lkL_146 lmX10_loudnessAgain rn0 lw_k10 rfl (by decide) c2 am_okn on hG.lo2 a5 hS1 hR2 hl.1 (Nat.le_of_ble_eq_true rfl) (Nat.le_of_ble_eq_true rfl) (Nat.le_of_ble_eq_true rfl) (rfl) (fun y n2 H2 locs2 hP2 hy hR2 on hS2 hk2 => ?_)
  have hR1 := lw_kept hR1 hG.d1 hk2
  obtain ⟨rfl, hJ⟩ := hPR z y m2 n2 hP1 hP2
  exact lv_icmp_eq (tgt := 1654) hx hb dL_law_1291 (by decide) (fun _ => kk H2 locs2 ⟨hS2, m2, n2, hJ, hR1, hR2, om, on⟩) (fun q => absurd rfl q)
theorem lkL_147 : Cond.methodLink R_law 147 mX9_silence.1 ∈ lw_tbl ∧ Cond.instanceMethod mX9_silence.1 ∈ lw_tbl ∧ Cond.selects mX9_silence.1.cls mX9_silence.1 mX9_silence.1 ∈ lw_tbl := ⟨List.mem_of_getElem? (i := 918) (by decide +kernel), List.mem_of_getElem? (i := 919) (by decide +kernel), List.mem_of_getElem? (i := 920) (by decide +kernel)⟩
theorem lkL_150 : Cond.methodLink R_law 150 mX10_silence.1 ∈ lw_tbl ∧ Cond.instanceMethod mX10_silence.1 ∈ lw_tbl ∧ Cond.selects mX10_silence.1.cls mX10_silence.1 mX10_silence.1 ∈ lw_tbl := ⟨List.mem_of_getElem? (i := 1363) (by decide +kernel), List.mem_of_getElem? (i := 1364) (by decide +kernel), List.mem_of_getElem? (i := 1365) (by decide +kernel)⟩
theorem lc_32 (C0 : lw_At p s m meth c b L xs) (hL : L ≤ 3072) (hG : lw_C s G1 G2) (hi : i + 6 ≤ L) (hK : K < 99999) (hV : lw_S s G1 G2 K H locs) (hl : lv_has ls 4 (lw_l G1 G2 b i)) (kk : ∀ (H2 : Heap) (locs2 : List Loc), lw_S s G1 G2 (K + 1) H2 locs2 → W p l e room_1 s m #[Value.ref b] below meth c H2 locs2 180 36349 Z (F0 m 1654 ls [])) : W p l e room_1 s m #[Value.ref b] below meth c H locs 180 36349 Z (F0 m 1296 ls []) := by
  obtain ⟨hx, hb, hret, hml, hown, hts, hX, hbl, hlocks, hgv⟩ := id C0
  obtain ⟨a1, a2, a3, a4, a5⟩ := id hG
  obtain ⟨hS, μ, ν, hJ, hR1, hR2, om, on⟩ := hV
  obtain ⟨P, R, c1, c2, hPR⟩ := jc_silence (x1 := (xs (i + 1)).toInt) (x2 := (xs (i + 2)).toInt) (x3 := (xs (i + 3)).toInt) (x4 := (xs (i + 4)).toInt) hJ hK
  refine lv_aload_n hx hb dL_law_1296 rfl (lv_at hl 1 rfl) ?_
  refine lw_arg (j := 1) C0 hS (lv_at hl 0 rfl) (lv_at hl 3 rfl) hL (by omega) (by decide) dL_law_1297 dL_law_1298 dL_law_1299 dL_law_1300 dL_law_1301 ?_
  refine lw_arg (j := 2) C0 hS (lv_at hl 0 rfl) (lv_at hl 3 rfl) hL (by omega) (by decide) dL_law_1302 dL_law_1303 dL_law_1304 dL_law_1305 dL_law_1306 ?_
  refine lw_arg (j := 3) C0 hS (lv_at hl 0 rfl) (lv_at hl 3 rfl) hL (by omega) (by decide) dL_law_1307 dL_law_1308 dL_law_1309 dL_law_1310 dL_law_1311 ?_
  refine lw_arg (j := 4) C0 hS (lv_at hl 0 rfl) (lv_at hl 3 rfl) hL (by omega) (by decide) dL_law_1312 dL_law_1313 dL_law_1314 dL_law_1315 dL_law_1316 ?_
  refine lw_call (G := G1) (K := kC) (As := [vI (xs (i + 1)).toInt, vI (xs (i + 2)).toInt, vI (xs (i + 3)).toInt, vI (xs (i + 4)).toInt]) (rest := []) C0 dL_law_1317 lkL_147 lmX9_silence kn0 lw_k9 rfl (by decide) c1 (am_oks_cons (am_ti (xs (i + 1))) (am_oks_cons (am_ti (xs (i + 2))) (am_oks_cons (am_ti (xs (i + 3))) (am_oks_cons (am_ti (xs (i + 4))) am_okn)))) om a1 a2 hS hR1 hl.1 (Nat.zero_le _) (Nat.le_of_ble_eq_true rfl) (Nat.le_of_ble_eq_true rfl) (by simp [am_cv, Int32.ofInt_toInt]) (fun z m2 H1 locs1 hP1 hz hR1 om hS1 hk1 => ?_)
  have hR2 := lw_kept hR2 hG.d2 hk1
  refine lv_aload_n hx hb dL_law_1320 rfl (lv_at hl 2 rfl) ?_
  refine lw_arg (j := 1) C0 hS1 (lv_at hl 0 rfl) (lv_at hl 3 rfl) hL (by omega) (by decide) dL_law_1321 dL_law_1322 dL_law_1323 dL_law_1324 dL_law_1325 ?_
  refine lw_arg (j := 2) C0 hS1 (lv_at hl 0 rfl) (lv_at hl 3 rfl) hL (by omega) (by decide) dL_law_1326 dL_law_1327 dL_law_1328 dL_law_1329 dL_law_1330 ?_
  refine lw_arg (j := 3) C0 hS1 (lv_at hl 0 rfl) (lv_at hl 3 rfl) hL (by omega) (by decide) dL_law_1331 dL_law_1332 dL_law_1333 dL_law_1334 dL_law_1335 ?_
  refine lw_arg (j := 4) C0 hS1 (lv_at hl 0 rfl) (lv_at hl 3 rfl) hL (by omega) (by decide) dL_law_1336 dL_law_1337 dL_law_1338 dL_law_1339 dL_law_1340 ?_
  refine lw_call (G := G2) (K := kR) (As := [vI (xs (i + 1)).toInt, vI (xs (i + 2)).toInt, vI (xs (i + 3)).toInt, vI (xs (i + 4)).toInt]) (rest := [.int (Int32.ofInt z)]) C0 dL_law_1341 lkL_150 lmX10_silence rn0 lw_k10 rfl (by decide) c2 (am_oks_cons (am_ti (xs (i + 1))) (am_oks_cons (am_ti (xs (i + 2))) (am_oks_cons (am_ti (xs (i + 3))) (am_oks_cons (am_ti (xs (i + 4))) am_okn)))) on hG.lo2 a5 hS1 hR2 hl.1 (Nat.le_of_ble_eq_true rfl) (Nat.le_of_ble_eq_true rfl) (Nat.le_of_ble_eq_true rfl) (by simp [am_cv, Int32.ofInt_toInt]) (fun y n2 H2 locs2 hP2 hy hR2 on hS2 hk2 => ?_)
  have hR1 := lw_kept hR1 hG.d1 hk2
  obtain ⟨rfl, hJ⟩ := hPR z y m2 n2 hP1 hP2
  exact lv_icmp_eq (tgt := 1654) hx hb dL_law_1344 (by decide) (fun _ => kk H2 locs2 ⟨hS2, m2, n2, hJ, hR1, hR2, om, on⟩) (fun q => absurd rfl q)
theorem lkL_151 : Cond.methodLink R_law 151 mX9_tighten.1 ∈ lw_tbl ∧ Cond.instanceMethod mX9_tighten.1 ∈ lw_tbl ∧ Cond.selects mX9_tighten.1.cls mX9_tighten.1 mX9_tighten.1 ∈ lw_tbl := ⟨List.mem_of_getElem? (i := 935) (by decide +kernel), List.mem_of_getElem? (i := 936) (by decide +kernel), List.mem_of_getElem? (i := 937) (by decide +kernel)⟩
theorem lkL_154 : Cond.methodLink R_law 154 mX10_tighten.1 ∈ lw_tbl ∧ Cond.instanceMethod mX10_tighten.1 ∈ lw_tbl ∧ Cond.selects mX10_tighten.1.cls mX10_tighten.1 mX10_tighten.1 ∈ lw_tbl := ⟨List.mem_of_getElem? (i := 1378) (by decide +kernel), List.mem_of_getElem? (i := 1379) (by decide +kernel), List.mem_of_getElem? (i := 1380) (by decide +kernel)⟩
theorem lc_33 (C0 : lw_At p s m meth c b L xs) (hL : L ≤ 3072) (hG : lw_C s G1 G2) (hi : i + 6 ≤ L) (hK : K < 99999) (hV : lw_S s G1 G2 K H locs) (hl : lv_has ls 4 (lw_l G1 G2 b i)) (kk : ∀ (H2 : Heap) (locs2 : List Loc), lw_S s G1 G2 (K + 1) H2 locs2 → W p l e room_1 s m #[Value.ref b] below meth c H2 locs2 180 36349 Z (F0 m 1654 ls [])) : W p l e room_1 s m #[Value.ref b] below meth c H locs 180 36349 Z (F0 m 1349 ls []) := by
  obtain ⟨hx, hb, hret, hml, hown, hts, hX, hbl, hlocks, hgv⟩ := id C0
  obtain ⟨a1, a2, a3, a4, a5⟩ := id hG
  obtain ⟨hS, μ, ν, hJ, hR1, hR2, om, on⟩ := hV
  obtain ⟨P, R, c1, c2, hPR⟩ := jc_tighten (x1 := (xs (i + 1)).toInt) (x2 := (xs (i + 2)).toInt) hJ hK
  refine lv_aload_n hx hb dL_law_1349 rfl (lv_at hl 1 rfl) ?_
  refine lw_arg (j := 1) C0 hS (lv_at hl 0 rfl) (lv_at hl 3 rfl) hL (by omega) (by decide) dL_law_1350 dL_law_1351 dL_law_1352 dL_law_1353 dL_law_1354 ?_
  refine lw_arg (j := 2) C0 hS (lv_at hl 0 rfl) (lv_at hl 3 rfl) hL (by omega) (by decide) dL_law_1355 dL_law_1356 dL_law_1357 dL_law_1358 dL_law_1359 ?_
  refine lw_call (G := G1) (K := kC) (As := [vI (xs (i + 1)).toInt, vI (xs (i + 2)).toInt]) (rest := []) C0 dL_law_1360 lkL_151 lmX9_tighten kn0 lw_k9 rfl (by decide) c1 (am_oks_cons (am_ti (xs (i + 1))) (am_oks_cons (am_ti (xs (i + 2))) am_okn)) om a1 a2 hS hR1 hl.1 (Nat.zero_le _) (Nat.le_of_ble_eq_true rfl) (Nat.le_of_ble_eq_true rfl) (by simp [am_cv, Int32.ofInt_toInt]) (fun z m2 H1 locs1 hP1 hz hR1 om hS1 hk1 => ?_)
  have hR2 := lw_kept hR2 hG.d2 hk1
  refine lv_aload_n hx hb dL_law_1363 rfl (lv_at hl 2 rfl) ?_
  refine lw_arg (j := 1) C0 hS1 (lv_at hl 0 rfl) (lv_at hl 3 rfl) hL (by omega) (by decide) dL_law_1364 dL_law_1365 dL_law_1366 dL_law_1367 dL_law_1368 ?_
  refine lw_arg (j := 2) C0 hS1 (lv_at hl 0 rfl) (lv_at hl 3 rfl) hL (by omega) (by decide) dL_law_1369 dL_law_1370 dL_law_1371 dL_law_1372 dL_law_1373 ?_
  refine lw_call (G := G2) (K := kR) (As := [vI (xs (i + 1)).toInt, vI (xs (i + 2)).toInt]) (rest := [.int (Int32.ofInt z)]) C0 dL_law_1374 lkL_154 lmX10_tighten rn0 lw_k10 rfl (by decide) c2 (am_oks_cons (am_ti (xs (i + 1))) (am_oks_cons (am_ti (xs (i + 2))) am_okn)) on hG.lo2 a5 hS1 hR2 hl.1 (Nat.le_of_ble_eq_true rfl) (Nat.le_of_ble_eq_true rfl) (Nat.le_of_ble_eq_true rfl) (by simp [am_cv, Int32.ofInt_toInt]) (fun y n2 H2 locs2 hP2 hy hR2 on hS2 hk2 => ?_)
  have hR1 := lw_kept hR1 hG.d1 hk2
  obtain ⟨rfl, hJ⟩ := hPR z y m2 n2 hP1 hP2
  exact lv_icmp_eq (tgt := 1654) hx hb dL_law_1377 (by decide) (fun _ => kk H2 locs2 ⟨hS2, m2, n2, hJ, hR1, hR2, om, on⟩) (fun q => absurd rfl q)
theorem lkL_155 : Cond.methodLink R_law 155 mX9_ifCut.1 ∈ lw_tbl ∧ Cond.instanceMethod mX9_ifCut.1 ∈ lw_tbl ∧ Cond.selects mX9_ifCut.1.cls mX9_ifCut.1 mX9_ifCut.1 ∈ lw_tbl := ⟨List.mem_of_getElem? (i := 940) (by decide +kernel), List.mem_of_getElem? (i := 941) (by decide +kernel), List.mem_of_getElem? (i := 942) (by decide +kernel)⟩
theorem lkL_158 : Cond.methodLink R_law 158 mX10_ifCut.1 ∈ lw_tbl ∧ Cond.instanceMethod mX10_ifCut.1 ∈ lw_tbl ∧ Cond.selects mX10_ifCut.1.cls mX10_ifCut.1 mX10_ifCut.1 ∈ lw_tbl := ⟨List.mem_of_getElem? (i := 1382) (by decide +kernel), List.mem_of_getElem? (i := 1383) (by decide +kernel), List.mem_of_getElem? (i := 1384) (by decide +kernel)⟩
theorem lc_34 (C0 : lw_At p s m meth c b L xs) (hL : L ≤ 3072) (hG : lw_C s G1 G2) (hi : i + 6 ≤ L) (hK : K < 99999) (hV : lw_S s G1 G2 K H locs) (hl : lv_has ls 4 (lw_l G1 G2 b i)) (kk : ∀ (H2 : Heap) (locs2 : List Loc), lw_S s G1 G2 (K + 1) H2 locs2 → W p l e room_1 s m #[Value.ref b] below meth c H2 locs2 180 36349 Z (F0 m 1654 ls [])) : W p l e room_1 s m #[Value.ref b] below meth c H locs 180 36349 Z (F0 m 1382 ls []) := by
  obtain ⟨hx, hb, hret, hml, hown, hts, hX, hbl, hlocks, hgv⟩ := id C0
  obtain ⟨a1, a2, a3, a4, a5⟩ := id hG
  obtain ⟨hS, μ, ν, hJ, hR1, hR2, om, on⟩ := hV
  obtain ⟨P, R, c1, c2, hPR⟩ := jc_ifCut (x1 := (xs (i + 1)).toInt) (x2 := (xs (i + 2)).toInt) (x3 := (xs (i + 3)).toInt) hJ hK
  refine lv_aload_n hx hb dL_law_1382 rfl (lv_at hl 1 rfl) ?_
  refine lw_arg (j := 1) C0 hS (lv_at hl 0 rfl) (lv_at hl 3 rfl) hL (by omega) (by decide) dL_law_1383 dL_law_1384 dL_law_1385 dL_law_1386 dL_law_1387 ?_
  refine lw_arg (j := 2) C0 hS (lv_at hl 0 rfl) (lv_at hl 3 rfl) hL (by omega) (by decide) dL_law_1388 dL_law_1389 dL_law_1390 dL_law_1391 dL_law_1392 ?_
  refine lw_arg (j := 3) C0 hS (lv_at hl 0 rfl) (lv_at hl 3 rfl) hL (by omega) (by decide) dL_law_1393 dL_law_1394 dL_law_1395 dL_law_1396 dL_law_1397 ?_
  refine lw_call (G := G1) (K := kC) (As := [vI (xs (i + 1)).toInt, vI (xs (i + 2)).toInt, vI (xs (i + 3)).toInt]) (rest := []) C0 dL_law_1398 lkL_155 lmX9_ifCut kn0 lw_k9 rfl (by decide) c1 (am_oks_cons (am_ti (xs (i + 1))) (am_oks_cons (am_ti (xs (i + 2))) (am_oks_cons (am_ti (xs (i + 3))) am_okn))) om a1 a2 hS hR1 hl.1 (Nat.zero_le _) (Nat.le_of_ble_eq_true rfl) (Nat.le_of_ble_eq_true rfl) (by simp [am_cv, Int32.ofInt_toInt]) (fun z m2 H1 locs1 hP1 hz hR1 om hS1 hk1 => ?_)
  have hR2 := lw_kept hR2 hG.d2 hk1
  refine lv_aload_n hx hb dL_law_1401 rfl (lv_at hl 2 rfl) ?_
  refine lw_arg (j := 1) C0 hS1 (lv_at hl 0 rfl) (lv_at hl 3 rfl) hL (by omega) (by decide) dL_law_1402 dL_law_1403 dL_law_1404 dL_law_1405 dL_law_1406 ?_
  refine lw_arg (j := 2) C0 hS1 (lv_at hl 0 rfl) (lv_at hl 3 rfl) hL (by omega) (by decide) dL_law_1407 dL_law_1408 dL_law_1409 dL_law_1410 dL_law_1411 ?_
  refine lw_arg (j := 3) C0 hS1 (lv_at hl 0 rfl) (lv_at hl 3 rfl) hL (by omega) (by decide) dL_law_1412 dL_law_1413 dL_law_1414 dL_law_1415 dL_law_1416 ?_
  refine lw_call (G := G2) (K := kR) (As := [vI (xs (i + 1)).toInt, vI (xs (i + 2)).toInt, vI (xs (i + 3)).toInt]) (rest := [.int (Int32.ofInt z)]) C0 dL_law_1417 lkL_158 lmX10_ifCut rn0 lw_k10 rfl (by decide) c2 (am_oks_cons (am_ti (xs (i + 1))) (am_oks_cons (am_ti (xs (i + 2))) (am_oks_cons (am_ti (xs (i + 3))) am_okn))) on hG.lo2 a5 hS1 hR2 hl.1 (Nat.le_of_ble_eq_true rfl) (Nat.le_of_ble_eq_true rfl) (Nat.le_of_ble_eq_true rfl) (by simp [am_cv, Int32.ofInt_toInt]) (fun y n2 H2 locs2 hP2 hy hR2 on hS2 hk2 => ?_)
  have hR1 := lw_kept hR1 hG.d1 hk2
  obtain ⟨rfl, hJ⟩ := hPR z y m2 n2 hP1 hP2
  exact lv_icmp_eq (tgt := 1654) hx hb dL_law_1420 (by decide) (fun _ => kk H2 locs2 ⟨hS2, m2, n2, hJ, hR1, hR2, om, on⟩) (fun q => absurd rfl q)
theorem lkL_159 : Cond.methodLink R_law 159 mX9_event.1 ∈ lw_tbl ∧ Cond.instanceMethod mX9_event.1 ∈ lw_tbl ∧ Cond.selects mX9_event.1.cls mX9_event.1 mX9_event.1 ∈ lw_tbl := ⟨List.mem_of_getElem? (i := 948) (by decide +kernel), List.mem_of_getElem? (i := 949) (by decide +kernel), List.mem_of_getElem? (i := 950) (by decide +kernel)⟩
theorem lkL_162 : Cond.methodLink R_law 162 mX10_event.1 ∈ lw_tbl ∧ Cond.instanceMethod mX10_event.1 ∈ lw_tbl ∧ Cond.selects mX10_event.1.cls mX10_event.1 mX10_event.1 ∈ lw_tbl := ⟨List.mem_of_getElem? (i := 1476) (by decide +kernel), List.mem_of_getElem? (i := 1477) (by decide +kernel), List.mem_of_getElem? (i := 1478) (by decide +kernel)⟩
theorem lc_35 (C0 : lw_At p s m meth c b L xs) (hL : L ≤ 3072) (hG : lw_C s G1 G2) (hi : i + 6 ≤ L) (hK : K < 99999) (hV : lw_S s G1 G2 K H locs) (hl : lv_has ls 4 (lw_l G1 G2 b i)) (kk : ∀ (H2 : Heap) (locs2 : List Loc), lw_S s G1 G2 (K + 1) H2 locs2 → W p l e room_1 s m #[Value.ref b] below meth c H2 locs2 180 36349 Z (F0 m 1654 ls [])) : W p l e room_1 s m #[Value.ref b] below meth c H locs 180 36349 Z (F0 m 1425 ls []) := by
  obtain ⟨hx, hb, hret, hml, hown, hts, hX, hbl, hlocks, hgv⟩ := id C0
  obtain ⟨a1, a2, a3, a4, a5⟩ := id hG
  obtain ⟨hS, μ, ν, hJ, hR1, hR2, om, on⟩ := hV
  obtain ⟨P, R, c1, c2, hPR⟩ := jc_event (x1 := (xs (i + 1)).toInt) (x2 := (xs (i + 2)).toInt) hJ hK
  refine lv_aload_n hx hb dL_law_1425 rfl (lv_at hl 1 rfl) ?_
  refine lw_arg (j := 1) C0 hS (lv_at hl 0 rfl) (lv_at hl 3 rfl) hL (by omega) (by decide) dL_law_1426 dL_law_1427 dL_law_1428 dL_law_1429 dL_law_1430 ?_
  refine lw_arg (j := 2) C0 hS (lv_at hl 0 rfl) (lv_at hl 3 rfl) hL (by omega) (by decide) dL_law_1431 dL_law_1432 dL_law_1433 dL_law_1434 dL_law_1435 ?_
  refine lw_call (G := G1) (K := kC) (As := [vI (xs (i + 1)).toInt, vI (xs (i + 2)).toInt]) (rest := []) C0 dL_law_1436 lkL_159 lmX9_event kn0 lw_k9 rfl (by decide) c1 (am_oks_cons (am_ti (xs (i + 1))) (am_oks_cons (am_ti (xs (i + 2))) am_okn)) om a1 a2 hS hR1 hl.1 (Nat.zero_le _) (Nat.le_of_ble_eq_true rfl) (Nat.le_of_ble_eq_true rfl) (by simp [am_cv, Int32.ofInt_toInt]) (fun z m2 H1 locs1 hP1 hz hR1 om hS1 hk1 => ?_)
  have hR2 := lw_kept hR2 hG.d2 hk1
  refine lv_aload_n hx hb dL_law_1439 rfl (lv_at hl 2 rfl) ?_
  refine lw_arg (j := 1) C0 hS1 (lv_at hl 0 rfl) (lv_at hl 3 rfl) hL (by omega) (by decide) dL_law_1440 dL_law_1441 dL_law_1442 dL_law_1443 dL_law_1444 ?_
  refine lw_arg (j := 2) C0 hS1 (lv_at hl 0 rfl) (lv_at hl 3 rfl) hL (by omega) (by decide) dL_law_1445 dL_law_1446 dL_law_1447 dL_law_1448 dL_law_1449 ?_
  refine lw_call (G := G2) (K := kR) (As := [vI (xs (i + 1)).toInt, vI (xs (i + 2)).toInt]) (rest := [.int (Int32.ofInt z)]) C0 dL_law_1450 lkL_162 lmX10_event rn0 lw_k10 rfl (by decide) c2 (am_oks_cons (am_ti (xs (i + 1))) (am_oks_cons (am_ti (xs (i + 2))) am_okn)) on hG.lo2 a5 hS1 hR2 hl.1 (Nat.le_of_ble_eq_true rfl) (Nat.le_of_ble_eq_true rfl) (Nat.le_of_ble_eq_true rfl) (by simp [am_cv, Int32.ofInt_toInt]) (fun y n2 H2 locs2 hP2 hy hR2 on hS2 hk2 => ?_)
  have hR1 := lw_kept hR1 hG.d1 hk2
  obtain ⟨rfl, hJ⟩ := hPR z y m2 n2 hP1 hP2
  exact lv_icmp_eq (tgt := 1654) hx hb dL_law_1453 (by decide) (fun _ => kk H2 locs2 ⟨hS2, m2, n2, hJ, hR1, hR2, om, on⟩) (fun q => absurd rfl q)
theorem lkL_163 : Cond.methodLink R_law 163 mX9_append.1 ∈ lw_tbl ∧ Cond.instanceMethod mX9_append.1 ∈ lw_tbl ∧ Cond.selects mX9_append.1.cls mX9_append.1 mX9_append.1 ∈ lw_tbl := ⟨List.mem_of_getElem? (i := 972) (by decide +kernel), List.mem_of_getElem? (i := 973) (by decide +kernel), List.mem_of_getElem? (i := 974) (by decide +kernel)⟩
theorem lkL_166 : Cond.methodLink R_law 166 mX10_append.1 ∈ lw_tbl ∧ Cond.instanceMethod mX10_append.1 ∈ lw_tbl ∧ Cond.selects mX10_append.1.cls mX10_append.1 mX10_append.1 ∈ lw_tbl := ⟨List.mem_of_getElem? (i := 1489) (by decide +kernel), List.mem_of_getElem? (i := 1490) (by decide +kernel), List.mem_of_getElem? (i := 1491) (by decide +kernel)⟩
theorem lc_36 (C0 : lw_At p s m meth c b L xs) (hL : L ≤ 3072) (hG : lw_C s G1 G2) (hi : i + 6 ≤ L) (hK : K < 99999) (hV : lw_S s G1 G2 K H locs) (hl : lv_has ls 4 (lw_l G1 G2 b i)) (kk : ∀ (H2 : Heap) (locs2 : List Loc), lw_S s G1 G2 (K + 1) H2 locs2 → W p l e room_1 s m #[Value.ref b] below meth c H2 locs2 180 36349 Z (F0 m 1654 ls [])) : W p l e room_1 s m #[Value.ref b] below meth c H locs 180 36349 Z (F0 m 1458 ls []) := by
  obtain ⟨hx, hb, hret, hml, hown, hts, hX, hbl, hlocks, hgv⟩ := id C0
  obtain ⟨a1, a2, a3, a4, a5⟩ := id hG
  obtain ⟨hS, μ, ν, hJ, hR1, hR2, om, on⟩ := hV
  obtain ⟨P, R, c1, c2, hPR⟩ := jc_append (x1 := (xs (i + 1)).toInt) hJ hK
  refine lv_aload_n hx hb dL_law_1458 rfl (lv_at hl 1 rfl) ?_
  refine lw_arg (j := 1) C0 hS (lv_at hl 0 rfl) (lv_at hl 3 rfl) hL (by omega) (by decide) dL_law_1459 dL_law_1460 dL_law_1461 dL_law_1462 dL_law_1463 ?_
  refine lw_call (G := G1) (K := kC) (As := [vI (xs (i + 1)).toInt]) (rest := []) C0 dL_law_1464 lkL_163 lmX9_append kn0 lw_k9 rfl (by decide) c1 (am_oks_cons (am_ti (xs (i + 1))) am_okn) om a1 a2 hS hR1 hl.1 (Nat.zero_le _) (Nat.le_of_ble_eq_true rfl) (Nat.le_of_ble_eq_true rfl) (by simp [am_cv, Int32.ofInt_toInt]) (fun z m2 H1 locs1 hP1 hz hR1 om hS1 hk1 => ?_)
  have hR2 := lw_kept hR2 hG.d2 hk1
  refine lv_aload_n hx hb dL_law_1467 rfl (lv_at hl 2 rfl) ?_
  refine lw_arg (j := 1) C0 hS1 (lv_at hl 0 rfl) (lv_at hl 3 rfl) hL (by omega) (by decide) dL_law_1468 dL_law_1469 dL_law_1470 dL_law_1471 dL_law_1472 ?_
  refine lw_call (G := G2) (K := kR) (As := [vI (xs (i + 1)).toInt]) (rest := [.int (Int32.ofInt z)]) C0 dL_law_1473 lkL_166 lmX10_append rn0 lw_k10 rfl (by decide) c2 (am_oks_cons (am_ti (xs (i + 1))) am_okn) on hG.lo2 a5 hS1 hR2 hl.1 (Nat.le_of_ble_eq_true rfl) (Nat.le_of_ble_eq_true rfl) (Nat.le_of_ble_eq_true rfl) (by simp [am_cv, Int32.ofInt_toInt]) (fun y n2 H2 locs2 hP2 hy hR2 on hS2 hk2 => ?_)
  have hR1 := lw_kept hR1 hG.d1 hk2
  obtain ⟨rfl, hJ⟩ := hPR z y m2 n2 hP1 hP2
  exact lv_icmp_eq (tgt := 1654) hx hb dL_law_1476 (by decide) (fun _ => kk H2 locs2 ⟨hS2, m2, n2, hJ, hR1, hR2, om, on⟩) (fun q => absurd rfl q)
theorem lkL_167 : Cond.methodLink R_law 167 mX9_execute.1 ∈ lw_tbl ∧ Cond.instanceMethod mX9_execute.1 ∈ lw_tbl ∧ Cond.selects mX9_execute.1.cls mX9_execute.1 mX9_execute.1 ∈ lw_tbl := ⟨List.mem_of_getElem? (i := 980) (by decide +kernel), List.mem_of_getElem? (i := 981) (by decide +kernel), List.mem_of_getElem? (i := 982) (by decide +kernel)⟩
theorem lkL_170 : Cond.methodLink R_law 170 mX10_execute.1 ∈ lw_tbl ∧ Cond.instanceMethod mX10_execute.1 ∈ lw_tbl ∧ Cond.selects mX10_execute.1.cls mX10_execute.1 mX10_execute.1 ∈ lw_tbl := ⟨List.mem_of_getElem? (i := 1493) (by decide +kernel), List.mem_of_getElem? (i := 1494) (by decide +kernel), List.mem_of_getElem? (i := 1495) (by decide +kernel)⟩
theorem lc_37 (C0 : lw_At p s m meth c b L xs) (hL : L ≤ 3072) (hG : lw_C s G1 G2) (hi : i + 6 ≤ L) (hK : K < 99999) (hV : lw_S s G1 G2 K H locs) (hl : lv_has ls 4 (lw_l G1 G2 b i)) (kk : ∀ (H2 : Heap) (locs2 : List Loc), lw_S s G1 G2 (K + 1) H2 locs2 → W p l e room_1 s m #[Value.ref b] below meth c H2 locs2 180 36349 Z (F0 m 1654 ls [])) : W p l e room_1 s m #[Value.ref b] below meth c H locs 180 36349 Z (F0 m 1481 ls []) := by
  obtain ⟨hx, hb, hret, hml, hown, hts, hX, hbl, hlocks, hgv⟩ := id C0
  obtain ⟨a1, a2, a3, a4, a5⟩ := id hG
  obtain ⟨hS, μ, ν, hJ, hR1, hR2, om, on⟩ := hV
  obtain ⟨P, R, c1, c2, hPR⟩ := jc_execute  hJ hK
  refine lv_aload_n hx hb dL_law_1481 rfl (lv_at hl 1 rfl) ?_
  refine lw_call (G := G1) (K := kC) (As := []) (rest := []) C0 dL_law_1482 lkL_167 lmX9_execute kn0 lw_k9 rfl (by decide) c1 am_okn om a1 a2 hS hR1 hl.1 (Nat.zero_le _) (Nat.le_of_ble_eq_true rfl) (Nat.le_of_ble_eq_true rfl) (rfl) (fun z m2 H1 locs1 hP1 hz hR1 om hS1 hk1 => ?_)
  have hR2 := lw_kept hR2 hG.d2 hk1
  refine lv_aload_n hx hb dL_law_1485 rfl (lv_at hl 2 rfl) ?_
  refine lw_call (G := G2) (K := kR) (As := []) (rest := [.int (Int32.ofInt z)]) C0 dL_law_1486 lkL_170 lmX10_execute rn0 lw_k10 rfl (by decide) c2 am_okn on hG.lo2 a5 hS1 hR2 hl.1 (Nat.le_of_ble_eq_true rfl) (Nat.le_of_ble_eq_true rfl) (Nat.le_of_ble_eq_true rfl) (rfl) (fun y n2 H2 locs2 hP2 hy hR2 on hS2 hk2 => ?_)
  have hR1 := lw_kept hR1 hG.d1 hk2
  obtain ⟨rfl, hJ⟩ := hPR z y m2 n2 hP1 hP2
  exact lv_icmp_eq (tgt := 1654) hx hb dL_law_1489 (by decide) (fun _ => kk H2 locs2 ⟨hS2, m2, n2, hJ, hR1, hR2, om, on⟩) (fun q => absurd rfl q)
theorem lkL_171 : Cond.methodLink R_law 171 mX9_refused.1 ∈ lw_tbl ∧ Cond.instanceMethod mX9_refused.1 ∈ lw_tbl ∧ Cond.selects mX9_refused.1.cls mX9_refused.1 mX9_refused.1 ∈ lw_tbl := ⟨List.mem_of_getElem? (i := 1007) (by decide +kernel), List.mem_of_getElem? (i := 1008) (by decide +kernel), List.mem_of_getElem? (i := 1009) (by decide +kernel)⟩
theorem lkL_174 : Cond.methodLink R_law 174 mX10_refused.1 ∈ lw_tbl ∧ Cond.instanceMethod mX10_refused.1 ∈ lw_tbl ∧ Cond.selects mX10_refused.1.cls mX10_refused.1 mX10_refused.1 ∈ lw_tbl := ⟨List.mem_of_getElem? (i := 1516) (by decide +kernel), List.mem_of_getElem? (i := 1517) (by decide +kernel), List.mem_of_getElem? (i := 1518) (by decide +kernel)⟩
theorem lc_38 (C0 : lw_At p s m meth c b L xs) (hL : L ≤ 3072) (hG : lw_C s G1 G2) (hi : i + 6 ≤ L) (hK : K < 99999) (hV : lw_S s G1 G2 K H locs) (hl : lv_has ls 4 (lw_l G1 G2 b i)) (kk : ∀ (H2 : Heap) (locs2 : List Loc), lw_S s G1 G2 (K + 1) H2 locs2 → W p l e room_1 s m #[Value.ref b] below meth c H2 locs2 180 36349 Z (F0 m 1654 ls [])) : W p l e room_1 s m #[Value.ref b] below meth c H locs 180 36349 Z (F0 m 1494 ls []) := by
  obtain ⟨hx, hb, hret, hml, hown, hts, hX, hbl, hlocks, hgv⟩ := id C0
  obtain ⟨a1, a2, a3, a4, a5⟩ := id hG
  obtain ⟨hS, μ, ν, hJ, hR1, hR2, om, on⟩ := hV
  obtain ⟨P, R, c1, c2, hPR⟩ := jc_refused (x1 := (xs (i + 1)).toInt) hJ hK
  refine lv_aload_n hx hb dL_law_1494 rfl (lv_at hl 1 rfl) ?_
  refine lw_arg (j := 1) C0 hS (lv_at hl 0 rfl) (lv_at hl 3 rfl) hL (by omega) (by decide) dL_law_1495 dL_law_1496 dL_law_1497 dL_law_1498 dL_law_1499 ?_
  refine lw_call (G := G1) (K := kC) (As := [vI (xs (i + 1)).toInt]) (rest := []) C0 dL_law_1500 lkL_171 lmX9_refused kn0 lw_k9 rfl (by decide) c1 (am_oks_cons (am_ti (xs (i + 1))) am_okn) om a1 a2 hS hR1 hl.1 (Nat.zero_le _) (Nat.le_of_ble_eq_true rfl) (Nat.le_of_ble_eq_true rfl) (by simp [am_cv, Int32.ofInt_toInt]) (fun z m2 H1 locs1 hP1 hz hR1 om hS1 hk1 => ?_)
  have hR2 := lw_kept hR2 hG.d2 hk1
  refine lv_aload_n hx hb dL_law_1503 rfl (lv_at hl 2 rfl) ?_
  refine lw_arg (j := 1) C0 hS1 (lv_at hl 0 rfl) (lv_at hl 3 rfl) hL (by omega) (by decide) dL_law_1504 dL_law_1505 dL_law_1506 dL_law_1507 dL_law_1508 ?_
  refine lw_call (G := G2) (K := kR) (As := [vI (xs (i + 1)).toInt]) (rest := [.int (Int32.ofInt z)]) C0 dL_law_1509 lkL_174 lmX10_refused rn0 lw_k10 rfl (by decide) c2 (am_oks_cons (am_ti (xs (i + 1))) am_okn) on hG.lo2 a5 hS1 hR2 hl.1 (Nat.le_of_ble_eq_true rfl) (Nat.le_of_ble_eq_true rfl) (Nat.le_of_ble_eq_true rfl) (by simp [am_cv, Int32.ofInt_toInt]) (fun y n2 H2 locs2 hP2 hy hR2 on hS2 hk2 => ?_)
  have hR1 := lw_kept hR1 hG.d1 hk2
  obtain ⟨rfl, hJ⟩ := hPR z y m2 n2 hP1 hP2
  exact lv_icmp_eq (tgt := 1654) hx hb dL_law_1512 (by decide) (fun _ => kk H2 locs2 ⟨hS2, m2, n2, hJ, hR1, hR2, om, on⟩) (fun q => absurd rfl q)
theorem lkL_175 : Cond.methodLink R_law 175 mX9_write.1 ∈ lw_tbl ∧ Cond.instanceMethod mX9_write.1 ∈ lw_tbl ∧ Cond.selects mX9_write.1.cls mX9_write.1 mX9_write.1 ∈ lw_tbl := ⟨List.mem_of_getElem? (i := 1011) (by decide +kernel), List.mem_of_getElem? (i := 1012) (by decide +kernel), List.mem_of_getElem? (i := 1013) (by decide +kernel)⟩
theorem lkL_178 : Cond.methodLink R_law 178 mX10_write.1 ∈ lw_tbl ∧ Cond.instanceMethod mX10_write.1 ∈ lw_tbl ∧ Cond.selects mX10_write.1.cls mX10_write.1 mX10_write.1 ∈ lw_tbl := ⟨List.mem_of_getElem? (i := 1520) (by decide +kernel), List.mem_of_getElem? (i := 1521) (by decide +kernel), List.mem_of_getElem? (i := 1522) (by decide +kernel)⟩
theorem lc_39 (C0 : lw_At p s m meth c b L xs) (hL : L ≤ 3072) (hG : lw_C s G1 G2) (hi : i + 6 ≤ L) (hK : K < 99999) (hV : lw_S s G1 G2 K H locs) (hl : lv_has ls 4 (lw_l G1 G2 b i)) (kk : ∀ (H2 : Heap) (locs2 : List Loc), lw_S s G1 G2 (K + 1) H2 locs2 → W p l e room_1 s m #[Value.ref b] below meth c H2 locs2 180 36349 Z (F0 m 1654 ls [])) : W p l e room_1 s m #[Value.ref b] below meth c H locs 180 36349 Z (F0 m 1517 ls []) := by
  obtain ⟨hx, hb, hret, hml, hown, hts, hX, hbl, hlocks, hgv⟩ := id C0
  obtain ⟨a1, a2, a3, a4, a5⟩ := id hG
  obtain ⟨hS, μ, ν, hJ, hR1, hR2, om, on⟩ := hV
  obtain ⟨P, R, c1, c2, hPR⟩ := jc_write  hJ hK
  refine lv_aload_n hx hb dL_law_1517 rfl (lv_at hl 1 rfl) ?_
  refine lw_call (G := G1) (K := kC) (As := []) (rest := []) C0 dL_law_1518 lkL_175 lmX9_write kn0 lw_k9 rfl (by decide) c1 am_okn om a1 a2 hS hR1 hl.1 (Nat.zero_le _) (Nat.le_of_ble_eq_true rfl) (Nat.le_of_ble_eq_true rfl) (rfl) (fun z m2 H1 locs1 hP1 hz hR1 om hS1 hk1 => ?_)
  have hR2 := lw_kept hR2 hG.d2 hk1
  refine lv_aload_n hx hb dL_law_1521 rfl (lv_at hl 2 rfl) ?_
  refine lw_call (G := G2) (K := kR) (As := []) (rest := [.int (Int32.ofInt z)]) C0 dL_law_1522 lkL_178 lmX10_write rn0 lw_k10 rfl (by decide) c2 am_okn on hG.lo2 a5 hS1 hR2 hl.1 (Nat.le_of_ble_eq_true rfl) (Nat.le_of_ble_eq_true rfl) (Nat.le_of_ble_eq_true rfl) (rfl) (fun y n2 H2 locs2 hP2 hy hR2 on hS2 hk2 => ?_)
  have hR1 := lw_kept hR1 hG.d1 hk2
  obtain ⟨rfl, hJ⟩ := hPR z y m2 n2 hP1 hP2
  exact lv_icmp_eq (tgt := 1654) hx hb dL_law_1525 (by decide) (fun _ => kk H2 locs2 ⟨hS2, m2, n2, hJ, hR1, hR2, om, on⟩) (fun q => absurd rfl q)
theorem lkL_179 : Cond.methodLink R_law 179 mX9_written.1 ∈ lw_tbl ∧ Cond.instanceMethod mX9_written.1 ∈ lw_tbl ∧ Cond.selects mX9_written.1.cls mX9_written.1 mX9_written.1 ∈ lw_tbl := ⟨List.mem_of_getElem? (i := 1024) (by decide +kernel), List.mem_of_getElem? (i := 1025) (by decide +kernel), List.mem_of_getElem? (i := 1026) (by decide +kernel)⟩
theorem lkL_182 : Cond.methodLink R_law 182 mX10_written.1 ∈ lw_tbl ∧ Cond.instanceMethod mX10_written.1 ∈ lw_tbl ∧ Cond.selects mX10_written.1.cls mX10_written.1 mX10_written.1 ∈ lw_tbl := ⟨List.mem_of_getElem? (i := 1528) (by decide +kernel), List.mem_of_getElem? (i := 1529) (by decide +kernel), List.mem_of_getElem? (i := 1530) (by decide +kernel)⟩
theorem lc_40 (C0 : lw_At p s m meth c b L xs) (hL : L ≤ 3072) (hG : lw_C s G1 G2) (hi : i + 6 ≤ L) (hK : K < 99999) (hV : lw_S s G1 G2 K H locs) (hl : lv_has ls 4 (lw_l G1 G2 b i)) (kk : ∀ (H2 : Heap) (locs2 : List Loc), lw_S s G1 G2 (K + 1) H2 locs2 → W p l e room_1 s m #[Value.ref b] below meth c H2 locs2 180 36349 Z (F0 m 1654 ls [])) : W p l e room_1 s m #[Value.ref b] below meth c H locs 180 36349 Z (F0 m 1530 ls []) := by
  obtain ⟨hx, hb, hret, hml, hown, hts, hX, hbl, hlocks, hgv⟩ := id C0
  obtain ⟨a1, a2, a3, a4, a5⟩ := id hG
  obtain ⟨hS, μ, ν, hJ, hR1, hR2, om, on⟩ := hV
  obtain ⟨P, R, c1, c2, hPR⟩ := jc_written (x1 := (xs (i + 1)).toInt) hJ hK
  refine lv_aload_n hx hb dL_law_1530 rfl (lv_at hl 1 rfl) ?_
  refine lw_arg (j := 1) C0 hS (lv_at hl 0 rfl) (lv_at hl 3 rfl) hL (by omega) (by decide) dL_law_1531 dL_law_1532 dL_law_1533 dL_law_1534 dL_law_1535 ?_
  refine lw_call (G := G1) (K := kC) (As := [vI (xs (i + 1)).toInt]) (rest := []) C0 dL_law_1536 lkL_179 lmX9_written kn0 lw_k9 rfl (by decide) c1 (am_oks_cons (am_ti (xs (i + 1))) am_okn) om a1 a2 hS hR1 hl.1 (Nat.zero_le _) (Nat.le_of_ble_eq_true rfl) (Nat.le_of_ble_eq_true rfl) (by simp [am_cv, Int32.ofInt_toInt]) (fun z m2 H1 locs1 hP1 hz hR1 om hS1 hk1 => ?_)
  have hR2 := lw_kept hR2 hG.d2 hk1
  refine lv_aload_n hx hb dL_law_1539 rfl (lv_at hl 2 rfl) ?_
  refine lw_arg (j := 1) C0 hS1 (lv_at hl 0 rfl) (lv_at hl 3 rfl) hL (by omega) (by decide) dL_law_1540 dL_law_1541 dL_law_1542 dL_law_1543 dL_law_1544 ?_
  refine lw_call (G := G2) (K := kR) (As := [vI (xs (i + 1)).toInt]) (rest := [.int (Int32.ofInt z)]) C0 dL_law_1545 lkL_182 lmX10_written rn0 lw_k10 rfl (by decide) c2 (am_oks_cons (am_ti (xs (i + 1))) am_okn) on hG.lo2 a5 hS1 hR2 hl.1 (Nat.le_of_ble_eq_true rfl) (Nat.le_of_ble_eq_true rfl) (Nat.le_of_ble_eq_true rfl) (by simp [am_cv, Int32.ofInt_toInt]) (fun y n2 H2 locs2 hP2 hy hR2 on hS2 hk2 => ?_)
  have hR1 := lw_kept hR1 hG.d1 hk2
  obtain ⟨rfl, hJ⟩ := hPR z y m2 n2 hP1 hP2
  exact lv_icmp_eq (tgt := 1654) hx hb dL_law_1548 (by decide) (fun _ => kk H2 locs2 ⟨hS2, m2, n2, hJ, hR1, hR2, om, on⟩) (fun q => absurd rfl q)
theorem lkL_183 : Cond.methodLink R_law 183 mX9_begin.1 ∈ lw_tbl ∧ Cond.instanceMethod mX9_begin.1 ∈ lw_tbl ∧ Cond.selects mX9_begin.1.cls mX9_begin.1 mX9_begin.1 ∈ lw_tbl := ⟨List.mem_of_getElem? (i := 1028) (by decide +kernel), List.mem_of_getElem? (i := 1029) (by decide +kernel), List.mem_of_getElem? (i := 1030) (by decide +kernel)⟩
theorem lkL_186 : Cond.methodLink R_law 186 mX10_begin.1 ∈ lw_tbl ∧ Cond.instanceMethod mX10_begin.1 ∈ lw_tbl ∧ Cond.selects mX10_begin.1.cls mX10_begin.1 mX10_begin.1 ∈ lw_tbl := ⟨List.mem_of_getElem? (i := 1532) (by decide +kernel), List.mem_of_getElem? (i := 1533) (by decide +kernel), List.mem_of_getElem? (i := 1534) (by decide +kernel)⟩
theorem lc_41 (C0 : lw_At p s m meth c b L xs) (hL : L ≤ 3072) (hG : lw_C s G1 G2) (hi : i + 6 ≤ L) (hK : K < 99999) (hV : lw_S s G1 G2 K H locs) (hl : lv_has ls 4 (lw_l G1 G2 b i)) (kk : ∀ (H2 : Heap) (locs2 : List Loc), lw_S s G1 G2 (K + 1) H2 locs2 → W p l e room_1 s m #[Value.ref b] below meth c H2 locs2 180 36349 Z (F0 m 1654 ls [])) : W p l e room_1 s m #[Value.ref b] below meth c H locs 180 36349 Z (F0 m 1553 ls []) := by
  obtain ⟨hx, hb, hret, hml, hown, hts, hX, hbl, hlocks, hgv⟩ := id C0
  obtain ⟨a1, a2, a3, a4, a5⟩ := id hG
  obtain ⟨hS, μ, ν, hJ, hR1, hR2, om, on⟩ := hV
  obtain ⟨P, R, c1, c2, hPR⟩ := jc_begin  hJ hK
  refine lv_aload_n hx hb dL_law_1553 rfl (lv_at hl 1 rfl) ?_
  refine lw_call (G := G1) (K := kC) (As := []) (rest := []) C0 dL_law_1554 lkL_183 lmX9_begin kn0 lw_k9 rfl (by decide) c1 am_okn om a1 a2 hS hR1 hl.1 (Nat.zero_le _) (Nat.le_of_ble_eq_true rfl) (Nat.le_of_ble_eq_true rfl) (rfl) (fun z m2 H1 locs1 hP1 hz hR1 om hS1 hk1 => ?_)
  have hR2 := lw_kept hR2 hG.d2 hk1
  refine lv_aload_n hx hb dL_law_1557 rfl (lv_at hl 2 rfl) ?_
  refine lw_call (G := G2) (K := kR) (As := []) (rest := [.int (Int32.ofInt z)]) C0 dL_law_1558 lkL_186 lmX10_begin rn0 lw_k10 rfl (by decide) c2 am_okn on hG.lo2 a5 hS1 hR2 hl.1 (Nat.le_of_ble_eq_true rfl) (Nat.le_of_ble_eq_true rfl) (Nat.le_of_ble_eq_true rfl) (rfl) (fun y n2 H2 locs2 hP2 hy hR2 on hS2 hk2 => ?_)
  have hR1 := lw_kept hR1 hG.d1 hk2
  obtain ⟨rfl, hJ⟩ := hPR z y m2 n2 hP1 hP2
  exact lv_icmp_eq (tgt := 1654) hx hb dL_law_1561 (by decide) (fun _ => kk H2 locs2 ⟨hS2, m2, n2, hJ, hR1, hR2, om, on⟩) (fun q => absurd rfl q)
theorem lkL_187 : Cond.methodLink R_law 187 mX9_end.1 ∈ lw_tbl ∧ Cond.instanceMethod mX9_end.1 ∈ lw_tbl ∧ Cond.selects mX9_end.1.cls mX9_end.1 mX9_end.1 ∈ lw_tbl := ⟨List.mem_of_getElem? (i := 1032) (by decide +kernel), List.mem_of_getElem? (i := 1033) (by decide +kernel), List.mem_of_getElem? (i := 1034) (by decide +kernel)⟩
theorem lkL_190 : Cond.methodLink R_law 190 mX10_end.1 ∈ lw_tbl ∧ Cond.instanceMethod mX10_end.1 ∈ lw_tbl ∧ Cond.selects mX10_end.1.cls mX10_end.1 mX10_end.1 ∈ lw_tbl := ⟨List.mem_of_getElem? (i := 1536) (by decide +kernel), List.mem_of_getElem? (i := 1537) (by decide +kernel), List.mem_of_getElem? (i := 1538) (by decide +kernel)⟩
theorem lc_42 (C0 : lw_At p s m meth c b L xs) (hL : L ≤ 3072) (hG : lw_C s G1 G2) (hi : i + 6 ≤ L) (hK : K < 99999) (hV : lw_S s G1 G2 K H locs) (hl : lv_has ls 4 (lw_l G1 G2 b i)) (kk : ∀ (H2 : Heap) (locs2 : List Loc), lw_S s G1 G2 (K + 1) H2 locs2 → W p l e room_1 s m #[Value.ref b] below meth c H2 locs2 180 36349 Z (F0 m 1654 ls [])) : W p l e room_1 s m #[Value.ref b] below meth c H locs 180 36349 Z (F0 m 1566 ls []) := by
  obtain ⟨hx, hb, hret, hml, hown, hts, hX, hbl, hlocks, hgv⟩ := id C0
  obtain ⟨a1, a2, a3, a4, a5⟩ := id hG
  obtain ⟨hS, μ, ν, hJ, hR1, hR2, om, on⟩ := hV
  obtain ⟨P, R, c1, c2, hPR⟩ := jc_end  hJ hK
  refine lv_aload_n hx hb dL_law_1566 rfl (lv_at hl 1 rfl) ?_
  refine lw_call (G := G1) (K := kC) (As := []) (rest := []) C0 dL_law_1567 lkL_187 lmX9_end kn0 lw_k9 rfl (by decide) c1 am_okn om a1 a2 hS hR1 hl.1 (Nat.zero_le _) (Nat.le_of_ble_eq_true rfl) (Nat.le_of_ble_eq_true rfl) (rfl) (fun z m2 H1 locs1 hP1 hz hR1 om hS1 hk1 => ?_)
  have hR2 := lw_kept hR2 hG.d2 hk1
  refine lv_aload_n hx hb dL_law_1570 rfl (lv_at hl 2 rfl) ?_
  refine lw_call (G := G2) (K := kR) (As := []) (rest := [.int (Int32.ofInt z)]) C0 dL_law_1571 lkL_190 lmX10_end rn0 lw_k10 rfl (by decide) c2 am_okn on hG.lo2 a5 hS1 hR2 hl.1 (Nat.le_of_ble_eq_true rfl) (Nat.le_of_ble_eq_true rfl) (Nat.le_of_ble_eq_true rfl) (rfl) (fun y n2 H2 locs2 hP2 hy hR2 on hS2 hk2 => ?_)
  have hR1 := lw_kept hR1 hG.d1 hk2
  obtain ⟨rfl, hJ⟩ := hPR z y m2 n2 hP1 hP2
  exact lv_icmp_eq (tgt := 1654) hx hb dL_law_1574 (by decide) (fun _ => kk H2 locs2 ⟨hS2, m2, n2, hJ, hR1, hR2, om, on⟩) (fun q => absurd rfl q)
theorem lkL_191 : Cond.methodLink R_law 191 mX9_undo.1 ∈ lw_tbl ∧ Cond.instanceMethod mX9_undo.1 ∈ lw_tbl ∧ Cond.selects mX9_undo.1.cls mX9_undo.1 mX9_undo.1 ∈ lw_tbl := ⟨List.mem_of_getElem? (i := 1037) (by decide +kernel), List.mem_of_getElem? (i := 1038) (by decide +kernel), List.mem_of_getElem? (i := 1039) (by decide +kernel)⟩
theorem lkL_194 : Cond.methodLink R_law 194 mX10_undo.1 ∈ lw_tbl ∧ Cond.instanceMethod mX10_undo.1 ∈ lw_tbl ∧ Cond.selects mX10_undo.1.cls mX10_undo.1 mX10_undo.1 ∈ lw_tbl := ⟨List.mem_of_getElem? (i := 1540) (by decide +kernel), List.mem_of_getElem? (i := 1541) (by decide +kernel), List.mem_of_getElem? (i := 1542) (by decide +kernel)⟩
theorem lc_43 (C0 : lw_At p s m meth c b L xs) (hL : L ≤ 3072) (hG : lw_C s G1 G2) (hi : i + 6 ≤ L) (hK : K < 99999) (hV : lw_S s G1 G2 K H locs) (hl : lv_has ls 4 (lw_l G1 G2 b i)) (kk : ∀ (H2 : Heap) (locs2 : List Loc), lw_S s G1 G2 (K + 1) H2 locs2 → W p l e room_1 s m #[Value.ref b] below meth c H2 locs2 180 36349 Z (F0 m 1654 ls [])) : W p l e room_1 s m #[Value.ref b] below meth c H locs 180 36349 Z (F0 m 1579 ls []) := by
  obtain ⟨hx, hb, hret, hml, hown, hts, hX, hbl, hlocks, hgv⟩ := id C0
  obtain ⟨a1, a2, a3, a4, a5⟩ := id hG
  obtain ⟨hS, μ, ν, hJ, hR1, hR2, om, on⟩ := hV
  obtain ⟨P, R, c1, c2, hPR⟩ := jc_undo  hJ hK
  refine lv_aload_n hx hb dL_law_1579 rfl (lv_at hl 1 rfl) ?_
  refine lw_call (G := G1) (K := kC) (As := []) (rest := []) C0 dL_law_1580 lkL_191 lmX9_undo kn0 lw_k9 rfl (by decide) c1 am_okn om a1 a2 hS hR1 hl.1 (Nat.zero_le _) (Nat.le_of_ble_eq_true rfl) (Nat.le_of_ble_eq_true rfl) (rfl) (fun z m2 H1 locs1 hP1 hz hR1 om hS1 hk1 => ?_)
  have hR2 := lw_kept hR2 hG.d2 hk1
  refine lv_aload_n hx hb dL_law_1583 rfl (lv_at hl 2 rfl) ?_
  refine lw_call (G := G2) (K := kR) (As := []) (rest := [.int (Int32.ofInt z)]) C0 dL_law_1584 lkL_194 lmX10_undo rn0 lw_k10 rfl (by decide) c2 am_okn on hG.lo2 a5 hS1 hR2 hl.1 (Nat.le_of_ble_eq_true rfl) (Nat.le_of_ble_eq_true rfl) (Nat.le_of_ble_eq_true rfl) (rfl) (fun y n2 H2 locs2 hP2 hy hR2 on hS2 hk2 => ?_)
  have hR1 := lw_kept hR1 hG.d1 hk2
  obtain ⟨rfl, hJ⟩ := hPR z y m2 n2 hP1 hP2
  exact lv_icmp_eq (tgt := 1654) hx hb dL_law_1587 (by decide) (fun _ => kk H2 locs2 ⟨hS2, m2, n2, hJ, hR1, hR2, om, on⟩) (fun q => absurd rfl q)
theorem lkL_195 : Cond.methodLink R_law 195 mX9_redo.1 ∈ lw_tbl ∧ Cond.instanceMethod mX9_redo.1 ∈ lw_tbl ∧ Cond.selects mX9_redo.1.cls mX9_redo.1 mX9_redo.1 ∈ lw_tbl := ⟨List.mem_of_getElem? (i := 1045) (by decide +kernel), List.mem_of_getElem? (i := 1046) (by decide +kernel), List.mem_of_getElem? (i := 1047) (by decide +kernel)⟩
theorem lkL_198 : Cond.methodLink R_law 198 mX10_redo.1 ∈ lw_tbl ∧ Cond.instanceMethod mX10_redo.1 ∈ lw_tbl ∧ Cond.selects mX10_redo.1.cls mX10_redo.1 mX10_redo.1 ∈ lw_tbl := ⟨List.mem_of_getElem? (i := 1544) (by decide +kernel), List.mem_of_getElem? (i := 1545) (by decide +kernel), List.mem_of_getElem? (i := 1546) (by decide +kernel)⟩
theorem lc_44 (C0 : lw_At p s m meth c b L xs) (hL : L ≤ 3072) (hG : lw_C s G1 G2) (hi : i + 6 ≤ L) (hK : K < 99999) (hV : lw_S s G1 G2 K H locs) (hl : lv_has ls 4 (lw_l G1 G2 b i)) (kk : ∀ (H2 : Heap) (locs2 : List Loc), lw_S s G1 G2 (K + 1) H2 locs2 → W p l e room_1 s m #[Value.ref b] below meth c H2 locs2 180 36349 Z (F0 m 1654 ls [])) : W p l e room_1 s m #[Value.ref b] below meth c H locs 180 36349 Z (F0 m 1592 ls []) := by
  obtain ⟨hx, hb, hret, hml, hown, hts, hX, hbl, hlocks, hgv⟩ := id C0
  obtain ⟨a1, a2, a3, a4, a5⟩ := id hG
  obtain ⟨hS, μ, ν, hJ, hR1, hR2, om, on⟩ := hV
  obtain ⟨P, R, c1, c2, hPR⟩ := jc_redo  hJ hK
  refine lv_aload_n hx hb dL_law_1592 rfl (lv_at hl 1 rfl) ?_
  refine lw_call (G := G1) (K := kC) (As := []) (rest := []) C0 dL_law_1593 lkL_195 lmX9_redo kn0 lw_k9 rfl (by decide) c1 am_okn om a1 a2 hS hR1 hl.1 (Nat.zero_le _) (Nat.le_of_ble_eq_true rfl) (Nat.le_of_ble_eq_true rfl) (rfl) (fun z m2 H1 locs1 hP1 hz hR1 om hS1 hk1 => ?_)
  have hR2 := lw_kept hR2 hG.d2 hk1
  refine lv_aload_n hx hb dL_law_1596 rfl (lv_at hl 2 rfl) ?_
  refine lw_call (G := G2) (K := kR) (As := []) (rest := [.int (Int32.ofInt z)]) C0 dL_law_1597 lkL_198 lmX10_redo rn0 lw_k10 rfl (by decide) c2 am_okn on hG.lo2 a5 hS1 hR2 hl.1 (Nat.le_of_ble_eq_true rfl) (Nat.le_of_ble_eq_true rfl) (Nat.le_of_ble_eq_true rfl) (rfl) (fun y n2 H2 locs2 hP2 hy hR2 on hS2 hk2 => ?_)
  have hR1 := lw_kept hR1 hG.d1 hk2
  obtain ⟨rfl, hJ⟩ := hPR z y m2 n2 hP1 hP2
  exact lv_icmp_eq (tgt := 1654) hx hb dL_law_1600 (by decide) (fun _ => kk H2 locs2 ⟨hS2, m2, n2, hJ, hR1, hR2, om, on⟩) (fun q => absurd rfl q)
theorem lkL_199 : Cond.methodLink R_law 199 mX9_save.1 ∈ lw_tbl ∧ Cond.instanceMethod mX9_save.1 ∈ lw_tbl ∧ Cond.selects mX9_save.1.cls mX9_save.1 mX9_save.1 ∈ lw_tbl := ⟨List.mem_of_getElem? (i := 1053) (by decide +kernel), List.mem_of_getElem? (i := 1054) (by decide +kernel), List.mem_of_getElem? (i := 1055) (by decide +kernel)⟩
theorem lkL_202 : Cond.methodLink R_law 202 mX10_save.1 ∈ lw_tbl ∧ Cond.instanceMethod mX10_save.1 ∈ lw_tbl ∧ Cond.selects mX10_save.1.cls mX10_save.1 mX10_save.1 ∈ lw_tbl := ⟨List.mem_of_getElem? (i := 1548) (by decide +kernel), List.mem_of_getElem? (i := 1549) (by decide +kernel), List.mem_of_getElem? (i := 1550) (by decide +kernel)⟩
theorem lc_45 (C0 : lw_At p s m meth c b L xs) (hL : L ≤ 3072) (hG : lw_C s G1 G2) (hi : i + 6 ≤ L) (hK : K < 99999) (hV : lw_S s G1 G2 K H locs) (hl : lv_has ls 4 (lw_l G1 G2 b i)) (kk : ∀ (H2 : Heap) (locs2 : List Loc), lw_S s G1 G2 (K + 1) H2 locs2 → W p l e room_1 s m #[Value.ref b] below meth c H2 locs2 180 36349 Z (F0 m 1654 ls [])) : W p l e room_1 s m #[Value.ref b] below meth c H locs 180 36349 Z (F0 m 1605 ls []) := by
  obtain ⟨hx, hb, hret, hml, hown, hts, hX, hbl, hlocks, hgv⟩ := id C0
  obtain ⟨a1, a2, a3, a4, a5⟩ := id hG
  obtain ⟨hS, μ, ν, hJ, hR1, hR2, om, on⟩ := hV
  obtain ⟨P, R, c1, c2, hPR⟩ := jc_save  hJ hK
  refine lv_aload_n hx hb dL_law_1605 rfl (lv_at hl 1 rfl) ?_
  refine lw_call (G := G1) (K := kC) (As := []) (rest := []) C0 dL_law_1606 lkL_199 lmX9_save kn0 lw_k9 rfl (by decide) c1 am_okn om a1 a2 hS hR1 hl.1 (Nat.zero_le _) (Nat.le_of_ble_eq_true rfl) (Nat.le_of_ble_eq_true rfl) (rfl) (fun z m2 H1 locs1 hP1 hz hR1 om hS1 hk1 => ?_)
  have hR2 := lw_kept hR2 hG.d2 hk1
  refine lv_aload_n hx hb dL_law_1609 rfl (lv_at hl 2 rfl) ?_
  refine lw_call (G := G2) (K := kR) (As := []) (rest := [.int (Int32.ofInt z)]) C0 dL_law_1610 lkL_202 lmX10_save rn0 lw_k10 rfl (by decide) c2 am_okn on hG.lo2 a5 hS1 hR2 hl.1 (Nat.le_of_ble_eq_true rfl) (Nat.le_of_ble_eq_true rfl) (Nat.le_of_ble_eq_true rfl) (rfl) (fun y n2 H2 locs2 hP2 hy hR2 on hS2 hk2 => ?_)
  have hR1 := lw_kept hR1 hG.d1 hk2
  obtain ⟨rfl, hJ⟩ := hPR z y m2 n2 hP1 hP2
  exact lv_icmp_eq (tgt := 1654) hx hb dL_law_1613 (by decide) (fun _ => kk H2 locs2 ⟨hS2, m2, n2, hJ, hR1, hR2, om, on⟩) (fun q => absurd rfl q)
theorem lkL_203 : Cond.methodLink R_law 203 mX9_restore.1 ∈ lw_tbl ∧ Cond.instanceMethod mX9_restore.1 ∈ lw_tbl ∧ Cond.selects mX9_restore.1.cls mX9_restore.1 mX9_restore.1 ∈ lw_tbl := ⟨List.mem_of_getElem? (i := 1057) (by decide +kernel), List.mem_of_getElem? (i := 1058) (by decide +kernel), List.mem_of_getElem? (i := 1059) (by decide +kernel)⟩
theorem lkL_206 : Cond.methodLink R_law 206 mX10_restore.1 ∈ lw_tbl ∧ Cond.instanceMethod mX10_restore.1 ∈ lw_tbl ∧ Cond.selects mX10_restore.1.cls mX10_restore.1 mX10_restore.1 ∈ lw_tbl := ⟨List.mem_of_getElem? (i := 1552) (by decide +kernel), List.mem_of_getElem? (i := 1553) (by decide +kernel), List.mem_of_getElem? (i := 1554) (by decide +kernel)⟩
theorem lc_46 (C0 : lw_At p s m meth c b L xs) (hL : L ≤ 3072) (hG : lw_C s G1 G2) (hi : i + 6 ≤ L) (hK : K < 99999) (hV : lw_S s G1 G2 K H locs) (hl : lv_has ls 4 (lw_l G1 G2 b i)) (kk : ∀ (H2 : Heap) (locs2 : List Loc), lw_S s G1 G2 (K + 1) H2 locs2 → W p l e room_1 s m #[Value.ref b] below meth c H2 locs2 180 36349 Z (F0 m 1654 ls [])) : W p l e room_1 s m #[Value.ref b] below meth c H locs 180 36349 Z (F0 m 1618 ls []) := by
  obtain ⟨hx, hb, hret, hml, hown, hts, hX, hbl, hlocks, hgv⟩ := id C0
  obtain ⟨a1, a2, a3, a4, a5⟩ := id hG
  obtain ⟨hS, μ, ν, hJ, hR1, hR2, om, on⟩ := hV
  obtain ⟨P, R, c1, c2, hPR⟩ := jc_restore  hJ hK
  refine lv_aload_n hx hb dL_law_1618 rfl (lv_at hl 1 rfl) ?_
  refine lw_call (G := G1) (K := kC) (As := []) (rest := []) C0 dL_law_1619 lkL_203 lmX9_restore kn0 lw_k9 rfl (by decide) c1 am_okn om a1 a2 hS hR1 hl.1 (Nat.zero_le _) (Nat.le_of_ble_eq_true rfl) (Nat.le_of_ble_eq_true rfl) (rfl) (fun z m2 H1 locs1 hP1 hz hR1 om hS1 hk1 => ?_)
  have hR2 := lw_kept hR2 hG.d2 hk1
  refine lv_aload_n hx hb dL_law_1622 rfl (lv_at hl 2 rfl) ?_
  refine lw_call (G := G2) (K := kR) (As := []) (rest := [.int (Int32.ofInt z)]) C0 dL_law_1623 lkL_206 lmX10_restore rn0 lw_k10 rfl (by decide) c2 am_okn on hG.lo2 a5 hS1 hR2 hl.1 (Nat.le_of_ble_eq_true rfl) (Nat.le_of_ble_eq_true rfl) (Nat.le_of_ble_eq_true rfl) (rfl) (fun y n2 H2 locs2 hP2 hy hR2 on hS2 hk2 => ?_)
  have hR1 := lw_kept hR1 hG.d1 hk2
  obtain ⟨rfl, hJ⟩ := hPR z y m2 n2 hP1 hP2
  exact lv_icmp_eq (tgt := 1654) hx hb dL_law_1626 (by decide) (fun _ => kk H2 locs2 ⟨hS2, m2, n2, hJ, hR1, hR2, om, on⟩) (fun q => absurd rfl q)
theorem lkL_207 : Cond.methodLink R_law 207 mX9_count.1 ∈ lw_tbl ∧ Cond.instanceMethod mX9_count.1 ∈ lw_tbl ∧ Cond.selects mX9_count.1.cls mX9_count.1 mX9_count.1 ∈ lw_tbl := ⟨List.mem_of_getElem? (i := 1065) (by decide +kernel), List.mem_of_getElem? (i := 1066) (by decide +kernel), List.mem_of_getElem? (i := 1067) (by decide +kernel)⟩
theorem lkL_210 : Cond.methodLink R_law 210 mX10_count.1 ∈ lw_tbl ∧ Cond.instanceMethod mX10_count.1 ∈ lw_tbl ∧ Cond.selects mX10_count.1.cls mX10_count.1 mX10_count.1 ∈ lw_tbl := ⟨List.mem_of_getElem? (i := 1556) (by decide +kernel), List.mem_of_getElem? (i := 1557) (by decide +kernel), List.mem_of_getElem? (i := 1558) (by decide +kernel)⟩
theorem lc_47 (C0 : lw_At p s m meth c b L xs) (hL : L ≤ 3072) (hG : lw_C s G1 G2) (hi : i + 6 ≤ L) (hK : K < 99999) (hV : lw_S s G1 G2 K H locs) (hl : lv_has ls 4 (lw_l G1 G2 b i)) (kk : ∀ (H2 : Heap) (locs2 : List Loc), lw_S s G1 G2 (K + 1) H2 locs2 → W p l e room_1 s m #[Value.ref b] below meth c H2 locs2 180 36349 Z (F0 m 1654 ls [])) : W p l e room_1 s m #[Value.ref b] below meth c H locs 180 36349 Z (F0 m 1631 ls []) := by
  obtain ⟨hx, hb, hret, hml, hown, hts, hX, hbl, hlocks, hgv⟩ := id C0
  obtain ⟨a1, a2, a3, a4, a5⟩ := id hG
  obtain ⟨hS, μ, ν, hJ, hR1, hR2, om, on⟩ := hV
  obtain ⟨P, R, c1, c2, hPR⟩ := jc_count (x1 := (xs (i + 1)).toInt) hJ hK
  refine lv_aload_n hx hb dL_law_1631 rfl (lv_at hl 1 rfl) ?_
  refine lw_arg (j := 1) C0 hS (lv_at hl 0 rfl) (lv_at hl 3 rfl) hL (by omega) (by decide) dL_law_1632 dL_law_1633 dL_law_1634 dL_law_1635 dL_law_1636 ?_
  refine lw_call (G := G1) (K := kC) (As := [vI (xs (i + 1)).toInt]) (rest := []) C0 dL_law_1637 lkL_207 lmX9_count kn0 lw_k9 rfl (by decide) c1 (am_oks_cons (am_ti (xs (i + 1))) am_okn) om a1 a2 hS hR1 hl.1 (Nat.zero_le _) (Nat.le_of_ble_eq_true rfl) (Nat.le_of_ble_eq_true rfl) (by simp [am_cv, Int32.ofInt_toInt]) (fun z m2 H1 locs1 hP1 hz hR1 om hS1 hk1 => ?_)
  have hR2 := lw_kept hR2 hG.d2 hk1
  refine lv_aload_n hx hb dL_law_1640 rfl (lv_at hl 2 rfl) ?_
  refine lw_arg (j := 1) C0 hS1 (lv_at hl 0 rfl) (lv_at hl 3 rfl) hL (by omega) (by decide) dL_law_1641 dL_law_1642 dL_law_1643 dL_law_1644 dL_law_1645 ?_
  refine lw_call (G := G2) (K := kR) (As := [vI (xs (i + 1)).toInt]) (rest := [.int (Int32.ofInt z)]) C0 dL_law_1646 lkL_210 lmX10_count rn0 lw_k10 rfl (by decide) c2 (am_oks_cons (am_ti (xs (i + 1))) am_okn) on hG.lo2 a5 hS1 hR2 hl.1 (Nat.le_of_ble_eq_true rfl) (Nat.le_of_ble_eq_true rfl) (Nat.le_of_ble_eq_true rfl) (by simp [am_cv, Int32.ofInt_toInt]) (fun y n2 H2 locs2 hP2 hy hR2 on hS2 hk2 => ?_)
  have hR1 := lw_kept hR1 hG.d1 hk2
  obtain ⟨rfl, hJ⟩ := hPR z y m2 n2 hP1 hP2
  exact lv_icmp_eq (tgt := 1654) hx hb dL_law_1649 (by decide) (fun _ => kk H2 locs2 ⟨hS2, m2, n2, hJ, hR1, hR2, om, on⟩) (fun q => absurd rfl q)
end LWC

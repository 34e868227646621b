/-! ===== the law: its calls ===== -/
theorem kJn.up {X : kX} {d mc ms mc' ms' : Nat} {Yc Ym : kM} {As : List (Nat × Value)} (h : kJn X d mc ms Yc Ym As) (h1 : mc ≤ mc') (h2 : ms ≤ ms') : kJn X d mc' ms' Yc Ym As := fun c w m v E hR => wp_widen h1 h2 (h c w m v E hR)
theorem law_lens {X : kX} (hX : X.1 ≤ 2560) {i : Nat} (hi5 : i + 5 ≤ X.1) {mc ms : Nat} {Q : Option Value → kH → Prop} (K : ∀ (c w m v : kZ) (E : kH), Rel c w m E → WP X 31 mc ms yLaw 1713 [(3, .int (nI (i))), (2, .ref (80)), (1, .ref (0)), (0, .float 0)] [] (HP c w m v E) Q) (c w m v : kZ) (E : kH) (hR : Rel c w m E) : WP X 31 (2 + mc) (234 + ms) yLaw 268 [(3, .int (nI (i))), (2, .ref (80)), (1, .ref (0)), (0, .float 0)] [] (HP c w m v E) Q := by
  refine wp_aload_n 2 d_L_law_268 rfl rfl ?_
  refine wp_aload_nF 3 d_L_law_269 rfl rfl ?_
  refine wp_iload_n 0 d_L_law_270 rfl rfl ?_
  refine wp_iconst (v0 := 1) d_L_law_271 rfl ?_
  refine wp_iadd d_L_law_272 ?_
  refine wp_v (v0 := nI ((i) + (1))) (nI_add (i) (1)) ?_
  refine wp_sload (v := X.2 ((i) + (1))) d_L_law_273 (vp_in_nI (by omega) (by omega)) (congrArg (X.2) (nI_clamp (by omega))) ?_
  refine wp_aload_nF 3 d_L_law_274 rfl rfl ?_
  refine wp_iload_n 0 d_L_law_275 rfl rfl ?_
  refine wp_iconst (v0 := 2) d_L_law_276 rfl ?_
  refine wp_iadd d_L_law_277 ?_
  refine wp_v (v0 := nI ((i) + (2))) (nI_add (i) (2)) ?_
  refine wp_sload (v := X.2 ((i) + (2))) d_L_law_278 (vp_in_nI (by omega) (by omega)) (congrArg (X.2) (nI_clamp (by omega))) ?_
  refine wp_aload_nF 3 d_L_law_279 rfl rfl ?_
  refine wp_iload_n 0 d_L_law_280 rfl rfl ?_
  refine wp_iconst (v0 := 3) d_L_law_281 rfl ?_
  refine wp_iadd d_L_law_282 ?_
  refine wp_v (v0 := nI ((i) + (3))) (nI_add (i) (3)) ?_
  refine wp_sload (v := X.2 ((i) + (3))) d_L_law_283 (vp_in_nI (by omega) (by omega)) (congrArg (X.2) (nI_clamp (by omega))) ?_
  refine wp_aload_nF 3 d_L_law_284 rfl rfl ?_
  refine wp_iload_n 0 d_L_law_285 rfl rfl ?_
  refine wp_iconst (v0 := 4) d_L_law_286 rfl ?_
  refine wp_iadd d_L_law_287 ?_
  refine wp_v (v0 := nI ((i) + (4))) (nI_add (i) (4)) ?_
  refine wp_sload (v := X.2 ((i) + (4))) d_L_law_288 (vp_in_nI (by omega) (by omega)) (congrArg (X.2) (nI_clamp (by omega))) ?_
  refine wp_virtual (As := [.int (X.2 ((i) + (1))), .int (X.2 ((i) + (2))), .int (X.2 ((i) + (3))), .int (X.2 ((i) + (4)))]) (mc1 := 2) (ms1 := 234) d_L_law_289 lk_L_13 mv_X9_lens in_X9_lens se_X9_lens (Nat.le_of_ble_eq_true rfl) (Nat.le_of_ble_eq_true rfl) (hp_0 _ _ _ _ _) rfl rfl ((kJn.up (j_lens (X := X) (d := 30) (by omega) (X.2 ((i) + (1))) (X.2 ((i) + (2))) (X.2 ((i) + (3))) (X.2 ((i) + (4)))) (by decide) (by decide)) c w m v E hR) (fun v1 h1 q1 => ?_)
  obtain ⟨z1, zc1, w1, E1, rfl, rfl, hM⟩ := q1
  show WP _ _ _ _ _ 292 _ [.int z1] (HP zc1 w1 m v E1) _
  refine wp_aload_n 1 d_L_law_292 rfl rfl ?_
  refine wp_aload_nF 3 d_L_law_293 rfl rfl ?_
  refine wp_iload_n 0 d_L_law_294 rfl rfl ?_
  refine wp_iconst (v0 := 1) d_L_law_295 rfl ?_
  refine wp_iadd d_L_law_296 ?_
  refine wp_v (v0 := nI ((i) + (1))) (nI_add (i) (1)) ?_
  refine wp_sload (v := X.2 ((i) + (1))) d_L_law_297 (vp_in_nI (by omega) (by omega)) (congrArg (X.2) (nI_clamp (by omega))) ?_
  refine wp_aload_nF 3 d_L_law_298 rfl rfl ?_
  refine wp_iload_n 0 d_L_law_299 rfl rfl ?_
  refine wp_iconst (v0 := 2) d_L_law_300 rfl ?_
  refine wp_iadd d_L_law_301 ?_
  refine wp_v (v0 := nI ((i) + (2))) (nI_add (i) (2)) ?_
  refine wp_sload (v := X.2 ((i) + (2))) d_L_law_302 (vp_in_nI (by omega) (by omega)) (congrArg (X.2) (nI_clamp (by omega))) ?_
  refine wp_aload_nF 3 d_L_law_303 rfl rfl ?_
  refine wp_iload_n 0 d_L_law_304 rfl rfl ?_
  refine wp_iconst (v0 := 3) d_L_law_305 rfl ?_
  refine wp_iadd d_L_law_306 ?_
  refine wp_v (v0 := nI ((i) + (3))) (nI_add (i) (3)) ?_
  refine wp_sload (v := X.2 ((i) + (3))) d_L_law_307 (vp_in_nI (by omega) (by omega)) (congrArg (X.2) (nI_clamp (by omega))) ?_
  refine wp_aload_nF 3 d_L_law_308 rfl rfl ?_
  refine wp_iload_n 0 d_L_law_309 rfl rfl ?_
  refine wp_iconst (v0 := 4) d_L_law_310 rfl ?_
  refine wp_iadd d_L_law_311 ?_
  refine wp_v (v0 := nI ((i) + (4))) (nI_add (i) (4)) ?_
  refine wp_sload (v := X.2 ((i) + (4))) d_L_law_312 (vp_in_nI (by omega) (by omega)) (congrArg (X.2) (nI_clamp (by omega))) ?_
  refine wp_virtual0 (As := [.int (X.2 ((i) + (1))), .int (X.2 ((i) + (2))), .int (X.2 ((i) + (3))), .int (X.2 ((i) + (4)))]) d_L_law_313 lk_L_17 mv_X10_lens in_X10_lens se_X10_lens (Nat.le_of_ble_eq_true rfl) (Nat.le_of_ble_eq_true rfl) (hp_80 _ _ _ _ _) rfl hM (fun v2 h2 q2 => ?_)
  obtain ⟨rfl, m2, v2, rfl, hR2⟩ := q2
  show WP _ _ _ _ _ 316 _ [.int z1, .int z1] (HP zc1 w1 m2 v2 E1) _
  refine wp_icmp_eq 1713 d_L_law_316 rfl (fun _ => ?_) (fun q => absurd rfl q)
  exact K zc1 w1 m2 v2 E1 hR2
theorem law_lensOf {X : kX} (hX : X.1 ≤ 2560) {i : Nat} (hi5 : i + 5 ≤ X.1) {mc ms : Nat} {Q : Option Value → kH → Prop} (K : ∀ (c w m v : kZ) (E : kH), Rel c w m E → WP X 31 mc ms yLaw 1713 [(3, .int (nI (i))), (2, .ref (80)), (1, .ref (0)), (0, .float 0)] [] (HP c w m v E) Q) (c w m v : kZ) (E : kH) (hR : Rel c w m E) : WP X 31 (2 + mc) (234 + ms) yLaw 321 [(3, .int (nI (i))), (2, .ref (80)), (1, .ref (0)), (0, .float 0)] [] (HP c w m v E) Q := by
  refine wp_aload_n 2 d_L_law_321 rfl rfl ?_
  refine wp_aload_nF 3 d_L_law_322 rfl rfl ?_
  refine wp_iload_n 0 d_L_law_323 rfl rfl ?_
  refine wp_iconst (v0 := 1) d_L_law_324 rfl ?_
  refine wp_iadd d_L_law_325 ?_
  refine wp_v (v0 := nI ((i) + (1))) (nI_add (i) (1)) ?_
  refine wp_sload (v := X.2 ((i) + (1))) d_L_law_326 (vp_in_nI (by omega) (by omega)) (congrArg (X.2) (nI_clamp (by omega))) ?_
  refine wp_aload_nF 3 d_L_law_327 rfl rfl ?_
  refine wp_iload_n 0 d_L_law_328 rfl rfl ?_
  refine wp_iconst (v0 := 2) d_L_law_329 rfl ?_
  refine wp_iadd d_L_law_330 ?_
  refine wp_v (v0 := nI ((i) + (2))) (nI_add (i) (2)) ?_
  refine wp_sload (v := X.2 ((i) + (2))) d_L_law_331 (vp_in_nI (by omega) (by omega)) (congrArg (X.2) (nI_clamp (by omega))) ?_
  refine wp_virtual (As := [.int (X.2 ((i) + (1))), .int (X.2 ((i) + (2)))]) (mc1 := 2) (ms1 := 234) d_L_law_332 lk_L_18 mv_X9_lensOf in_X9_lensOf se_X9_lensOf (Nat.le_of_ble_eq_true rfl) (Nat.le_of_ble_eq_true rfl) (hp_0 _ _ _ _ _) rfl rfl ((kJn.up (j_lensOf (X := X) (d := 30) (by omega) (X.2 ((i) + (1))) (X.2 ((i) + (2)))) (by decide) (by decide)) c w m v E hR) (fun v1 h1 q1 => ?_)
  obtain ⟨z1, zc1, w1, E1, rfl, rfl, hM⟩ := q1
  show WP _ _ _ _ _ 335 _ [.int z1] (HP zc1 w1 m v E1) _
  refine wp_aload_n 1 d_L_law_335 rfl rfl ?_
  refine wp_aload_nF 3 d_L_law_336 rfl rfl ?_
  refine wp_iload_n 0 d_L_law_337 rfl rfl ?_
  refine wp_iconst (v0 := 1) d_L_law_338 rfl ?_
  refine wp_iadd d_L_law_339 ?_
  refine wp_v (v0 := nI ((i) + (1))) (nI_add (i) (1)) ?_
  refine wp_sload (v := X.2 ((i) + (1))) d_L_law_340 (vp_in_nI (by omega) (by omega)) (congrArg (X.2) (nI_clamp (by omega))) ?_
  refine wp_aload_nF 3 d_L_law_341 rfl rfl ?_
  refine wp_iload_n 0 d_L_law_342 rfl rfl ?_
  refine wp_iconst (v0 := 2) d_L_law_343 rfl ?_
  refine wp_iadd d_L_law_344 ?_
  refine wp_v (v0 := nI ((i) + (2))) (nI_add (i) (2)) ?_
  refine wp_sload (v := X.2 ((i) + (2))) d_L_law_345 (vp_in_nI (by omega) (by omega)) (congrArg (X.2) (nI_clamp (by omega))) ?_
  refine wp_virtual0 (As := [.int (X.2 ((i) + (1))), .int (X.2 ((i) + (2)))]) d_L_law_346 lk_L_22 mv_X10_lensOf in_X10_lensOf se_X10_lensOf (Nat.le_of_ble_eq_true rfl) (Nat.le_of_ble_eq_true rfl) (hp_80 _ _ _ _ _) rfl hM (fun v2 h2 q2 => ?_)
  obtain ⟨rfl, m2, v2, rfl, hR2⟩ := q2
  show WP _ _ _ _ _ 349 _ [.int z1, .int z1] (HP zc1 w1 m2 v2 E1) _
  refine wp_icmp_eq 1713 d_L_law_349 rfl (fun _ => ?_) (fun q => absurd rfl q)
  exact K zc1 w1 m2 v2 E1 hR2
theorem law_grind {X : kX} (hX : X.1 ≤ 2560) {i : Nat} (hi5 : i + 5 ≤ X.1) {mc ms : Nat} {Q : Option Value → kH → Prop} (K : ∀ (c w m v : kZ) (E : kH), Rel c w m E → WP X 31 mc ms yLaw 1713 [(3, .int (nI (i))), (2, .ref (80)), (1, .ref (0)), (0, .float 0)] [] (HP c w m v E) Q) (c w m v : kZ) (E : kH) (hR : Rel c w m E) : WP X 31 (2 + mc) (234 + ms) yLaw 354 [(3, .int (nI (i))), (2, .ref (80)), (1, .ref (0)), (0, .float 0)] [] (HP c w m v E) Q := by
  refine wp_aload_n 2 d_L_law_354 rfl rfl ?_
  refine wp_aload_nF 3 d_L_law_355 rfl rfl ?_
  refine wp_iload_n 0 d_L_law_356 rfl rfl ?_
  refine wp_iconst (v0 := 1) d_L_law_357 rfl ?_
  refine wp_iadd d_L_law_358 ?_
  refine wp_v (v0 := nI ((i) + (1))) (nI_add (i) (1)) ?_
  refine wp_sload (v := X.2 ((i) + (1))) d_L_law_359 (vp_in_nI (by omega) (by omega)) (congrArg (X.2) (nI_clamp (by omega))) ?_
  refine wp_aload_nF 3 d_L_law_360 rfl rfl ?_
  refine wp_iload_n 0 d_L_law_361 rfl rfl ?_
  refine wp_iconst (v0 := 2) d_L_law_362 rfl ?_
  refine wp_iadd d_L_law_363 ?_
  refine wp_v (v0 := nI ((i) + (2))) (nI_add (i) (2)) ?_
  refine wp_sload (v := X.2 ((i) + (2))) d_L_law_364 (vp_in_nI (by omega) (by omega)) (congrArg (X.2) (nI_clamp (by omega))) ?_
  refine wp_aload_nF 3 d_L_law_365 rfl rfl ?_
  refine wp_iload_n 0 d_L_law_366 rfl rfl ?_
  refine wp_iconst (v0 := 3) d_L_law_367 rfl ?_
  refine wp_iadd d_L_law_368 ?_
  refine wp_v (v0 := nI ((i) + (3))) (nI_add (i) (3)) ?_
  refine wp_sload (v := X.2 ((i) + (3))) d_L_law_369 (vp_in_nI (by omega) (by omega)) (congrArg (X.2) (nI_clamp (by omega))) ?_
  refine wp_virtual (As := [.int (X.2 ((i) + (1))), .int (X.2 ((i) + (2))), .int (X.2 ((i) + (3)))]) (mc1 := 2) (ms1 := 234) d_L_law_370 lk_L_23 mv_X9_grind in_X9_grind se_X9_grind (Nat.le_of_ble_eq_true rfl) (Nat.le_of_ble_eq_true rfl) (hp_0 _ _ _ _ _) rfl rfl ((kJn.up (j_grind (X := X) (d := 30) (by omega) (X.2 ((i) + (1))) (X.2 ((i) + (2))) (X.2 ((i) + (3)))) (by decide) (by decide)) c w m v E hR) (fun v1 h1 q1 => ?_)
  obtain ⟨z1, zc1, w1, E1, rfl, rfl, hM⟩ := q1
  show WP _ _ _ _ _ 373 _ [.int z1] (HP zc1 w1 m v E1) _
  refine wp_aload_n 1 d_L_law_373 rfl rfl ?_
  refine wp_aload_nF 3 d_L_law_374 rfl rfl ?_
  refine wp_iload_n 0 d_L_law_375 rfl rfl ?_
  refine wp_iconst (v0 := 1) d_L_law_376 rfl ?_
  refine wp_iadd d_L_law_377 ?_
  refine wp_v (v0 := nI ((i) + (1))) (nI_add (i) (1)) ?_
  refine wp_sload (v := X.2 ((i) + (1))) d_L_law_378 (vp_in_nI (by omega) (by omega)) (congrArg (X.2) (nI_clamp (by omega))) ?_
  refine wp_aload_nF 3 d_L_law_379 rfl rfl ?_
  refine wp_iload_n 0 d_L_law_380 rfl rfl ?_
  refine wp_iconst (v0 := 2) d_L_law_381 rfl ?_
  refine wp_iadd d_L_law_382 ?_
  refine wp_v (v0 := nI ((i) + (2))) (nI_add (i) (2)) ?_
  refine wp_sload (v := X.2 ((i) + (2))) d_L_law_383 (vp_in_nI (by omega) (by omega)) (congrArg (X.2) (nI_clamp (by omega))) ?_
  refine wp_aload_nF 3 d_L_law_384 rfl rfl ?_
  refine wp_iload_n 0 d_L_law_385 rfl rfl ?_
  refine wp_iconst (v0 := 3) d_L_law_386 rfl ?_
  refine wp_iadd d_L_law_387 ?_
  refine wp_v (v0 := nI ((i) + (3))) (nI_add (i) (3)) ?_
  refine wp_sload (v := X.2 ((i) + (3))) d_L_law_388 (vp_in_nI (by omega) (by omega)) (congrArg (X.2) (nI_clamp (by omega))) ?_
  refine wp_virtual0 (As := [.int (X.2 ((i) + (1))), .int (X.2 ((i) + (2))), .int (X.2 ((i) + (3)))]) d_L_law_389 lk_L_27 mv_X10_grind in_X10_grind se_X10_grind (Nat.le_of_ble_eq_true rfl) (Nat.le_of_ble_eq_true rfl) (hp_80 _ _ _ _ _) rfl hM (fun v2 h2 q2 => ?_)
  obtain ⟨rfl, m2, v2, rfl, hR2⟩ := q2
  show WP _ _ _ _ _ 392 _ [.int z1, .int z1] (HP zc1 w1 m2 v2 E1) _
  refine wp_icmp_eq 1713 d_L_law_392 rfl (fun _ => ?_) (fun q => absurd rfl q)
  exact K zc1 w1 m2 v2 E1 hR2
theorem law_remake {X : kX} (hX : X.1 ≤ 2560) {i : Nat} (hi5 : i + 5 ≤ X.1) {mc ms : Nat} {Q : Option Value → kH → Prop} (K : ∀ (c w m v : kZ) (E : kH), Rel c w m E → WP X 31 mc ms yLaw 1713 [(3, .int (nI (i))), (2, .ref (80)), (1, .ref (0)), (0, .float 0)] [] (HP c w m v E) Q) (c w m v : kZ) (E : kH) (hR : Rel c w m E) : WP X 31 (2 + mc) (234 + ms) yLaw 397 [(3, .int (nI (i))), (2, .ref (80)), (1, .ref (0)), (0, .float 0)] [] (HP c w m v E) Q := by
  refine wp_aload_n 2 d_L_law_397 rfl rfl ?_
  refine wp_aload_nF 3 d_L_law_398 rfl rfl ?_
  refine wp_iload_n 0 d_L_law_399 rfl rfl ?_
  refine wp_iconst (v0 := 1) d_L_law_400 rfl ?_
  refine wp_iadd d_L_law_401 ?_
  refine wp_v (v0 := nI ((i) + (1))) (nI_add (i) (1)) ?_
  refine wp_sload (v := X.2 ((i) + (1))) d_L_law_402 (vp_in_nI (by omega) (by omega)) (congrArg (X.2) (nI_clamp (by omega))) ?_
  refine wp_aload_nF 3 d_L_law_403 rfl rfl ?_
  refine wp_iload_n 0 d_L_law_404 rfl rfl ?_
  refine wp_iconst (v0 := 2) d_L_law_405 rfl ?_
  refine wp_iadd d_L_law_406 ?_
  refine wp_v (v0 := nI ((i) + (2))) (nI_add (i) (2)) ?_
  refine wp_sload (v := X.2 ((i) + (2))) d_L_law_407 (vp_in_nI (by omega) (by omega)) (congrArg (X.2) (nI_clamp (by omega))) ?_
  refine wp_virtual (As := [.int (X.2 ((i) + (1))), .int (X.2 ((i) + (2)))]) (mc1 := 2) (ms1 := 234) d_L_law_408 lk_L_28 mv_X9_remake in_X9_remake se_X9_remake (Nat.le_of_ble_eq_true rfl) (Nat.le_of_ble_eq_true rfl) (hp_0 _ _ _ _ _) rfl rfl ((kJn.up (j_remake (X := X) (d := 30) (by omega) (X.2 ((i) + (1))) (X.2 ((i) + (2)))) (by decide) (by decide)) c w m v E hR) (fun v1 h1 q1 => ?_)
  obtain ⟨z1, zc1, w1, E1, rfl, rfl, hM⟩ := q1
  show WP _ _ _ _ _ 411 _ [.int z1] (HP zc1 w1 m v E1) _
  refine wp_aload_n 1 d_L_law_411 rfl rfl ?_
  refine wp_aload_nF 3 d_L_law_412 rfl rfl ?_
  refine wp_iload_n 0 d_L_law_413 rfl rfl ?_
  refine wp_iconst (v0 := 1) d_L_law_414 rfl ?_
  refine wp_iadd d_L_law_415 ?_
  refine wp_v (v0 := nI ((i) + (1))) (nI_add (i) (1)) ?_
  refine wp_sload (v := X.2 ((i) + (1))) d_L_law_416 (vp_in_nI (by omega) (by omega)) (congrArg (X.2) (nI_clamp (by omega))) ?_
  refine wp_aload_nF 3 d_L_law_417 rfl rfl ?_
  refine wp_iload_n 0 d_L_law_418 rfl rfl ?_
  refine wp_iconst (v0 := 2) d_L_law_419 rfl ?_
  refine wp_iadd d_L_law_420 ?_
  refine wp_v (v0 := nI ((i) + (2))) (nI_add (i) (2)) ?_
  refine wp_sload (v := X.2 ((i) + (2))) d_L_law_421 (vp_in_nI (by omega) (by omega)) (congrArg (X.2) (nI_clamp (by omega))) ?_
  refine wp_virtual0 (As := [.int (X.2 ((i) + (1))), .int (X.2 ((i) + (2)))]) d_L_law_422 lk_L_31 mv_X10_remake in_X10_remake se_X10_remake (Nat.le_of_ble_eq_true rfl) (Nat.le_of_ble_eq_true rfl) (hp_80 _ _ _ _ _) rfl hM (fun v2 h2 q2 => ?_)
  obtain ⟨rfl, m2, v2, rfl, hR2⟩ := q2
  show WP _ _ _ _ _ 425 _ [.int z1, .int z1] (HP zc1 w1 m2 v2 E1) _
  refine wp_icmp_eq 1713 d_L_law_425 rfl (fun _ => ?_) (fun q => absurd rfl q)
  exact K zc1 w1 m2 v2 E1 hR2
theorem law_setting {X : kX} (hX : X.1 ≤ 2560) {i : Nat} (hi5 : i + 5 ≤ X.1) {mc ms : Nat} {Q : Option Value → kH → Prop} (K : ∀ (c w m v : kZ) (E : kH), Rel c w m E → WP X 31 mc ms yLaw 1713 [(3, .int (nI (i))), (2, .ref (80)), (1, .ref (0)), (0, .float 0)] [] (HP c w m v E) Q) (c w m v : kZ) (E : kH) (hR : Rel c w m E) : WP X 31 (2 + mc) (234 + ms) yLaw 430 [(3, .int (nI (i))), (2, .ref (80)), (1, .ref (0)), (0, .float 0)] [] (HP c w m v E) Q := by
  refine wp_aload_n 2 d_L_law_430 rfl rfl ?_
  refine wp_aload_nF 3 d_L_law_431 rfl rfl ?_
  refine wp_iload_n 0 d_L_law_432 rfl rfl ?_
  refine wp_iconst (v0 := 1) d_L_law_433 rfl ?_
  refine wp_iadd d_L_law_434 ?_
  refine wp_v (v0 := nI ((i) + (1))) (nI_add (i) (1)) ?_
  refine wp_sload (v := X.2 ((i) + (1))) d_L_law_435 (vp_in_nI (by omega) (by omega)) (congrArg (X.2) (nI_clamp (by omega))) ?_
  refine wp_virtual (As := [.int (X.2 ((i) + (1)))]) (mc1 := 2) (ms1 := 234) d_L_law_436 lk_L_32 mv_X9_setting in_X9_setting se_X9_setting (Nat.le_of_ble_eq_true rfl) (Nat.le_of_ble_eq_true rfl) (hp_0 _ _ _ _ _) rfl rfl ((kJn.up (j_setting (X := X) (d := 30) (by omega) (X.2 ((i) + (1)))) (by decide) (by decide)) c w m v E hR) (fun v1 h1 q1 => ?_)
  obtain ⟨z1, zc1, w1, E1, rfl, rfl, hM⟩ := q1
  show WP _ _ _ _ _ 439 _ [.int z1] (HP zc1 w1 m v E1) _
  refine wp_aload_n 1 d_L_law_439 rfl rfl ?_
  refine wp_aload_nF 3 d_L_law_440 rfl rfl ?_
  refine wp_iload_n 0 d_L_law_441 rfl rfl ?_
  refine wp_iconst (v0 := 1) d_L_law_442 rfl ?_
  refine wp_iadd d_L_law_443 ?_
  refine wp_v (v0 := nI ((i) + (1))) (nI_add (i) (1)) ?_
  refine wp_sload (v := X.2 ((i) + (1))) d_L_law_444 (vp_in_nI (by omega) (by omega)) (congrArg (X.2) (nI_clamp (by omega))) ?_
  refine wp_virtual0 (As := [.int (X.2 ((i) + (1)))]) d_L_law_445 lk_L_36 mv_X10_setting in_X10_setting se_X10_setting (Nat.le_of_ble_eq_true rfl) (Nat.le_of_ble_eq_true rfl) (hp_80 _ _ _ _ _) rfl hM (fun v2 h2 q2 => ?_)
  obtain ⟨rfl, m2, v2, rfl, hR2⟩ := q2
  show WP _ _ _ _ _ 448 _ [.int z1, .int z1] (HP zc1 w1 m2 v2 E1) _
  refine wp_icmp_eq 1713 d_L_law_448 rfl (fun _ => ?_) (fun q => absurd rfl q)
  exact K zc1 w1 m2 v2 E1 hR2
theorem law_let {X : kX} (hX : X.1 ≤ 2560) {i : Nat} (hi5 : i + 5 ≤ X.1) {mc ms : Nat} {Q : Option Value → kH → Prop} (K : ∀ (c w m v : kZ) (E : kH), Rel c w m E → WP X 31 mc ms yLaw 1713 [(3, .int (nI (i))), (2, .ref (80)), (1, .ref (0)), (0, .float 0)] [] (HP c w m v E) Q) (c w m v : kZ) (E : kH) (hR : Rel c w m E) : WP X 31 (2 + mc) (234 + ms) yLaw 453 [(3, .int (nI (i))), (2, .ref (80)), (1, .ref (0)), (0, .float 0)] [] (HP c w m v E) Q := by
  refine wp_aload_n 2 d_L_law_453 rfl rfl ?_
  refine wp_aload_nF 3 d_L_law_454 rfl rfl ?_
  refine wp_iload_n 0 d_L_law_455 rfl rfl ?_
  refine wp_iconst (v0 := 1) d_L_law_456 rfl ?_
  refine wp_iadd d_L_law_457 ?_
  refine wp_v (v0 := nI ((i) + (1))) (nI_add (i) (1)) ?_
  refine wp_sload (v := X.2 ((i) + (1))) d_L_law_458 (vp_in_nI (by omega) (by omega)) (congrArg (X.2) (nI_clamp (by omega))) ?_
  refine wp_aload_nF 3 d_L_law_459 rfl rfl ?_
  refine wp_iload_n 0 d_L_law_460 rfl rfl ?_
  refine wp_iconst (v0 := 2) d_L_law_461 rfl ?_
  refine wp_iadd d_L_law_462 ?_
  refine wp_v (v0 := nI ((i) + (2))) (nI_add (i) (2)) ?_
  refine wp_sload (v := X.2 ((i) + (2))) d_L_law_463 (vp_in_nI (by omega) (by omega)) (congrArg (X.2) (nI_clamp (by omega))) ?_
  refine wp_virtual (As := [.int (X.2 ((i) + (1))), .int (X.2 ((i) + (2)))]) (mc1 := 2) (ms1 := 234) d_L_law_464 lk_L_37 mv_X9_let in_X9_let se_X9_let (Nat.le_of_ble_eq_true rfl) (Nat.le_of_ble_eq_true rfl) (hp_0 _ _ _ _ _) rfl rfl ((kJn.up (j_let (X := X) (d := 30) (by omega) (X.2 ((i) + (1))) (X.2 ((i) + (2)))) (by decide) (by decide)) c w m v E hR) (fun v1 h1 q1 => ?_)
  obtain ⟨z1, zc1, w1, E1, rfl, rfl, hM⟩ := q1
  show WP _ _ _ _ _ 467 _ [.int z1] (HP zc1 w1 m v E1) _
  refine wp_aload_n 1 d_L_law_467 rfl rfl ?_
  refine wp_aload_nF 3 d_L_law_468 rfl rfl ?_
  refine wp_iload_n 0 d_L_law_469 rfl rfl ?_
  refine wp_iconst (v0 := 1) d_L_law_470 rfl ?_
  refine wp_iadd d_L_law_471 ?_
  refine wp_v (v0 := nI ((i) + (1))) (nI_add (i) (1)) ?_
  refine wp_sload (v := X.2 ((i) + (1))) d_L_law_472 (vp_in_nI (by omega) (by omega)) (congrArg (X.2) (nI_clamp (by omega))) ?_
  refine wp_aload_nF 3 d_L_law_473 rfl rfl ?_
  refine wp_iload_n 0 d_L_law_474 rfl rfl ?_
  refine wp_iconst (v0 := 2) d_L_law_475 rfl ?_
  refine wp_iadd d_L_law_476 ?_
  refine wp_v (v0 := nI ((i) + (2))) (nI_add (i) (2)) ?_
  refine wp_sload (v := X.2 ((i) + (2))) d_L_law_477 (vp_in_nI (by omega) (by omega)) (congrArg (X.2) (nI_clamp (by omega))) ?_
  refine wp_virtual0 (As := [.int (X.2 ((i) + (1))), .int (X.2 ((i) + (2)))]) d_L_law_478 lk_L_40 mv_X10_let in_X10_let se_X10_let (Nat.le_of_ble_eq_true rfl) (Nat.le_of_ble_eq_true rfl) (hp_80 _ _ _ _ _) rfl hM (fun v2 h2 q2 => ?_)
  obtain ⟨rfl, m2, v2, rfl, hR2⟩ := q2
  show WP _ _ _ _ _ 481 _ [.int z1, .int z1] (HP zc1 w1 m2 v2 E1) _
  refine wp_icmp_eq 1713 d_L_law_481 rfl (fun _ => ?_) (fun q => absurd rfl q)
  exact K zc1 w1 m2 v2 E1 hR2
theorem law_feed {X : kX} (hX : X.1 ≤ 2560) {i : Nat} (hi5 : i + 5 ≤ X.1) {mc ms : Nat} {Q : Option Value → kH → Prop} (K : ∀ (c w m v : kZ) (E : kH), Rel c w m E → WP X 31 mc ms yLaw 1713 [(3, .int (nI (i))), (2, .ref (80)), (1, .ref (0)), (0, .float 0)] [] (HP c w m v E) Q) (c w m v : kZ) (E : kH) (hR : Rel c w m E) : WP X 31 (2 + mc) (234 + ms) yLaw 486 [(3, .int (nI (i))), (2, .ref (80)), (1, .ref (0)), (0, .float 0)] [] (HP c w m v E) Q := by
  refine wp_aload_n 2 d_L_law_486 rfl rfl ?_
  refine wp_aload_nF 3 d_L_law_487 rfl rfl ?_
  refine wp_iload_n 0 d_L_law_488 rfl rfl ?_
  refine wp_iconst (v0 := 1) d_L_law_489 rfl ?_
  refine wp_iadd d_L_law_490 ?_
  refine wp_v (v0 := nI ((i) + (1))) (nI_add (i) (1)) ?_
  refine wp_sload (v := X.2 ((i) + (1))) d_L_law_491 (vp_in_nI (by omega) (by omega)) (congrArg (X.2) (nI_clamp (by omega))) ?_
  refine wp_i2l d_L_law_492 ?_
  refine wp_bipush (v0 := 32) d_L_law_493 (by decide) ?_
  refine wp_lshl (v0 := (Int32.toInt64 (X.2 ((i) + (1)))) <<< (Int32.toInt64 (32) &&& 63)) d_L_law_495 rfl ?_
  refine wp_aload_nF 3 d_L_law_496 rfl rfl ?_
  refine wp_iload_n 0 d_L_law_497 rfl rfl ?_
  refine wp_iconst (v0 := 2) d_L_law_498 rfl ?_
  refine wp_iadd d_L_law_499 ?_
  refine wp_v (v0 := nI ((i) + (2))) (nI_add (i) (2)) ?_
  refine wp_sload (v := X.2 ((i) + (2))) d_L_law_500 (vp_in_nI (by omega) (by omega)) (congrArg (X.2) (nI_clamp (by omega))) ?_
  refine wp_i2l d_L_law_501 ?_
  refine wp_ldc2 (v0 := 4294967295) d_L_law_502 cl_L_41 ?_
  refine wp_land d_L_law_505 ?_
  refine wp_lor d_L_law_506 ?_
  refine wp_aload_nF 3 d_L_law_507 rfl rfl ?_
  refine wp_iload_n 0 d_L_law_508 rfl rfl ?_
  refine wp_iconst (v0 := 3) d_L_law_509 rfl ?_
  refine wp_iadd d_L_law_510 ?_
  refine wp_v (v0 := nI ((i) + (3))) (nI_add (i) (3)) ?_
  refine wp_sload (v := X.2 ((i) + (3))) d_L_law_511 (vp_in_nI (by omega) (by omega)) (congrArg (X.2) (nI_clamp (by omega))) ?_
  refine wp_virtual (As := [.long (((Int32.toInt64 (X.2 ((i) + (1)))) <<< (Int32.toInt64 (32) &&& 63)) ||| ((Int32.toInt64 (X.2 ((i) + (2)))) &&& (4294967295))), .int (X.2 ((i) + (3)))]) (mc1 := 2) (ms1 := 234) d_L_law_512 lk_L_43 mv_X9_feed in_X9_feed se_X9_feed (Nat.le_of_ble_eq_true rfl) (Nat.le_of_ble_eq_true rfl) (hp_0 _ _ _ _ _) rfl rfl ((kJn.up (j_feed (X := X) (d := 30) (by omega) (((Int32.toInt64 (X.2 ((i) + (1)))) <<< (Int32.toInt64 (32) &&& 63)) ||| ((Int32.toInt64 (X.2 ((i) + (2)))) &&& (4294967295))) (X.2 ((i) + (3)))) (by decide) (by decide)) c w m v E hR) (fun v1 h1 q1 => ?_)
  obtain ⟨z1, zc1, w1, E1, rfl, rfl, hM⟩ := q1
  show WP _ _ _ _ _ 515 _ [.int z1] (HP zc1 w1 m v E1) _
  refine wp_aload_n 1 d_L_law_515 rfl rfl ?_
  refine wp_aload_nF 3 d_L_law_516 rfl rfl ?_
  refine wp_iload_n 0 d_L_law_517 rfl rfl ?_
  refine wp_iconst (v0 := 1) d_L_law_518 rfl ?_
  refine wp_iadd d_L_law_519 ?_
  refine wp_v (v0 := nI ((i) + (1))) (nI_add (i) (1)) ?_
  refine wp_sload (v := X.2 ((i) + (1))) d_L_law_520 (vp_in_nI (by omega) (by omega)) (congrArg (X.2) (nI_clamp (by omega))) ?_
  refine wp_i2l d_L_law_521 ?_
  refine wp_bipush (v0 := 32) d_L_law_522 (by decide) ?_
  refine wp_lshl (v0 := (Int32.toInt64 (X.2 ((i) + (1)))) <<< (Int32.toInt64 (32) &&& 63)) d_L_law_524 rfl ?_
  refine wp_aload_nF 3 d_L_law_525 rfl rfl ?_
  refine wp_iload_n 0 d_L_law_526 rfl rfl ?_
  refine wp_iconst (v0 := 2) d_L_law_527 rfl ?_
  refine wp_iadd d_L_law_528 ?_
  refine wp_v (v0 := nI ((i) + (2))) (nI_add (i) (2)) ?_
  refine wp_sload (v := X.2 ((i) + (2))) d_L_law_529 (vp_in_nI (by omega) (by omega)) (congrArg (X.2) (nI_clamp (by omega))) ?_
  refine wp_i2l d_L_law_530 ?_
  refine wp_ldc2 (v0 := 4294967295) d_L_law_531 cl_L_41 ?_
  refine wp_land d_L_law_534 ?_
  refine wp_lor d_L_law_535 ?_
  refine wp_aload_nF 3 d_L_law_536 rfl rfl ?_
  refine wp_iload_n 0 d_L_law_537 rfl rfl ?_
  refine wp_iconst (v0 := 3) d_L_law_538 rfl ?_
  refine wp_iadd d_L_law_539 ?_
  refine wp_v (v0 := nI ((i) + (3))) (nI_add (i) (3)) ?_
  refine wp_sload (v := X.2 ((i) + (3))) d_L_law_540 (vp_in_nI (by omega) (by omega)) (congrArg (X.2) (nI_clamp (by omega))) ?_
  refine wp_virtual0 (As := [.long (((Int32.toInt64 (X.2 ((i) + (1)))) <<< (Int32.toInt64 (32) &&& 63)) ||| ((Int32.toInt64 (X.2 ((i) + (2)))) &&& (4294967295))), .int (X.2 ((i) + (3)))]) d_L_law_541 lk_L_47 mv_X10_feed in_X10_feed se_X10_feed (Nat.le_of_ble_eq_true rfl) (Nat.le_of_ble_eq_true rfl) (hp_80 _ _ _ _ _) rfl hM (fun v2 h2 q2 => ?_)
  obtain ⟨rfl, m2, v2, rfl, hR2⟩ := q2
  show WP _ _ _ _ _ 544 _ [.int z1, .int z1] (HP zc1 w1 m2 v2 E1) _
  refine wp_icmp_eq 1713 d_L_law_544 rfl (fun _ => ?_) (fun q => absurd rfl q)
  exact K zc1 w1 m2 v2 E1 hR2
theorem law_rules {X : kX} (hX : X.1 ≤ 2560) {i : Nat} (hi5 : i + 5 ≤ X.1) {mc ms : Nat} {Q : Option Value → kH → Prop} (K : ∀ (c w m v : kZ) (E : kH), Rel c w m E → WP X 31 mc ms yLaw 1713 [(3, .int (nI (i))), (2, .ref (80)), (1, .ref (0)), (0, .float 0)] [] (HP c w m v E) Q) (c w m v : kZ) (E : kH) (hR : Rel c w m E) : WP X 31 (2 + mc) (234 + ms) yLaw 549 [(3, .int (nI (i))), (2, .ref (80)), (1, .ref (0)), (0, .float 0)] [] (HP c w m v E) Q := by
  refine wp_aload_n 2 d_L_law_549 rfl rfl ?_
  refine wp_virtual (As := []) (mc1 := 2) (ms1 := 234) d_L_law_550 lk_L_48 mv_X9_rules in_X9_rules se_X9_rules (Nat.le_of_ble_eq_true rfl) (Nat.le_of_ble_eq_true rfl) (hp_0 _ _ _ _ _) rfl rfl ((kJn.up (j_rules (X := X) (d := 30) (by omega) ) (by decide) (by decide)) c w m v E hR) (fun v1 h1 q1 => ?_)
  obtain ⟨z1, zc1, w1, E1, rfl, rfl, hM⟩ := q1
  show WP _ _ _ _ _ 553 _ [.int z1] (HP zc1 w1 m v E1) _
  refine wp_aload_n 1 d_L_law_553 rfl rfl ?_
  refine wp_virtual0 (As := []) d_L_law_554 lk_L_52 mv_X10_rules in_X10_rules se_X10_rules (Nat.le_of_ble_eq_true rfl) (Nat.le_of_ble_eq_true rfl) (hp_80 _ _ _ _ _) rfl hM (fun v2 h2 q2 => ?_)
  obtain ⟨rfl, m2, v2, rfl, hR2⟩ := q2
  show WP _ _ _ _ _ 557 _ [.int z1, .int z1] (HP zc1 w1 m2 v2 E1) _
  refine wp_icmp_eq 1713 d_L_law_557 rfl (fun _ => ?_) (fun q => absurd rfl q)
  exact K zc1 w1 m2 v2 E1 hR2
theorem law_seen {X : kX} (hX : X.1 ≤ 2560) {i : Nat} (hi5 : i + 5 ≤ X.1) {mc ms : Nat} {Q : Option Value → kH → Prop} (K : ∀ (c w m v : kZ) (E : kH), Rel c w m E → WP X 31 mc ms yLaw 1713 [(3, .int (nI (i))), (2, .ref (80)), (1, .ref (0)), (0, .float 0)] [] (HP c w m v E) Q) (c w m v : kZ) (E : kH) (hR : Rel c w m E) : WP X 31 (2 + mc) (234 + ms) yLaw 562 [(3, .int (nI (i))), (2, .ref (80)), (1, .ref (0)), (0, .float 0)] [] (HP c w m v E) Q := by
  refine wp_aload_n 2 d_L_law_562 rfl rfl ?_
  refine wp_aload_nF 3 d_L_law_563 rfl rfl ?_
  refine wp_iload_n 0 d_L_law_564 rfl rfl ?_
  refine wp_iconst (v0 := 1) d_L_law_565 rfl ?_
  refine wp_iadd d_L_law_566 ?_
  refine wp_v (v0 := nI ((i) + (1))) (nI_add (i) (1)) ?_
  refine wp_sload (v := X.2 ((i) + (1))) d_L_law_567 (vp_in_nI (by omega) (by omega)) (congrArg (X.2) (nI_clamp (by omega))) ?_
  refine wp_virtual (As := [.int (X.2 ((i) + (1)))]) (mc1 := 2) (ms1 := 234) d_L_law_568 lk_L_53 mv_X9_seen in_X9_seen se_X9_seen (Nat.le_of_ble_eq_true rfl) (Nat.le_of_ble_eq_true rfl) (hp_0 _ _ _ _ _) rfl rfl ((kJn.up (j_seen (X := X) (d := 30) (by omega) (X.2 ((i) + (1)))) (by decide) (by decide)) c w m v E hR) (fun v1 h1 q1 => ?_)
  obtain ⟨z1, zc1, w1, E1, rfl, rfl, hM⟩ := q1
  show WP _ _ _ _ _ 571 _ [.int z1] (HP zc1 w1 m v E1) _
  refine wp_aload_n 1 d_L_law_571 rfl rfl ?_
  refine wp_aload_nF 3 d_L_law_572 rfl rfl ?_
  refine wp_iload_n 0 d_L_law_573 rfl rfl ?_
  refine wp_iconst (v0 := 1) d_L_law_574 rfl ?_
  refine wp_iadd d_L_law_575 ?_
  refine wp_v (v0 := nI ((i) + (1))) (nI_add (i) (1)) ?_
  refine wp_sload (v := X.2 ((i) + (1))) d_L_law_576 (vp_in_nI (by omega) (by omega)) (congrArg (X.2) (nI_clamp (by omega))) ?_
  refine wp_virtual0 (As := [.int (X.2 ((i) + (1)))]) d_L_law_577 lk_L_56 mv_X10_seen in_X10_seen se_X10_seen (Nat.le_of_ble_eq_true rfl) (Nat.le_of_ble_eq_true rfl) (hp_80 _ _ _ _ _) rfl hM (fun v2 h2 q2 => ?_)
  obtain ⟨rfl, m2, v2, rfl, hR2⟩ := q2
  show WP _ _ _ _ _ 580 _ [.int z1, .int z1] (HP zc1 w1 m2 v2 E1) _
  refine wp_icmp_eq 1713 d_L_law_580 rfl (fun _ => ?_) (fun q => absurd rfl q)
  exact K zc1 w1 m2 v2 E1 hR2
theorem law_shift {X : kX} (hX : X.1 ≤ 2560) {i : Nat} (hi5 : i + 5 ≤ X.1) {mc ms : Nat} {Q : Option Value → kH → Prop} (K : ∀ (c w m v : kZ) (E : kH), Rel c w m E → WP X 31 mc ms yLaw 1713 [(3, .int (nI (i))), (2, .ref (80)), (1, .ref (0)), (0, .float 0)] [] (HP c w m v E) Q) (c w m v : kZ) (E : kH) (hR : Rel c w m E) : WP X 31 (2 + mc) (234 + ms) yLaw 585 [(3, .int (nI (i))), (2, .ref (80)), (1, .ref (0)), (0, .float 0)] [] (HP c w m v E) Q := by
  refine wp_aload_n 2 d_L_law_585 rfl rfl ?_
  refine wp_virtual (As := []) (mc1 := 2) (ms1 := 234) d_L_law_586 lk_L_57 mv_X9_shift in_X9_shift se_X9_shift (Nat.le_of_ble_eq_true rfl) (Nat.le_of_ble_eq_true rfl) (hp_0 _ _ _ _ _) rfl rfl ((kJn.up (j_shift (X := X) (d := 30) (by omega) ) (by decide) (by decide)) c w m v E hR) (fun v1 h1 q1 => ?_)
  obtain ⟨z1, zc1, w1, E1, rfl, rfl, hM⟩ := q1
  show WP _ _ _ _ _ 589 _ [.int z1] (HP zc1 w1 m v E1) _
  refine wp_aload_n 1 d_L_law_589 rfl rfl ?_
  refine wp_virtual0 (As := []) d_L_law_590 lk_L_60 mv_X10_shift in_X10_shift se_X10_shift (Nat.le_of_ble_eq_true rfl) (Nat.le_of_ble_eq_true rfl) (hp_80 _ _ _ _ _) rfl hM (fun v2 h2 q2 => ?_)
  obtain ⟨rfl, m2, v2, rfl, hR2⟩ := q2
  show WP _ _ _ _ _ 593 _ [.int z1, .int z1] (HP zc1 w1 m2 v2 E1) _
  refine wp_icmp_eq 1713 d_L_law_593 rfl (fun _ => ?_) (fun q => absurd rfl q)
  exact K zc1 w1 m2 v2 E1 hR2
theorem law_blur {X : kX} (hX : X.1 ≤ 2560) {i : Nat} (hi5 : i + 5 ≤ X.1) {mc ms : Nat} {Q : Option Value → kH → Prop} (K : ∀ (c w m v : kZ) (E : kH), Rel c w m E → WP X 31 mc ms yLaw 1713 [(3, .int (nI (i))), (2, .ref (80)), (1, .ref (0)), (0, .float 0)] [] (HP c w m v E) Q) (c w m v : kZ) (E : kH) (hR : Rel c w m E) : WP X 31 (2 + mc) (234 + ms) yLaw 598 [(3, .int (nI (i))), (2, .ref (80)), (1, .ref (0)), (0, .float 0)] [] (HP c w m v E) Q := by
  refine wp_aload_n 2 d_L_law_598 rfl rfl ?_
  refine wp_virtual (As := []) (mc1 := 2) (ms1 := 234) d_L_law_599 lk_L_61 mv_X9_blur in_X9_blur se_X9_blur (Nat.le_of_ble_eq_true rfl) (Nat.le_of_ble_eq_true rfl) (hp_0 _ _ _ _ _) rfl rfl ((kJn.up (j_blur (X := X) (d := 30) (by omega) ) (by decide) (by decide)) c w m v E hR) (fun v1 h1 q1 => ?_)
  obtain ⟨z1, zc1, w1, E1, rfl, rfl, hM⟩ := q1
  show WP _ _ _ _ _ 602 _ [.int z1] (HP zc1 w1 m v E1) _
  refine wp_aload_n 1 d_L_law_602 rfl rfl ?_
  refine wp_virtual0 (As := []) d_L_law_603 lk_L_64 mv_X10_blur in_X10_blur se_X10_blur (Nat.le_of_ble_eq_true rfl) (Nat.le_of_ble_eq_true rfl) (hp_80 _ _ _ _ _) rfl hM (fun v2 h2 q2 => ?_)
  obtain ⟨rfl, m2, v2, rfl, hR2⟩ := q2
  show WP _ _ _ _ _ 606 _ [.int z1, .int z1] (HP zc1 w1 m2 v2 E1) _
  refine wp_icmp_eq 1713 d_L_law_606 rfl (fun _ => ?_) (fun q => absurd rfl q)
  exact K zc1 w1 m2 v2 E1 hR2
theorem law_wrong {X : kX} (hX : X.1 ≤ 2560) {i : Nat} (hi5 : i + 5 ≤ X.1) {mc ms : Nat} {Q : Option Value → kH → Prop} (K : ∀ (c w m v : kZ) (E : kH), Rel c w m E → WP X 31 mc ms yLaw 1713 [(3, .int (nI (i))), (2, .ref (80)), (1, .ref (0)), (0, .float 0)] [] (HP c w m v E) Q) (c w m v : kZ) (E : kH) (hR : Rel c w m E) : WP X 31 (2 + mc) (234 + ms) yLaw 611 [(3, .int (nI (i))), (2, .ref (80)), (1, .ref (0)), (0, .float 0)] [] (HP c w m v E) Q := by
  refine wp_aload_n 2 d_L_law_611 rfl rfl ?_
  refine wp_virtual (As := []) (mc1 := 2) (ms1 := 234) d_L_law_612 lk_L_65 mv_X9_wrong in_X9_wrong se_X9_wrong (Nat.le_of_ble_eq_true rfl) (Nat.le_of_ble_eq_true rfl) (hp_0 _ _ _ _ _) rfl rfl ((kJn.up (j_wrong (X := X) (d := 30) (by omega) ) (by decide) (by decide)) c w m v E hR) (fun v1 h1 q1 => ?_)
  obtain ⟨z1, zc1, w1, E1, rfl, rfl, hM⟩ := q1
  show WP _ _ _ _ _ 615 _ [.int z1] (HP zc1 w1 m v E1) _
  refine wp_aload_n 1 d_L_law_615 rfl rfl ?_
  refine wp_virtual0 (As := []) d_L_law_616 lk_L_68 mv_X10_wrong in_X10_wrong se_X10_wrong (Nat.le_of_ble_eq_true rfl) (Nat.le_of_ble_eq_true rfl) (hp_80 _ _ _ _ _) rfl hM (fun v2 h2 q2 => ?_)
  obtain ⟨rfl, m2, v2, rfl, hR2⟩ := q2
  show WP _ _ _ _ _ 619 _ [.int z1, .int z1] (HP zc1 w1 m2 v2 E1) _
  refine wp_icmp_eq 1713 d_L_law_619 rfl (fun _ => ?_) (fun q => absurd rfl q)
  exact K zc1 w1 m2 v2 E1 hR2
theorem law_mended {X : kX} (hX : X.1 ≤ 2560) {i : Nat} (hi5 : i + 5 ≤ X.1) {mc ms : Nat} {Q : Option Value → kH → Prop} (K : ∀ (c w m v : kZ) (E : kH), Rel c w m E → WP X 31 mc ms yLaw 1713 [(3, .int (nI (i))), (2, .ref (80)), (1, .ref (0)), (0, .float 0)] [] (HP c w m v E) Q) (c w m v : kZ) (E : kH) (hR : Rel c w m E) : WP X 31 (2 + mc) (234 + ms) yLaw 624 [(3, .int (nI (i))), (2, .ref (80)), (1, .ref (0)), (0, .float 0)] [] (HP c w m v E) Q := by
  refine wp_aload_n 2 d_L_law_624 rfl rfl ?_
  refine wp_virtual (As := []) (mc1 := 2) (ms1 := 234) d_L_law_625 lk_L_69 mv_X9_mended in_X9_mended se_X9_mended (Nat.le_of_ble_eq_true rfl) (Nat.le_of_ble_eq_true rfl) (hp_0 _ _ _ _ _) rfl rfl ((kJn.up (j_mended (X := X) (d := 30) (by omega) ) (by decide) (by decide)) c w m v E hR) (fun v1 h1 q1 => ?_)
  obtain ⟨z1, zc1, w1, E1, rfl, rfl, hM⟩ := q1
  show WP _ _ _ _ _ 628 _ [.int z1] (HP zc1 w1 m v E1) _
  refine wp_aload_n 1 d_L_law_628 rfl rfl ?_
  refine wp_virtual0 (As := []) d_L_law_629 lk_L_72 mv_X10_mended in_X10_mended se_X10_mended (Nat.le_of_ble_eq_true rfl) (Nat.le_of_ble_eq_true rfl) (hp_80 _ _ _ _ _) rfl hM (fun v2 h2 q2 => ?_)
  obtain ⟨rfl, m2, v2, rfl, hR2⟩ := q2
  show WP _ _ _ _ _ 632 _ [.int z1, .int z1] (HP zc1 w1 m2 v2 E1) _
  refine wp_icmp_eq 1713 d_L_law_632 rfl (fun _ => ?_) (fun q => absurd rfl q)
  exact K zc1 w1 m2 v2 E1 hR2
theorem law_fit {X : kX} (hX : X.1 ≤ 2560) {i : Nat} (hi5 : i + 5 ≤ X.1) {mc ms : Nat} {Q : Option Value → kH → Prop} (K : ∀ (c w m v : kZ) (E : kH), Rel c w m E → WP X 31 mc ms yLaw 1713 [(3, .int (nI (i))), (2, .ref (80)), (1, .ref (0)), (0, .float 0)] [] (HP c w m v E) Q) (c w m v : kZ) (E : kH) (hR : Rel c w m E) : WP X 31 (2 + mc) (234 + ms) yLaw 637 [(3, .int (nI (i))), (2, .ref (80)), (1, .ref (0)), (0, .float 0)] [] (HP c w m v E) Q := by
  refine wp_aload_n 2 d_L_law_637 rfl rfl ?_
  refine wp_aload_nF 3 d_L_law_638 rfl rfl ?_
  refine wp_iload_n 0 d_L_law_639 rfl rfl ?_
  refine wp_iconst (v0 := 1) d_L_law_640 rfl ?_
  refine wp_iadd d_L_law_641 ?_
  refine wp_v (v0 := nI ((i) + (1))) (nI_add (i) (1)) ?_
  refine wp_sload (v := X.2 ((i) + (1))) d_L_law_642 (vp_in_nI (by omega) (by omega)) (congrArg (X.2) (nI_clamp (by omega))) ?_
  refine wp_aload_nF 3 d_L_law_643 rfl rfl ?_
  refine wp_iload_n 0 d_L_law_644 rfl rfl ?_
  refine wp_iconst (v0 := 2) d_L_law_645 rfl ?_
  refine wp_iadd d_L_law_646 ?_
  refine wp_v (v0 := nI ((i) + (2))) (nI_add (i) (2)) ?_
  refine wp_sload (v := X.2 ((i) + (2))) d_L_law_647 (vp_in_nI (by omega) (by omega)) (congrArg (X.2) (nI_clamp (by omega))) ?_
  refine wp_virtual (As := [.int (X.2 ((i) + (1))), .int (X.2 ((i) + (2)))]) (mc1 := 2) (ms1 := 234) d_L_law_648 lk_L_73 mv_X9_fit in_X9_fit se_X9_fit (Nat.le_of_ble_eq_true rfl) (Nat.le_of_ble_eq_true rfl) (hp_0 _ _ _ _ _) rfl rfl ((kJn.up (j_fit (X := X) (d := 30) (by omega) (X.2 ((i) + (1))) (X.2 ((i) + (2)))) (by decide) (by decide)) c w m v E hR) (fun v1 h1 q1 => ?_)
  obtain ⟨z1, zc1, w1, E1, rfl, rfl, hM⟩ := q1
  show WP _ _ _ _ _ 651 _ [.int z1] (HP zc1 w1 m v E1) _
  refine wp_aload_n 1 d_L_law_651 rfl rfl ?_
  refine wp_aload_nF 3 d_L_law_652 rfl rfl ?_
  refine wp_iload_n 0 d_L_law_653 rfl rfl ?_
  refine wp_iconst (v0 := 1) d_L_law_654 rfl ?_
  refine wp_iadd d_L_law_655 ?_
  refine wp_v (v0 := nI ((i) + (1))) (nI_add (i) (1)) ?_
  refine wp_sload (v := X.2 ((i) + (1))) d_L_law_656 (vp_in_nI (by omega) (by omega)) (congrArg (X.2) (nI_clamp (by omega))) ?_
  refine wp_aload_nF 3 d_L_law_657 rfl rfl ?_
  refine wp_iload_n 0 d_L_law_658 rfl rfl ?_
  refine wp_iconst (v0 := 2) d_L_law_659 rfl ?_
  refine wp_iadd d_L_law_660 ?_
  refine wp_v (v0 := nI ((i) + (2))) (nI_add (i) (2)) ?_
  refine wp_sload (v := X.2 ((i) + (2))) d_L_law_661 (vp_in_nI (by omega) (by omega)) (congrArg (X.2) (nI_clamp (by omega))) ?_
  refine wp_virtual0 (As := [.int (X.2 ((i) + (1))), .int (X.2 ((i) + (2)))]) d_L_law_662 lk_L_76 mv_X10_fit in_X10_fit se_X10_fit (Nat.le_of_ble_eq_true rfl) (Nat.le_of_ble_eq_true rfl) (hp_80 _ _ _ _ _) rfl hM (fun v2 h2 q2 => ?_)
  obtain ⟨rfl, m2, v2, rfl, hR2⟩ := q2
  show WP _ _ _ _ _ 665 _ [.int z1, .int z1] (HP zc1 w1 m2 v2 E1) _
  refine wp_icmp_eq 1713 d_L_law_665 rfl (fun _ => ?_) (fun q => absurd rfl q)
  exact K zc1 w1 m2 v2 E1 hR2
theorem law_take {X : kX} (hX : X.1 ≤ 2560) {i : Nat} (hi5 : i + 5 ≤ X.1) {mc ms : Nat} {Q : Option Value → kH → Prop} (K : ∀ (c w m v : kZ) (E : kH), Rel c w m E → WP X 31 mc ms yLaw 1713 [(3, .int (nI (i))), (2, .ref (80)), (1, .ref (0)), (0, .float 0)] [] (HP c w m v E) Q) (c w m v : kZ) (E : kH) (hR : Rel c w m E) : WP X 31 (2 + mc) (234 + ms) yLaw 670 [(3, .int (nI (i))), (2, .ref (80)), (1, .ref (0)), (0, .float 0)] [] (HP c w m v E) Q := by
  refine wp_aload_n 2 d_L_law_670 rfl rfl ?_
  refine wp_aload_nF 3 d_L_law_671 rfl rfl ?_
  refine wp_iload_n 0 d_L_law_672 rfl rfl ?_
  refine wp_iconst (v0 := 1) d_L_law_673 rfl ?_
  refine wp_iadd d_L_law_674 ?_
  refine wp_v (v0 := nI ((i) + (1))) (nI_add (i) (1)) ?_
  refine wp_sload (v := X.2 ((i) + (1))) d_L_law_675 (vp_in_nI (by omega) (by omega)) (congrArg (X.2) (nI_clamp (by omega))) ?_
  refine wp_virtual (As := [.int (X.2 ((i) + (1)))]) (mc1 := 2) (ms1 := 234) d_L_law_676 lk_L_77 mv_X9_take in_X9_take se_X9_take (Nat.le_of_ble_eq_true rfl) (Nat.le_of_ble_eq_true rfl) (hp_0 _ _ _ _ _) rfl rfl ((kJn.up (j_take (X := X) (d := 30) (by omega) (X.2 ((i) + (1)))) (by decide) (by decide)) c w m v E hR) (fun v1 h1 q1 => ?_)
  obtain ⟨z1, zc1, w1, E1, rfl, rfl, hM⟩ := q1
  show WP _ _ _ _ _ 679 _ [.int z1] (HP zc1 w1 m v E1) _
  refine wp_aload_n 1 d_L_law_679 rfl rfl ?_
  refine wp_aload_nF 3 d_L_law_680 rfl rfl ?_
  refine wp_iload_n 0 d_L_law_681 rfl rfl ?_
  refine wp_iconst (v0 := 1) d_L_law_682 rfl ?_
  refine wp_iadd d_L_law_683 ?_
  refine wp_v (v0 := nI ((i) + (1))) (nI_add (i) (1)) ?_
  refine wp_sload (v := X.2 ((i) + (1))) d_L_law_684 (vp_in_nI (by omega) (by omega)) (congrArg (X.2) (nI_clamp (by omega))) ?_
  refine wp_virtual0 (As := [.int (X.2 ((i) + (1)))]) d_L_law_685 lk_L_80 mv_X10_take in_X10_take se_X10_take (Nat.le_of_ble_eq_true rfl) (Nat.le_of_ble_eq_true rfl) (hp_80 _ _ _ _ _) rfl hM (fun v2 h2 q2 => ?_)
  obtain ⟨rfl, m2, v2, rfl, hR2⟩ := q2
  show WP _ _ _ _ _ 688 _ [.int z1, .int z1] (HP zc1 w1 m2 v2 E1) _
  refine wp_icmp_eq 1713 d_L_law_688 rfl (fun _ => ?_) (fun q => absurd rfl q)
  exact K zc1 w1 m2 v2 E1 hR2
theorem law_place {X : kX} (hX : X.1 ≤ 2560) {i : Nat} (hi5 : i + 5 ≤ X.1) {mc ms : Nat} {Q : Option Value → kH → Prop} (K : ∀ (c w m v : kZ) (E : kH), Rel c w m E → WP X 31 mc ms yLaw 1713 [(3, .int (nI (i))), (2, .ref (80)), (1, .ref (0)), (0, .float 0)] [] (HP c w m v E) Q) (c w m v : kZ) (E : kH) (hR : Rel c w m E) : WP X 31 (2 + mc) (234 + ms) yLaw 693 [(3, .int (nI (i))), (2, .ref (80)), (1, .ref (0)), (0, .float 0)] [] (HP c w m v E) Q := by
  refine wp_aload_n 2 d_L_law_693 rfl rfl ?_
  refine wp_aload_nF 3 d_L_law_694 rfl rfl ?_
  refine wp_iload_n 0 d_L_law_695 rfl rfl ?_
  refine wp_iconst (v0 := 1) d_L_law_696 rfl ?_
  refine wp_iadd d_L_law_697 ?_
  refine wp_v (v0 := nI ((i) + (1))) (nI_add (i) (1)) ?_
  refine wp_sload (v := X.2 ((i) + (1))) d_L_law_698 (vp_in_nI (by omega) (by omega)) (congrArg (X.2) (nI_clamp (by omega))) ?_
  refine wp_aload_nF 3 d_L_law_699 rfl rfl ?_
  refine wp_iload_n 0 d_L_law_700 rfl rfl ?_
  refine wp_iconst (v0 := 2) d_L_law_701 rfl ?_
  refine wp_iadd d_L_law_702 ?_
  refine wp_v (v0 := nI ((i) + (2))) (nI_add (i) (2)) ?_
  refine wp_sload (v := X.2 ((i) + (2))) d_L_law_703 (vp_in_nI (by omega) (by omega)) (congrArg (X.2) (nI_clamp (by omega))) ?_
  refine wp_virtual (As := [.int (X.2 ((i) + (1))), .int (X.2 ((i) + (2)))]) (mc1 := 2) (ms1 := 234) d_L_law_704 lk_L_81 mv_X9_place in_X9_place se_X9_place (Nat.le_of_ble_eq_true rfl) (Nat.le_of_ble_eq_true rfl) (hp_0 _ _ _ _ _) rfl rfl ((kJn.up (j_place (X := X) (d := 30) (by omega) (X.2 ((i) + (1))) (X.2 ((i) + (2)))) (by decide) (by decide)) c w m v E hR) (fun v1 h1 q1 => ?_)
  obtain ⟨z1, zc1, w1, E1, rfl, rfl, hM⟩ := q1
  show WP _ _ _ _ _ 707 _ [.int z1] (HP zc1 w1 m v E1) _
  refine wp_aload_n 1 d_L_law_707 rfl rfl ?_
  refine wp_aload_nF 3 d_L_law_708 rfl rfl ?_
  refine wp_iload_n 0 d_L_law_709 rfl rfl ?_
  refine wp_iconst (v0 := 1) d_L_law_710 rfl ?_
  refine wp_iadd d_L_law_711 ?_
  refine wp_v (v0 := nI ((i) + (1))) (nI_add (i) (1)) ?_
  refine wp_sload (v := X.2 ((i) + (1))) d_L_law_712 (vp_in_nI (by omega) (by omega)) (congrArg (X.2) (nI_clamp (by omega))) ?_
  refine wp_aload_nF 3 d_L_law_713 rfl rfl ?_
  refine wp_iload_n 0 d_L_law_714 rfl rfl ?_
  refine wp_iconst (v0 := 2) d_L_law_715 rfl ?_
  refine wp_iadd d_L_law_716 ?_
  refine wp_v (v0 := nI ((i) + (2))) (nI_add (i) (2)) ?_
  refine wp_sload (v := X.2 ((i) + (2))) d_L_law_717 (vp_in_nI (by omega) (by omega)) (congrArg (X.2) (nI_clamp (by omega))) ?_
  refine wp_virtual0 (As := [.int (X.2 ((i) + (1))), .int (X.2 ((i) + (2)))]) d_L_law_718 lk_L_84 mv_X10_place in_X10_place se_X10_place (Nat.le_of_ble_eq_true rfl) (Nat.le_of_ble_eq_true rfl) (hp_80 _ _ _ _ _) rfl hM (fun v2 h2 q2 => ?_)
  obtain ⟨rfl, m2, v2, rfl, hR2⟩ := q2
  show WP _ _ _ _ _ 721 _ [.int z1, .int z1] (HP zc1 w1 m2 v2 E1) _
  refine wp_icmp_eq 1713 d_L_law_721 rfl (fun _ => ?_) (fun q => absurd rfl q)
  exact K zc1 w1 m2 v2 E1 hR2
theorem law_turn {X : kX} (hX : X.1 ≤ 2560) {i : Nat} (hi5 : i + 5 ≤ X.1) {mc ms : Nat} {Q : Option Value → kH → Prop} (K : ∀ (c w m v : kZ) (E : kH), Rel c w m E → WP X 31 mc ms yLaw 1713 [(3, .int (nI (i))), (2, .ref (80)), (1, .ref (0)), (0, .float 0)] [] (HP c w m v E) Q) (c w m v : kZ) (E : kH) (hR : Rel c w m E) : WP X 31 (2 + mc) (234 + ms) yLaw 726 [(3, .int (nI (i))), (2, .ref (80)), (1, .ref (0)), (0, .float 0)] [] (HP c w m v E) Q := by
  refine wp_aload_n 2 d_L_law_726 rfl rfl ?_
  refine wp_aload_nF 3 d_L_law_727 rfl rfl ?_
  refine wp_iload_n 0 d_L_law_728 rfl rfl ?_
  refine wp_iconst (v0 := 1) d_L_law_729 rfl ?_
  refine wp_iadd d_L_law_730 ?_
  refine wp_v (v0 := nI ((i) + (1))) (nI_add (i) (1)) ?_
  refine wp_sload (v := X.2 ((i) + (1))) d_L_law_731 (vp_in_nI (by omega) (by omega)) (congrArg (X.2) (nI_clamp (by omega))) ?_
  refine wp_aload_nF 3 d_L_law_732 rfl rfl ?_
  refine wp_iload_n 0 d_L_law_733 rfl rfl ?_
  refine wp_iconst (v0 := 2) d_L_law_734 rfl ?_
  refine wp_iadd d_L_law_735 ?_
  refine wp_v (v0 := nI ((i) + (2))) (nI_add (i) (2)) ?_
  refine wp_sload (v := X.2 ((i) + (2))) d_L_law_736 (vp_in_nI (by omega) (by omega)) (congrArg (X.2) (nI_clamp (by omega))) ?_
  refine wp_virtual (As := [.int (X.2 ((i) + (1))), .int (X.2 ((i) + (2)))]) (mc1 := 2) (ms1 := 234) d_L_law_737 lk_L_85 mv_X9_turn in_X9_turn se_X9_turn (Nat.le_of_ble_eq_true rfl) (Nat.le_of_ble_eq_true rfl) (hp_0 _ _ _ _ _) rfl rfl ((kJn.up (j_turn (X := X) (d := 30) (by omega) (X.2 ((i) + (1))) (X.2 ((i) + (2)))) (by decide) (by decide)) c w m v E hR) (fun v1 h1 q1 => ?_)
  obtain ⟨z1, zc1, w1, E1, rfl, rfl, hM⟩ := q1
  show WP _ _ _ _ _ 740 _ [.int z1] (HP zc1 w1 m v E1) _
  refine wp_aload_n 1 d_L_law_740 rfl rfl ?_
  refine wp_aload_nF 3 d_L_law_741 rfl rfl ?_
  refine wp_iload_n 0 d_L_law_742 rfl rfl ?_
  refine wp_iconst (v0 := 1) d_L_law_743 rfl ?_
  refine wp_iadd d_L_law_744 ?_
  refine wp_v (v0 := nI ((i) + (1))) (nI_add (i) (1)) ?_
  refine wp_sload (v := X.2 ((i) + (1))) d_L_law_745 (vp_in_nI (by omega) (by omega)) (congrArg (X.2) (nI_clamp (by omega))) ?_
  refine wp_aload_nF 3 d_L_law_746 rfl rfl ?_
  refine wp_iload_n 0 d_L_law_747 rfl rfl ?_
  refine wp_iconst (v0 := 2) d_L_law_748 rfl ?_
  refine wp_iadd d_L_law_749 ?_
  refine wp_v (v0 := nI ((i) + (2))) (nI_add (i) (2)) ?_
  refine wp_sload (v := X.2 ((i) + (2))) d_L_law_750 (vp_in_nI (by omega) (by omega)) (congrArg (X.2) (nI_clamp (by omega))) ?_
  refine wp_virtual0 (As := [.int (X.2 ((i) + (1))), .int (X.2 ((i) + (2)))]) d_L_law_751 lk_L_88 mv_X10_turn in_X10_turn se_X10_turn (Nat.le_of_ble_eq_true rfl) (Nat.le_of_ble_eq_true rfl) (hp_80 _ _ _ _ _) rfl hM (fun v2 h2 q2 => ?_)
  obtain ⟨rfl, m2, v2, rfl, hR2⟩ := q2
  show WP _ _ _ _ _ 754 _ [.int z1, .int z1] (HP zc1 w1 m2 v2 E1) _
  refine wp_icmp_eq 1713 d_L_law_754 rfl (fun _ => ?_) (fun q => absurd rfl q)
  exact K zc1 w1 m2 v2 E1 hR2
theorem law_exchange {X : kX} (hX : X.1 ≤ 2560) {i : Nat} (hi5 : i + 5 ≤ X.1) {mc ms : Nat} {Q : Option Value → kH → Prop} (K : ∀ (c w m v : kZ) (E : kH), Rel c w m E → WP X 31 mc ms yLaw 1713 [(3, .int (nI (i))), (2, .ref (80)), (1, .ref (0)), (0, .float 0)] [] (HP c w m v E) Q) (c w m v : kZ) (E : kH) (hR : Rel c w m E) : WP X 31 (2 + mc) (234 + ms) yLaw 759 [(3, .int (nI (i))), (2, .ref (80)), (1, .ref (0)), (0, .float 0)] [] (HP c w m v E) Q := by
  refine wp_aload_n 2 d_L_law_759 rfl rfl ?_
  refine wp_aload_nF 3 d_L_law_760 rfl rfl ?_
  refine wp_iload_n 0 d_L_law_761 rfl rfl ?_
  refine wp_iconst (v0 := 1) d_L_law_762 rfl ?_
  refine wp_iadd d_L_law_763 ?_
  refine wp_v (v0 := nI ((i) + (1))) (nI_add (i) (1)) ?_
  refine wp_sload (v := X.2 ((i) + (1))) d_L_law_764 (vp_in_nI (by omega) (by omega)) (congrArg (X.2) (nI_clamp (by omega))) ?_
  refine wp_aload_nF 3 d_L_law_765 rfl rfl ?_
  refine wp_iload_n 0 d_L_law_766 rfl rfl ?_
  refine wp_iconst (v0 := 2) d_L_law_767 rfl ?_
  refine wp_iadd d_L_law_768 ?_
  refine wp_v (v0 := nI ((i) + (2))) (nI_add (i) (2)) ?_
  refine wp_sload (v := X.2 ((i) + (2))) d_L_law_769 (vp_in_nI (by omega) (by omega)) (congrArg (X.2) (nI_clamp (by omega))) ?_
  refine wp_virtual (As := [.int (X.2 ((i) + (1))), .int (X.2 ((i) + (2)))]) (mc1 := 2) (ms1 := 234) d_L_law_770 lk_L_89 mv_X9_exchange in_X9_exchange se_X9_exchange (Nat.le_of_ble_eq_true rfl) (Nat.le_of_ble_eq_true rfl) (hp_0 _ _ _ _ _) rfl rfl ((kJn.up (j_exchange (X := X) (d := 30) (by omega) (X.2 ((i) + (1))) (X.2 ((i) + (2)))) (by decide) (by decide)) c w m v E hR) (fun v1 h1 q1 => ?_)
  obtain ⟨z1, zc1, w1, E1, rfl, rfl, hM⟩ := q1
  show WP _ _ _ _ _ 773 _ [.int z1] (HP zc1 w1 m v E1) _
  refine wp_aload_n 1 d_L_law_773 rfl rfl ?_
  refine wp_aload_nF 3 d_L_law_774 rfl rfl ?_
  refine wp_iload_n 0 d_L_law_775 rfl rfl ?_
  refine wp_iconst (v0 := 1) d_L_law_776 rfl ?_
  refine wp_iadd d_L_law_777 ?_
  refine wp_v (v0 := nI ((i) + (1))) (nI_add (i) (1)) ?_
  refine wp_sload (v := X.2 ((i) + (1))) d_L_law_778 (vp_in_nI (by omega) (by omega)) (congrArg (X.2) (nI_clamp (by omega))) ?_
  refine wp_aload_nF 3 d_L_law_779 rfl rfl ?_
  refine wp_iload_n 0 d_L_law_780 rfl rfl ?_
  refine wp_iconst (v0 := 2) d_L_law_781 rfl ?_
  refine wp_iadd d_L_law_782 ?_
  refine wp_v (v0 := nI ((i) + (2))) (nI_add (i) (2)) ?_
  refine wp_sload (v := X.2 ((i) + (2))) d_L_law_783 (vp_in_nI (by omega) (by omega)) (congrArg (X.2) (nI_clamp (by omega))) ?_
  refine wp_virtual0 (As := [.int (X.2 ((i) + (1))), .int (X.2 ((i) + (2)))]) d_L_law_784 lk_L_92 mv_X10_exchange in_X10_exchange se_X10_exchange (Nat.le_of_ble_eq_true rfl) (Nat.le_of_ble_eq_true rfl) (hp_80 _ _ _ _ _) rfl hM (fun v2 h2 q2 => ?_)
  obtain ⟨rfl, m2, v2, rfl, hR2⟩ := q2
  show WP _ _ _ _ _ 787 _ [.int z1, .int z1] (HP zc1 w1 m2 v2 E1) _
  refine wp_icmp_eq 1713 d_L_law_787 rfl (fun _ => ?_) (fun q => absurd rfl q)
  exact K zc1 w1 m2 v2 E1 hR2
theorem law_price {X : kX} (hX : X.1 ≤ 2560) {i : Nat} (hi5 : i + 5 ≤ X.1) {mc ms : Nat} {Q : Option Value → kH → Prop} (K : ∀ (c w m v : kZ) (E : kH), Rel c w m E → WP X 31 mc ms yLaw 1713 [(3, .int (nI (i))), (2, .ref (80)), (1, .ref (0)), (0, .float 0)] [] (HP c w m v E) Q) (c w m v : kZ) (E : kH) (hR : Rel c w m E) : WP X 31 (2 + mc) (234 + ms) yLaw 792 [(3, .int (nI (i))), (2, .ref (80)), (1, .ref (0)), (0, .float 0)] [] (HP c w m v E) Q := by
  refine wp_aload_n 2 d_L_law_792 rfl rfl ?_
  refine wp_virtual (As := []) (mc1 := 2) (ms1 := 234) d_L_law_793 lk_L_93 mv_X9_price in_X9_price se_X9_price (Nat.le_of_ble_eq_true rfl) (Nat.le_of_ble_eq_true rfl) (hp_0 _ _ _ _ _) rfl rfl ((kJn.up (j_price (X := X) (d := 30) (by omega) ) (by decide) (by decide)) c w m v E hR) (fun v1 h1 q1 => ?_)
  obtain ⟨z1, zc1, w1, E1, rfl, rfl, hM⟩ := q1
  show WP _ _ _ _ _ 796 _ [.int z1] (HP zc1 w1 m v E1) _
  refine wp_aload_n 1 d_L_law_796 rfl rfl ?_
  refine wp_virtual0 (As := []) d_L_law_797 lk_L_96 mv_X10_price in_X10_price se_X10_price (Nat.le_of_ble_eq_true rfl) (Nat.le_of_ble_eq_true rfl) (hp_80 _ _ _ _ _) rfl hM (fun v2 h2 q2 => ?_)
  obtain ⟨rfl, m2, v2, rfl, hR2⟩ := q2
  show WP _ _ _ _ _ 800 _ [.int z1, .int z1] (HP zc1 w1 m2 v2 E1) _
  refine wp_icmp_eq 1713 d_L_law_800 rfl (fun _ => ?_) (fun q => absurd rfl q)
  exact K zc1 w1 m2 v2 E1 hR2
theorem law_fix {X : kX} (hX : X.1 ≤ 2560) {i : Nat} (hi5 : i + 5 ≤ X.1) {mc ms : Nat} {Q : Option Value → kH → Prop} (K : ∀ (c w m v : kZ) (E : kH), Rel c w m E → WP X 31 mc ms yLaw 1713 [(3, .int (nI (i))), (2, .ref (80)), (1, .ref (0)), (0, .float 0)] [] (HP c w m v E) Q) (c w m v : kZ) (E : kH) (hR : Rel c w m E) : WP X 31 (2 + mc) (234 + ms) yLaw 805 [(3, .int (nI (i))), (2, .ref (80)), (1, .ref (0)), (0, .float 0)] [] (HP c w m v E) Q := by
  refine wp_aload_n 2 d_L_law_805 rfl rfl ?_
  refine wp_virtual (As := []) (mc1 := 2) (ms1 := 234) d_L_law_806 lk_L_97 mv_X9_fix in_X9_fix se_X9_fix (Nat.le_of_ble_eq_true rfl) (Nat.le_of_ble_eq_true rfl) (hp_0 _ _ _ _ _) rfl rfl ((kJn.up (j_fix (X := X) (d := 30) (by omega) ) (by decide) (by decide)) c w m v E hR) (fun v1 h1 q1 => ?_)
  obtain ⟨z1, zc1, w1, E1, rfl, rfl, hM⟩ := q1
  show WP _ _ _ _ _ 809 _ [.int z1] (HP zc1 w1 m v E1) _
  refine wp_aload_n 1 d_L_law_809 rfl rfl ?_
  refine wp_virtual0 (As := []) d_L_law_810 lk_L_100 mv_X10_fix in_X10_fix se_X10_fix (Nat.le_of_ble_eq_true rfl) (Nat.le_of_ble_eq_true rfl) (hp_80 _ _ _ _ _) rfl hM (fun v2 h2 q2 => ?_)
  obtain ⟨rfl, m2, v2, rfl, hR2⟩ := q2
  show WP _ _ _ _ _ 813 _ [.int z1, .int z1] (HP zc1 w1 m2 v2 E1) _
  refine wp_icmp_eq 1713 d_L_law_813 rfl (fun _ => ?_) (fun q => absurd rfl q)
  exact K zc1 w1 m2 v2 E1 hR2
theorem law_change {X : kX} (hX : X.1 ≤ 2560) {i : Nat} (hi5 : i + 5 ≤ X.1) {mc ms : Nat} {Q : Option Value → kH → Prop} (K : ∀ (c w m v : kZ) (E : kH), Rel c w m E → WP X 31 mc ms yLaw 1713 [(3, .int (nI (i))), (2, .ref (80)), (1, .ref (0)), (0, .float 0)] [] (HP c w m v E) Q) (c w m v : kZ) (E : kH) (hR : Rel c w m E) : WP X 31 (2 + mc) (234 + ms) yLaw 818 [(3, .int (nI (i))), (2, .ref (80)), (1, .ref (0)), (0, .float 0)] [] (HP c w m v E) Q := by
  refine wp_aload_n 2 d_L_law_818 rfl rfl ?_
  refine wp_virtual (As := []) (mc1 := 2) (ms1 := 234) d_L_law_819 lk_L_101 mv_X9_change in_X9_change se_X9_change (Nat.le_of_ble_eq_true rfl) (Nat.le_of_ble_eq_true rfl) (hp_0 _ _ _ _ _) rfl rfl ((kJn.up (j_change (X := X) (d := 30) (by omega) ) (by decide) (by decide)) c w m v E hR) (fun v1 h1 q1 => ?_)
  obtain ⟨z1, zc1, w1, E1, rfl, rfl, hM⟩ := q1
  show WP _ _ _ _ _ 822 _ [.int z1] (HP zc1 w1 m v E1) _
  refine wp_aload_n 1 d_L_law_822 rfl rfl ?_
  refine wp_virtual0 (As := []) d_L_law_823 lk_L_104 mv_X10_change in_X10_change se_X10_change (Nat.le_of_ble_eq_true rfl) (Nat.le_of_ble_eq_true rfl) (hp_80 _ _ _ _ _) rfl hM (fun v2 h2 q2 => ?_)
  obtain ⟨rfl, m2, v2, rfl, hR2⟩ := q2
  show WP _ _ _ _ _ 826 _ [.int z1, .int z1] (HP zc1 w1 m2 v2 E1) _
  refine wp_icmp_eq 1713 d_L_law_826 rfl (fun _ => ?_) (fun q => absurd rfl q)
  exact K zc1 w1 m2 v2 E1 hR2
theorem law_heatFor {X : kX} (hX : X.1 ≤ 2560) {i : Nat} (hi5 : i + 5 ≤ X.1) {mc ms : Nat} {Q : Option Value → kH → Prop} (K : ∀ (c w m v : kZ) (E : kH), Rel c w m E → WP X 31 mc ms yLaw 1713 [(3, .int (nI (i))), (2, .ref (80)), (1, .ref (0)), (0, .float 0)] [] (HP c w m v E) Q) (c w m v : kZ) (E : kH) (hR : Rel c w m E) : WP X 31 (2 + mc) (234 + ms) yLaw 831 [(3, .int (nI (i))), (2, .ref (80)), (1, .ref (0)), (0, .float 0)] [] (HP c w m v E) Q := by
  refine wp_aload_n 2 d_L_law_831 rfl rfl ?_
  refine wp_virtual (As := []) (mc1 := 2) (ms1 := 234) d_L_law_832 lk_L_105 mv_X9_heatFor in_X9_heatFor se_X9_heatFor (Nat.le_of_ble_eq_true rfl) (Nat.le_of_ble_eq_true rfl) (hp_0 _ _ _ _ _) rfl rfl ((kJn.up (j_heatFor (X := X) (d := 30) (by omega) ) (by decide) (by decide)) c w m v E hR) (fun v1 h1 q1 => ?_)
  obtain ⟨z1, zc1, w1, E1, rfl, rfl, hM⟩ := q1
  show WP _ _ _ _ _ 835 _ [.int z1] (HP zc1 w1 m v E1) _
  refine wp_aload_n 1 d_L_law_835 rfl rfl ?_
  refine wp_virtual0 (As := []) d_L_law_836 lk_L_108 mv_X10_heatFor in_X10_heatFor se_X10_heatFor (Nat.le_of_ble_eq_true rfl) (Nat.le_of_ble_eq_true rfl) (hp_80 _ _ _ _ _) rfl hM (fun v2 h2 q2 => ?_)
  obtain ⟨rfl, m2, v2, rfl, hR2⟩ := q2
  show WP _ _ _ _ _ 839 _ [.int z1, .int z1] (HP zc1 w1 m2 v2 E1) _
  refine wp_icmp_eq 1713 d_L_law_839 rfl (fun _ => ?_) (fun q => absurd rfl q)
  exact K zc1 w1 m2 v2 E1 hR2
theorem law_eyes {X : kX} (hX : X.1 ≤ 2560) {i : Nat} (hi5 : i + 5 ≤ X.1) {mc ms : Nat} {Q : Option Value → kH → Prop} (K : ∀ (c w m v : kZ) (E : kH), Rel c w m E → WP X 31 mc ms yLaw 1713 [(3, .int (nI (i))), (2, .ref (80)), (1, .ref (0)), (0, .float 0)] [] (HP c w m v E) Q) (c w m v : kZ) (E : kH) (hR : Rel c w m E) : WP X 31 (2 + mc) (234 + ms) yLaw 844 [(3, .int (nI (i))), (2, .ref (80)), (1, .ref (0)), (0, .float 0)] [] (HP c w m v E) Q := by
  refine wp_aload_n 2 d_L_law_844 rfl rfl ?_
  refine wp_virtual (As := []) (mc1 := 2) (ms1 := 234) d_L_law_845 lk_L_109 mv_X9_eyes in_X9_eyes se_X9_eyes (Nat.le_of_ble_eq_true rfl) (Nat.le_of_ble_eq_true rfl) (hp_0 _ _ _ _ _) rfl rfl ((kJn.up (j_eyes (X := X) (d := 30) (by omega) ) (by decide) (by decide)) c w m v E hR) (fun v1 h1 q1 => ?_)
  obtain ⟨z1, zc1, w1, E1, rfl, rfl, hM⟩ := q1
  show WP _ _ _ _ _ 848 _ [.int z1] (HP zc1 w1 m v E1) _
  refine wp_aload_n 1 d_L_law_848 rfl rfl ?_
  refine wp_virtual0 (As := []) d_L_law_849 lk_L_112 mv_X10_eyes in_X10_eyes se_X10_eyes (Nat.le_of_ble_eq_true rfl) (Nat.le_of_ble_eq_true rfl) (hp_80 _ _ _ _ _) rfl hM (fun v2 h2 q2 => ?_)
  obtain ⟨rfl, m2, v2, rfl, hR2⟩ := q2
  show WP _ _ _ _ _ 852 _ [.int z1, .int z1] (HP zc1 w1 m2 v2 E1) _
  refine wp_icmp_eq 1713 d_L_law_852 rfl (fun _ => ?_) (fun q => absurd rfl q)
  exact K zc1 w1 m2 v2 E1 hR2
theorem law_least {X : kX} (hX : X.1 ≤ 2560) {i : Nat} (hi5 : i + 5 ≤ X.1) {mc ms : Nat} {Q : Option Value → kH → Prop} (K : ∀ (c w m v : kZ) (E : kH), Rel c w m E → WP X 31 mc ms yLaw 1713 [(3, .int (nI (i))), (2, .ref (80)), (1, .ref (0)), (0, .float 0)] [] (HP c w m v E) Q) (c w m v : kZ) (E : kH) (hR : Rel c w m E) : WP X 31 (2 + mc) (234 + ms) yLaw 857 [(3, .int (nI (i))), (2, .ref (80)), (1, .ref (0)), (0, .float 0)] [] (HP c w m v E) Q := by
  refine wp_aload_n 2 d_L_law_857 rfl rfl ?_
  refine wp_aload_nF 3 d_L_law_858 rfl rfl ?_
  refine wp_iload_n 0 d_L_law_859 rfl rfl ?_
  refine wp_iconst (v0 := 1) d_L_law_860 rfl ?_
  refine wp_iadd d_L_law_861 ?_
  refine wp_v (v0 := nI ((i) + (1))) (nI_add (i) (1)) ?_
  refine wp_sload (v := X.2 ((i) + (1))) d_L_law_862 (vp_in_nI (by omega) (by omega)) (congrArg (X.2) (nI_clamp (by omega))) ?_
  refine wp_virtual (As := [.int (X.2 ((i) + (1)))]) (mc1 := 2) (ms1 := 234) d_L_law_863 lk_L_113 mv_X9_least in_X9_least se_X9_least (Nat.le_of_ble_eq_true rfl) (Nat.le_of_ble_eq_true rfl) (hp_0 _ _ _ _ _) rfl rfl ((kJn.up (j_least (X := X) (d := 30) (by omega) (X.2 ((i) + (1)))) (by decide) (by decide)) c w m v E hR) (fun v1 h1 q1 => ?_)
  obtain ⟨z1, zc1, w1, E1, rfl, rfl, hM⟩ := q1
  show WP _ _ _ _ _ 866 _ [.int z1] (HP zc1 w1 m v E1) _
  refine wp_aload_n 1 d_L_law_866 rfl rfl ?_
  refine wp_aload_nF 3 d_L_law_867 rfl rfl ?_
  refine wp_iload_n 0 d_L_law_868 rfl rfl ?_
  refine wp_iconst (v0 := 1) d_L_law_869 rfl ?_
  refine wp_iadd d_L_law_870 ?_
  refine wp_v (v0 := nI ((i) + (1))) (nI_add (i) (1)) ?_
  refine wp_sload (v := X.2 ((i) + (1))) d_L_law_871 (vp_in_nI (by omega) (by omega)) (congrArg (X.2) (nI_clamp (by omega))) ?_
  refine wp_virtual0 (As := [.int (X.2 ((i) + (1)))]) d_L_law_872 lk_L_116 mv_X10_least in_X10_least se_X10_least (Nat.le_of_ble_eq_true rfl) (Nat.le_of_ble_eq_true rfl) (hp_80 _ _ _ _ _) rfl hM (fun v2 h2 q2 => ?_)
  obtain ⟨rfl, m2, v2, rfl, hR2⟩ := q2
  show WP _ _ _ _ _ 875 _ [.int z1, .int z1] (HP zc1 w1 m2 v2 E1) _
  refine wp_icmp_eq 1713 d_L_law_875 rfl (fun _ => ?_) (fun q => absurd rfl q)
  exact K zc1 w1 m2 v2 E1 hR2
theorem law_pick {X : kX} (hX : X.1 ≤ 2560) {i : Nat} (hi5 : i + 5 ≤ X.1) {mc ms : Nat} {Q : Option Value → kH → Prop} (K : ∀ (c w m v : kZ) (E : kH), Rel c w m E → WP X 31 mc ms yLaw 1713 [(3, .int (nI (i))), (2, .ref (80)), (1, .ref (0)), (0, .float 0)] [] (HP c w m v E) Q) (c w m v : kZ) (E : kH) (hR : Rel c w m E) : WP X 31 (2 + mc) (234 + ms) yLaw 880 [(3, .int (nI (i))), (2, .ref (80)), (1, .ref (0)), (0, .float 0)] [] (HP c w m v E) Q := by
  refine wp_aload_n 2 d_L_law_880 rfl rfl ?_
  refine wp_aload_nF 3 d_L_law_881 rfl rfl ?_
  refine wp_iload_n 0 d_L_law_882 rfl rfl ?_
  refine wp_iconst (v0 := 1) d_L_law_883 rfl ?_
  refine wp_iadd d_L_law_884 ?_
  refine wp_v (v0 := nI ((i) + (1))) (nI_add (i) (1)) ?_
  refine wp_sload (v := X.2 ((i) + (1))) d_L_law_885 (vp_in_nI (by omega) (by omega)) (congrArg (X.2) (nI_clamp (by omega))) ?_
  refine wp_aload_nF 3 d_L_law_886 rfl rfl ?_
  refine wp_iload_n 0 d_L_law_887 rfl rfl ?_
  refine wp_iconst (v0 := 2) d_L_law_888 rfl ?_
  refine wp_iadd d_L_law_889 ?_
  refine wp_v (v0 := nI ((i) + (2))) (nI_add (i) (2)) ?_
  refine wp_sload (v := X.2 ((i) + (2))) d_L_law_890 (vp_in_nI (by omega) (by omega)) (congrArg (X.2) (nI_clamp (by omega))) ?_
  refine wp_virtual (As := [.int (X.2 ((i) + (1))), .int (X.2 ((i) + (2)))]) (mc1 := 2) (ms1 := 234) d_L_law_891 lk_L_117 mv_X9_pick in_X9_pick se_X9_pick (Nat.le_of_ble_eq_true rfl) (Nat.le_of_ble_eq_true rfl) (hp_0 _ _ _ _ _) rfl rfl ((kJn.up (j_pick (X := X) (d := 30) (by omega) (X.2 ((i) + (1))) (X.2 ((i) + (2)))) (by decide) (by decide)) c w m v E hR) (fun v1 h1 q1 => ?_)
  obtain ⟨z1, zc1, w1, E1, rfl, rfl, hM⟩ := q1
  show WP _ _ _ _ _ 894 _ [.int z1] (HP zc1 w1 m v E1) _
  refine wp_aload_n 1 d_L_law_894 rfl rfl ?_
  refine wp_aload_nF 3 d_L_law_895 rfl rfl ?_
  refine wp_iload_n 0 d_L_law_896 rfl rfl ?_
  refine wp_iconst (v0 := 1) d_L_law_897 rfl ?_
  refine wp_iadd d_L_law_898 ?_
  refine wp_v (v0 := nI ((i) + (1))) (nI_add (i) (1)) ?_
  refine wp_sload (v := X.2 ((i) + (1))) d_L_law_899 (vp_in_nI (by omega) (by omega)) (congrArg (X.2) (nI_clamp (by omega))) ?_
  refine wp_aload_nF 3 d_L_law_900 rfl rfl ?_
  refine wp_iload_n 0 d_L_law_901 rfl rfl ?_
  refine wp_iconst (v0 := 2) d_L_law_902 rfl ?_
  refine wp_iadd d_L_law_903 ?_
  refine wp_v (v0 := nI ((i) + (2))) (nI_add (i) (2)) ?_
  refine wp_sload (v := X.2 ((i) + (2))) d_L_law_904 (vp_in_nI (by omega) (by omega)) (congrArg (X.2) (nI_clamp (by omega))) ?_
  refine wp_virtual0 (As := [.int (X.2 ((i) + (1))), .int (X.2 ((i) + (2)))]) d_L_law_905 lk_L_120 mv_X10_pick in_X10_pick se_X10_pick (Nat.le_of_ble_eq_true rfl) (Nat.le_of_ble_eq_true rfl) (hp_80 _ _ _ _ _) rfl hM (fun v2 h2 q2 => ?_)
  obtain ⟨rfl, m2, v2, rfl, hR2⟩ := q2
  show WP _ _ _ _ _ 908 _ [.int z1, .int z1] (HP zc1 w1 m2 v2 E1) _
  refine wp_icmp_eq 1713 d_L_law_908 rfl (fun _ => ?_) (fun q => absurd rfl q)
  exact K zc1 w1 m2 v2 E1 hR2
theorem law_good {X : kX} (hX : X.1 ≤ 2560) {i : Nat} (hi5 : i + 5 ≤ X.1) {mc ms : Nat} {Q : Option Value → kH → Prop} (K : ∀ (c w m v : kZ) (E : kH), Rel c w m E → WP X 31 mc ms yLaw 1713 [(3, .int (nI (i))), (2, .ref (80)), (1, .ref (0)), (0, .float 0)] [] (HP c w m v E) Q) (c w m v : kZ) (E : kH) (hR : Rel c w m E) : WP X 31 (2 + mc) (234 + ms) yLaw 913 [(3, .int (nI (i))), (2, .ref (80)), (1, .ref (0)), (0, .float 0)] [] (HP c w m v E) Q := by
  refine wp_aload_n 2 d_L_law_913 rfl rfl ?_
  refine wp_aload_nF 3 d_L_law_914 rfl rfl ?_
  refine wp_iload_n 0 d_L_law_915 rfl rfl ?_
  refine wp_iconst (v0 := 1) d_L_law_916 rfl ?_
  refine wp_iadd d_L_law_917 ?_
  refine wp_v (v0 := nI ((i) + (1))) (nI_add (i) (1)) ?_
  refine wp_sload (v := X.2 ((i) + (1))) d_L_law_918 (vp_in_nI (by omega) (by omega)) (congrArg (X.2) (nI_clamp (by omega))) ?_
  refine wp_virtual (As := [.int (X.2 ((i) + (1)))]) (mc1 := 2) (ms1 := 234) d_L_law_919 lk_L_121 mv_X9_good in_X9_good se_X9_good (Nat.le_of_ble_eq_true rfl) (Nat.le_of_ble_eq_true rfl) (hp_0 _ _ _ _ _) rfl rfl ((kJn.up (j_good (X := X) (d := 30) (by omega) (X.2 ((i) + (1)))) (by decide) (by decide)) c w m v E hR) (fun v1 h1 q1 => ?_)
  obtain ⟨z1, zc1, w1, E1, rfl, rfl, hM⟩ := q1
  show WP _ _ _ _ _ 922 _ [.int z1] (HP zc1 w1 m v E1) _
  refine wp_aload_n 1 d_L_law_922 rfl rfl ?_
  refine wp_aload_nF 3 d_L_law_923 rfl rfl ?_
  refine wp_iload_n 0 d_L_law_924 rfl rfl ?_
  refine wp_iconst (v0 := 1) d_L_law_925 rfl ?_
  refine wp_iadd d_L_law_926 ?_
  refine wp_v (v0 := nI ((i) + (1))) (nI_add (i) (1)) ?_
  refine wp_sload (v := X.2 ((i) + (1))) d_L_law_927 (vp_in_nI (by omega) (by omega)) (congrArg (X.2) (nI_clamp (by omega))) ?_
  refine wp_virtual0 (As := [.int (X.2 ((i) + (1)))]) d_L_law_928 lk_L_124 mv_X10_good in_X10_good se_X10_good (Nat.le_of_ble_eq_true rfl) (Nat.le_of_ble_eq_true rfl) (hp_80 _ _ _ _ _) rfl hM (fun v2 h2 q2 => ?_)
  obtain ⟨rfl, m2, v2, rfl, hR2⟩ := q2
  show WP _ _ _ _ _ 931 _ [.int z1, .int z1] (HP zc1 w1 m2 v2 E1) _
  refine wp_icmp_eq 1713 d_L_law_931 rfl (fun _ => ?_) (fun q => absurd rfl q)
  exact K zc1 w1 m2 v2 E1 hR2
theorem law_pairs {X : kX} (hX : X.1 ≤ 2560) {i : Nat} (hi5 : i + 5 ≤ X.1) {mc ms : Nat} {Q : Option Value → kH → Prop} (K : ∀ (c w m v : kZ) (E : kH), Rel c w m E → WP X 31 mc ms yLaw 1713 [(3, .int (nI (i))), (2, .ref (80)), (1, .ref (0)), (0, .float 0)] [] (HP c w m v E) Q) (c w m v : kZ) (E : kH) (hR : Rel c w m E) : WP X 31 (2 + mc) (234 + ms) yLaw 936 [(3, .int (nI (i))), (2, .ref (80)), (1, .ref (0)), (0, .float 0)] [] (HP c w m v E) Q := by
  refine wp_aload_n 2 d_L_law_936 rfl rfl ?_
  refine wp_virtual (As := []) (mc1 := 2) (ms1 := 234) d_L_law_937 lk_L_125 mv_X9_pairs in_X9_pairs se_X9_pairs (Nat.le_of_ble_eq_true rfl) (Nat.le_of_ble_eq_true rfl) (hp_0 _ _ _ _ _) rfl rfl ((kJn.up (j_pairs (X := X) (d := 30) (by omega) ) (by decide) (by decide)) c w m v E hR) (fun v1 h1 q1 => ?_)
  obtain ⟨z1, zc1, w1, E1, rfl, rfl, hM⟩ := q1
  show WP _ _ _ _ _ 940 _ [.int z1] (HP zc1 w1 m v E1) _
  refine wp_aload_n 1 d_L_law_940 rfl rfl ?_
  refine wp_virtual0 (As := []) d_L_law_941 lk_L_128 mv_X10_pairs in_X10_pairs se_X10_pairs (Nat.le_of_ble_eq_true rfl) (Nat.le_of_ble_eq_true rfl) (hp_80 _ _ _ _ _) rfl hM (fun v2 h2 q2 => ?_)
  obtain ⟨rfl, m2, v2, rfl, hR2⟩ := q2
  show WP _ _ _ _ _ 944 _ [.int z1, .int z1] (HP zc1 w1 m2 v2 E1) _
  refine wp_icmp_eq 1713 d_L_law_944 rfl (fun _ => ?_) (fun q => absurd rfl q)
  exact K zc1 w1 m2 v2 E1 hR2
theorem law_mate {X : kX} (hX : X.1 ≤ 2560) {i : Nat} (hi5 : i + 5 ≤ X.1) {mc ms : Nat} {Q : Option Value → kH → Prop} (K : ∀ (c w m v : kZ) (E : kH), Rel c w m E → WP X 31 mc ms yLaw 1713 [(3, .int (nI (i))), (2, .ref (80)), (1, .ref (0)), (0, .float 0)] [] (HP c w m v E) Q) (c w m v : kZ) (E : kH) (hR : Rel c w m E) : WP X 31 (2 + mc) (234 + ms) yLaw 949 [(3, .int (nI (i))), (2, .ref (80)), (1, .ref (0)), (0, .float 0)] [] (HP c w m v E) Q := by
  refine wp_aload_n 2 d_L_law_949 rfl rfl ?_
  refine wp_aload_nF 3 d_L_law_950 rfl rfl ?_
  refine wp_iload_n 0 d_L_law_951 rfl rfl ?_
  refine wp_iconst (v0 := 1) d_L_law_952 rfl ?_
  refine wp_iadd d_L_law_953 ?_
  refine wp_v (v0 := nI ((i) + (1))) (nI_add (i) (1)) ?_
  refine wp_sload (v := X.2 ((i) + (1))) d_L_law_954 (vp_in_nI (by omega) (by omega)) (congrArg (X.2) (nI_clamp (by omega))) ?_
  refine wp_virtual (As := [.int (X.2 ((i) + (1)))]) (mc1 := 2) (ms1 := 234) d_L_law_955 lk_L_129 mv_X9_mate in_X9_mate se_X9_mate (Nat.le_of_ble_eq_true rfl) (Nat.le_of_ble_eq_true rfl) (hp_0 _ _ _ _ _) rfl rfl ((kJn.up (j_mate (X := X) (d := 30) (by omega) (X.2 ((i) + (1)))) (by decide) (by decide)) c w m v E hR) (fun v1 h1 q1 => ?_)
  obtain ⟨z1, zc1, w1, E1, rfl, rfl, hM⟩ := q1
  show WP _ _ _ _ _ 958 _ [.int z1] (HP zc1 w1 m v E1) _
  refine wp_aload_n 1 d_L_law_958 rfl rfl ?_
  refine wp_aload_nF 3 d_L_law_959 rfl rfl ?_
  refine wp_iload_n 0 d_L_law_960 rfl rfl ?_
  refine wp_iconst (v0 := 1) d_L_law_961 rfl ?_
  refine wp_iadd d_L_law_962 ?_
  refine wp_v (v0 := nI ((i) + (1))) (nI_add (i) (1)) ?_
  refine wp_sload (v := X.2 ((i) + (1))) d_L_law_963 (vp_in_nI (by omega) (by omega)) (congrArg (X.2) (nI_clamp (by omega))) ?_
  refine wp_virtual0 (As := [.int (X.2 ((i) + (1)))]) d_L_law_964 lk_L_132 mv_X10_mate in_X10_mate se_X10_mate (Nat.le_of_ble_eq_true rfl) (Nat.le_of_ble_eq_true rfl) (hp_80 _ _ _ _ _) rfl hM (fun v2 h2 q2 => ?_)
  obtain ⟨rfl, m2, v2, rfl, hR2⟩ := q2
  show WP _ _ _ _ _ 967 _ [.int z1, .int z1] (HP zc1 w1 m2 v2 E1) _
  refine wp_icmp_eq 1713 d_L_law_967 rfl (fun _ => ?_) (fun q => absurd rfl q)
  exact K zc1 w1 m2 v2 E1 hR2
theorem law_years {X : kX} (hX : X.1 ≤ 2560) {i : Nat} (hi5 : i + 5 ≤ X.1) {mc ms : Nat} {Q : Option Value → kH → Prop} (K : ∀ (c w m v : kZ) (E : kH), Rel c w m E → WP X 31 mc ms yLaw 1713 [(3, .int (nI (i))), (2, .ref (80)), (1, .ref (0)), (0, .float 0)] [] (HP c w m v E) Q) (c w m v : kZ) (E : kH) (hR : Rel c w m E) : WP X 31 (2 + mc) (234 + ms) yLaw 972 [(3, .int (nI (i))), (2, .ref (80)), (1, .ref (0)), (0, .float 0)] [] (HP c w m v E) Q := by
  refine wp_aload_n 2 d_L_law_972 rfl rfl ?_
  refine wp_virtual (As := []) (mc1 := 2) (ms1 := 234) d_L_law_973 lk_L_133 mv_X9_years in_X9_years se_X9_years (Nat.le_of_ble_eq_true rfl) (Nat.le_of_ble_eq_true rfl) (hp_0 _ _ _ _ _) rfl rfl ((kJn.up (j_years (X := X) (d := 30) (by omega) ) (by decide) (by decide)) c w m v E hR) (fun v1 h1 q1 => ?_)
  obtain ⟨z1, zc1, w1, E1, rfl, rfl, hM⟩ := q1
  show WP _ _ _ _ _ 976 _ [.int z1] (HP zc1 w1 m v E1) _
  refine wp_aload_n 1 d_L_law_976 rfl rfl ?_
  refine wp_virtual0 (As := []) d_L_law_977 lk_L_136 mv_X10_years in_X10_years se_X10_years (Nat.le_of_ble_eq_true rfl) (Nat.le_of_ble_eq_true rfl) (hp_80 _ _ _ _ _) rfl hM (fun v2 h2 q2 => ?_)
  obtain ⟨rfl, m2, v2, rfl, hR2⟩ := q2
  show WP _ _ _ _ _ 980 _ [.int z1, .int z1] (HP zc1 w1 m2 v2 E1) _
  refine wp_icmp_eq 1713 d_L_law_980 rfl (fun _ => ?_) (fun q => absurd rfl q)
  exact K zc1 w1 m2 v2 E1 hR2
theorem law_turned {X : kX} (hX : X.1 ≤ 2560) {i : Nat} (hi5 : i + 5 ≤ X.1) {mc ms : Nat} {Q : Option Value → kH → Prop} (K : ∀ (c w m v : kZ) (E : kH), Rel c w m E → WP X 31 mc ms yLaw 1713 [(3, .int (nI (i))), (2, .ref (80)), (1, .ref (0)), (0, .float 0)] [] (HP c w m v E) Q) (c w m v : kZ) (E : kH) (hR : Rel c w m E) : WP X 31 (2 + mc) (234 + ms) yLaw 985 [(3, .int (nI (i))), (2, .ref (80)), (1, .ref (0)), (0, .float 0)] [] (HP c w m v E) Q := by
  refine wp_aload_n 2 d_L_law_985 rfl rfl ?_
  refine wp_aload_nF 3 d_L_law_986 rfl rfl ?_
  refine wp_iload_n 0 d_L_law_987 rfl rfl ?_
  refine wp_iconst (v0 := 1) d_L_law_988 rfl ?_
  refine wp_iadd d_L_law_989 ?_
  refine wp_v (v0 := nI ((i) + (1))) (nI_add (i) (1)) ?_
  refine wp_sload (v := X.2 ((i) + (1))) d_L_law_990 (vp_in_nI (by omega) (by omega)) (congrArg (X.2) (nI_clamp (by omega))) ?_
  refine wp_virtual (As := [.int (X.2 ((i) + (1)))]) (mc1 := 2) (ms1 := 234) d_L_law_991 lk_L_137 mv_X9_turned in_X9_turned se_X9_turned (Nat.le_of_ble_eq_true rfl) (Nat.le_of_ble_eq_true rfl) (hp_0 _ _ _ _ _) rfl rfl ((kJn.up (j_turned (X := X) (d := 30) (by omega) (X.2 ((i) + (1)))) (by decide) (by decide)) c w m v E hR) (fun v1 h1 q1 => ?_)
  obtain ⟨z1, zc1, w1, E1, rfl, rfl, hM⟩ := q1
  show WP _ _ _ _ _ 994 _ [.int z1] (HP zc1 w1 m v E1) _
  refine wp_aload_n 1 d_L_law_994 rfl rfl ?_
  refine wp_aload_nF 3 d_L_law_995 rfl rfl ?_
  refine wp_iload_n 0 d_L_law_996 rfl rfl ?_
  refine wp_iconst (v0 := 1) d_L_law_997 rfl ?_
  refine wp_iadd d_L_law_998 ?_
  refine wp_v (v0 := nI ((i) + (1))) (nI_add (i) (1)) ?_
  refine wp_sload (v := X.2 ((i) + (1))) d_L_law_999 (vp_in_nI (by omega) (by omega)) (congrArg (X.2) (nI_clamp (by omega))) ?_
  refine wp_virtual0 (As := [.int (X.2 ((i) + (1)))]) d_L_law_1000 lk_L_140 mv_X10_turned in_X10_turned se_X10_turned (Nat.le_of_ble_eq_true rfl) (Nat.le_of_ble_eq_true rfl) (hp_80 _ _ _ _ _) rfl hM (fun v2 h2 q2 => ?_)
  obtain ⟨rfl, m2, v2, rfl, hR2⟩ := q2
  show WP _ _ _ _ _ 1003 _ [.int z1, .int z1] (HP zc1 w1 m2 v2 E1) _
  refine wp_icmp_eq 1713 d_L_law_1003 rfl (fun _ => ?_) (fun q => absurd rfl q)
  exact K zc1 w1 m2 v2 E1 hR2
theorem law_game {X : kX} (hX : X.1 ≤ 2560) {i : Nat} (hi5 : i + 5 ≤ X.1) {mc ms : Nat} {Q : Option Value → kH → Prop} (K : ∀ (c w m v : kZ) (E : kH), Rel c w m E → WP X 31 mc ms yLaw 1713 [(3, .int (nI (i))), (2, .ref (80)), (1, .ref (0)), (0, .float 0)] [] (HP c w m v E) Q) (c w m v : kZ) (E : kH) (hR : Rel c w m E) : WP X 31 (2 + mc) (234 + ms) yLaw 1008 [(3, .int (nI (i))), (2, .ref (80)), (1, .ref (0)), (0, .float 0)] [] (HP c w m v E) Q := by
  refine wp_aload_n 2 d_L_law_1008 rfl rfl ?_
  refine wp_aload_nF 3 d_L_law_1009 rfl rfl ?_
  refine wp_iload_n 0 d_L_law_1010 rfl rfl ?_
  refine wp_iconst (v0 := 1) d_L_law_1011 rfl ?_
  refine wp_iadd d_L_law_1012 ?_
  refine wp_v (v0 := nI ((i) + (1))) (nI_add (i) (1)) ?_
  refine wp_sload (v := X.2 ((i) + (1))) d_L_law_1013 (vp_in_nI (by omega) (by omega)) (congrArg (X.2) (nI_clamp (by omega))) ?_
  refine wp_virtual (As := [.int (X.2 ((i) + (1)))]) (mc1 := 2) (ms1 := 234) d_L_law_1014 lk_L_141 mv_X9_game in_X9_game se_X9_game (Nat.le_of_ble_eq_true rfl) (Nat.le_of_ble_eq_true rfl) (hp_0 _ _ _ _ _) rfl rfl ((kJn.up (j_game (X := X) (d := 30) (by omega) (X.2 ((i) + (1)))) (by decide) (by decide)) c w m v E hR) (fun v1 h1 q1 => ?_)
  obtain ⟨z1, zc1, w1, E1, rfl, rfl, hM⟩ := q1
  show WP _ _ _ _ _ 1017 _ [.int z1] (HP zc1 w1 m v E1) _
  refine wp_aload_n 1 d_L_law_1017 rfl rfl ?_
  refine wp_aload_nF 3 d_L_law_1018 rfl rfl ?_
  refine wp_iload_n 0 d_L_law_1019 rfl rfl ?_
  refine wp_iconst (v0 := 1) d_L_law_1020 rfl ?_
  refine wp_iadd d_L_law_1021 ?_
  refine wp_v (v0 := nI ((i) + (1))) (nI_add (i) (1)) ?_
  refine wp_sload (v := X.2 ((i) + (1))) d_L_law_1022 (vp_in_nI (by omega) (by omega)) (congrArg (X.2) (nI_clamp (by omega))) ?_
  refine wp_virtual0 (As := [.int (X.2 ((i) + (1)))]) d_L_law_1023 lk_L_144 mv_X10_game in_X10_game se_X10_game (Nat.le_of_ble_eq_true rfl) (Nat.le_of_ble_eq_true rfl) (hp_80 _ _ _ _ _) rfl hM (fun v2 h2 q2 => ?_)
  obtain ⟨rfl, m2, v2, rfl, hR2⟩ := q2
  show WP _ _ _ _ _ 1026 _ [.int z1, .int z1] (HP zc1 w1 m2 v2 E1) _
  refine wp_icmp_eq 1713 d_L_law_1026 rfl (fun _ => ?_) (fun q => absurd rfl q)
  exact K zc1 w1 m2 v2 E1 hR2
theorem law_play {X : kX} (hX : X.1 ≤ 2560) {i : Nat} (hi5 : i + 5 ≤ X.1) {mc ms : Nat} {Q : Option Value → kH → Prop} (K : ∀ (c w m v : kZ) (E : kH), Rel c w m E → WP X 31 mc ms yLaw 1713 [(3, .int (nI (i))), (2, .ref (80)), (1, .ref (0)), (0, .float 0)] [] (HP c w m v E) Q) (c w m v : kZ) (E : kH) (hR : Rel c w m E) : WP X 31 (2 + mc) (234 + ms) yLaw 1031 [(3, .int (nI (i))), (2, .ref (80)), (1, .ref (0)), (0, .float 0)] [] (HP c w m v E) Q := by
  refine wp_aload_n 2 d_L_law_1031 rfl rfl ?_
  refine wp_aload_nF 3 d_L_law_1032 rfl rfl ?_
  refine wp_iload_n 0 d_L_law_1033 rfl rfl ?_
  refine wp_iconst (v0 := 1) d_L_law_1034 rfl ?_
  refine wp_iadd d_L_law_1035 ?_
  refine wp_v (v0 := nI ((i) + (1))) (nI_add (i) (1)) ?_
  refine wp_sload (v := X.2 ((i) + (1))) d_L_law_1036 (vp_in_nI (by omega) (by omega)) (congrArg (X.2) (nI_clamp (by omega))) ?_
  refine wp_virtual (As := [.int (X.2 ((i) + (1)))]) (mc1 := 2) (ms1 := 234) d_L_law_1037 lk_L_145 mv_X9_play in_X9_play se_X9_play (Nat.le_of_ble_eq_true rfl) (Nat.le_of_ble_eq_true rfl) (hp_0 _ _ _ _ _) rfl rfl ((kJn.up (j_play (X := X) (d := 30) (by omega) (X.2 ((i) + (1)))) (by decide) (by decide)) c w m v E hR) (fun v1 h1 q1 => ?_)
  obtain ⟨z1, zc1, w1, E1, rfl, rfl, hM⟩ := q1
  show WP _ _ _ _ _ 1040 _ [.int z1] (HP zc1 w1 m v E1) _
  refine wp_aload_n 1 d_L_law_1040 rfl rfl ?_
  refine wp_aload_nF 3 d_L_law_1041 rfl rfl ?_
  refine wp_iload_n 0 d_L_law_1042 rfl rfl ?_
  refine wp_iconst (v0 := 1) d_L_law_1043 rfl ?_
  refine wp_iadd d_L_law_1044 ?_
  refine wp_v (v0 := nI ((i) + (1))) (nI_add (i) (1)) ?_
  refine wp_sload (v := X.2 ((i) + (1))) d_L_law_1045 (vp_in_nI (by omega) (by omega)) (congrArg (X.2) (nI_clamp (by omega))) ?_
  refine wp_virtual0 (As := [.int (X.2 ((i) + (1)))]) d_L_law_1046 lk_L_148 mv_X10_play in_X10_play se_X10_play (Nat.le_of_ble_eq_true rfl) (Nat.le_of_ble_eq_true rfl) (hp_80 _ _ _ _ _) rfl hM (fun v2 h2 q2 => ?_)
  obtain ⟨rfl, m2, v2, rfl, hR2⟩ := q2
  show WP _ _ _ _ _ 1049 _ [.int z1, .int z1] (HP zc1 w1 m2 v2 E1) _
  refine wp_icmp_eq 1713 d_L_law_1049 rfl (fun _ => ?_) (fun q => absurd rfl q)
  exact K zc1 w1 m2 v2 E1 hR2
theorem law_report {X : kX} (hX : X.1 ≤ 2560) {i : Nat} (hi5 : i + 5 ≤ X.1) {mc ms : Nat} {Q : Option Value → kH → Prop} (K : ∀ (c w m v : kZ) (E : kH), Rel c w m E → WP X 31 mc ms yLaw 1713 [(3, .int (nI (i))), (2, .ref (80)), (1, .ref (0)), (0, .float 0)] [] (HP c w m v E) Q) (c w m v : kZ) (E : kH) (hR : Rel c w m E) : WP X 31 (2 + mc) (234 + ms) yLaw 1054 [(3, .int (nI (i))), (2, .ref (80)), (1, .ref (0)), (0, .float 0)] [] (HP c w m v E) Q := by
  refine wp_aload_n 2 d_L_law_1054 rfl rfl ?_
  refine wp_aload_nF 3 d_L_law_1055 rfl rfl ?_
  refine wp_iload_n 0 d_L_law_1056 rfl rfl ?_
  refine wp_iconst (v0 := 1) d_L_law_1057 rfl ?_
  refine wp_iadd d_L_law_1058 ?_
  refine wp_v (v0 := nI ((i) + (1))) (nI_add (i) (1)) ?_
  refine wp_sload (v := X.2 ((i) + (1))) d_L_law_1059 (vp_in_nI (by omega) (by omega)) (congrArg (X.2) (nI_clamp (by omega))) ?_
  refine wp_aload_nF 3 d_L_law_1060 rfl rfl ?_
  refine wp_iload_n 0 d_L_law_1061 rfl rfl ?_
  refine wp_iconst (v0 := 2) d_L_law_1062 rfl ?_
  refine wp_iadd d_L_law_1063 ?_
  refine wp_v (v0 := nI ((i) + (2))) (nI_add (i) (2)) ?_
  refine wp_sload (v := X.2 ((i) + (2))) d_L_law_1064 (vp_in_nI (by omega) (by omega)) (congrArg (X.2) (nI_clamp (by omega))) ?_
  refine wp_virtual (As := [.int (X.2 ((i) + (1))), .int (X.2 ((i) + (2)))]) (mc1 := 2) (ms1 := 234) d_L_law_1065 lk_L_149 mv_X9_report in_X9_report se_X9_report (Nat.le_of_ble_eq_true rfl) (Nat.le_of_ble_eq_true rfl) (hp_0 _ _ _ _ _) rfl rfl ((kJn.up (j_report (X := X) (d := 30) (by omega) (X.2 ((i) + (1))) (X.2 ((i) + (2)))) (by decide) (by decide)) c w m v E hR) (fun v1 h1 q1 => ?_)
  obtain ⟨z1, zc1, w1, E1, rfl, rfl, hM⟩ := q1
  show WP _ _ _ _ _ 1068 _ [.int z1] (HP zc1 w1 m v E1) _
  refine wp_aload_n 1 d_L_law_1068 rfl rfl ?_
  refine wp_aload_nF 3 d_L_law_1069 rfl rfl ?_
  refine wp_iload_n 0 d_L_law_1070 rfl rfl ?_
  refine wp_iconst (v0 := 1) d_L_law_1071 rfl ?_
  refine wp_iadd d_L_law_1072 ?_
  refine wp_v (v0 := nI ((i) + (1))) (nI_add (i) (1)) ?_
  refine wp_sload (v := X.2 ((i) + (1))) d_L_law_1073 (vp_in_nI (by omega) (by omega)) (congrArg (X.2) (nI_clamp (by omega))) ?_
  refine wp_aload_nF 3 d_L_law_1074 rfl rfl ?_
  refine wp_iload_n 0 d_L_law_1075 rfl rfl ?_
  refine wp_iconst (v0 := 2) d_L_law_1076 rfl ?_
  refine wp_iadd d_L_law_1077 ?_
  refine wp_v (v0 := nI ((i) + (2))) (nI_add (i) (2)) ?_
  refine wp_sload (v := X.2 ((i) + (2))) d_L_law_1078 (vp_in_nI (by omega) (by omega)) (congrArg (X.2) (nI_clamp (by omega))) ?_
  refine wp_virtual0 (As := [.int (X.2 ((i) + (1))), .int (X.2 ((i) + (2)))]) d_L_law_1079 lk_L_152 mv_X10_report in_X10_report se_X10_report (Nat.le_of_ble_eq_true rfl) (Nat.le_of_ble_eq_true rfl) (hp_80 _ _ _ _ _) rfl hM (fun v2 h2 q2 => ?_)
  obtain ⟨rfl, m2, v2, rfl, hR2⟩ := q2
  show WP _ _ _ _ _ 1082 _ [.int z1, .int z1] (HP zc1 w1 m2 v2 E1) _
  refine wp_icmp_eq 1713 d_L_law_1082 rfl (fun _ => ?_) (fun q => absurd rfl q)
  exact K zc1 w1 m2 v2 E1 hR2
theorem law_forget {X : kX} (hX : X.1 ≤ 2560) {i : Nat} (hi5 : i + 5 ≤ X.1) {mc ms : Nat} {Q : Option Value → kH → Prop} (K : ∀ (c w m v : kZ) (E : kH), Rel c w m E → WP X 31 mc ms yLaw 1713 [(3, .int (nI (i))), (2, .ref (80)), (1, .ref (0)), (0, .float 0)] [] (HP c w m v E) Q) (c w m v : kZ) (E : kH) (hR : Rel c w m E) : WP X 31 (2 + mc) (234 + ms) yLaw 1087 [(3, .int (nI (i))), (2, .ref (80)), (1, .ref (0)), (0, .float 0)] [] (HP c w m v E) Q := by
  refine wp_aload_n 2 d_L_law_1087 rfl rfl ?_
  refine wp_virtual (As := []) (mc1 := 2) (ms1 := 234) d_L_law_1088 lk_L_153 mv_X9_forget in_X9_forget se_X9_forget (Nat.le_of_ble_eq_true rfl) (Nat.le_of_ble_eq_true rfl) (hp_0 _ _ _ _ _) rfl rfl ((kJn.up (j_forget (X := X) (d := 30)  ) (by decide) (by decide)) c w m v E hR) (fun v1 h1 q1 => ?_)
  obtain ⟨z1, zc1, w1, E1, rfl, rfl, hM⟩ := q1
  show WP _ _ _ _ _ 1091 _ [.int z1] (HP zc1 w1 m v E1) _
  refine wp_aload_n 1 d_L_law_1091 rfl rfl ?_
  refine wp_virtual0 (As := []) d_L_law_1092 lk_L_156 mv_X10_forget in_X10_forget se_X10_forget (Nat.le_of_ble_eq_true rfl) (Nat.le_of_ble_eq_true rfl) (hp_80 _ _ _ _ _) rfl hM (fun v2 h2 q2 => ?_)
  obtain ⟨rfl, m2, v2, rfl, hR2⟩ := q2
  show WP _ _ _ _ _ 1095 _ [.int z1, .int z1] (HP zc1 w1 m2 v2 E1) _
  refine wp_icmp_eq 1713 d_L_law_1095 rfl (fun _ => ?_) (fun q => absurd rfl q)
  exact K zc1 w1 m2 v2 E1 hR2
theorem law_span {X : kX} (hX : X.1 ≤ 2560) {i : Nat} (hi5 : i + 5 ≤ X.1) {mc ms : Nat} {Q : Option Value → kH → Prop} (K : ∀ (c w m v : kZ) (E : kH), Rel c w m E → WP X 31 mc ms yLaw 1713 [(3, .int (nI (i))), (2, .ref (80)), (1, .ref (0)), (0, .float 0)] [] (HP c w m v E) Q) (c w m v : kZ) (E : kH) (hR : Rel c w m E) : WP X 31 (2 + mc) (234 + ms) yLaw 1100 [(3, .int (nI (i))), (2, .ref (80)), (1, .ref (0)), (0, .float 0)] [] (HP c w m v E) Q := by
  refine wp_aload_n 2 d_L_law_1100 rfl rfl ?_
  refine wp_aload_nF 3 d_L_law_1101 rfl rfl ?_
  refine wp_iload_n 0 d_L_law_1102 rfl rfl ?_
  refine wp_iconst (v0 := 1) d_L_law_1103 rfl ?_
  refine wp_iadd d_L_law_1104 ?_
  refine wp_v (v0 := nI ((i) + (1))) (nI_add (i) (1)) ?_
  refine wp_sload (v := X.2 ((i) + (1))) d_L_law_1105 (vp_in_nI (by omega) (by omega)) (congrArg (X.2) (nI_clamp (by omega))) ?_
  refine wp_virtual (As := [.int (X.2 ((i) + (1)))]) (mc1 := 2) (ms1 := 234) d_L_law_1106 lk_L_157 mv_X9_span in_X9_span se_X9_span (Nat.le_of_ble_eq_true rfl) (Nat.le_of_ble_eq_true rfl) (hp_0 _ _ _ _ _) rfl rfl ((kJn.up (j_span (X := X) (d := 30) (by omega) (X.2 ((i) + (1)))) (by decide) (by decide)) c w m v E hR) (fun v1 h1 q1 => ?_)
  obtain ⟨z1, zc1, w1, E1, rfl, rfl, hM⟩ := q1
  show WP _ _ _ _ _ 1109 _ [.int z1] (HP zc1 w1 m v E1) _
  refine wp_aload_n 1 d_L_law_1109 rfl rfl ?_
  refine wp_aload_nF 3 d_L_law_1110 rfl rfl ?_
  refine wp_iload_n 0 d_L_law_1111 rfl rfl ?_
  refine wp_iconst (v0 := 1) d_L_law_1112 rfl ?_
  refine wp_iadd d_L_law_1113 ?_
  refine wp_v (v0 := nI ((i) + (1))) (nI_add (i) (1)) ?_
  refine wp_sload (v := X.2 ((i) + (1))) d_L_law_1114 (vp_in_nI (by omega) (by omega)) (congrArg (X.2) (nI_clamp (by omega))) ?_
  refine wp_virtual0 (As := [.int (X.2 ((i) + (1)))]) d_L_law_1115 lk_L_160 mv_X10_span in_X10_span se_X10_span (Nat.le_of_ble_eq_true rfl) (Nat.le_of_ble_eq_true rfl) (hp_80 _ _ _ _ _) rfl hM (fun v2 h2 q2 => ?_)
  obtain ⟨rfl, m2, v2, rfl, hR2⟩ := q2
  show WP _ _ _ _ _ 1118 _ [.int z1, .int z1] (HP zc1 w1 m2 v2 E1) _
  refine wp_icmp_eq 1713 d_L_law_1118 rfl (fun _ => ?_) (fun q => absurd rfl q)
  exact K zc1 w1 m2 v2 E1 hR2
theorem law_liar {X : kX} (hX : X.1 ≤ 2560) {i : Nat} (hi5 : i + 5 ≤ X.1) {mc ms : Nat} {Q : Option Value → kH → Prop} (K : ∀ (c w m v : kZ) (E : kH), Rel c w m E → WP X 31 mc ms yLaw 1713 [(3, .int (nI (i))), (2, .ref (80)), (1, .ref (0)), (0, .float 0)] [] (HP c w m v E) Q) (c w m v : kZ) (E : kH) (hR : Rel c w m E) : WP X 31 (2 + mc) (234 + ms) yLaw 1123 [(3, .int (nI (i))), (2, .ref (80)), (1, .ref (0)), (0, .float 0)] [] (HP c w m v E) Q := by
  refine wp_aload_n 2 d_L_law_1123 rfl rfl ?_
  refine wp_virtual (As := []) (mc1 := 2) (ms1 := 234) d_L_law_1124 lk_L_161 mv_X9_liar in_X9_liar se_X9_liar (Nat.le_of_ble_eq_true rfl) (Nat.le_of_ble_eq_true rfl) (hp_0 _ _ _ _ _) rfl rfl ((kJn.up (j_liar (X := X) (d := 30) (by omega) ) (by decide) (by decide)) c w m v E hR) (fun v1 h1 q1 => ?_)
  obtain ⟨z1, zc1, w1, E1, rfl, rfl, hM⟩ := q1
  show WP _ _ _ _ _ 1127 _ [.int z1] (HP zc1 w1 m v E1) _
  refine wp_aload_n 1 d_L_law_1127 rfl rfl ?_
  refine wp_virtual0 (As := []) d_L_law_1128 lk_L_164 mv_X10_liar in_X10_liar se_X10_liar (Nat.le_of_ble_eq_true rfl) (Nat.le_of_ble_eq_true rfl) (hp_80 _ _ _ _ _) rfl hM (fun v2 h2 q2 => ?_)
  obtain ⟨rfl, m2, v2, rfl, hR2⟩ := q2
  show WP _ _ _ _ _ 1131 _ [.int z1, .int z1] (HP zc1 w1 m2 v2 E1) _
  refine wp_icmp_eq 1713 d_L_law_1131 rfl (fun _ => ?_) (fun q => absurd rfl q)
  exact K zc1 w1 m2 v2 E1 hR2
theorem law_seed {X : kX} (hX : X.1 ≤ 2560) {i : Nat} (hi5 : i + 5 ≤ X.1) {mc ms : Nat} {Q : Option Value → kH → Prop} (K : ∀ (c w m v : kZ) (E : kH), Rel c w m E → WP X 31 mc ms yLaw 1713 [(3, .int (nI (i))), (2, .ref (80)), (1, .ref (0)), (0, .float 0)] [] (HP c w m v E) Q) (c w m v : kZ) (E : kH) (hR : Rel c w m E) : WP X 31 (2 + mc) (234 + ms) yLaw 1136 [(3, .int (nI (i))), (2, .ref (80)), (1, .ref (0)), (0, .float 0)] [] (HP c w m v E) Q := by
  refine wp_aload_n 2 d_L_law_1136 rfl rfl ?_
  refine wp_aload_nF 3 d_L_law_1137 rfl rfl ?_
  refine wp_iload_n 0 d_L_law_1138 rfl rfl ?_
  refine wp_iconst (v0 := 1) d_L_law_1139 rfl ?_
  refine wp_iadd d_L_law_1140 ?_
  refine wp_v (v0 := nI ((i) + (1))) (nI_add (i) (1)) ?_
  refine wp_sload (v := X.2 ((i) + (1))) d_L_law_1141 (vp_in_nI (by omega) (by omega)) (congrArg (X.2) (nI_clamp (by omega))) ?_
  refine wp_virtual (As := [.int (X.2 ((i) + (1)))]) (mc1 := 2) (ms1 := 234) d_L_law_1142 lk_L_165 mv_X9_seed in_X9_seed se_X9_seed (Nat.le_of_ble_eq_true rfl) (Nat.le_of_ble_eq_true rfl) (hp_0 _ _ _ _ _) rfl rfl ((kJn.up (j_seed (X := X) (d := 30)  (X.2 ((i) + (1)))) (by decide) (by decide)) c w m v E hR) (fun v1 h1 q1 => ?_)
  obtain ⟨z1, zc1, w1, E1, rfl, rfl, hM⟩ := q1
  show WP _ _ _ _ _ 1145 _ [.int z1] (HP zc1 w1 m v E1) _
  refine wp_aload_n 1 d_L_law_1145 rfl rfl ?_
  refine wp_aload_nF 3 d_L_law_1146 rfl rfl ?_
  refine wp_iload_n 0 d_L_law_1147 rfl rfl ?_
  refine wp_iconst (v0 := 1) d_L_law_1148 rfl ?_
  refine wp_iadd d_L_law_1149 ?_
  refine wp_v (v0 := nI ((i) + (1))) (nI_add (i) (1)) ?_
  refine wp_sload (v := X.2 ((i) + (1))) d_L_law_1150 (vp_in_nI (by omega) (by omega)) (congrArg (X.2) (nI_clamp (by omega))) ?_
  refine wp_virtual0 (As := [.int (X.2 ((i) + (1)))]) d_L_law_1151 lk_L_168 mv_X10_seed in_X10_seed se_X10_seed (Nat.le_of_ble_eq_true rfl) (Nat.le_of_ble_eq_true rfl) (hp_80 _ _ _ _ _) rfl hM (fun v2 h2 q2 => ?_)
  obtain ⟨rfl, m2, v2, rfl, hR2⟩ := q2
  show WP _ _ _ _ _ 1154 _ [.int z1, .int z1] (HP zc1 w1 m2 v2 E1) _
  refine wp_icmp_eq 1713 d_L_law_1154 rfl (fun _ => ?_) (fun q => absurd rfl q)
  exact K zc1 w1 m2 v2 E1 hR2
theorem law_draw {X : kX} (hX : X.1 ≤ 2560) {i : Nat} (hi5 : i + 5 ≤ X.1) {mc ms : Nat} {Q : Option Value → kH → Prop} (K : ∀ (c w m v : kZ) (E : kH), Rel c w m E → WP X 31 mc ms yLaw 1713 [(3, .int (nI (i))), (2, .ref (80)), (1, .ref (0)), (0, .float 0)] [] (HP c w m v E) Q) (c w m v : kZ) (E : kH) (hR : Rel c w m E) : WP X 31 (2 + mc) (234 + ms) yLaw 1159 [(3, .int (nI (i))), (2, .ref (80)), (1, .ref (0)), (0, .float 0)] [] (HP c w m v E) Q := by
  refine wp_aload_n 2 d_L_law_1159 rfl rfl ?_
  refine wp_virtual (As := []) (mc1 := 2) (ms1 := 234) d_L_law_1160 lk_L_169 mv_X9_draw in_X9_draw se_X9_draw (Nat.le_of_ble_eq_true rfl) (Nat.le_of_ble_eq_true rfl) (hp_0 _ _ _ _ _) rfl rfl ((kJn.up (j_draw (X := X) (d := 30) (by omega) ) (by decide) (by decide)) c w m v E hR) (fun v1 h1 q1 => ?_)
  obtain ⟨z1, zc1, w1, E1, rfl, rfl, hM⟩ := q1
  show WP _ _ _ _ _ 1163 _ [.int z1] (HP zc1 w1 m v E1) _
  refine wp_aload_n 1 d_L_law_1163 rfl rfl ?_
  refine wp_virtual0 (As := []) d_L_law_1164 lk_L_172 mv_X10_draw in_X10_draw se_X10_draw (Nat.le_of_ble_eq_true rfl) (Nat.le_of_ble_eq_true rfl) (hp_80 _ _ _ _ _) rfl hM (fun v2 h2 q2 => ?_)
  obtain ⟨rfl, m2, v2, rfl, hR2⟩ := q2
  show WP _ _ _ _ _ 1167 _ [.int z1, .int z1] (HP zc1 w1 m2 v2 E1) _
  refine wp_icmp_eq 1713 d_L_law_1167 rfl (fun _ => ?_) (fun q => absurd rfl q)
  exact K zc1 w1 m2 v2 E1 hR2
theorem law_often {X : kX} (hX : X.1 ≤ 2560) {i : Nat} (hi5 : i + 5 ≤ X.1) {mc ms : Nat} {Q : Option Value → kH → Prop} (K : ∀ (c w m v : kZ) (E : kH), Rel c w m E → WP X 31 mc ms yLaw 1713 [(3, .int (nI (i))), (2, .ref (80)), (1, .ref (0)), (0, .float 0)] [] (HP c w m v E) Q) (c w m v : kZ) (E : kH) (hR : Rel c w m E) : WP X 31 (2 + mc) (234 + ms) yLaw 1172 [(3, .int (nI (i))), (2, .ref (80)), (1, .ref (0)), (0, .float 0)] [] (HP c w m v E) Q := by
  refine wp_aload_n 2 d_L_law_1172 rfl rfl ?_
  refine wp_aload_nF 3 d_L_law_1173 rfl rfl ?_
  refine wp_iload_n 0 d_L_law_1174 rfl rfl ?_
  refine wp_iconst (v0 := 1) d_L_law_1175 rfl ?_
  refine wp_iadd d_L_law_1176 ?_
  refine wp_v (v0 := nI ((i) + (1))) (nI_add (i) (1)) ?_
  refine wp_sload (v := X.2 ((i) + (1))) d_L_law_1177 (vp_in_nI (by omega) (by omega)) (congrArg (X.2) (nI_clamp (by omega))) ?_
  refine wp_virtual (As := [.int (X.2 ((i) + (1)))]) (mc1 := 2) (ms1 := 234) d_L_law_1178 lk_L_173 mv_X9_often in_X9_often se_X9_often (Nat.le_of_ble_eq_true rfl) (Nat.le_of_ble_eq_true rfl) (hp_0 _ _ _ _ _) rfl rfl ((kJn.up (j_often (X := X) (d := 30) (by omega) (X.2 ((i) + (1)))) (by decide) (by decide)) c w m v E hR) (fun v1 h1 q1 => ?_)
  obtain ⟨z1, zc1, w1, E1, rfl, rfl, hM⟩ := q1
  show WP _ _ _ _ _ 1181 _ [.int z1] (HP zc1 w1 m v E1) _
  refine wp_aload_n 1 d_L_law_1181 rfl rfl ?_
  refine wp_aload_nF 3 d_L_law_1182 rfl rfl ?_
  refine wp_iload_n 0 d_L_law_1183 rfl rfl ?_
  refine wp_iconst (v0 := 1) d_L_law_1184 rfl ?_
  refine wp_iadd d_L_law_1185 ?_
  refine wp_v (v0 := nI ((i) + (1))) (nI_add (i) (1)) ?_
  refine wp_sload (v := X.2 ((i) + (1))) d_L_law_1186 (vp_in_nI (by omega) (by omega)) (congrArg (X.2) (nI_clamp (by omega))) ?_
  refine wp_virtual0 (As := [.int (X.2 ((i) + (1)))]) d_L_law_1187 lk_L_176 mv_X10_often in_X10_often se_X10_often (Nat.le_of_ble_eq_true rfl) (Nat.le_of_ble_eq_true rfl) (hp_80 _ _ _ _ _) rfl hM (fun v2 h2 q2 => ?_)
  obtain ⟨rfl, m2, v2, rfl, hR2⟩ := q2
  show WP _ _ _ _ _ 1190 _ [.int z1, .int z1] (HP zc1 w1 m2 v2 E1) _
  refine wp_icmp_eq 1713 d_L_law_1190 rfl (fun _ => ?_) (fun q => absurd rfl q)
  exact K zc1 w1 m2 v2 E1 hR2
theorem law_prove {X : kX} (hX : X.1 ≤ 2560) {i : Nat} (hi5 : i + 5 ≤ X.1) {mc ms : Nat} {Q : Option Value → kH → Prop} (K : ∀ (c w m v : kZ) (E : kH), Rel c w m E → WP X 31 mc ms yLaw 1713 [(3, .int (nI (i))), (2, .ref (80)), (1, .ref (0)), (0, .float 0)] [] (HP c w m v E) Q) (c w m v : kZ) (E : kH) (hR : Rel c w m E) : WP X 31 (2 + mc) (234 + ms) yLaw 1195 [(3, .int (nI (i))), (2, .ref (80)), (1, .ref (0)), (0, .float 0)] [] (HP c w m v E) Q := by
  refine wp_aload_n 2 d_L_law_1195 rfl rfl ?_
  refine wp_aload_nF 3 d_L_law_1196 rfl rfl ?_
  refine wp_iload_n 0 d_L_law_1197 rfl rfl ?_
  refine wp_iconst (v0 := 1) d_L_law_1198 rfl ?_
  refine wp_iadd d_L_law_1199 ?_
  refine wp_v (v0 := nI ((i) + (1))) (nI_add (i) (1)) ?_
  refine wp_sload (v := X.2 ((i) + (1))) d_L_law_1200 (vp_in_nI (by omega) (by omega)) (congrArg (X.2) (nI_clamp (by omega))) ?_
  refine wp_virtual (As := [.int (X.2 ((i) + (1)))]) (mc1 := 2) (ms1 := 234) d_L_law_1201 lk_L_177 mv_X9_prove in_X9_prove se_X9_prove (Nat.le_of_ble_eq_true rfl) (Nat.le_of_ble_eq_true rfl) (hp_0 _ _ _ _ _) rfl rfl ((kJn.up (j_prove (X := X) (d := 30) (by omega) (X.2 ((i) + (1)))) (by decide) (by decide)) c w m v E hR) (fun v1 h1 q1 => ?_)
  obtain ⟨z1, zc1, w1, E1, rfl, rfl, hM⟩ := q1
  show WP _ _ _ _ _ 1204 _ [.int z1] (HP zc1 w1 m v E1) _
  refine wp_aload_n 1 d_L_law_1204 rfl rfl ?_
  refine wp_aload_nF 3 d_L_law_1205 rfl rfl ?_
  refine wp_iload_n 0 d_L_law_1206 rfl rfl ?_
  refine wp_iconst (v0 := 1) d_L_law_1207 rfl ?_
  refine wp_iadd d_L_law_1208 ?_
  refine wp_v (v0 := nI ((i) + (1))) (nI_add (i) (1)) ?_
  refine wp_sload (v := X.2 ((i) + (1))) d_L_law_1209 (vp_in_nI (by omega) (by omega)) (congrArg (X.2) (nI_clamp (by omega))) ?_
  refine wp_virtual0 (As := [.int (X.2 ((i) + (1)))]) d_L_law_1210 lk_L_180 mv_X10_prove in_X10_prove se_X10_prove (Nat.le_of_ble_eq_true rfl) (Nat.le_of_ble_eq_true rfl) (hp_80 _ _ _ _ _) rfl hM (fun v2 h2 q2 => ?_)
  obtain ⟨rfl, m2, v2, rfl, hR2⟩ := q2
  show WP _ _ _ _ _ 1213 _ [.int z1, .int z1] (HP zc1 w1 m2 v2 E1) _
  refine wp_icmp_eq 1713 d_L_law_1213 rfl (fun _ => ?_) (fun q => absurd rfl q)
  exact K zc1 w1 m2 v2 E1 hR2
theorem law_row {X : kX} (hX : X.1 ≤ 2560) {i : Nat} (hi5 : i + 5 ≤ X.1) {mc ms : Nat} {Q : Option Value → kH → Prop} (K : ∀ (c w m v : kZ) (E : kH), Rel c w m E → WP X 31 mc ms yLaw 1713 [(3, .int (nI (i))), (2, .ref (80)), (1, .ref (0)), (0, .float 0)] [] (HP c w m v E) Q) (c w m v : kZ) (E : kH) (hR : Rel c w m E) : WP X 31 (2 + mc) (234 + ms) yLaw 1218 [(3, .int (nI (i))), (2, .ref (80)), (1, .ref (0)), (0, .float 0)] [] (HP c w m v E) Q := by
  refine wp_aload_n 2 d_L_law_1218 rfl rfl ?_
  refine wp_aload_nF 3 d_L_law_1219 rfl rfl ?_
  refine wp_iload_n 0 d_L_law_1220 rfl rfl ?_
  refine wp_iconst (v0 := 1) d_L_law_1221 rfl ?_
  refine wp_iadd d_L_law_1222 ?_
  refine wp_v (v0 := nI ((i) + (1))) (nI_add (i) (1)) ?_
  refine wp_sload (v := X.2 ((i) + (1))) d_L_law_1223 (vp_in_nI (by omega) (by omega)) (congrArg (X.2) (nI_clamp (by omega))) ?_
  refine wp_aload_nF 3 d_L_law_1224 rfl rfl ?_
  refine wp_iload_n 0 d_L_law_1225 rfl rfl ?_
  refine wp_iconst (v0 := 2) d_L_law_1226 rfl ?_
  refine wp_iadd d_L_law_1227 ?_
  refine wp_v (v0 := nI ((i) + (2))) (nI_add (i) (2)) ?_
  refine wp_sload (v := X.2 ((i) + (2))) d_L_law_1228 (vp_in_nI (by omega) (by omega)) (congrArg (X.2) (nI_clamp (by omega))) ?_
  refine wp_virtual (As := [.int (X.2 ((i) + (1))), .int (X.2 ((i) + (2)))]) (mc1 := 2) (ms1 := 234) d_L_law_1229 lk_L_181 mv_X9_row in_X9_row se_X9_row (Nat.le_of_ble_eq_true rfl) (Nat.le_of_ble_eq_true rfl) (hp_0 _ _ _ _ _) rfl rfl ((kJn.up (j_row (X := X) (d := 30) (by omega) (X.2 ((i) + (1))) (X.2 ((i) + (2)))) (by decide) (by decide)) c w m v E hR) (fun v1 h1 q1 => ?_)
  obtain ⟨z1, zc1, w1, E1, rfl, rfl, hM⟩ := q1
  show WP _ _ _ _ _ 1232 _ [.int z1] (HP zc1 w1 m v E1) _
  refine wp_aload_n 1 d_L_law_1232 rfl rfl ?_
  refine wp_aload_nF 3 d_L_law_1233 rfl rfl ?_
  refine wp_iload_n 0 d_L_law_1234 rfl rfl ?_
  refine wp_iconst (v0 := 1) d_L_law_1235 rfl ?_
  refine wp_iadd d_L_law_1236 ?_
  refine wp_v (v0 := nI ((i) + (1))) (nI_add (i) (1)) ?_
  refine wp_sload (v := X.2 ((i) + (1))) d_L_law_1237 (vp_in_nI (by omega) (by omega)) (congrArg (X.2) (nI_clamp (by omega))) ?_
  refine wp_aload_nF 3 d_L_law_1238 rfl rfl ?_
  refine wp_iload_n 0 d_L_law_1239 rfl rfl ?_
  refine wp_iconst (v0 := 2) d_L_law_1240 rfl ?_
  refine wp_iadd d_L_law_1241 ?_
  refine wp_v (v0 := nI ((i) + (2))) (nI_add (i) (2)) ?_
  refine wp_sload (v := X.2 ((i) + (2))) d_L_law_1242 (vp_in_nI (by omega) (by omega)) (congrArg (X.2) (nI_clamp (by omega))) ?_
  refine wp_virtual0 (As := [.int (X.2 ((i) + (1))), .int (X.2 ((i) + (2)))]) d_L_law_1243 lk_L_184 mv_X10_row in_X10_row se_X10_row (Nat.le_of_ble_eq_true rfl) (Nat.le_of_ble_eq_true rfl) (hp_80 _ _ _ _ _) rfl hM (fun v2 h2 q2 => ?_)
  obtain ⟨rfl, m2, v2, rfl, hR2⟩ := q2
  show WP _ _ _ _ _ 1246 _ [.int z1, .int z1] (HP zc1 w1 m2 v2 E1) _
  refine wp_icmp_eq 1713 d_L_law_1246 rfl (fun _ => ?_) (fun q => absurd rfl q)
  exact K zc1 w1 m2 v2 E1 hR2
theorem law_alterRow {X : kX} (hX : X.1 ≤ 2560) {i : Nat} (hi5 : i + 5 ≤ X.1) {mc ms : Nat} {Q : Option Value → kH → Prop} (K : ∀ (c w m v : kZ) (E : kH), Rel c w m E → WP X 31 mc ms yLaw 1713 [(3, .int (nI (i))), (2, .ref (80)), (1, .ref (0)), (0, .float 0)] [] (HP c w m v E) Q) (c w m v : kZ) (E : kH) (hR : Rel c w m E) : WP X 31 (2 + mc) (234 + ms) yLaw 1251 [(3, .int (nI (i))), (2, .ref (80)), (1, .ref (0)), (0, .float 0)] [] (HP c w m v E) Q := by
  refine wp_aload_n 2 d_L_law_1251 rfl rfl ?_
  refine wp_aload_nF 3 d_L_law_1252 rfl rfl ?_
  refine wp_iload_n 0 d_L_law_1253 rfl rfl ?_
  refine wp_iconst (v0 := 1) d_L_law_1254 rfl ?_
  refine wp_iadd d_L_law_1255 ?_
  refine wp_v (v0 := nI ((i) + (1))) (nI_add (i) (1)) ?_
  refine wp_sload (v := X.2 ((i) + (1))) d_L_law_1256 (vp_in_nI (by omega) (by omega)) (congrArg (X.2) (nI_clamp (by omega))) ?_
  refine wp_aload_nF 3 d_L_law_1257 rfl rfl ?_
  refine wp_iload_n 0 d_L_law_1258 rfl rfl ?_
  refine wp_iconst (v0 := 2) d_L_law_1259 rfl ?_
  refine wp_iadd d_L_law_1260 ?_
  refine wp_v (v0 := nI ((i) + (2))) (nI_add (i) (2)) ?_
  refine wp_sload (v := X.2 ((i) + (2))) d_L_law_1261 (vp_in_nI (by omega) (by omega)) (congrArg (X.2) (nI_clamp (by omega))) ?_
  refine wp_aload_nF 3 d_L_law_1262 rfl rfl ?_
  refine wp_iload_n 0 d_L_law_1263 rfl rfl ?_
  refine wp_iconst (v0 := 3) d_L_law_1264 rfl ?_
  refine wp_iadd d_L_law_1265 ?_
  refine wp_v (v0 := nI ((i) + (3))) (nI_add (i) (3)) ?_
  refine wp_sload (v := X.2 ((i) + (3))) d_L_law_1266 (vp_in_nI (by omega) (by omega)) (congrArg (X.2) (nI_clamp (by omega))) ?_
  refine wp_virtual (As := [.int (X.2 ((i) + (1))), .int (X.2 ((i) + (2))), .int (X.2 ((i) + (3)))]) (mc1 := 2) (ms1 := 234) d_L_law_1267 lk_L_185 mv_X9_alterRow in_X9_alterRow se_X9_alterRow (Nat.le_of_ble_eq_true rfl) (Nat.le_of_ble_eq_true rfl) (hp_0 _ _ _ _ _) rfl rfl ((kJn.up (j_alterRow (X := X) (d := 30) (by omega) (X.2 ((i) + (1))) (X.2 ((i) + (2))) (X.2 ((i) + (3)))) (by decide) (by decide)) c w m v E hR) (fun v1 h1 q1 => ?_)
  obtain ⟨z1, zc1, w1, E1, rfl, rfl, hM⟩ := q1
  show WP _ _ _ _ _ 1270 _ [.int z1] (HP zc1 w1 m v E1) _
  refine wp_aload_n 1 d_L_law_1270 rfl rfl ?_
  refine wp_aload_nF 3 d_L_law_1271 rfl rfl ?_
  refine wp_iload_n 0 d_L_law_1272 rfl rfl ?_
  refine wp_iconst (v0 := 1) d_L_law_1273 rfl ?_
  refine wp_iadd d_L_law_1274 ?_
  refine wp_v (v0 := nI ((i) + (1))) (nI_add (i) (1)) ?_
  refine wp_sload (v := X.2 ((i) + (1))) d_L_law_1275 (vp_in_nI (by omega) (by omega)) (congrArg (X.2) (nI_clamp (by omega))) ?_
  refine wp_aload_nF 3 d_L_law_1276 rfl rfl ?_
  refine wp_iload_n 0 d_L_law_1277 rfl rfl ?_
  refine wp_iconst (v0 := 2) d_L_law_1278 rfl ?_
  refine wp_iadd d_L_law_1279 ?_
  refine wp_v (v0 := nI ((i) + (2))) (nI_add (i) (2)) ?_
  refine wp_sload (v := X.2 ((i) + (2))) d_L_law_1280 (vp_in_nI (by omega) (by omega)) (congrArg (X.2) (nI_clamp (by omega))) ?_
  refine wp_aload_nF 3 d_L_law_1281 rfl rfl ?_
  refine wp_iload_n 0 d_L_law_1282 rfl rfl ?_
  refine wp_iconst (v0 := 3) d_L_law_1283 rfl ?_
  refine wp_iadd d_L_law_1284 ?_
  refine wp_v (v0 := nI ((i) + (3))) (nI_add (i) (3)) ?_
  refine wp_sload (v := X.2 ((i) + (3))) d_L_law_1285 (vp_in_nI (by omega) (by omega)) (congrArg (X.2) (nI_clamp (by omega))) ?_
  refine wp_virtual0 (As := [.int (X.2 ((i) + (1))), .int (X.2 ((i) + (2))), .int (X.2 ((i) + (3)))]) d_L_law_1286 lk_L_188 mv_X10_alterRow in_X10_alterRow se_X10_alterRow (Nat.le_of_ble_eq_true rfl) (Nat.le_of_ble_eq_true rfl) (hp_80 _ _ _ _ _) rfl hM (fun v2 h2 q2 => ?_)
  obtain ⟨rfl, m2, v2, rfl, hR2⟩ := q2
  show WP _ _ _ _ _ 1289 _ [.int z1, .int z1] (HP zc1 w1 m2 v2 E1) _
  refine wp_icmp_eq 1713 d_L_law_1289 rfl (fun _ => ?_) (fun q => absurd rfl q)
  exact K zc1 w1 m2 v2 E1 hR2
theorem law_judge {X : kX} (hX : X.1 ≤ 2560) {i : Nat} (hi5 : i + 5 ≤ X.1) {mc ms : Nat} {Q : Option Value → kH → Prop} (K : ∀ (c w m v : kZ) (E : kH), Rel c w m E → WP X 31 mc ms yLaw 1713 [(3, .int (nI (i))), (2, .ref (80)), (1, .ref (0)), (0, .float 0)] [] (HP c w m v E) Q) (c w m v : kZ) (E : kH) (hR : Rel c w m E) : WP X 31 (2 + mc) (234 + ms) yLaw 1294 [(3, .int (nI (i))), (2, .ref (80)), (1, .ref (0)), (0, .float 0)] [] (HP c w m v E) Q := by
  refine wp_aload_n 2 d_L_law_1294 rfl rfl ?_
  refine wp_virtual (As := []) (mc1 := 2) (ms1 := 234) d_L_law_1295 lk_L_189 mv_X9_judge in_X9_judge se_X9_judge (Nat.le_of_ble_eq_true rfl) (Nat.le_of_ble_eq_true rfl) (hp_0 _ _ _ _ _) rfl rfl ((kJn.up (j_judge (X := X) (d := 30) (by omega) ) (by decide) (by decide)) c w m v E hR) (fun v1 h1 q1 => ?_)
  obtain ⟨z1, zc1, w1, E1, rfl, rfl, hM⟩ := q1
  show WP _ _ _ _ _ 1298 _ [.int z1] (HP zc1 w1 m v E1) _
  refine wp_aload_n 1 d_L_law_1298 rfl rfl ?_
  refine wp_virtual0 (As := []) d_L_law_1299 lk_L_192 mv_X10_judge in_X10_judge se_X10_judge (Nat.le_of_ble_eq_true rfl) (Nat.le_of_ble_eq_true rfl) (hp_80 _ _ _ _ _) rfl hM (fun v2 h2 q2 => ?_)
  obtain ⟨rfl, m2, v2, rfl, hR2⟩ := q2
  show WP _ _ _ _ _ 1302 _ [.int z1, .int z1] (HP zc1 w1 m2 v2 E1) _
  refine wp_icmp_eq 1713 d_L_law_1302 rfl (fun _ => ?_) (fun q => absurd rfl q)
  exact K zc1 w1 m2 v2 E1 hR2
theorem law_sheet {X : kX} (hX : X.1 ≤ 2560) {i : Nat} (hi5 : i + 5 ≤ X.1) {mc ms : Nat} {Q : Option Value → kH → Prop} (K : ∀ (c w m v : kZ) (E : kH), Rel c w m E → WP X 31 mc ms yLaw 1713 [(3, .int (nI (i))), (2, .ref (80)), (1, .ref (0)), (0, .float 0)] [] (HP c w m v E) Q) (c w m v : kZ) (E : kH) (hR : Rel c w m E) : WP X 31 (2 + mc) (234 + ms) yLaw 1307 [(3, .int (nI (i))), (2, .ref (80)), (1, .ref (0)), (0, .float 0)] [] (HP c w m v E) Q := by
  refine wp_aload_n 2 d_L_law_1307 rfl rfl ?_
  refine wp_aload_nF 3 d_L_law_1308 rfl rfl ?_
  refine wp_iload_n 0 d_L_law_1309 rfl rfl ?_
  refine wp_iconst (v0 := 1) d_L_law_1310 rfl ?_
  refine wp_iadd d_L_law_1311 ?_
  refine wp_v (v0 := nI ((i) + (1))) (nI_add (i) (1)) ?_
  refine wp_sload (v := X.2 ((i) + (1))) d_L_law_1312 (vp_in_nI (by omega) (by omega)) (congrArg (X.2) (nI_clamp (by omega))) ?_
  refine wp_aload_nF 3 d_L_law_1313 rfl rfl ?_
  refine wp_iload_n 0 d_L_law_1314 rfl rfl ?_
  refine wp_iconst (v0 := 2) d_L_law_1315 rfl ?_
  refine wp_iadd d_L_law_1316 ?_
  refine wp_v (v0 := nI ((i) + (2))) (nI_add (i) (2)) ?_
  refine wp_sload (v := X.2 ((i) + (2))) d_L_law_1317 (vp_in_nI (by omega) (by omega)) (congrArg (X.2) (nI_clamp (by omega))) ?_
  refine wp_aload_nF 3 d_L_law_1318 rfl rfl ?_
  refine wp_iload_n 0 d_L_law_1319 rfl rfl ?_
  refine wp_iconst (v0 := 3) d_L_law_1320 rfl ?_
  refine wp_iadd d_L_law_1321 ?_
  refine wp_v (v0 := nI ((i) + (3))) (nI_add (i) (3)) ?_
  refine wp_sload (v := X.2 ((i) + (3))) d_L_law_1322 (vp_in_nI (by omega) (by omega)) (congrArg (X.2) (nI_clamp (by omega))) ?_
  refine wp_virtual (As := [.int (X.2 ((i) + (1))), .int (X.2 ((i) + (2))), .int (X.2 ((i) + (3)))]) (mc1 := 2) (ms1 := 234) d_L_law_1323 lk_L_193 mv_X9_sheet in_X9_sheet se_X9_sheet (Nat.le_of_ble_eq_true rfl) (Nat.le_of_ble_eq_true rfl) (hp_0 _ _ _ _ _) rfl rfl ((kJn.up (j_sheet (X := X) (d := 30) (by omega) (X.2 ((i) + (1))) (X.2 ((i) + (2))) (X.2 ((i) + (3)))) (by decide) (by decide)) c w m v E hR) (fun v1 h1 q1 => ?_)
  obtain ⟨z1, zc1, w1, E1, rfl, rfl, hM⟩ := q1
  show WP _ _ _ _ _ 1326 _ [.int z1] (HP zc1 w1 m v E1) _
  refine wp_aload_n 1 d_L_law_1326 rfl rfl ?_
  refine wp_aload_nF 3 d_L_law_1327 rfl rfl ?_
  refine wp_iload_n 0 d_L_law_1328 rfl rfl ?_
  refine wp_iconst (v0 := 1) d_L_law_1329 rfl ?_
  refine wp_iadd d_L_law_1330 ?_
  refine wp_v (v0 := nI ((i) + (1))) (nI_add (i) (1)) ?_
  refine wp_sload (v := X.2 ((i) + (1))) d_L_law_1331 (vp_in_nI (by omega) (by omega)) (congrArg (X.2) (nI_clamp (by omega))) ?_
  refine wp_aload_nF 3 d_L_law_1332 rfl rfl ?_
  refine wp_iload_n 0 d_L_law_1333 rfl rfl ?_
  refine wp_iconst (v0 := 2) d_L_law_1334 rfl ?_
  refine wp_iadd d_L_law_1335 ?_
  refine wp_v (v0 := nI ((i) + (2))) (nI_add (i) (2)) ?_
  refine wp_sload (v := X.2 ((i) + (2))) d_L_law_1336 (vp_in_nI (by omega) (by omega)) (congrArg (X.2) (nI_clamp (by omega))) ?_
  refine wp_aload_nF 3 d_L_law_1337 rfl rfl ?_
  refine wp_iload_n 0 d_L_law_1338 rfl rfl ?_
  refine wp_iconst (v0 := 3) d_L_law_1339 rfl ?_
  refine wp_iadd d_L_law_1340 ?_
  refine wp_v (v0 := nI ((i) + (3))) (nI_add (i) (3)) ?_
  refine wp_sload (v := X.2 ((i) + (3))) d_L_law_1341 (vp_in_nI (by omega) (by omega)) (congrArg (X.2) (nI_clamp (by omega))) ?_
  refine wp_virtual0 (As := [.int (X.2 ((i) + (1))), .int (X.2 ((i) + (2))), .int (X.2 ((i) + (3)))]) d_L_law_1342 lk_L_196 mv_X10_sheet in_X10_sheet se_X10_sheet (Nat.le_of_ble_eq_true rfl) (Nat.le_of_ble_eq_true rfl) (hp_80 _ _ _ _ _) rfl hM (fun v2 h2 q2 => ?_)
  obtain ⟨rfl, m2, v2, rfl, hR2⟩ := q2
  show WP _ _ _ _ _ 1345 _ [.int z1, .int z1] (HP zc1 w1 m2 v2 E1) _
  refine wp_icmp_eq 1713 d_L_law_1345 rfl (fun _ => ?_) (fun q => absurd rfl q)
  exact K zc1 w1 m2 v2 E1 hR2
theorem law_write {X : kX} (hX : X.1 ≤ 2560) {i : Nat} (hi5 : i + 5 ≤ X.1) {mc ms : Nat} {Q : Option Value → kH → Prop} (K : ∀ (c w m v : kZ) (E : kH), Rel c w m E → WP X 31 mc ms yLaw 1713 [(3, .int (nI (i))), (2, .ref (80)), (1, .ref (0)), (0, .float 0)] [] (HP c w m v E) Q) (c w m v : kZ) (E : kH) (hR : Rel c w m E) : WP X 31 (2 + mc) (234 + ms) yLaw 1350 [(3, .int (nI (i))), (2, .ref (80)), (1, .ref (0)), (0, .float 0)] [] (HP c w m v E) Q := by
  refine wp_aload_n 2 d_L_law_1350 rfl rfl ?_
  refine wp_aload_nF 3 d_L_law_1351 rfl rfl ?_
  refine wp_iload_n 0 d_L_law_1352 rfl rfl ?_
  refine wp_iconst (v0 := 1) d_L_law_1353 rfl ?_
  refine wp_iadd d_L_law_1354 ?_
  refine wp_v (v0 := nI ((i) + (1))) (nI_add (i) (1)) ?_
  refine wp_sload (v := X.2 ((i) + (1))) d_L_law_1355 (vp_in_nI (by omega) (by omega)) (congrArg (X.2) (nI_clamp (by omega))) ?_
  refine wp_aload_nF 3 d_L_law_1356 rfl rfl ?_
  refine wp_iload_n 0 d_L_law_1357 rfl rfl ?_
  refine wp_iconst (v0 := 2) d_L_law_1358 rfl ?_
  refine wp_iadd d_L_law_1359 ?_
  refine wp_v (v0 := nI ((i) + (2))) (nI_add (i) (2)) ?_
  refine wp_sload (v := X.2 ((i) + (2))) d_L_law_1360 (vp_in_nI (by omega) (by omega)) (congrArg (X.2) (nI_clamp (by omega))) ?_
  refine wp_aload_nF 3 d_L_law_1361 rfl rfl ?_
  refine wp_iload_n 0 d_L_law_1362 rfl rfl ?_
  refine wp_iconst (v0 := 3) d_L_law_1363 rfl ?_
  refine wp_iadd d_L_law_1364 ?_
  refine wp_v (v0 := nI ((i) + (3))) (nI_add (i) (3)) ?_
  refine wp_sload (v := X.2 ((i) + (3))) d_L_law_1365 (vp_in_nI (by omega) (by omega)) (congrArg (X.2) (nI_clamp (by omega))) ?_
  refine wp_virtual (As := [.int (X.2 ((i) + (1))), .int (X.2 ((i) + (2))), .int (X.2 ((i) + (3)))]) (mc1 := 2) (ms1 := 234) d_L_law_1366 lk_L_197 mv_X9_write in_X9_write se_X9_write (Nat.le_of_ble_eq_true rfl) (Nat.le_of_ble_eq_true rfl) (hp_0 _ _ _ _ _) rfl rfl ((kJn.up (j_write (X := X) (d := 30) (by omega) (X.2 ((i) + (1))) (X.2 ((i) + (2))) (X.2 ((i) + (3)))) (by decide) (by decide)) c w m v E hR) (fun v1 h1 q1 => ?_)
  obtain ⟨z1, zc1, w1, E1, rfl, rfl, hM⟩ := q1
  show WP _ _ _ _ _ 1369 _ [.int z1] (HP zc1 w1 m v E1) _
  refine wp_aload_n 1 d_L_law_1369 rfl rfl ?_
  refine wp_aload_nF 3 d_L_law_1370 rfl rfl ?_
  refine wp_iload_n 0 d_L_law_1371 rfl rfl ?_
  refine wp_iconst (v0 := 1) d_L_law_1372 rfl ?_
  refine wp_iadd d_L_law_1373 ?_
  refine wp_v (v0 := nI ((i) + (1))) (nI_add (i) (1)) ?_
  refine wp_sload (v := X.2 ((i) + (1))) d_L_law_1374 (vp_in_nI (by omega) (by omega)) (congrArg (X.2) (nI_clamp (by omega))) ?_
  refine wp_aload_nF 3 d_L_law_1375 rfl rfl ?_
  refine wp_iload_n 0 d_L_law_1376 rfl rfl ?_
  refine wp_iconst (v0 := 2) d_L_law_1377 rfl ?_
  refine wp_iadd d_L_law_1378 ?_
  refine wp_v (v0 := nI ((i) + (2))) (nI_add (i) (2)) ?_
  refine wp_sload (v := X.2 ((i) + (2))) d_L_law_1379 (vp_in_nI (by omega) (by omega)) (congrArg (X.2) (nI_clamp (by omega))) ?_
  refine wp_aload_nF 3 d_L_law_1380 rfl rfl ?_
  refine wp_iload_n 0 d_L_law_1381 rfl rfl ?_
  refine wp_iconst (v0 := 3) d_L_law_1382 rfl ?_
  refine wp_iadd d_L_law_1383 ?_
  refine wp_v (v0 := nI ((i) + (3))) (nI_add (i) (3)) ?_
  refine wp_sload (v := X.2 ((i) + (3))) d_L_law_1384 (vp_in_nI (by omega) (by omega)) (congrArg (X.2) (nI_clamp (by omega))) ?_
  refine wp_virtual0 (As := [.int (X.2 ((i) + (1))), .int (X.2 ((i) + (2))), .int (X.2 ((i) + (3)))]) d_L_law_1385 lk_L_200 mv_X10_write in_X10_write se_X10_write (Nat.le_of_ble_eq_true rfl) (Nat.le_of_ble_eq_true rfl) (hp_80 _ _ _ _ _) rfl hM (fun v2 h2 q2 => ?_)
  obtain ⟨rfl, m2, v2, rfl, hR2⟩ := q2
  show WP _ _ _ _ _ 1388 _ [.int z1, .int z1] (HP zc1 w1 m2 v2 E1) _
  refine wp_icmp_eq 1713 d_L_law_1388 rfl (fun _ => ?_) (fun q => absurd rfl q)
  exact K zc1 w1 m2 v2 E1 hR2
theorem law_item {X : kX} (hX : X.1 ≤ 2560) {i : Nat} (hi5 : i + 5 ≤ X.1) {mc ms : Nat} {Q : Option Value → kH → Prop} (K : ∀ (c w m v : kZ) (E : kH), Rel c w m E → WP X 31 mc ms yLaw 1713 [(3, .int (nI (i))), (2, .ref (80)), (1, .ref (0)), (0, .float 0)] [] (HP c w m v E) Q) (c w m v : kZ) (E : kH) (hR : Rel c w m E) : WP X 31 (2 + mc) (234 + ms) yLaw 1393 [(3, .int (nI (i))), (2, .ref (80)), (1, .ref (0)), (0, .float 0)] [] (HP c w m v E) Q := by
  refine wp_aload_n 2 d_L_law_1393 rfl rfl ?_
  refine wp_aload_nF 3 d_L_law_1394 rfl rfl ?_
  refine wp_iload_n 0 d_L_law_1395 rfl rfl ?_
  refine wp_iconst (v0 := 1) d_L_law_1396 rfl ?_
  refine wp_iadd d_L_law_1397 ?_
  refine wp_v (v0 := nI ((i) + (1))) (nI_add (i) (1)) ?_
  refine wp_sload (v := X.2 ((i) + (1))) d_L_law_1398 (vp_in_nI (by omega) (by omega)) (congrArg (X.2) (nI_clamp (by omega))) ?_
  refine wp_aload_nF 3 d_L_law_1399 rfl rfl ?_
  refine wp_iload_n 0 d_L_law_1400 rfl rfl ?_
  refine wp_iconst (v0 := 2) d_L_law_1401 rfl ?_
  refine wp_iadd d_L_law_1402 ?_
  refine wp_v (v0 := nI ((i) + (2))) (nI_add (i) (2)) ?_
  refine wp_sload (v := X.2 ((i) + (2))) d_L_law_1403 (vp_in_nI (by omega) (by omega)) (congrArg (X.2) (nI_clamp (by omega))) ?_
  refine wp_aload_nF 3 d_L_law_1404 rfl rfl ?_
  refine wp_iload_n 0 d_L_law_1405 rfl rfl ?_
  refine wp_iconst (v0 := 3) d_L_law_1406 rfl ?_
  refine wp_iadd d_L_law_1407 ?_
  refine wp_v (v0 := nI ((i) + (3))) (nI_add (i) (3)) ?_
  refine wp_sload (v := X.2 ((i) + (3))) d_L_law_1408 (vp_in_nI (by omega) (by omega)) (congrArg (X.2) (nI_clamp (by omega))) ?_
  refine wp_virtual (As := [.int (X.2 ((i) + (1))), .int (X.2 ((i) + (2))), .int (X.2 ((i) + (3)))]) (mc1 := 2) (ms1 := 234) d_L_law_1409 lk_L_201 mv_X9_item in_X9_item se_X9_item (Nat.le_of_ble_eq_true rfl) (Nat.le_of_ble_eq_true rfl) (hp_0 _ _ _ _ _) rfl rfl ((kJn.up (j_item (X := X) (d := 30) (by omega) (X.2 ((i) + (1))) (X.2 ((i) + (2))) (X.2 ((i) + (3)))) (by decide) (by decide)) c w m v E hR) (fun v1 h1 q1 => ?_)
  obtain ⟨z1, zc1, w1, E1, rfl, rfl, hM⟩ := q1
  show WP _ _ _ _ _ 1412 _ [.int z1] (HP zc1 w1 m v E1) _
  refine wp_aload_n 1 d_L_law_1412 rfl rfl ?_
  refine wp_aload_nF 3 d_L_law_1413 rfl rfl ?_
  refine wp_iload_n 0 d_L_law_1414 rfl rfl ?_
  refine wp_iconst (v0 := 1) d_L_law_1415 rfl ?_
  refine wp_iadd d_L_law_1416 ?_
  refine wp_v (v0 := nI ((i) + (1))) (nI_add (i) (1)) ?_
  refine wp_sload (v := X.2 ((i) + (1))) d_L_law_1417 (vp_in_nI (by omega) (by omega)) (congrArg (X.2) (nI_clamp (by omega))) ?_
  refine wp_aload_nF 3 d_L_law_1418 rfl rfl ?_
  refine wp_iload_n 0 d_L_law_1419 rfl rfl ?_
  refine wp_iconst (v0 := 2) d_L_law_1420 rfl ?_
  refine wp_iadd d_L_law_1421 ?_
  refine wp_v (v0 := nI ((i) + (2))) (nI_add (i) (2)) ?_
  refine wp_sload (v := X.2 ((i) + (2))) d_L_law_1422 (vp_in_nI (by omega) (by omega)) (congrArg (X.2) (nI_clamp (by omega))) ?_
  refine wp_aload_nF 3 d_L_law_1423 rfl rfl ?_
  refine wp_iload_n 0 d_L_law_1424 rfl rfl ?_
  refine wp_iconst (v0 := 3) d_L_law_1425 rfl ?_
  refine wp_iadd d_L_law_1426 ?_
  refine wp_v (v0 := nI ((i) + (3))) (nI_add (i) (3)) ?_
  refine wp_sload (v := X.2 ((i) + (3))) d_L_law_1427 (vp_in_nI (by omega) (by omega)) (congrArg (X.2) (nI_clamp (by omega))) ?_
  refine wp_virtual0 (As := [.int (X.2 ((i) + (1))), .int (X.2 ((i) + (2))), .int (X.2 ((i) + (3)))]) d_L_law_1428 lk_L_204 mv_X10_item in_X10_item se_X10_item (Nat.le_of_ble_eq_true rfl) (Nat.le_of_ble_eq_true rfl) (hp_80 _ _ _ _ _) rfl hM (fun v2 h2 q2 => ?_)
  obtain ⟨rfl, m2, v2, rfl, hR2⟩ := q2
  show WP _ _ _ _ _ 1431 _ [.int z1, .int z1] (HP zc1 w1 m2 v2 E1) _
  refine wp_icmp_eq 1713 d_L_law_1431 rfl (fun _ => ?_) (fun q => absurd rfl q)
  exact K zc1 w1 m2 v2 E1 hR2
theorem law_fits {X : kX} (hX : X.1 ≤ 2560) {i : Nat} (hi5 : i + 5 ≤ X.1) {mc ms : Nat} {Q : Option Value → kH → Prop} (K : ∀ (c w m v : kZ) (E : kH), Rel c w m E → WP X 31 mc ms yLaw 1713 [(3, .int (nI (i))), (2, .ref (80)), (1, .ref (0)), (0, .float 0)] [] (HP c w m v E) Q) (c w m v : kZ) (E : kH) (hR : Rel c w m E) : WP X 31 (2 + mc) (234 + ms) yLaw 1436 [(3, .int (nI (i))), (2, .ref (80)), (1, .ref (0)), (0, .float 0)] [] (HP c w m v E) Q := by
  refine wp_aload_n 2 d_L_law_1436 rfl rfl ?_
  refine wp_aload_nF 3 d_L_law_1437 rfl rfl ?_
  refine wp_iload_n 0 d_L_law_1438 rfl rfl ?_
  refine wp_iconst (v0 := 1) d_L_law_1439 rfl ?_
  refine wp_iadd d_L_law_1440 ?_
  refine wp_v (v0 := nI ((i) + (1))) (nI_add (i) (1)) ?_
  refine wp_sload (v := X.2 ((i) + (1))) d_L_law_1441 (vp_in_nI (by omega) (by omega)) (congrArg (X.2) (nI_clamp (by omega))) ?_
  refine wp_aload_nF 3 d_L_law_1442 rfl rfl ?_
  refine wp_iload_n 0 d_L_law_1443 rfl rfl ?_
  refine wp_iconst (v0 := 2) d_L_law_1444 rfl ?_
  refine wp_iadd d_L_law_1445 ?_
  refine wp_v (v0 := nI ((i) + (2))) (nI_add (i) (2)) ?_
  refine wp_sload (v := X.2 ((i) + (2))) d_L_law_1446 (vp_in_nI (by omega) (by omega)) (congrArg (X.2) (nI_clamp (by omega))) ?_
  refine wp_aload_nF 3 d_L_law_1447 rfl rfl ?_
  refine wp_iload_n 0 d_L_law_1448 rfl rfl ?_
  refine wp_iconst (v0 := 3) d_L_law_1449 rfl ?_
  refine wp_iadd d_L_law_1450 ?_
  refine wp_v (v0 := nI ((i) + (3))) (nI_add (i) (3)) ?_
  refine wp_sload (v := X.2 ((i) + (3))) d_L_law_1451 (vp_in_nI (by omega) (by omega)) (congrArg (X.2) (nI_clamp (by omega))) ?_
  refine wp_virtual (As := [.int (X.2 ((i) + (1))), .int (X.2 ((i) + (2))), .int (X.2 ((i) + (3)))]) (mc1 := 2) (ms1 := 234) d_L_law_1452 lk_L_205 mv_X9_fits in_X9_fits se_X9_fits (Nat.le_of_ble_eq_true rfl) (Nat.le_of_ble_eq_true rfl) (hp_0 _ _ _ _ _) rfl rfl ((kJn.up (j_fits (X := X) (d := 30) (by omega) (X.2 ((i) + (1))) (X.2 ((i) + (2))) (X.2 ((i) + (3)))) (by decide) (by decide)) c w m v E hR) (fun v1 h1 q1 => ?_)
  obtain ⟨z1, zc1, w1, E1, rfl, rfl, hM⟩ := q1
  show WP _ _ _ _ _ 1455 _ [.int z1] (HP zc1 w1 m v E1) _
  refine wp_aload_n 1 d_L_law_1455 rfl rfl ?_
  refine wp_aload_nF 3 d_L_law_1456 rfl rfl ?_
  refine wp_iload_n 0 d_L_law_1457 rfl rfl ?_
  refine wp_iconst (v0 := 1) d_L_law_1458 rfl ?_
  refine wp_iadd d_L_law_1459 ?_
  refine wp_v (v0 := nI ((i) + (1))) (nI_add (i) (1)) ?_
  refine wp_sload (v := X.2 ((i) + (1))) d_L_law_1460 (vp_in_nI (by omega) (by omega)) (congrArg (X.2) (nI_clamp (by omega))) ?_
  refine wp_aload_nF 3 d_L_law_1461 rfl rfl ?_
  refine wp_iload_n 0 d_L_law_1462 rfl rfl ?_
  refine wp_iconst (v0 := 2) d_L_law_1463 rfl ?_
  refine wp_iadd d_L_law_1464 ?_
  refine wp_v (v0 := nI ((i) + (2))) (nI_add (i) (2)) ?_
  refine wp_sload (v := X.2 ((i) + (2))) d_L_law_1465 (vp_in_nI (by omega) (by omega)) (congrArg (X.2) (nI_clamp (by omega))) ?_
  refine wp_aload_nF 3 d_L_law_1466 rfl rfl ?_
  refine wp_iload_n 0 d_L_law_1467 rfl rfl ?_
  refine wp_iconst (v0 := 3) d_L_law_1468 rfl ?_
  refine wp_iadd d_L_law_1469 ?_
  refine wp_v (v0 := nI ((i) + (3))) (nI_add (i) (3)) ?_
  refine wp_sload (v := X.2 ((i) + (3))) d_L_law_1470 (vp_in_nI (by omega) (by omega)) (congrArg (X.2) (nI_clamp (by omega))) ?_
  refine wp_virtual0 (As := [.int (X.2 ((i) + (1))), .int (X.2 ((i) + (2))), .int (X.2 ((i) + (3)))]) d_L_law_1471 lk_L_208 mv_X10_fits in_X10_fits se_X10_fits (Nat.le_of_ble_eq_true rfl) (Nat.le_of_ble_eq_true rfl) (hp_80 _ _ _ _ _) rfl hM (fun v2 h2 q2 => ?_)
  obtain ⟨rfl, m2, v2, rfl, hR2⟩ := q2
  show WP _ _ _ _ _ 1474 _ [.int z1, .int z1] (HP zc1 w1 m2 v2 E1) _
  refine wp_icmp_eq 1713 d_L_law_1474 rfl (fun _ => ?_) (fun q => absurd rfl q)
  exact K zc1 w1 m2 v2 E1 hR2
theorem law_spread {X : kX} (hX : X.1 ≤ 2560) {i : Nat} (hi5 : i + 5 ≤ X.1) {mc ms : Nat} {Q : Option Value → kH → Prop} (K : ∀ (c w m v : kZ) (E : kH), Rel c w m E → WP X 31 mc ms yLaw 1713 [(3, .int (nI (i))), (2, .ref (80)), (1, .ref (0)), (0, .float 0)] [] (HP c w m v E) Q) (c w m v : kZ) (E : kH) (hR : Rel c w m E) : WP X 31 (2 + mc) (234 + ms) yLaw 1479 [(3, .int (nI (i))), (2, .ref (80)), (1, .ref (0)), (0, .float 0)] [] (HP c w m v E) Q := by
  refine wp_aload_n 2 d_L_law_1479 rfl rfl ?_
  refine wp_aload_nF 3 d_L_law_1480 rfl rfl ?_
  refine wp_iload_n 0 d_L_law_1481 rfl rfl ?_
  refine wp_iconst (v0 := 1) d_L_law_1482 rfl ?_
  refine wp_iadd d_L_law_1483 ?_
  refine wp_v (v0 := nI ((i) + (1))) (nI_add (i) (1)) ?_
  refine wp_sload (v := X.2 ((i) + (1))) d_L_law_1484 (vp_in_nI (by omega) (by omega)) (congrArg (X.2) (nI_clamp (by omega))) ?_
  refine wp_aload_nF 3 d_L_law_1485 rfl rfl ?_
  refine wp_iload_n 0 d_L_law_1486 rfl rfl ?_
  refine wp_iconst (v0 := 2) d_L_law_1487 rfl ?_
  refine wp_iadd d_L_law_1488 ?_
  refine wp_v (v0 := nI ((i) + (2))) (nI_add (i) (2)) ?_
  refine wp_sload (v := X.2 ((i) + (2))) d_L_law_1489 (vp_in_nI (by omega) (by omega)) (congrArg (X.2) (nI_clamp (by omega))) ?_
  refine wp_aload_nF 3 d_L_law_1490 rfl rfl ?_
  refine wp_iload_n 0 d_L_law_1491 rfl rfl ?_
  refine wp_iconst (v0 := 3) d_L_law_1492 rfl ?_
  refine wp_iadd d_L_law_1493 ?_
  refine wp_v (v0 := nI ((i) + (3))) (nI_add (i) (3)) ?_
  refine wp_sload (v := X.2 ((i) + (3))) d_L_law_1494 (vp_in_nI (by omega) (by omega)) (congrArg (X.2) (nI_clamp (by omega))) ?_
  refine wp_virtual (As := [.int (X.2 ((i) + (1))), .int (X.2 ((i) + (2))), .int (X.2 ((i) + (3)))]) (mc1 := 2) (ms1 := 234) d_L_law_1495 lk_L_209 mv_X9_spread in_X9_spread se_X9_spread (Nat.le_of_ble_eq_true rfl) (Nat.le_of_ble_eq_true rfl) (hp_0 _ _ _ _ _) rfl rfl ((kJn.up (j_spread (X := X) (d := 30) (by omega) (X.2 ((i) + (1))) (X.2 ((i) + (2))) (X.2 ((i) + (3)))) (by decide) (by decide)) c w m v E hR) (fun v1 h1 q1 => ?_)
  obtain ⟨z1, zc1, w1, E1, rfl, rfl, hM⟩ := q1
  show WP _ _ _ _ _ 1498 _ [.int z1] (HP zc1 w1 m v E1) _
  refine wp_aload_n 1 d_L_law_1498 rfl rfl ?_
  refine wp_aload_nF 3 d_L_law_1499 rfl rfl ?_
  refine wp_iload_n 0 d_L_law_1500 rfl rfl ?_
  refine wp_iconst (v0 := 1) d_L_law_1501 rfl ?_
  refine wp_iadd d_L_law_1502 ?_
  refine wp_v (v0 := nI ((i) + (1))) (nI_add (i) (1)) ?_
  refine wp_sload (v := X.2 ((i) + (1))) d_L_law_1503 (vp_in_nI (by omega) (by omega)) (congrArg (X.2) (nI_clamp (by omega))) ?_
  refine wp_aload_nF 3 d_L_law_1504 rfl rfl ?_
  refine wp_iload_n 0 d_L_law_1505 rfl rfl ?_
  refine wp_iconst (v0 := 2) d_L_law_1506 rfl ?_
  refine wp_iadd d_L_law_1507 ?_
  refine wp_v (v0 := nI ((i) + (2))) (nI_add (i) (2)) ?_
  refine wp_sload (v := X.2 ((i) + (2))) d_L_law_1508 (vp_in_nI (by omega) (by omega)) (congrArg (X.2) (nI_clamp (by omega))) ?_
  refine wp_aload_nF 3 d_L_law_1509 rfl rfl ?_
  refine wp_iload_n 0 d_L_law_1510 rfl rfl ?_
  refine wp_iconst (v0 := 3) d_L_law_1511 rfl ?_
  refine wp_iadd d_L_law_1512 ?_
  refine wp_v (v0 := nI ((i) + (3))) (nI_add (i) (3)) ?_
  refine wp_sload (v := X.2 ((i) + (3))) d_L_law_1513 (vp_in_nI (by omega) (by omega)) (congrArg (X.2) (nI_clamp (by omega))) ?_
  refine wp_virtual0 (As := [.int (X.2 ((i) + (1))), .int (X.2 ((i) + (2))), .int (X.2 ((i) + (3)))]) d_L_law_1514 lk_L_212 mv_X10_spread in_X10_spread se_X10_spread (Nat.le_of_ble_eq_true rfl) (Nat.le_of_ble_eq_true rfl) (hp_80 _ _ _ _ _) rfl hM (fun v2 h2 q2 => ?_)
  obtain ⟨rfl, m2, v2, rfl, hR2⟩ := q2
  show WP _ _ _ _ _ 1517 _ [.int z1, .int z1] (HP zc1 w1 m2 v2 E1) _
  refine wp_icmp_eq 1713 d_L_law_1517 rfl (fun _ => ?_) (fun q => absurd rfl q)
  exact K zc1 w1 m2 v2 E1 hR2
theorem law_shelf {X : kX} (hX : X.1 ≤ 2560) {i : Nat} (hi5 : i + 5 ≤ X.1) {mc ms : Nat} {Q : Option Value → kH → Prop} (K : ∀ (c w m v : kZ) (E : kH), Rel c w m E → WP X 31 mc ms yLaw 1713 [(3, .int (nI (i))), (2, .ref (80)), (1, .ref (0)), (0, .float 0)] [] (HP c w m v E) Q) (c w m v : kZ) (E : kH) (hR : Rel c w m E) : WP X 31 (2 + mc) (234 + ms) yLaw 1522 [(3, .int (nI (i))), (2, .ref (80)), (1, .ref (0)), (0, .float 0)] [] (HP c w m v E) Q := by
  refine wp_aload_n 2 d_L_law_1522 rfl rfl ?_
  refine wp_aload_nF 3 d_L_law_1523 rfl rfl ?_
  refine wp_iload_n 0 d_L_law_1524 rfl rfl ?_
  refine wp_iconst (v0 := 1) d_L_law_1525 rfl ?_
  refine wp_iadd d_L_law_1526 ?_
  refine wp_v (v0 := nI ((i) + (1))) (nI_add (i) (1)) ?_
  refine wp_sload (v := X.2 ((i) + (1))) d_L_law_1527 (vp_in_nI (by omega) (by omega)) (congrArg (X.2) (nI_clamp (by omega))) ?_
  refine wp_aload_nF 3 d_L_law_1528 rfl rfl ?_
  refine wp_iload_n 0 d_L_law_1529 rfl rfl ?_
  refine wp_iconst (v0 := 2) d_L_law_1530 rfl ?_
  refine wp_iadd d_L_law_1531 ?_
  refine wp_v (v0 := nI ((i) + (2))) (nI_add (i) (2)) ?_
  refine wp_sload (v := X.2 ((i) + (2))) d_L_law_1532 (vp_in_nI (by omega) (by omega)) (congrArg (X.2) (nI_clamp (by omega))) ?_
  refine wp_aload_nF 3 d_L_law_1533 rfl rfl ?_
  refine wp_iload_n 0 d_L_law_1534 rfl rfl ?_
  refine wp_iconst (v0 := 3) d_L_law_1535 rfl ?_
  refine wp_iadd d_L_law_1536 ?_
  refine wp_v (v0 := nI ((i) + (3))) (nI_add (i) (3)) ?_
  refine wp_sload (v := X.2 ((i) + (3))) d_L_law_1537 (vp_in_nI (by omega) (by omega)) (congrArg (X.2) (nI_clamp (by omega))) ?_
  refine wp_virtual (As := [.int (X.2 ((i) + (1))), .int (X.2 ((i) + (2))), .int (X.2 ((i) + (3)))]) (mc1 := 2) (ms1 := 234) d_L_law_1538 lk_L_213 mv_X9_shelf in_X9_shelf se_X9_shelf (Nat.le_of_ble_eq_true rfl) (Nat.le_of_ble_eq_true rfl) (hp_0 _ _ _ _ _) rfl rfl ((kJn.up (j_shelf (X := X) (d := 30) (by omega) (X.2 ((i) + (1))) (X.2 ((i) + (2))) (X.2 ((i) + (3)))) (by decide) (by decide)) c w m v E hR) (fun v1 h1 q1 => ?_)
  obtain ⟨z1, zc1, w1, E1, rfl, rfl, hM⟩ := q1
  show WP _ _ _ _ _ 1541 _ [.int z1] (HP zc1 w1 m v E1) _
  refine wp_aload_n 1 d_L_law_1541 rfl rfl ?_
  refine wp_aload_nF 3 d_L_law_1542 rfl rfl ?_
  refine wp_iload_n 0 d_L_law_1543 rfl rfl ?_
  refine wp_iconst (v0 := 1) d_L_law_1544 rfl ?_
  refine wp_iadd d_L_law_1545 ?_
  refine wp_v (v0 := nI ((i) + (1))) (nI_add (i) (1)) ?_
  refine wp_sload (v := X.2 ((i) + (1))) d_L_law_1546 (vp_in_nI (by omega) (by omega)) (congrArg (X.2) (nI_clamp (by omega))) ?_
  refine wp_aload_nF 3 d_L_law_1547 rfl rfl ?_
  refine wp_iload_n 0 d_L_law_1548 rfl rfl ?_
  refine wp_iconst (v0 := 2) d_L_law_1549 rfl ?_
  refine wp_iadd d_L_law_1550 ?_
  refine wp_v (v0 := nI ((i) + (2))) (nI_add (i) (2)) ?_
  refine wp_sload (v := X.2 ((i) + (2))) d_L_law_1551 (vp_in_nI (by omega) (by omega)) (congrArg (X.2) (nI_clamp (by omega))) ?_
  refine wp_aload_nF 3 d_L_law_1552 rfl rfl ?_
  refine wp_iload_n 0 d_L_law_1553 rfl rfl ?_
  refine wp_iconst (v0 := 3) d_L_law_1554 rfl ?_
  refine wp_iadd d_L_law_1555 ?_
  refine wp_v (v0 := nI ((i) + (3))) (nI_add (i) (3)) ?_
  refine wp_sload (v := X.2 ((i) + (3))) d_L_law_1556 (vp_in_nI (by omega) (by omega)) (congrArg (X.2) (nI_clamp (by omega))) ?_
  refine wp_virtual0 (As := [.int (X.2 ((i) + (1))), .int (X.2 ((i) + (2))), .int (X.2 ((i) + (3)))]) d_L_law_1557 lk_L_216 mv_X10_shelf in_X10_shelf se_X10_shelf (Nat.le_of_ble_eq_true rfl) (Nat.le_of_ble_eq_true rfl) (hp_80 _ _ _ _ _) rfl hM (fun v2 h2 q2 => ?_)
  obtain ⟨rfl, m2, v2, rfl, hR2⟩ := q2
  show WP _ _ _ _ _ 1560 _ [.int z1, .int z1] (HP zc1 w1 m2 v2 E1) _
  refine wp_icmp_eq 1713 d_L_law_1560 rfl (fun _ => ?_) (fun q => absurd rfl q)
  exact K zc1 w1 m2 v2 E1 hR2
theorem law_taken {X : kX} (hX : X.1 ≤ 2560) {i : Nat} (hi5 : i + 5 ≤ X.1) {mc ms : Nat} {Q : Option Value → kH → Prop} (K : ∀ (c w m v : kZ) (E : kH), Rel c w m E → WP X 31 mc ms yLaw 1713 [(3, .int (nI (i))), (2, .ref (80)), (1, .ref (0)), (0, .float 0)] [] (HP c w m v E) Q) (c w m v : kZ) (E : kH) (hR : Rel c w m E) : WP X 31 (2 + mc) (234 + ms) yLaw 1565 [(3, .int (nI (i))), (2, .ref (80)), (1, .ref (0)), (0, .float 0)] [] (HP c w m v E) Q := by
  refine wp_aload_n 2 d_L_law_1565 rfl rfl ?_
  refine wp_aload_nF 3 d_L_law_1566 rfl rfl ?_
  refine wp_iload_n 0 d_L_law_1567 rfl rfl ?_
  refine wp_iconst (v0 := 1) d_L_law_1568 rfl ?_
  refine wp_iadd d_L_law_1569 ?_
  refine wp_v (v0 := nI ((i) + (1))) (nI_add (i) (1)) ?_
  refine wp_sload (v := X.2 ((i) + (1))) d_L_law_1570 (vp_in_nI (by omega) (by omega)) (congrArg (X.2) (nI_clamp (by omega))) ?_
  refine wp_aload_nF 3 d_L_law_1571 rfl rfl ?_
  refine wp_iload_n 0 d_L_law_1572 rfl rfl ?_
  refine wp_iconst (v0 := 2) d_L_law_1573 rfl ?_
  refine wp_iadd d_L_law_1574 ?_
  refine wp_v (v0 := nI ((i) + (2))) (nI_add (i) (2)) ?_
  refine wp_sload (v := X.2 ((i) + (2))) d_L_law_1575 (vp_in_nI (by omega) (by omega)) (congrArg (X.2) (nI_clamp (by omega))) ?_
  refine wp_virtual (As := [.int (X.2 ((i) + (1))), .int (X.2 ((i) + (2)))]) (mc1 := 2) (ms1 := 234) d_L_law_1576 lk_L_217 mv_X9_taken in_X9_taken se_X9_taken (Nat.le_of_ble_eq_true rfl) (Nat.le_of_ble_eq_true rfl) (hp_0 _ _ _ _ _) rfl rfl ((kJn.up (j_taken (X := X) (d := 30) (by omega) (X.2 ((i) + (1))) (X.2 ((i) + (2)))) (by decide) (by decide)) c w m v E hR) (fun v1 h1 q1 => ?_)
  obtain ⟨z1, zc1, w1, E1, rfl, rfl, hM⟩ := q1
  show WP _ _ _ _ _ 1579 _ [.int z1] (HP zc1 w1 m v E1) _
  refine wp_aload_n 1 d_L_law_1579 rfl rfl ?_
  refine wp_aload_nF 3 d_L_law_1580 rfl rfl ?_
  refine wp_iload_n 0 d_L_law_1581 rfl rfl ?_
  refine wp_iconst (v0 := 1) d_L_law_1582 rfl ?_
  refine wp_iadd d_L_law_1583 ?_
  refine wp_v (v0 := nI ((i) + (1))) (nI_add (i) (1)) ?_
  refine wp_sload (v := X.2 ((i) + (1))) d_L_law_1584 (vp_in_nI (by omega) (by omega)) (congrArg (X.2) (nI_clamp (by omega))) ?_
  refine wp_aload_nF 3 d_L_law_1585 rfl rfl ?_
  refine wp_iload_n 0 d_L_law_1586 rfl rfl ?_
  refine wp_iconst (v0 := 2) d_L_law_1587 rfl ?_
  refine wp_iadd d_L_law_1588 ?_
  refine wp_v (v0 := nI ((i) + (2))) (nI_add (i) (2)) ?_
  refine wp_sload (v := X.2 ((i) + (2))) d_L_law_1589 (vp_in_nI (by omega) (by omega)) (congrArg (X.2) (nI_clamp (by omega))) ?_
  refine wp_virtual0 (As := [.int (X.2 ((i) + (1))), .int (X.2 ((i) + (2)))]) d_L_law_1590 lk_L_220 mv_X10_taken in_X10_taken se_X10_taken (Nat.le_of_ble_eq_true rfl) (Nat.le_of_ble_eq_true rfl) (hp_80 _ _ _ _ _) rfl hM (fun v2 h2 q2 => ?_)
  obtain ⟨rfl, m2, v2, rfl, hR2⟩ := q2
  show WP _ _ _ _ _ 1593 _ [.int z1, .int z1] (HP zc1 w1 m2 v2 E1) _
  refine wp_icmp_eq 1713 d_L_law_1593 rfl (fun _ => ?_) (fun q => absurd rfl q)
  exact K zc1 w1 m2 v2 E1 hR2
theorem law_act {X : kX} (hX : X.1 ≤ 2560) {i : Nat} (hi5 : i + 5 ≤ X.1) {mc ms : Nat} {Q : Option Value → kH → Prop} (K : ∀ (c w m v : kZ) (E : kH), Rel c w m E → WP X 31 mc ms yLaw 1713 [(3, .int (nI (i))), (2, .ref (80)), (1, .ref (0)), (0, .float 0)] [] (HP c w m v E) Q) (c w m v : kZ) (E : kH) (hR : Rel c w m E) : WP X 31 (2 + mc) (234 + ms) yLaw 1598 [(3, .int (nI (i))), (2, .ref (80)), (1, .ref (0)), (0, .float 0)] [] (HP c w m v E) Q := by
  refine wp_aload_n 2 d_L_law_1598 rfl rfl ?_
  refine wp_aload_nF 3 d_L_law_1599 rfl rfl ?_
  refine wp_iload_n 0 d_L_law_1600 rfl rfl ?_
  refine wp_iconst (v0 := 1) d_L_law_1601 rfl ?_
  refine wp_iadd d_L_law_1602 ?_
  refine wp_v (v0 := nI ((i) + (1))) (nI_add (i) (1)) ?_
  refine wp_sload (v := X.2 ((i) + (1))) d_L_law_1603 (vp_in_nI (by omega) (by omega)) (congrArg (X.2) (nI_clamp (by omega))) ?_
  refine wp_aload_nF 3 d_L_law_1604 rfl rfl ?_
  refine wp_iload_n 0 d_L_law_1605 rfl rfl ?_
  refine wp_iconst (v0 := 2) d_L_law_1606 rfl ?_
  refine wp_iadd d_L_law_1607 ?_
  refine wp_v (v0 := nI ((i) + (2))) (nI_add (i) (2)) ?_
  refine wp_sload (v := X.2 ((i) + (2))) d_L_law_1608 (vp_in_nI (by omega) (by omega)) (congrArg (X.2) (nI_clamp (by omega))) ?_
  refine wp_aload_nF 3 d_L_law_1609 rfl rfl ?_
  refine wp_iload_n 0 d_L_law_1610 rfl rfl ?_
  refine wp_iconst (v0 := 3) d_L_law_1611 rfl ?_
  refine wp_iadd d_L_law_1612 ?_
  refine wp_v (v0 := nI ((i) + (3))) (nI_add (i) (3)) ?_
  refine wp_sload (v := X.2 ((i) + (3))) d_L_law_1613 (vp_in_nI (by omega) (by omega)) (congrArg (X.2) (nI_clamp (by omega))) ?_
  refine wp_virtual (As := [.int (X.2 ((i) + (1))), .int (X.2 ((i) + (2))), .int (X.2 ((i) + (3)))]) (mc1 := 2) (ms1 := 234) d_L_law_1614 lk_L_221 mv_X9_act in_X9_act se_X9_act (Nat.le_of_ble_eq_true rfl) (Nat.le_of_ble_eq_true rfl) (hp_0 _ _ _ _ _) rfl rfl ((kJn.up (j_act (X := X) (d := 30) (by omega) (X.2 ((i) + (1))) (X.2 ((i) + (2))) (X.2 ((i) + (3)))) (by decide) (by decide)) c w m v E hR) (fun v1 h1 q1 => ?_)
  obtain ⟨z1, zc1, w1, E1, rfl, rfl, hM⟩ := q1
  show WP _ _ _ _ _ 1617 _ [.int z1] (HP zc1 w1 m v E1) _
  refine wp_aload_n 1 d_L_law_1617 rfl rfl ?_
  refine wp_aload_nF 3 d_L_law_1618 rfl rfl ?_
  refine wp_iload_n 0 d_L_law_1619 rfl rfl ?_
  refine wp_iconst (v0 := 1) d_L_law_1620 rfl ?_
  refine wp_iadd d_L_law_1621 ?_
  refine wp_v (v0 := nI ((i) + (1))) (nI_add (i) (1)) ?_
  refine wp_sload (v := X.2 ((i) + (1))) d_L_law_1622 (vp_in_nI (by omega) (by omega)) (congrArg (X.2) (nI_clamp (by omega))) ?_
  refine wp_aload_nF 3 d_L_law_1623 rfl rfl ?_
  refine wp_iload_n 0 d_L_law_1624 rfl rfl ?_
  refine wp_iconst (v0 := 2) d_L_law_1625 rfl ?_
  refine wp_iadd d_L_law_1626 ?_
  refine wp_v (v0 := nI ((i) + (2))) (nI_add (i) (2)) ?_
  refine wp_sload (v := X.2 ((i) + (2))) d_L_law_1627 (vp_in_nI (by omega) (by omega)) (congrArg (X.2) (nI_clamp (by omega))) ?_
  refine wp_aload_nF 3 d_L_law_1628 rfl rfl ?_
  refine wp_iload_n 0 d_L_law_1629 rfl rfl ?_
  refine wp_iconst (v0 := 3) d_L_law_1630 rfl ?_
  refine wp_iadd d_L_law_1631 ?_
  refine wp_v (v0 := nI ((i) + (3))) (nI_add (i) (3)) ?_
  refine wp_sload (v := X.2 ((i) + (3))) d_L_law_1632 (vp_in_nI (by omega) (by omega)) (congrArg (X.2) (nI_clamp (by omega))) ?_
  refine wp_virtual0 (As := [.int (X.2 ((i) + (1))), .int (X.2 ((i) + (2))), .int (X.2 ((i) + (3)))]) d_L_law_1633 lk_L_224 mv_X10_act in_X10_act se_X10_act (Nat.le_of_ble_eq_true rfl) (Nat.le_of_ble_eq_true rfl) (hp_80 _ _ _ _ _) rfl hM (fun v2 h2 q2 => ?_)
  obtain ⟨rfl, m2, v2, rfl, hR2⟩ := q2
  show WP _ _ _ _ _ 1636 _ [.int z1, .int z1] (HP zc1 w1 m2 v2 E1) _
  refine wp_icmp_eq 1713 d_L_law_1636 rfl (fun _ => ?_) (fun q => absurd rfl q)
  exact K zc1 w1 m2 v2 E1 hR2
theorem law_trace {X : kX} (hX : X.1 ≤ 2560) {i : Nat} (hi5 : i + 5 ≤ X.1) {mc ms : Nat} {Q : Option Value → kH → Prop} (K : ∀ (c w m v : kZ) (E : kH), Rel c w m E → WP X 31 mc ms yLaw 1713 [(3, .int (nI (i))), (2, .ref (80)), (1, .ref (0)), (0, .float 0)] [] (HP c w m v E) Q) (c w m v : kZ) (E : kH) (hR : Rel c w m E) : WP X 31 (2 + mc) (234 + ms) yLaw 1641 [(3, .int (nI (i))), (2, .ref (80)), (1, .ref (0)), (0, .float 0)] [] (HP c w m v E) Q := by
  refine wp_aload_n 2 d_L_law_1641 rfl rfl ?_
  refine wp_aload_nF 3 d_L_law_1642 rfl rfl ?_
  refine wp_iload_n 0 d_L_law_1643 rfl rfl ?_
  refine wp_iconst (v0 := 1) d_L_law_1644 rfl ?_
  refine wp_iadd d_L_law_1645 ?_
  refine wp_v (v0 := nI ((i) + (1))) (nI_add (i) (1)) ?_
  refine wp_sload (v := X.2 ((i) + (1))) d_L_law_1646 (vp_in_nI (by omega) (by omega)) (congrArg (X.2) (nI_clamp (by omega))) ?_
  refine wp_virtual (As := [.int (X.2 ((i) + (1)))]) (mc1 := 2) (ms1 := 234) d_L_law_1647 lk_L_225 mv_X9_trace in_X9_trace se_X9_trace (Nat.le_of_ble_eq_true rfl) (Nat.le_of_ble_eq_true rfl) (hp_0 _ _ _ _ _) rfl rfl ((kJn.up (j_trace (X := X) (d := 30) (by omega) (X.2 ((i) + (1)))) (by decide) (by decide)) c w m v E hR) (fun v1 h1 q1 => ?_)
  obtain ⟨z1, zc1, w1, E1, rfl, rfl, hM⟩ := q1
  show WP _ _ _ _ _ 1650 _ [.int z1] (HP zc1 w1 m v E1) _
  refine wp_aload_n 1 d_L_law_1650 rfl rfl ?_
  refine wp_aload_nF 3 d_L_law_1651 rfl rfl ?_
  refine wp_iload_n 0 d_L_law_1652 rfl rfl ?_
  refine wp_iconst (v0 := 1) d_L_law_1653 rfl ?_
  refine wp_iadd d_L_law_1654 ?_
  refine wp_v (v0 := nI ((i) + (1))) (nI_add (i) (1)) ?_
  refine wp_sload (v := X.2 ((i) + (1))) d_L_law_1655 (vp_in_nI (by omega) (by omega)) (congrArg (X.2) (nI_clamp (by omega))) ?_
  refine wp_virtual0 (As := [.int (X.2 ((i) + (1)))]) d_L_law_1656 lk_L_228 mv_X10_trace in_X10_trace se_X10_trace (Nat.le_of_ble_eq_true rfl) (Nat.le_of_ble_eq_true rfl) (hp_80 _ _ _ _ _) rfl hM (fun v2 h2 q2 => ?_)
  obtain ⟨rfl, m2, v2, rfl, hR2⟩ := q2
  show WP _ _ _ _ _ 1659 _ [.int z1, .int z1] (HP zc1 w1 m2 v2 E1) _
  refine wp_icmp_eq 1713 d_L_law_1659 rfl (fun _ => ?_) (fun q => absurd rfl q)
  exact K zc1 w1 m2 v2 E1 hR2
theorem law_many {X : kX} (hX : X.1 ≤ 2560) {i : Nat} (hi5 : i + 5 ≤ X.1) {mc ms : Nat} {Q : Option Value → kH → Prop} (K : ∀ (c w m v : kZ) (E : kH), Rel c w m E → WP X 31 mc ms yLaw 1713 [(3, .int (nI (i))), (2, .ref (80)), (1, .ref (0)), (0, .float 0)] [] (HP c w m v E) Q) (c w m v : kZ) (E : kH) (hR : Rel c w m E) : WP X 31 (2 + mc) (234 + ms) yLaw 1664 [(3, .int (nI (i))), (2, .ref (80)), (1, .ref (0)), (0, .float 0)] [] (HP c w m v E) Q := by
  refine wp_aload_n 2 d_L_law_1664 rfl rfl ?_
  refine wp_aload_nF 3 d_L_law_1665 rfl rfl ?_
  refine wp_iload_n 0 d_L_law_1666 rfl rfl ?_
  refine wp_iconst (v0 := 1) d_L_law_1667 rfl ?_
  refine wp_iadd d_L_law_1668 ?_
  refine wp_v (v0 := nI ((i) + (1))) (nI_add (i) (1)) ?_
  refine wp_sload (v := X.2 ((i) + (1))) d_L_law_1669 (vp_in_nI (by omega) (by omega)) (congrArg (X.2) (nI_clamp (by omega))) ?_
  refine wp_virtual (As := [.int (X.2 ((i) + (1)))]) (mc1 := 2) (ms1 := 234) d_L_law_1670 lk_L_229 mv_X9_many in_X9_many se_X9_many (Nat.le_of_ble_eq_true rfl) (Nat.le_of_ble_eq_true rfl) (hp_0 _ _ _ _ _) rfl rfl ((kJn.up (j_many (X := X) (d := 30) (by omega) (X.2 ((i) + (1)))) (by decide) (by decide)) c w m v E hR) (fun v1 h1 q1 => ?_)
  obtain ⟨z1, zc1, w1, E1, rfl, rfl, hM⟩ := q1
  show WP _ _ _ _ _ 1673 _ [.int z1] (HP zc1 w1 m v E1) _
  refine wp_aload_n 1 d_L_law_1673 rfl rfl ?_
  refine wp_aload_nF 3 d_L_law_1674 rfl rfl ?_
  refine wp_iload_n 0 d_L_law_1675 rfl rfl ?_
  refine wp_iconst (v0 := 1) d_L_law_1676 rfl ?_
  refine wp_iadd d_L_law_1677 ?_
  refine wp_v (v0 := nI ((i) + (1))) (nI_add (i) (1)) ?_
  refine wp_sload (v := X.2 ((i) + (1))) d_L_law_1678 (vp_in_nI (by omega) (by omega)) (congrArg (X.2) (nI_clamp (by omega))) ?_
  refine wp_virtual0 (As := [.int (X.2 ((i) + (1)))]) d_L_law_1679 lk_L_232 mv_X10_many in_X10_many se_X10_many (Nat.le_of_ble_eq_true rfl) (Nat.le_of_ble_eq_true rfl) (hp_80 _ _ _ _ _) rfl hM (fun v2 h2 q2 => ?_)
  obtain ⟨rfl, m2, v2, rfl, hR2⟩ := q2
  show WP _ _ _ _ _ 1682 _ [.int z1, .int z1] (HP zc1 w1 m2 v2 E1) _
  refine wp_icmp_eq 1713 d_L_law_1682 rfl (fun _ => ?_) (fun q => absurd rfl q)
  exact K zc1 w1 m2 v2 E1 hR2
theorem law_keep {X : kX} (hX : X.1 ≤ 2560) {i : Nat} (hi5 : i + 5 ≤ X.1) {mc ms : Nat} {Q : Option Value → kH → Prop} (K : ∀ (c w m v : kZ) (E : kH), Rel c w m E → WP X 31 mc ms yLaw 1713 [(3, .int (nI (i))), (2, .ref (80)), (1, .ref (0)), (0, .float 0)] [] (HP c w m v E) Q) (c w m v : kZ) (E : kH) (hR : Rel c w m E) : WP X 31 (2 + mc) (234 + ms) yLaw 1687 [(3, .int (nI (i))), (2, .ref (80)), (1, .ref (0)), (0, .float 0)] [] (HP c w m v E) Q := by
  refine wp_aload_n 2 d_L_law_1687 rfl rfl ?_
  refine wp_virtual (As := []) (mc1 := 2) (ms1 := 234) d_L_law_1688 lk_L_233 mv_X9_keep in_X9_keep se_X9_keep (Nat.le_of_ble_eq_true rfl) (Nat.le_of_ble_eq_true rfl) (hp_0 _ _ _ _ _) rfl rfl ((kJn.up (j_keep (X := X) (d := 30) (by omega) ) (by decide) (by decide)) c w m v E hR) (fun v1 h1 q1 => ?_)
  obtain ⟨z1, zc1, w1, E1, rfl, rfl, hM⟩ := q1
  show WP _ _ _ _ _ 1691 _ [.int z1] (HP zc1 w1 m v E1) _
  refine wp_aload_n 1 d_L_law_1691 rfl rfl ?_
  refine wp_virtual0 (As := []) d_L_law_1692 lk_L_236 mv_X10_keep in_X10_keep se_X10_keep (Nat.le_of_ble_eq_true rfl) (Nat.le_of_ble_eq_true rfl) (hp_80 _ _ _ _ _) rfl hM (fun v2 h2 q2 => ?_)
  obtain ⟨rfl, m2, v2, rfl, hR2⟩ := q2
  show WP _ _ _ _ _ 1695 _ [.int z1, .int z1] (HP zc1 w1 m2 v2 E1) _
  refine wp_icmp_eq 1713 d_L_law_1695 rfl (fun _ => ?_) (fun q => absurd rfl q)
  exact K zc1 w1 m2 v2 E1 hR2
theorem law_again {X : kX} (hX : X.1 ≤ 2560) {i : Nat} (hi5 : i + 5 ≤ X.1) {mc ms : Nat} {Q : Option Value → kH → Prop} (K : ∀ (c w m v : kZ) (E : kH), Rel c w m E → WP X 31 mc ms yLaw 1713 [(3, .int (nI (i))), (2, .ref (80)), (1, .ref (0)), (0, .float 0)] [] (HP c w m v E) Q) (c w m v : kZ) (E : kH) (hR : Rel c w m E) : WP X 31 (2 + mc) (234 + ms) yLaw 1700 [(3, .int (nI (i))), (2, .ref (80)), (1, .ref (0)), (0, .float 0)] [] (HP c w m v E) Q := by
  refine wp_aload_n 2 d_L_law_1700 rfl rfl ?_
  refine wp_virtual (As := []) (mc1 := 2) (ms1 := 234) d_L_law_1701 lk_L_237 mv_X9_again in_X9_again se_X9_again (Nat.le_of_ble_eq_true rfl) (Nat.le_of_ble_eq_true rfl) (hp_0 _ _ _ _ _) rfl rfl ((kJn.up (j_again (X := X) (d := 30) (by omega) ) (by decide) (by decide)) c w m v E hR) (fun v1 h1 q1 => ?_)
  obtain ⟨z1, zc1, w1, E1, rfl, rfl, hM⟩ := q1
  show WP _ _ _ _ _ 1704 _ [.int z1] (HP zc1 w1 m v E1) _
  refine wp_aload_n 1 d_L_law_1704 rfl rfl ?_
  refine wp_virtual0 (As := []) d_L_law_1705 lk_L_240 mv_X10_again in_X10_again se_X10_again (Nat.le_of_ble_eq_true rfl) (Nat.le_of_ble_eq_true rfl) (hp_80 _ _ _ _ _) rfl hM (fun v2 h2 q2 => ?_)
  obtain ⟨rfl, m2, v2, rfl, hR2⟩ := q2
  show WP _ _ _ _ _ 1708 _ [.int z1, .int z1] (HP zc1 w1 m2 v2 E1) _
  refine wp_icmp_eq 1713 d_L_law_1708 rfl (fun _ => ?_) (fun q => absurd rfl q)
  exact K zc1 w1 m2 v2 E1 hR2

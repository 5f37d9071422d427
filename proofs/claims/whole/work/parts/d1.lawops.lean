/-! ===== the law: each call of both ===== -/
theorem rule_lk : Cond.methodLink RL 97 yX12_rule ∈ gw_tbl ∧ Cond.initialized yX12_rule.cls ∈ gw_tbl ∧ Cond.codeWith yX12_rule cX12_rule 3 (some .int) [(38, 42, 45, 123)] ∈ gw_tbl ∧ (yX12_rule.cls ≠ "java/lang/invoke/MethodHandle" ∧ yX12_rule.cls ≠ "java/lang/invoke/VarHandle" ∧ (parseMethodDescriptor yX12_rule.desc).map (fun d => d.parameters.length) = some 1) := ⟨gw_in (by decide +kernel) (by decide +kernel), gw_in (by decide +kernel) (by decide +kernel), gw_in (by decide +kernel) (by decide +kernel), by decide, by decide, by decide +kernel⟩
theorem in_X12_rule : Cond.instanceMethod yX12_rule ∈ gw_tbl := gw_in (by decide +kernel) (by decide +kernel)
theorem se_X12_rule : Cond.selects (clN 12) yX12_rule yX12_rule ∈ gw_tbl := gw_in (by decide +kernel) (by decide +kernel)
theorem plan_lk : Cond.methodLink RL 75 yL_planned ∈ gw_tbl ∧ Cond.initialized yL_planned.cls ∈ gw_tbl ∧ Cond.codeWith yL_planned cL_planned 4 (some .int) [(0, 9, 12, 13)] ∈ gw_tbl ∧ (yL_planned.cls ≠ "java/lang/invoke/MethodHandle" ∧ yL_planned.cls ≠ "java/lang/invoke/VarHandle" ∧ (parseMethodDescriptor yL_planned.desc).map (fun d => d.parameters.length) = some 3) := ⟨gw_in (by decide +kernel) (by decide +kernel), gw_in (by decide +kernel) (by decide +kernel), gw_in (by decide +kernel) (by decide +kernel), by decide, by decide, by decide +kernel⟩
theorem plan_st : Cond.static yL_planned ∈ gw_tbl := gw_in (by decide +kernel) (by decide +kernel)
section LOPS
variable {Γ : Cx} {i k n L : Nat} {w : AW} {xs : Nat → Int32} {a5 a6 : Option AV}
theorem op_layer (h : OKB Γ cL_law RL 7) (hRm : cxR Γ = room_1) (hS : SCR Γ L xs) (hR : REL i w w) (h0 : w.1 0 = (109, 0)) (hi : 6 * i + 5 < L) (hk : k + 9 ≤ 601024) (hn : n + 906 ≤ 7293034) (kk : ∀ u, REL (i + 1) u u → GG Γ 1636 [some (ar 20000), some (ar 0), some (ar 400), some (ar 1900), some (ai (6 * (i : Int))), a5, a6] [] u (k + 9) (n + 906)) : GG Γ 204 [some (ar 20000), some (ar 0), some (ar 400), some (ar 1900), some (ai (6 * (i : Int))), a5, a6] [] w k n := by
  refine g_aload_n h dL_law_204 rfl ?_
  refine g_sarg h hS (i := i) (j := 1) rfl rfl (by omega) dL_law_205 dL_law_206 dL_law_208 dL_law_209 dL_law_210 ?_
  refine g_sarg h hS (i := i) (j := 2) rfl rfl (by omega) dL_law_211 dL_law_212 dL_law_214 dL_law_215 dL_law_216 ?_
  refine g_sarg h hS (i := i) (j := 3) rfl rfl (by omega) dL_law_217 dL_law_218 dL_law_220 dL_law_221 dL_law_222 ?_
  refine g_sarg h hS (i := i) (j := 4) rfl rfl (by omega) dL_law_223 dL_law_224 dL_law_226 dL_law_227 dL_law_228 ?_
  refine g_sarg h hS (i := i) (j := 5) rfl rfl (by omega) dL_law_229 dL_law_230 dL_law_232 dL_law_233 dL_law_234 ?_
  refine g_both h hRm rfl (as := [ai (xs (6 * i + 1)).toInt, ai (xs (6 * i + 2)).toInt, ai (xs (6 * i + 3)).toInt, ai (xs (6 * i + 4)).toInt, ai (xs (6 * i + 5)).toInt]) (K_layer hR (i32_toInt _) (i32_toInt _) (i32_toInt _) (i32_toInt _) (i32_toInt _)) h0 clL_19 clL_23 rfl rfl in_X9_layer se_X9_layer rfl in_X12_layer se_X12_layer (by decide) (by decide) hk hn dL_law_235 dL_law_269 dL_law_272 (by decide) (fun z w1 k1 n1 g => ?_) kk
  refine g_aload_n h dL_law_238 rfl ?_
  refine g_sarg h hS (i := i) (j := 1) rfl rfl (by omega) dL_law_239 dL_law_240 dL_law_242 dL_law_243 dL_law_244 ?_
  refine g_sarg h hS (i := i) (j := 2) rfl rfl (by omega) dL_law_245 dL_law_246 dL_law_248 dL_law_249 dL_law_250 ?_
  refine g_sarg h hS (i := i) (j := 3) rfl rfl (by omega) dL_law_251 dL_law_252 dL_law_254 dL_law_255 dL_law_256 ?_
  refine g_sarg h hS (i := i) (j := 4) rfl rfl (by omega) dL_law_257 dL_law_258 dL_law_260 dL_law_261 dL_law_262 ?_
  refine g_sarg h hS (i := i) (j := 5) rfl rfl (by omega) dL_law_263 dL_law_264 dL_law_266 dL_law_267 dL_law_268 ?_
  exact g
theorem op_set (h : OKB Γ cL_law RL 7) (hRm : cxR Γ = room_1) (hS : SCR Γ L xs) (hR : REL i w w) (h0 : w.1 0 = (109, 0)) (hi : 6 * i + 5 < L) (hk : k + 9 ≤ 601024) (hn : n + 906 ≤ 7293034) (kk : ∀ u, REL (i + 1) u u → GG Γ 1636 [some (ar 20000), some (ar 0), some (ar 400), some (ar 1900), some (ai (6 * (i : Int))), a5, a6] [] u (k + 9) (n + 906)) : GG Γ 277 [some (ar 20000), some (ar 0), some (ar 400), some (ar 1900), some (ai (6 * (i : Int))), a5, a6] [] w k n := by
  refine g_aload_n h dL_law_277 rfl ?_
  refine g_sarg h hS (i := i) (j := 1) rfl rfl (by omega) dL_law_278 dL_law_279 dL_law_281 dL_law_282 dL_law_283 ?_
  refine g_sarg h hS (i := i) (j := 2) rfl rfl (by omega) dL_law_284 dL_law_285 dL_law_287 dL_law_288 dL_law_289 ?_
  refine g_sarg h hS (i := i) (j := 3) rfl rfl (by omega) dL_law_290 dL_law_291 dL_law_293 dL_law_294 dL_law_295 ?_
  refine g_both h hRm rfl (as := [ai (xs (6 * i + 1)).toInt, ai (xs (6 * i + 2)).toInt, ai (xs (6 * i + 3)).toInt]) (K_set hR (i32_toInt _) (i32_toInt _) (i32_toInt _)) h0 clL_24 clL_28 rfl rfl in_X9_set se_X9_set rfl in_X12_set se_X12_set (by decide) (by decide) hk hn dL_law_296 dL_law_318 dL_law_321 (by decide) (fun z w1 k1 n1 g => ?_) kk
  refine g_aload_n h dL_law_299 rfl ?_
  refine g_sarg h hS (i := i) (j := 1) rfl rfl (by omega) dL_law_300 dL_law_301 dL_law_303 dL_law_304 dL_law_305 ?_
  refine g_sarg h hS (i := i) (j := 2) rfl rfl (by omega) dL_law_306 dL_law_307 dL_law_309 dL_law_310 dL_law_311 ?_
  refine g_sarg h hS (i := i) (j := 3) rfl rfl (by omega) dL_law_312 dL_law_313 dL_law_315 dL_law_316 dL_law_317 ?_
  exact g
theorem op_of (h : OKB Γ cL_law RL 7) (hRm : cxR Γ = room_1) (hS : SCR Γ L xs) (hR : REL i w w) (h0 : w.1 0 = (109, 0)) (hi : 6 * i + 5 < L) (hk : k + 9 ≤ 601024) (hn : n + 906 ≤ 7293034) (kk : ∀ u, REL (i + 1) u u → GG Γ 1636 [some (ar 20000), some (ar 0), some (ar 400), some (ar 1900), some (ai (6 * (i : Int))), a5, a6] [] u (k + 9) (n + 906)) : GG Γ 326 [some (ar 20000), some (ar 0), some (ar 400), some (ar 1900), some (ai (6 * (i : Int))), a5, a6] [] w k n := by
  refine g_aload_n h dL_law_326 rfl ?_
  refine g_sarg h hS (i := i) (j := 1) rfl rfl (by omega) dL_law_327 dL_law_328 dL_law_330 dL_law_331 dL_law_332 ?_
  refine g_sarg h hS (i := i) (j := 2) rfl rfl (by omega) dL_law_333 dL_law_334 dL_law_336 dL_law_337 dL_law_338 ?_
  refine g_sarg h hS (i := i) (j := 3) rfl rfl (by omega) dL_law_339 dL_law_340 dL_law_342 dL_law_343 dL_law_344 ?_
  refine g_both h hRm rfl (as := [ai (xs (6 * i + 1)).toInt, ai (xs (6 * i + 2)).toInt, ai (xs (6 * i + 3)).toInt]) (K_of hR (i32_toInt _) (i32_toInt _) (i32_toInt _)) h0 clL_29 clL_33 rfl rfl in_X9_of se_X9_of rfl in_X12_of se_X12_of (by decide) (by decide) hk hn dL_law_345 dL_law_367 dL_law_370 (by decide) (fun z w1 k1 n1 g => ?_) kk
  refine g_aload_n h dL_law_348 rfl ?_
  refine g_sarg h hS (i := i) (j := 1) rfl rfl (by omega) dL_law_349 dL_law_350 dL_law_352 dL_law_353 dL_law_354 ?_
  refine g_sarg h hS (i := i) (j := 2) rfl rfl (by omega) dL_law_355 dL_law_356 dL_law_358 dL_law_359 dL_law_360 ?_
  refine g_sarg h hS (i := i) (j := 3) rfl rfl (by omega) dL_law_361 dL_law_362 dL_law_364 dL_law_365 dL_law_366 ?_
  exact g
theorem op_full (h : OKB Γ cL_law RL 7) (hRm : cxR Γ = room_1) (hS : SCR Γ L xs) (hR : REL i w w) (h0 : w.1 0 = (109, 0)) (hi : 6 * i + 5 < L) (hk : k + 9 ≤ 601024) (hn : n + 906 ≤ 7293034) (kk : ∀ u, REL (i + 1) u u → GG Γ 1636 [some (ar 20000), some (ar 0), some (ar 400), some (ar 1900), some (ai (6 * (i : Int))), a5, a6] [] u (k + 9) (n + 906)) : GG Γ 375 [some (ar 20000), some (ar 0), some (ar 400), some (ar 1900), some (ai (6 * (i : Int))), a5, a6] [] w k n := by
  refine g_aload_n h dL_law_375 rfl ?_
  refine g_sarg h hS (i := i) (j := 1) rfl rfl (by omega) dL_law_376 dL_law_377 dL_law_379 dL_law_380 dL_law_381 ?_
  refine g_sarg h hS (i := i) (j := 2) rfl rfl (by omega) dL_law_382 dL_law_383 dL_law_385 dL_law_386 dL_law_387 ?_
  refine g_if_eq (tgt := 395) h dL_law_388 (by decide) (i32_toInt _) (fun c1 => ?_) (fun c1 => ?_)
  · refine g_iconst h dL_law_395 ?_
    refine g_both h hRm rfl (as := [ai (xs (6 * i + 1)).toInt, ai 0]) (K_full hR (i32_toInt _) (by decide)) h0 clL_34 clL_38 rfl rfl in_X9_full se_X9_full rfl in_X12_full se_X12_full (by decide) (by decide) hk hn dL_law_396 dL_law_420 dL_law_423 (by decide) (fun z w1 k1 n1 g => ?_) kk
    refine g_aload_n h dL_law_399 rfl ?_
    refine g_sarg h hS (i := i) (j := 1) rfl rfl (by omega) dL_law_400 dL_law_401 dL_law_403 dL_law_404 dL_law_405 ?_
    refine g_sarg h hS (i := i) (j := 2) rfl rfl (by omega) dL_law_406 dL_law_407 dL_law_409 dL_law_410 dL_law_411 ?_
    refine g_if_eq (tgt := 419) h dL_law_412 (by decide) (i32_toInt _) (fun c2 => ?_) (fun c2 => ?_)
    · refine g_iconst h dL_law_419 ?_
      exact g
    · exact absurd c1 c2
  · refine g_iconst h dL_law_391 ?_
    refine g_goto (tgt := 396) h dL_law_392 (by decide) ?_
    refine g_both h hRm rfl (as := [ai (xs (6 * i + 1)).toInt, ai 1]) (K_full hR (i32_toInt _) (by decide)) h0 clL_34 clL_38 rfl rfl in_X9_full se_X9_full rfl in_X12_full se_X12_full (by decide) (by decide) hk hn dL_law_396 dL_law_420 dL_law_423 (by decide) (fun z w1 k1 n1 g => ?_) kk
    refine g_aload_n h dL_law_399 rfl ?_
    refine g_sarg h hS (i := i) (j := 1) rfl rfl (by omega) dL_law_400 dL_law_401 dL_law_403 dL_law_404 dL_law_405 ?_
    refine g_sarg h hS (i := i) (j := 2) rfl rfl (by omega) dL_law_406 dL_law_407 dL_law_409 dL_law_410 dL_law_411 ?_
    refine g_if_eq (tgt := 419) h dL_law_412 (by decide) (i32_toInt _) (fun c2 => ?_) (fun c2 => ?_)
    · exact absurd c2 c1
    · refine g_iconst h dL_law_415 ?_
      refine g_goto (tgt := 420) h dL_law_416 (by decide) ?_
      exact g
theorem op_led (h : OKB Γ cL_law RL 7) (hRm : cxR Γ = room_1) (hS : SCR Γ L xs) (hR : REL i w w) (h0 : w.1 0 = (109, 0)) (hi : 6 * i + 5 < L) (hk : k + 9 ≤ 601024) (hn : n + 906 ≤ 7293034) (kk : ∀ u, REL (i + 1) u u → GG Γ 1636 [some (ar 20000), some (ar 0), some (ar 400), some (ar 1900), some (ai (6 * (i : Int))), a5, a6] [] u (k + 9) (n + 906)) : GG Γ 428 [some (ar 20000), some (ar 0), some (ar 400), some (ar 1900), some (ai (6 * (i : Int))), a5, a6] [] w k n := by
  refine g_aload_n h dL_law_428 rfl ?_
  refine g_sarg h hS (i := i) (j := 1) rfl rfl (by omega) dL_law_429 dL_law_430 dL_law_432 dL_law_433 dL_law_434 ?_
  refine g_sarg h hS (i := i) (j := 2) rfl rfl (by omega) dL_law_435 dL_law_436 dL_law_438 dL_law_439 dL_law_440 ?_
  refine g_both h hRm rfl (as := [ai (xs (6 * i + 1)).toInt, ai (xs (6 * i + 2)).toInt]) (K_led hR (i32_toInt _) (i32_toInt _)) h0 clL_39 clL_43 rfl rfl in_X9_led se_X9_led rfl in_X12_led se_X12_led (by decide) (by decide) hk hn dL_law_441 dL_law_457 dL_law_460 (by decide) (fun z w1 k1 n1 g => ?_) kk
  refine g_aload_n h dL_law_444 rfl ?_
  refine g_sarg h hS (i := i) (j := 1) rfl rfl (by omega) dL_law_445 dL_law_446 dL_law_448 dL_law_449 dL_law_450 ?_
  refine g_sarg h hS (i := i) (j := 2) rfl rfl (by omega) dL_law_451 dL_law_452 dL_law_454 dL_law_455 dL_law_456 ?_
  exact g
theorem op_burst (h : OKB Γ cL_law RL 7) (hRm : cxR Γ = room_1) (hS : SCR Γ L xs) (hR : REL i w w) (h0 : w.1 0 = (109, 0)) (hi : 6 * i + 5 < L) (hk : k + 9 ≤ 601024) (hn : n + 906 ≤ 7293034) (kk : ∀ u, REL (i + 1) u u → GG Γ 1636 [some (ar 20000), some (ar 0), some (ar 400), some (ar 1900), some (ai (6 * (i : Int))), a5, a6] [] u (k + 9) (n + 906)) : GG Γ 465 [some (ar 20000), some (ar 0), some (ar 400), some (ar 1900), some (ai (6 * (i : Int))), a5, a6] [] w k n := by
  refine g_aload_n h dL_law_465 rfl ?_
  refine g_sarg h hS (i := i) (j := 1) rfl rfl (by omega) dL_law_466 dL_law_467 dL_law_469 dL_law_470 dL_law_471 ?_
  refine g_both h hRm rfl (as := [ai (xs (6 * i + 1)).toInt]) (K_burst hR (i32_toInt _)) h0 clL_44 clL_47 rfl rfl in_X9_burst se_X9_burst rfl in_X12_burst se_X12_burst (by decide) (by decide) hk hn dL_law_472 dL_law_482 dL_law_485 (by decide) (fun z w1 k1 n1 g => ?_) kk
  refine g_aload_n h dL_law_475 rfl ?_
  refine g_sarg h hS (i := i) (j := 1) rfl rfl (by omega) dL_law_476 dL_law_477 dL_law_479 dL_law_480 dL_law_481 ?_
  exact g
theorem op_until (h : OKB Γ cL_law RL 7) (hRm : cxR Γ = room_1) (hS : SCR Γ L xs) (hR : REL i w w) (h0 : w.1 0 = (109, 0)) (hi : 6 * i + 5 < L) (hk : k + 9 ≤ 601024) (hn : n + 906 ≤ 7293034) (kk : ∀ u, REL (i + 1) u u → GG Γ 1636 [some (ar 20000), some (ar 0), some (ar 400), some (ar 1900), some (ai (6 * (i : Int))), a5, a6] [] u (k + 9) (n + 906)) : GG Γ 490 [some (ar 20000), some (ar 0), some (ar 400), some (ar 1900), some (ai (6 * (i : Int))), a5, a6] [] w k n := by
  refine g_aload_n h dL_law_490 rfl ?_
  refine g_sarg h hS (i := i) (j := 1) rfl rfl (by omega) dL_law_491 dL_law_492 dL_law_494 dL_law_495 dL_law_496 ?_
  refine g_sarg h hS (i := i) (j := 2) rfl rfl (by omega) dL_law_497 dL_law_498 dL_law_500 dL_law_501 dL_law_502 ?_
  refine g_both h hRm rfl (as := [ai (xs (6 * i + 1)).toInt, ai (xs (6 * i + 2)).toInt]) (K_until hR (i32_toInt _) (i32_toInt _)) h0 clL_48 clL_51 rfl rfl in_X9_until se_X9_until rfl in_X12_until se_X12_until (by decide) (by decide) hk hn dL_law_503 dL_law_519 dL_law_522 (by decide) (fun z w1 k1 n1 g => ?_) kk
  refine g_aload_n h dL_law_506 rfl ?_
  refine g_sarg h hS (i := i) (j := 1) rfl rfl (by omega) dL_law_507 dL_law_508 dL_law_510 dL_law_511 dL_law_512 ?_
  refine g_sarg h hS (i := i) (j := 2) rfl rfl (by omega) dL_law_513 dL_law_514 dL_law_516 dL_law_517 dL_law_518 ?_
  exact g
theorem op_pipe (h : OKB Γ cL_law RL 7) (hRm : cxR Γ = room_1) (hS : SCR Γ L xs) (hR : REL i w w) (h0 : w.1 0 = (109, 0)) (hi : 6 * i + 5 < L) (hk : k + 9 ≤ 601024) (hn : n + 906 ≤ 7293034) (kk : ∀ u, REL (i + 1) u u → GG Γ 1636 [some (ar 20000), some (ar 0), some (ar 400), some (ar 1900), some (ai (6 * (i : Int))), a5, a6] [] u (k + 9) (n + 906)) : GG Γ 527 [some (ar 20000), some (ar 0), some (ar 400), some (ar 1900), some (ai (6 * (i : Int))), a5, a6] [] w k n := by
  refine g_aload_n h dL_law_527 rfl ?_
  refine g_sarg h hS (i := i) (j := 1) rfl rfl (by omega) dL_law_528 dL_law_529 dL_law_531 dL_law_532 dL_law_533 ?_
  refine g_sarg h hS (i := i) (j := 2) rfl rfl (by omega) dL_law_534 dL_law_535 dL_law_537 dL_law_538 dL_law_539 ?_
  refine g_sarg h hS (i := i) (j := 3) rfl rfl (by omega) dL_law_540 dL_law_541 dL_law_543 dL_law_544 dL_law_545 ?_
  refine g_sarg h hS (i := i) (j := 4) rfl rfl (by omega) dL_law_546 dL_law_547 dL_law_549 dL_law_550 dL_law_551 ?_
  refine g_both h hRm rfl (as := [ai (xs (6 * i + 1)).toInt, ai (xs (6 * i + 2)).toInt, ai (xs (6 * i + 3)).toInt, ai (xs (6 * i + 4)).toInt]) (K_pipe hR (i32_toInt _) (i32_toInt _) (i32_toInt _) (i32_toInt _)) h0 clL_52 clL_56 rfl rfl in_X9_pipe se_X9_pipe rfl in_X12_pipe se_X12_pipe (by decide) (by decide) hk hn dL_law_552 dL_law_580 dL_law_583 (by decide) (fun z w1 k1 n1 g => ?_) kk
  refine g_aload_n h dL_law_555 rfl ?_
  refine g_sarg h hS (i := i) (j := 1) rfl rfl (by omega) dL_law_556 dL_law_557 dL_law_559 dL_law_560 dL_law_561 ?_
  refine g_sarg h hS (i := i) (j := 2) rfl rfl (by omega) dL_law_562 dL_law_563 dL_law_565 dL_law_566 dL_law_567 ?_
  refine g_sarg h hS (i := i) (j := 3) rfl rfl (by omega) dL_law_568 dL_law_569 dL_law_571 dL_law_572 dL_law_573 ?_
  refine g_sarg h hS (i := i) (j := 4) rfl rfl (by omega) dL_law_574 dL_law_575 dL_law_577 dL_law_578 dL_law_579 ?_
  exact g
theorem op_pipeOf (h : OKB Γ cL_law RL 7) (hRm : cxR Γ = room_1) (hS : SCR Γ L xs) (hR : REL i w w) (h0 : w.1 0 = (109, 0)) (hi : 6 * i + 5 < L) (hk : k + 9 ≤ 601024) (hn : n + 906 ≤ 7293034) (kk : ∀ u, REL (i + 1) u u → GG Γ 1636 [some (ar 20000), some (ar 0), some (ar 400), some (ar 1900), some (ai (6 * (i : Int))), a5, a6] [] u (k + 9) (n + 906)) : GG Γ 588 [some (ar 20000), some (ar 0), some (ar 400), some (ar 1900), some (ai (6 * (i : Int))), a5, a6] [] w k n := by
  refine g_aload_n h dL_law_588 rfl ?_
  refine g_sarg h hS (i := i) (j := 1) rfl rfl (by omega) dL_law_589 dL_law_590 dL_law_592 dL_law_593 dL_law_594 ?_
  refine g_sarg h hS (i := i) (j := 2) rfl rfl (by omega) dL_law_595 dL_law_596 dL_law_598 dL_law_599 dL_law_600 ?_
  refine g_both h hRm rfl (as := [ai (xs (6 * i + 1)).toInt, ai (xs (6 * i + 2)).toInt]) (K_pipeOf hR (i32_toInt _) (i32_toInt _)) h0 clL_57 clL_60 rfl rfl in_X9_pipeOf se_X9_pipeOf rfl in_X12_pipeOf se_X12_pipeOf (by decide) (by decide) hk hn dL_law_601 dL_law_617 dL_law_620 (by decide) (fun z w1 k1 n1 g => ?_) kk
  refine g_aload_n h dL_law_604 rfl ?_
  refine g_sarg h hS (i := i) (j := 1) rfl rfl (by omega) dL_law_605 dL_law_606 dL_law_608 dL_law_609 dL_law_610 ?_
  refine g_sarg h hS (i := i) (j := 2) rfl rfl (by omega) dL_law_611 dL_law_612 dL_law_614 dL_law_615 dL_law_616 ?_
  exact g
theorem op_move (h : OKB Γ cL_law RL 7) (hRm : cxR Γ = room_1) (hS : SCR Γ L xs) (hR : REL i w w) (h0 : w.1 0 = (109, 0)) (hi : 6 * i + 5 < L) (hk : k + 9 ≤ 601024) (hn : n + 906 ≤ 7293034) (kk : ∀ u, REL (i + 1) u u → GG Γ 1636 [some (ar 20000), some (ar 0), some (ar 400), some (ar 1900), some (ai (6 * (i : Int))), a5, a6] [] u (k + 9) (n + 906)) : GG Γ 625 [some (ar 20000), some (ar 0), some (ar 400), some (ar 1900), some (ai (6 * (i : Int))), a5, a6] [] w k n := by
  refine g_aload_n h dL_law_625 rfl ?_
  refine g_sarg h hS (i := i) (j := 1) rfl rfl (by omega) dL_law_626 dL_law_627 dL_law_629 dL_law_630 dL_law_631 ?_
  refine g_sarg h hS (i := i) (j := 2) rfl rfl (by omega) dL_law_632 dL_law_633 dL_law_635 dL_law_636 dL_law_637 ?_
  refine g_both h hRm rfl (as := [ai (xs (6 * i + 1)).toInt, ai (xs (6 * i + 2)).toInt]) (K_move hR (i32_toInt _) (i32_toInt _)) h0 clL_61 clL_65 rfl rfl in_X9_move se_X9_move rfl in_X12_move se_X12_move (by decide) (by decide) hk hn dL_law_638 dL_law_654 dL_law_657 (by decide) (fun z w1 k1 n1 g => ?_) kk
  refine g_aload_n h dL_law_641 rfl ?_
  refine g_sarg h hS (i := i) (j := 1) rfl rfl (by omega) dL_law_642 dL_law_643 dL_law_645 dL_law_646 dL_law_647 ?_
  refine g_sarg h hS (i := i) (j := 2) rfl rfl (by omega) dL_law_648 dL_law_649 dL_law_651 dL_law_652 dL_law_653 ?_
  exact g
theorem op_start (h : OKB Γ cL_law RL 7) (hRm : cxR Γ = room_1) (hS : SCR Γ L xs) (hR : REL i w w) (h0 : w.1 0 = (109, 0)) (hi : 6 * i + 5 < L) (hk : k + 9 ≤ 601024) (hn : n + 906 ≤ 7293034) (kk : ∀ u, REL (i + 1) u u → GG Γ 1636 [some (ar 20000), some (ar 0), some (ar 400), some (ar 1900), some (ai (6 * (i : Int))), a5, a6] [] u (k + 9) (n + 906)) : GG Γ 662 [some (ar 20000), some (ar 0), some (ar 400), some (ar 1900), some (ai (6 * (i : Int))), a5, a6] [] w k n := by
  refine g_aload_n h dL_law_662 rfl ?_
  refine g_sarg h hS (i := i) (j := 1) rfl rfl (by omega) dL_law_663 dL_law_664 dL_law_666 dL_law_667 dL_law_668 ?_
  refine g_both h hRm rfl (as := [ai (xs (6 * i + 1)).toInt]) (K_start hR (i32_toInt _)) h0 clL_66 clL_70 rfl rfl in_X9_start se_X9_start rfl in_X12_start se_X12_start (by decide) (by decide) hk hn dL_law_669 dL_law_679 dL_law_682 (by decide) (fun z w1 k1 n1 g => ?_) kk
  refine g_aload_n h dL_law_672 rfl ?_
  refine g_sarg h hS (i := i) (j := 1) rfl rfl (by omega) dL_law_673 dL_law_674 dL_law_676 dL_law_677 dL_law_678 ?_
  exact g
theorem op_plan (h : OKB Γ cL_law RL 7) (hRm : cxR Γ = room_1) (hS : SCR Γ L xs) (hR : REL i w w) (h0 : w.1 0 = (109, 0)) (hi : 6 * i + 5 < L) (hk : k + 9 ≤ 601024) (hn : n + 906 ≤ 7293034) (kk : ∀ u, REL (i + 1) u u → GG Γ 1636 [some (ar 20000), some (ar 0), some (ar 400), some (ar 1900), some (ai (6 * (i : Int))), a5, a6] [] u (k + 9) (n + 906)) : GG Γ 687 [some (ar 20000), some (ar 0), some (ar 400), some (ar 1900), some (ai (6 * (i : Int))), a5, a6] [] w k n := by
  refine g_aload_n h dL_law_687 rfl ?_
  refine g_sarg h hS (i := i) (j := 1) rfl rfl (by omega) dL_law_688 dL_law_689 dL_law_691 dL_law_692 dL_law_693 ?_
  refine g_sarg h hS (i := i) (j := 2) rfl rfl (by omega) dL_law_694 dL_law_695 dL_law_697 dL_law_698 dL_law_699 ?_
  refine g_both h hRm rfl (as := [ai (xs (6 * i + 1)).toInt, ai (xs (6 * i + 2)).toInt]) (K_plan hR (i32_toInt _) (i32_toInt _)) h0 clL_71 clL_74 rfl rfl in_X9_plan se_X9_plan rfl in_X12_plan se_X12_plan (by decide) (by decide) hk hn dL_law_700 dL_law_716 dL_law_719 (by decide) (fun z w1 k1 n1 g => ?_) kk
  refine g_aload_n h dL_law_703 rfl ?_
  refine g_sarg h hS (i := i) (j := 1) rfl rfl (by omega) dL_law_704 dL_law_705 dL_law_707 dL_law_708 dL_law_709 ?_
  refine g_sarg h hS (i := i) (j := 2) rfl rfl (by omega) dL_law_710 dL_law_711 dL_law_713 dL_law_714 dL_law_715 ?_
  exact g
theorem op_check (h : OKB Γ cL_law RL 7) (hRm : cxR Γ = room_1) (hS : SCR Γ L xs) (hR : REL i w w) (h0 : w.1 0 = (109, 0)) (hi : 6 * i + 5 < L) (hk : k + 9 ≤ 601024) (hn : n + 906 ≤ 7293034) (kk : ∀ u, REL (i + 1) u u → GG Γ 1636 [some (ar 20000), some (ar 0), some (ar 400), some (ar 1900), some (ai (6 * (i : Int))), a5, a6] [] u (k + 9) (n + 906)) : GG Γ 780 [some (ar 20000), some (ar 0), some (ar 400), some (ar 1900), some (ai (6 * (i : Int))), a5, a6] [] w k n := by
  refine g_aload_n h dL_law_780 rfl ?_
  refine g_sarg h hS (i := i) (j := 1) rfl rfl (by omega) dL_law_781 dL_law_782 dL_law_784 dL_law_785 dL_law_786 ?_
  refine g_sarg h hS (i := i) (j := 2) rfl rfl (by omega) dL_law_787 dL_law_788 dL_law_790 dL_law_791 dL_law_792 ?_
  refine g_sarg h hS (i := i) (j := 3) rfl rfl (by omega) dL_law_793 dL_law_794 dL_law_796 dL_law_797 dL_law_798 ?_
  refine g_sarg h hS (i := i) (j := 4) rfl rfl (by omega) dL_law_799 dL_law_800 dL_law_802 dL_law_803 dL_law_804 ?_
  refine g_sarg h hS (i := i) (j := 5) rfl rfl (by omega) dL_law_805 dL_law_806 dL_law_808 dL_law_809 dL_law_810 ?_
  refine g_both h hRm rfl (as := [ai (xs (6 * i + 1)).toInt, ai (xs (6 * i + 2)).toInt, ai (xs (6 * i + 3)).toInt, ai (xs (6 * i + 4)).toInt, ai (xs (6 * i + 5)).toInt]) (K_check hR (i32_toInt _) (i32_toInt _) (i32_toInt _) (i32_toInt _) (i32_toInt _)) h0 clL_85 clL_89 rfl rfl in_X9_check se_X9_check rfl in_X12_check se_X12_check (by decide) (by decide) hk hn dL_law_811 dL_law_845 dL_law_848 (by decide) (fun z w1 k1 n1 g => ?_) kk
  refine g_aload_n h dL_law_814 rfl ?_
  refine g_sarg h hS (i := i) (j := 1) rfl rfl (by omega) dL_law_815 dL_law_816 dL_law_818 dL_law_819 dL_law_820 ?_
  refine g_sarg h hS (i := i) (j := 2) rfl rfl (by omega) dL_law_821 dL_law_822 dL_law_824 dL_law_825 dL_law_826 ?_
  refine g_sarg h hS (i := i) (j := 3) rfl rfl (by omega) dL_law_827 dL_law_828 dL_law_830 dL_law_831 dL_law_832 ?_
  refine g_sarg h hS (i := i) (j := 4) rfl rfl (by omega) dL_law_833 dL_law_834 dL_law_836 dL_law_837 dL_law_838 ?_
  refine g_sarg h hS (i := i) (j := 5) rfl rfl (by omega) dL_law_839 dL_law_840 dL_law_842 dL_law_843 dL_law_844 ?_
  exact g
theorem op_feed (h : OKB Γ cL_law RL 7) (hRm : cxR Γ = room_1) (hS : SCR Γ L xs) (hR : REL i w w) (h0 : w.1 0 = (109, 0)) (hi : 6 * i + 5 < L) (hk : k + 9 ≤ 601024) (hn : n + 906 ≤ 7293034) (kk : ∀ u, REL (i + 1) u u → GG Γ 1636 [some (ar 20000), some (ar 0), some (ar 400), some (ar 1900), some (ai (6 * (i : Int))), a5, a6] [] u (k + 9) (n + 906)) : GG Γ 853 [some (ar 20000), some (ar 0), some (ar 400), some (ar 1900), some (ai (6 * (i : Int))), a5, a6] [] w k n := by
  refine g_aload_n h dL_law_853 rfl ?_
  refine g_sarg h hS (i := i) (j := 1) rfl rfl (by omega) dL_law_854 dL_law_855 dL_law_857 dL_law_858 dL_law_859 ?_
  refine g_sarg h hS (i := i) (j := 2) rfl rfl (by omega) dL_law_860 dL_law_861 dL_law_863 dL_law_864 dL_law_865 ?_
  refine g_sarg h hS (i := i) (j := 3) rfl rfl (by omega) dL_law_866 dL_law_867 dL_law_869 dL_law_870 dL_law_871 ?_
  refine g_sarg h hS (i := i) (j := 4) rfl rfl (by omega) dL_law_872 dL_law_873 dL_law_875 dL_law_876 dL_law_877 ?_
  refine g_sarg h hS (i := i) (j := 5) rfl rfl (by omega) dL_law_878 dL_law_879 dL_law_881 dL_law_882 dL_law_883 ?_
  refine g_both h hRm rfl (as := [ai (xs (6 * i + 1)).toInt, ai (xs (6 * i + 2)).toInt, ai (xs (6 * i + 3)).toInt, ai (xs (6 * i + 4)).toInt, ai (xs (6 * i + 5)).toInt]) (K_feed hR (i32_toInt _) (i32_toInt _) (i32_toInt _) (i32_toInt _) (i32_toInt _)) h0 clL_90 clL_93 rfl rfl in_X9_feed se_X9_feed rfl in_X12_feed se_X12_feed (by decide) (by decide) hk hn dL_law_884 dL_law_918 dL_law_921 (by decide) (fun z w1 k1 n1 g => ?_) kk
  refine g_aload_n h dL_law_887 rfl ?_
  refine g_sarg h hS (i := i) (j := 1) rfl rfl (by omega) dL_law_888 dL_law_889 dL_law_891 dL_law_892 dL_law_893 ?_
  refine g_sarg h hS (i := i) (j := 2) rfl rfl (by omega) dL_law_894 dL_law_895 dL_law_897 dL_law_898 dL_law_899 ?_
  refine g_sarg h hS (i := i) (j := 3) rfl rfl (by omega) dL_law_900 dL_law_901 dL_law_903 dL_law_904 dL_law_905 ?_
  refine g_sarg h hS (i := i) (j := 4) rfl rfl (by omega) dL_law_906 dL_law_907 dL_law_909 dL_law_910 dL_law_911 ?_
  refine g_sarg h hS (i := i) (j := 5) rfl rfl (by omega) dL_law_912 dL_law_913 dL_law_915 dL_law_916 dL_law_917 ?_
  exact g
theorem op_rule (h : OKB Γ cL_law RL 7) (hRm : cxR Γ = room_1) (hS : SCR Γ L xs) (hR : REL i w w) (h0 : w.1 0 = (109, 0)) (hi : 6 * i + 5 < L) (hk : k + 9 ≤ 601024) (hn : n + 906 ≤ 7293034) (kk : ∀ u, REL (i + 1) u u → GG Γ 1636 [some (ar 20000), some (ar 0), some (ar 400), some (ar 1900), some (ai (6 * (i : Int))), a5, a6] [] u (k + 9) (n + 906)) : GG Γ 926 [some (ar 20000), some (ar 0), some (ar 400), some (ar 1900), some (ai (6 * (i : Int))), a5, a6] [] w k n := by
  have hL3 := hS.2.2
  refine g_aload_n h dL_law_926 rfl ?_
  refine g_sarg h hS (i := i) (j := 1) rfl rfl (by omega) dL_law_927 dL_law_928 dL_law_930 dL_law_931 dL_law_932 ?_
  refine g_bothH h hRm rfl (as := [ai (xs (6 * i + 1)).toInt]) (K_rule (by omega) hR (i32_toInt _)) h0 clL_94 rule_lk rfl rfl in_X9_rule se_X9_rule rfl in_X12_rule se_X12_rule (by decide) (by decide) hk hn dL_law_933 dL_law_943 dL_law_946 (by decide) (fun z w1 k1 n1 g => ?_) kk
  refine g_aload_n h dL_law_936 rfl ?_
  refine g_sarg h hS (i := i) (j := 1) rfl rfl (by omega) dL_law_937 dL_law_938 dL_law_940 dL_law_941 dL_law_942 ?_
  exact g
theorem op_fault (h : OKB Γ cL_law RL 7) (hRm : cxR Γ = room_1) (hS : SCR Γ L xs) (hR : REL i w w) (h0 : w.1 0 = (109, 0)) (hi : 6 * i + 5 < L) (hk : k + 9 ≤ 601024) (hn : n + 906 ≤ 7293034) (kk : ∀ u, REL (i + 1) u u → GG Γ 1636 [some (ar 20000), some (ar 0), some (ar 400), some (ar 1900), some (ai (6 * (i : Int))), a5, a6] [] u (k + 9) (n + 906)) : GG Γ 951 [some (ar 20000), some (ar 0), some (ar 400), some (ar 1900), some (ai (6 * (i : Int))), a5, a6] [] w k n := by
  refine g_aload_n h dL_law_951 rfl ?_
  refine g_both h hRm rfl (as := []) (K_fault hR ) h0 clL_98 clL_101 rfl rfl in_X9_fault se_X9_fault rfl in_X12_fault se_X12_fault (by decide) (by decide) hk hn dL_law_952 dL_law_956 dL_law_959 (by decide) (fun z w1 k1 n1 g => ?_) kk
  refine g_aload_n h dL_law_955 rfl ?_
  exact g
theorem op_where (h : OKB Γ cL_law RL 7) (hRm : cxR Γ = room_1) (hS : SCR Γ L xs) (hR : REL i w w) (h0 : w.1 0 = (109, 0)) (hi : 6 * i + 5 < L) (hk : k + 9 ≤ 601024) (hn : n + 906 ≤ 7293034) (kk : ∀ u, REL (i + 1) u u → GG Γ 1636 [some (ar 20000), some (ar 0), some (ar 400), some (ar 1900), some (ai (6 * (i : Int))), a5, a6] [] u (k + 9) (n + 906)) : GG Γ 964 [some (ar 20000), some (ar 0), some (ar 400), some (ar 1900), some (ai (6 * (i : Int))), a5, a6] [] w k n := by
  refine g_aload_n h dL_law_964 rfl ?_
  refine g_both h hRm rfl (as := []) (K_where hR ) h0 clL_102 clL_105 rfl rfl in_X9_where se_X9_where rfl in_X12_where se_X12_where (by decide) (by decide) hk hn dL_law_965 dL_law_969 dL_law_972 (by decide) (fun z w1 k1 n1 g => ?_) kk
  refine g_aload_n h dL_law_968 rfl ?_
  exact g
theorem op_repeal (h : OKB Γ cL_law RL 7) (hRm : cxR Γ = room_1) (hS : SCR Γ L xs) (hR : REL i w w) (h0 : w.1 0 = (109, 0)) (hi : 6 * i + 5 < L) (hk : k + 9 ≤ 601024) (hn : n + 906 ≤ 7293034) (kk : ∀ u, REL (i + 1) u u → GG Γ 1636 [some (ar 20000), some (ar 0), some (ar 400), some (ar 1900), some (ai (6 * (i : Int))), a5, a6] [] u (k + 9) (n + 906)) : GG Γ 977 [some (ar 20000), some (ar 0), some (ar 400), some (ar 1900), some (ai (6 * (i : Int))), a5, a6] [] w k n := by
  refine g_aload_n h dL_law_977 rfl ?_
  refine g_sarg h hS (i := i) (j := 1) rfl rfl (by omega) dL_law_978 dL_law_979 dL_law_981 dL_law_982 dL_law_983 ?_
  refine g_both h hRm rfl (as := [ai (xs (6 * i + 1)).toInt]) (K_repeal hR (i32_toInt _)) h0 clL_106 clL_109 rfl rfl in_X9_repeal se_X9_repeal rfl in_X12_repeal se_X12_repeal (by decide) (by decide) hk hn dL_law_984 dL_law_994 dL_law_997 (by decide) (fun z w1 k1 n1 g => ?_) kk
  refine g_aload_n h dL_law_987 rfl ?_
  refine g_sarg h hS (i := i) (j := 1) rfl rfl (by omega) dL_law_988 dL_law_989 dL_law_991 dL_law_992 dL_law_993 ?_
  exact g
end LOPS

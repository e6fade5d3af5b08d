/-! THE LAW: its cases, one for each call -/
abbrev i_law : Ym := (yL_law, cL_law, 4, ret, 10)
abbrev LL (E : En) (b i : Nat) : List (Nat × Value) := [(3, .int (nI i)), (2, .ref (eA E 58)), (1, .ref (eA E 0)), (0, .ref b)]
/-- the script, n ints f at the cell b, which no walk writes -/
def SC (X : Xt) (b n : Nat) (f : Nat → Int32) : Prop := va_X b n f (xs X) (xs X).heap ∧ b < (xs X).heap.size ∧ ¬ xA X b
section LW
variable {E : En} {X : Xt} {I : Ym} {S : St} {pc : Nat} {L : List (Nat × Value)} {st : List Value} {b n : Nat} {f : Nat → Int32}
theorem g_slen (hX : SC X b n f) (hd : decode I.2.1 pc = .ok (.arraylength, 1)) (k : G E X I S (pc + 1) L (.int (nI n) :: st)) : G E X I S pc L (.ref b :: st) := fun C H locs ls hP hS hl => va_slen C.1 C.2.1 hX.1 hX.2.1 hX.2.2 hS hd (k C H locs ls hP hS hl)
theorem g_sld {i : Nat} (hX : SC X b n f) (hi : i < n) (hn : n ≤ 384) (hd : decode I.2.1 pc = .ok (.iaload, 1)) (k : G E X I S (pc + 1) L (.int (f i) :: st)) : G E X I S pc L (.int (nI i) :: .ref b :: st) := by
  intro C H locs ls hP hS hl
  refine va_sld C.1 C.2.1 hX.1 hX.2.1 hX.2.2 hS (vp_in_nI hi (by omega)) hd ?_
  rw [show (nI i).toNatClampNeg = i from nI_clamp (by omega)]
  exact k C H locs ls hP hS hl
theorem g_arg {i m : Nat} {z : Int} (hX : SC X b n f) (hn : n ≤ 384) (hi : i + m < n) (d0 : decode I.2.1 pc = .ok (.aload_n 0, 1)) (d1 : decode I.2.1 (pc + 1) = .ok (.iload_n 3, 1)) (d2 : decode I.2.1 (pc + 2) = .ok (.iconst z, 1)) (d3 : decode I.2.1 (pc + 3) = .ok (.iadd, 1)) (d4 : decode I.2.1 (pc + 4) = .ok (.iaload, 1)) (hz : Int32.ofInt z = nI m) (k : G E X I S (pc + 5) (LL E b i) (.int (f (i + m)) :: st)) : G E X I S pc (LL E b i) st := by
  refine g_aload_n d0 3 rfl rfl ?_
  refine g_iload_n d1 0 rfl rfl ?_
  refine g_iconst d2 hz ?_
  refine g_iadd d3 ?_
  rw [nI_add]
  exact g_sld hX hi hn d4 k
end LW
theorem law_0 {E : En} {X : Xt} {b n i : Nat} {f : Nat → Int32} {S : St} (hX : SC X b n f) (hn : n ≤ 384) (hi : i + 6 ≤ n) (h : Rel S) (kk : ∀ S2, Rel S2 → G E X i_law S2 1550 (LL E b i) []) : G E X i_law S 236 (LL E b i) [] := by
  obtain ⟨S1, v, Post, c1, c2, c3⟩ := p_row E h (f (i + 1)) (f (i + 2))
  refine g_aload_n (pc := 236) dL_law_236 2 rfl rfl ?_
  refine g_arg (pc := 237) (m := 1) hX hn (by omega) dL_law_237 dL_law_238 dL_law_239 dL_law_240 dL_law_241 (by decide) ?_
  refine g_arg (pc := 242) (m := 2) hX hn (by omega) dL_law_242 dL_law_243 dL_law_244 dL_law_245 dL_law_246 (by decide) ?_
  refine g_invR (pc := 247) (J := i_X8_row) (n := 2) (idx := 13) (As := [.int (f (i + 1)), .int (f (i + 2))]) (k := 0) (L2 := []) j_X8_row mw_L_13 dL_law_247 rcv_X8 rfl c1 (by decide) (by decide) rfl (by decide) (fun S2 r hp => ?_)
  obtain ⟨rfl, rfl⟩ := hp
  refine g_aload_n (pc := 250) dL_law_250 1 rfl rfl ?_
  refine g_arg (pc := 251) (m := 1) hX hn (by omega) dL_law_251 dL_law_252 dL_law_253 dL_law_254 dL_law_255 (by decide) ?_
  refine g_arg (pc := 256) (m := 2) hX hn (by omega) dL_law_256 dL_law_257 dL_law_258 dL_law_259 dL_law_260 (by decide) ?_
  refine g_invR (pc := 261) (J := i_X9_row) (n := 2) (idx := 17) (As := [.int (f (i + 1)), .int (f (i + 2))]) (k := 58) (L2 := [.int v]) j_X9_row mw_L_17 dL_law_261 rcv_X9 rfl c2 (by decide) (by decide) rfl (Nat.le_of_ble_eq_true rfl) (fun S2 r hp => ?_)
  obtain ⟨rfl, hR⟩ := c3 _ _ hp
  exact g_icmp_eq (pc := 264) (tgt := 1550) dL_law_264 (by decide) (fun _ => kk _ hR) (fun q => absurd rfl q)
theorem law_1 {E : En} {X : Xt} {b n i : Nat} {f : Nat → Int32} {S : St} (hX : SC X b n f) (hn : n ≤ 384) (hi : i + 6 ≤ n) (h : Rel S) (kk : ∀ S2, Rel S2 → G E X i_law S2 1550 (LL E b i) []) : G E X i_law S 269 (LL E b i) [] := by
  obtain ⟨S1, v, Post, c1, c2, c3⟩ := p_lay E h (f (i + 1)) (f (i + 2)) (f (i + 3))
  refine g_aload_n (pc := 269) dL_law_269 2 rfl rfl ?_
  refine g_arg (pc := 270) (m := 1) hX hn (by omega) dL_law_270 dL_law_271 dL_law_272 dL_law_273 dL_law_274 (by decide) ?_
  refine g_arg (pc := 275) (m := 2) hX hn (by omega) dL_law_275 dL_law_276 dL_law_277 dL_law_278 dL_law_279 (by decide) ?_
  refine g_arg (pc := 280) (m := 3) hX hn (by omega) dL_law_280 dL_law_281 dL_law_282 dL_law_283 dL_law_284 (by decide) ?_
  refine g_invR (pc := 285) (J := i_X8_lay) (n := 3) (idx := 18) (As := [.int (f (i + 1)), .int (f (i + 2)), .int (f (i + 3))]) (k := 0) (L2 := []) j_X8_lay mw_L_18 dL_law_285 rcv_X8 rfl c1 (by decide) (by decide) rfl (by decide) (fun S2 r hp => ?_)
  obtain ⟨rfl, rfl⟩ := hp
  refine g_aload_n (pc := 288) dL_law_288 1 rfl rfl ?_
  refine g_arg (pc := 289) (m := 1) hX hn (by omega) dL_law_289 dL_law_290 dL_law_291 dL_law_292 dL_law_293 (by decide) ?_
  refine g_arg (pc := 294) (m := 2) hX hn (by omega) dL_law_294 dL_law_295 dL_law_296 dL_law_297 dL_law_298 (by decide) ?_
  refine g_arg (pc := 299) (m := 3) hX hn (by omega) dL_law_299 dL_law_300 dL_law_301 dL_law_302 dL_law_303 (by decide) ?_
  refine g_invR (pc := 304) (J := i_X9_lay) (n := 3) (idx := 22) (As := [.int (f (i + 1)), .int (f (i + 2)), .int (f (i + 3))]) (k := 58) (L2 := [.int v]) j_X9_lay mw_L_22 dL_law_304 rcv_X9 rfl c2 (by decide) (by decide) rfl (Nat.le_of_ble_eq_true rfl) (fun S2 r hp => ?_)
  obtain ⟨rfl, hR⟩ := c3 _ _ hp
  exact g_icmp_eq (pc := 307) (tgt := 1550) dL_law_307 (by decide) (fun _ => kk _ hR) (fun q => absurd rfl q)
theorem law_2 {E : En} {X : Xt} {b n i : Nat} {f : Nat → Int32} {S : St} (hX : SC X b n f) (hn : n ≤ 384) (hi : i + 6 ≤ n) (h : Rel S) (kk : ∀ S2, Rel S2 → G E X i_law S2 1550 (LL E b i) []) : G E X i_law S 312 (LL E b i) [] := by
  obtain ⟨S1, v, Post, c1, c2, c3⟩ := p_at E h (f (i + 1)) (f (i + 2))
  refine g_aload_n (pc := 312) dL_law_312 2 rfl rfl ?_
  refine g_arg (pc := 313) (m := 1) hX hn (by omega) dL_law_313 dL_law_314 dL_law_315 dL_law_316 dL_law_317 (by decide) ?_
  refine g_arg (pc := 318) (m := 2) hX hn (by omega) dL_law_318 dL_law_319 dL_law_320 dL_law_321 dL_law_322 (by decide) ?_
  refine g_invR (pc := 323) (J := i_X8_at) (n := 2) (idx := 23) (As := [.int (f (i + 1)), .int (f (i + 2))]) (k := 0) (L2 := []) j_X8_at mw_L_23 dL_law_323 rcv_X8 rfl c1 (by decide) (by decide) rfl (by decide) (fun S2 r hp => ?_)
  obtain ⟨rfl, rfl⟩ := hp
  refine g_aload_n (pc := 326) dL_law_326 1 rfl rfl ?_
  refine g_arg (pc := 327) (m := 1) hX hn (by omega) dL_law_327 dL_law_328 dL_law_329 dL_law_330 dL_law_331 (by decide) ?_
  refine g_arg (pc := 332) (m := 2) hX hn (by omega) dL_law_332 dL_law_333 dL_law_334 dL_law_335 dL_law_336 (by decide) ?_
  refine g_invR (pc := 337) (J := i_X9_at) (n := 2) (idx := 26) (As := [.int (f (i + 1)), .int (f (i + 2))]) (k := 58) (L2 := [.int v]) j_X9_at mw_L_26 dL_law_337 rcv_X9 rfl c2 (by decide) (by decide) rfl (Nat.le_of_ble_eq_true rfl) (fun S2 r hp => ?_)
  obtain ⟨rfl, hR⟩ := c3 _ _ hp
  exact g_icmp_eq (pc := 340) (tgt := 1550) dL_law_340 (by decide) (fun _ => kk _ hR) (fun q => absurd rfl q)
theorem law_3 {E : En} {X : Xt} {b n i : Nat} {f : Nat → Int32} {S : St} (hX : SC X b n f) (hn : n ≤ 384) (hi : i + 6 ≤ n) (h : Rel S) (kk : ∀ S2, Rel S2 → G E X i_law S2 1550 (LL E b i) []) : G E X i_law S 345 (LL E b i) [] := by
  obtain ⟨S1, v, Post, c1, c2, c3⟩ := p_tear E h (f (i + 1))
  refine g_aload_n (pc := 345) dL_law_345 2 rfl rfl ?_
  refine g_arg (pc := 346) (m := 1) hX hn (by omega) dL_law_346 dL_law_347 dL_law_348 dL_law_349 dL_law_350 (by decide) ?_
  refine g_invR (pc := 351) (J := i_X8_tear) (n := 1) (idx := 27) (As := [.int (f (i + 1))]) (k := 0) (L2 := []) j_X8_tear mw_L_27 dL_law_351 rcv_X8 rfl c1 (by decide) (by decide) rfl (by decide) (fun S2 r hp => ?_)
  obtain ⟨rfl, rfl⟩ := hp
  refine g_aload_n (pc := 354) dL_law_354 1 rfl rfl ?_
  refine g_arg (pc := 355) (m := 1) hX hn (by omega) dL_law_355 dL_law_356 dL_law_357 dL_law_358 dL_law_359 (by decide) ?_
  refine g_invR (pc := 360) (J := i_X9_tear) (n := 1) (idx := 31) (As := [.int (f (i + 1))]) (k := 58) (L2 := [.int v]) j_X9_tear mw_L_31 dL_law_360 rcv_X9 rfl c2 (by decide) (by decide) rfl (Nat.le_of_ble_eq_true rfl) (fun S2 r hp => ?_)
  obtain ⟨rfl, hR⟩ := c3 _ _ hp
  exact g_icmp_eq (pc := 363) (tgt := 1550) dL_law_363 (by decide) (fun _ => kk _ hR) (fun q => absurd rfl q)
theorem law_4 {E : En} {X : Xt} {b n i : Nat} {f : Nat → Int32} {S : St} (hX : SC X b n f) (hn : n ≤ 384) (hi : i + 6 ≤ n) (h : Rel S) (kk : ∀ S2, Rel S2 → G E X i_law S2 1550 (LL E b i) []) : G E X i_law S 368 (LL E b i) [] := by
  obtain ⟨S1, v, Post, c1, c2, c3⟩ := p_copy E h (f (i + 1)) (f (i + 2)) (f (i + 3)) (f (i + 4)) (f (i + 5))
  refine g_aload_n (pc := 368) dL_law_368 2 rfl rfl ?_
  refine g_arg (pc := 369) (m := 1) hX hn (by omega) dL_law_369 dL_law_370 dL_law_371 dL_law_372 dL_law_373 (by decide) ?_
  refine g_arg (pc := 374) (m := 2) hX hn (by omega) dL_law_374 dL_law_375 dL_law_376 dL_law_377 dL_law_378 (by decide) ?_
  refine g_arg (pc := 379) (m := 3) hX hn (by omega) dL_law_379 dL_law_380 dL_law_381 dL_law_382 dL_law_383 (by decide) ?_
  refine g_arg (pc := 384) (m := 4) hX hn (by omega) dL_law_384 dL_law_385 dL_law_386 dL_law_387 dL_law_388 (by decide) ?_
  refine g_arg (pc := 389) (m := 5) hX hn (by omega) dL_law_389 dL_law_390 dL_law_391 dL_law_392 dL_law_393 (by decide) ?_
  refine g_invR (pc := 394) (J := i_X8_copy) (n := 5) (idx := 32) (As := [.int (f (i + 1)), .int (f (i + 2)), .int (f (i + 3)), .int (f (i + 4)), .int (f (i + 5))]) (k := 0) (L2 := []) j_X8_copy mw_L_32 dL_law_394 rcv_X8 rfl c1 (by decide) (by decide) rfl (by decide) (fun S2 r hp => ?_)
  obtain ⟨rfl, rfl⟩ := hp
  refine g_aload_n (pc := 397) dL_law_397 1 rfl rfl ?_
  refine g_arg (pc := 398) (m := 1) hX hn (by omega) dL_law_398 dL_law_399 dL_law_400 dL_law_401 dL_law_402 (by decide) ?_
  refine g_arg (pc := 403) (m := 2) hX hn (by omega) dL_law_403 dL_law_404 dL_law_405 dL_law_406 dL_law_407 (by decide) ?_
  refine g_arg (pc := 408) (m := 3) hX hn (by omega) dL_law_408 dL_law_409 dL_law_410 dL_law_411 dL_law_412 (by decide) ?_
  refine g_arg (pc := 413) (m := 4) hX hn (by omega) dL_law_413 dL_law_414 dL_law_415 dL_law_416 dL_law_417 (by decide) ?_
  refine g_arg (pc := 418) (m := 5) hX hn (by omega) dL_law_418 dL_law_419 dL_law_420 dL_law_421 dL_law_422 (by decide) ?_
  refine g_invR (pc := 423) (J := i_X9_copy) (n := 5) (idx := 36) (As := [.int (f (i + 1)), .int (f (i + 2)), .int (f (i + 3)), .int (f (i + 4)), .int (f (i + 5))]) (k := 58) (L2 := [.int v]) j_X9_copy mw_L_36 dL_law_423 rcv_X9 rfl c2 (by decide) (by decide) rfl (Nat.le_of_ble_eq_true rfl) (fun S2 r hp => ?_)
  obtain ⟨rfl, hR⟩ := c3 _ _ hp
  exact g_icmp_eq (pc := 426) (tgt := 1550) dL_law_426 (by decide) (fun _ => kk _ hR) (fun q => absurd rfl q)
theorem law_5 {E : En} {X : Xt} {b n i : Nat} {f : Nat → Int32} {S : St} (hX : SC X b n f) (hn : n ≤ 384) (hi : i + 6 ≤ n) (h : Rel S) (kk : ∀ S2, Rel S2 → G E X i_law S2 1550 (LL E b i) []) : G E X i_law S 431 (LL E b i) [] := by
  obtain ⟨S1, v, Post, c1, c2, c3⟩ := p_mean E h (f (i + 1))
  refine g_aload_n (pc := 431) dL_law_431 2 rfl rfl ?_
  refine g_arg (pc := 432) (m := 1) hX hn (by omega) dL_law_432 dL_law_433 dL_law_434 dL_law_435 dL_law_436 (by decide) ?_
  refine g_invR (pc := 437) (J := i_X8_mean) (n := 1) (idx := 37) (As := [.int (f (i + 1))]) (k := 0) (L2 := []) j_X8_mean mw_L_37 dL_law_437 rcv_X8 rfl c1 (by decide) (by decide) rfl (by decide) (fun S2 r hp => ?_)
  obtain ⟨rfl, rfl⟩ := hp
  refine g_aload_n (pc := 440) dL_law_440 1 rfl rfl ?_
  refine g_arg (pc := 441) (m := 1) hX hn (by omega) dL_law_441 dL_law_442 dL_law_443 dL_law_444 dL_law_445 (by decide) ?_
  refine g_invR (pc := 446) (J := i_X9_mean) (n := 1) (idx := 40) (As := [.int (f (i + 1))]) (k := 58) (L2 := [.int v]) j_X9_mean mw_L_40 dL_law_446 rcv_X9 rfl c2 (by decide) (by decide) rfl (Nat.le_of_ble_eq_true rfl) (fun S2 r hp => ?_)
  obtain ⟨rfl, hR⟩ := c3 _ _ hp
  exact g_icmp_eq (pc := 449) (tgt := 1550) dL_law_449 (by decide) (fun _ => kk _ hR) (fun q => absurd rfl q)
theorem law_6 {E : En} {X : Xt} {b n i : Nat} {f : Nat → Int32} {S : St} (hX : SC X b n f) (hn : n ≤ 384) (hi : i + 6 ≤ n) (h : Rel S) (kk : ∀ S2, Rel S2 → G E X i_law S2 1550 (LL E b i) []) : G E X i_law S 454 (LL E b i) [] := by
  obtain ⟨S1, v, Post, c1, c2, c3⟩ := p_text E h (f (i + 1)) (f (i + 2))
  refine g_aload_n (pc := 454) dL_law_454 2 rfl rfl ?_
  refine g_arg (pc := 455) (m := 1) hX hn (by omega) dL_law_455 dL_law_456 dL_law_457 dL_law_458 dL_law_459 (by decide) ?_
  refine g_arg (pc := 460) (m := 2) hX hn (by omega) dL_law_460 dL_law_461 dL_law_462 dL_law_463 dL_law_464 (by decide) ?_
  refine g_invR (pc := 465) (J := i_X8_text) (n := 2) (idx := 41) (As := [.int (f (i + 1)), .int (f (i + 2))]) (k := 0) (L2 := []) j_X8_text mw_L_41 dL_law_465 rcv_X8 rfl c1 (by decide) (by decide) rfl (by decide) (fun S2 r hp => ?_)
  obtain ⟨rfl, rfl⟩ := hp
  refine g_aload_n (pc := 468) dL_law_468 1 rfl rfl ?_
  refine g_arg (pc := 469) (m := 1) hX hn (by omega) dL_law_469 dL_law_470 dL_law_471 dL_law_472 dL_law_473 (by decide) ?_
  refine g_arg (pc := 474) (m := 2) hX hn (by omega) dL_law_474 dL_law_475 dL_law_476 dL_law_477 dL_law_478 (by decide) ?_
  refine g_invR (pc := 479) (J := i_X9_text) (n := 2) (idx := 44) (As := [.int (f (i + 1)), .int (f (i + 2))]) (k := 58) (L2 := [.int v]) j_X9_text mw_L_44 dL_law_479 rcv_X9 rfl c2 (by decide) (by decide) rfl (Nat.le_of_ble_eq_true rfl) (fun S2 r hp => ?_)
  obtain ⟨rfl, hR⟩ := c3 _ _ hp
  exact g_icmp_eq (pc := 482) (tgt := 1550) dL_law_482 (by decide) (fun _ => kk _ hR) (fun q => absurd rfl q)
theorem law_7 {E : En} {X : Xt} {b n i : Nat} {f : Nat → Int32} {S : St} (hX : SC X b n f) (hn : n ≤ 384) (hi : i + 6 ≤ n) (h : Rel S) (kk : ∀ S2, Rel S2 → G E X i_law S2 1550 (LL E b i) []) : G E X i_law S 487 (LL E b i) [] := by
  obtain ⟨S1, v, Post, c1, c2, c3⟩ := p_put E h (f (i + 1)) (f (i + 2)) (f (i + 3))
  refine g_aload_n (pc := 487) dL_law_487 2 rfl rfl ?_
  refine g_arg (pc := 488) (m := 1) hX hn (by omega) dL_law_488 dL_law_489 dL_law_490 dL_law_491 dL_law_492 (by decide) ?_
  refine g_arg (pc := 493) (m := 2) hX hn (by omega) dL_law_493 dL_law_494 dL_law_495 dL_law_496 dL_law_497 (by decide) ?_
  refine g_arg (pc := 498) (m := 3) hX hn (by omega) dL_law_498 dL_law_499 dL_law_500 dL_law_501 dL_law_502 (by decide) ?_
  refine g_invR (pc := 503) (J := i_X8_put) (n := 3) (idx := 45) (As := [.int (f (i + 1)), .int (f (i + 2)), .int (f (i + 3))]) (k := 0) (L2 := []) j_X8_put mw_L_45 dL_law_503 rcv_X8 rfl c1 (by decide) (by decide) rfl (by decide) (fun S2 r hp => ?_)
  obtain ⟨rfl, rfl⟩ := hp
  refine g_aload_n (pc := 506) dL_law_506 1 rfl rfl ?_
  refine g_arg (pc := 507) (m := 1) hX hn (by omega) dL_law_507 dL_law_508 dL_law_509 dL_law_510 dL_law_511 (by decide) ?_
  refine g_arg (pc := 512) (m := 2) hX hn (by omega) dL_law_512 dL_law_513 dL_law_514 dL_law_515 dL_law_516 (by decide) ?_
  refine g_arg (pc := 517) (m := 3) hX hn (by omega) dL_law_517 dL_law_518 dL_law_519 dL_law_520 dL_law_521 (by decide) ?_
  refine g_invR (pc := 522) (J := i_X9_put) (n := 3) (idx := 48) (As := [.int (f (i + 1)), .int (f (i + 2)), .int (f (i + 3))]) (k := 58) (L2 := [.int v]) j_X9_put mw_L_48 dL_law_522 rcv_X9 rfl c2 (by decide) (by decide) rfl (Nat.le_of_ble_eq_true rfl) (fun S2 r hp => ?_)
  obtain ⟨rfl, hR⟩ := c3 _ _ hp
  exact g_icmp_eq (pc := 525) (tgt := 1550) dL_law_525 (by decide) (fun _ => kk _ hR) (fun q => absurd rfl q)
theorem law_8 {E : En} {X : Xt} {b n i : Nat} {f : Nat → Int32} {S : St} (hX : SC X b n f) (hn : n ≤ 384) (hi : i + 6 ≤ n) (h : Rel S) (kk : ∀ S2, Rel S2 → G E X i_law S2 1550 (LL E b i) []) : G E X i_law S 530 (LL E b i) [] := by
  obtain ⟨S1, v, Post, c1, c2, c3⟩ := p_fault E h (f (i + 1))
  refine g_aload_n (pc := 530) dL_law_530 2 rfl rfl ?_
  refine g_arg (pc := 531) (m := 1) hX hn (by omega) dL_law_531 dL_law_532 dL_law_533 dL_law_534 dL_law_535 (by decide) ?_
  refine g_invR (pc := 536) (J := i_X8_fault) (n := 1) (idx := 49) (As := [.int (f (i + 1))]) (k := 0) (L2 := []) j_X8_fault mw_L_49 dL_law_536 rcv_X8 rfl c1 (by decide) (by decide) rfl (by decide) (fun S2 r hp => ?_)
  obtain ⟨rfl, rfl⟩ := hp
  refine g_aload_n (pc := 539) dL_law_539 1 rfl rfl ?_
  refine g_arg (pc := 540) (m := 1) hX hn (by omega) dL_law_540 dL_law_541 dL_law_542 dL_law_543 dL_law_544 (by decide) ?_
  refine g_invR (pc := 545) (J := i_X9_fault) (n := 1) (idx := 52) (As := [.int (f (i + 1))]) (k := 58) (L2 := [.int v]) j_X9_fault mw_L_52 dL_law_545 rcv_X9 rfl c2 (by decide) (by decide) rfl (Nat.le_of_ble_eq_true rfl) (fun S2 r hp => ?_)
  obtain ⟨rfl, hR⟩ := c3 _ _ hp
  exact g_icmp_eq (pc := 548) (tgt := 1550) dL_law_548 (by decide) (fun _ => kk _ hR) (fun q => absurd rfl q)
theorem law_9 {E : En} {X : Xt} {b n i : Nat} {f : Nat → Int32} {S : St} (hX : SC X b n f) (hn : n ≤ 384) (hi : i + 6 ≤ n) (h : Rel S) (kk : ∀ S2, Rel S2 → G E X i_law S2 1550 (LL E b i) []) : G E X i_law S 553 (LL E b i) [] := by
  obtain ⟨S1, v, Post, c1, c2, c3⟩ := p_bank E h (f (i + 1))
  refine g_aload_n (pc := 553) dL_law_553 2 rfl rfl ?_
  refine g_arg (pc := 554) (m := 1) hX hn (by omega) dL_law_554 dL_law_555 dL_law_556 dL_law_557 dL_law_558 (by decide) ?_
  refine g_invR (pc := 559) (J := i_X8_bank) (n := 1) (idx := 53) (As := [.int (f (i + 1))]) (k := 0) (L2 := []) j_X8_bank mw_L_53 dL_law_559 rcv_X8 rfl c1 (by decide) (by decide) rfl (by decide) (fun S2 r hp => ?_)
  obtain ⟨rfl, rfl⟩ := hp
  refine g_aload_n (pc := 562) dL_law_562 1 rfl rfl ?_
  refine g_arg (pc := 563) (m := 1) hX hn (by omega) dL_law_563 dL_law_564 dL_law_565 dL_law_566 dL_law_567 (by decide) ?_
  refine g_invR (pc := 568) (J := i_X9_bank) (n := 1) (idx := 56) (As := [.int (f (i + 1))]) (k := 58) (L2 := [.int v]) j_X9_bank mw_L_56 dL_law_568 rcv_X9 rfl c2 (by decide) (by decide) rfl (Nat.le_of_ble_eq_true rfl) (fun S2 r hp => ?_)
  obtain ⟨rfl, hR⟩ := c3 _ _ hp
  exact g_icmp_eq (pc := 571) (tgt := 1550) dL_law_571 (by decide) (fun _ => kk _ hR) (fun q => absurd rfl q)
theorem law_10 {E : En} {X : Xt} {b n i : Nat} {f : Nat → Int32} {S : St} (hX : SC X b n f) (hn : n ≤ 384) (hi : i + 6 ≤ n) (h : Rel S) (kk : ∀ S2, Rel S2 → G E X i_law S2 1550 (LL E b i) []) : G E X i_law S 576 (LL E b i) [] := by
  obtain ⟨S1, v, Post, c1, c2, c3⟩ := p_light E h (f (i + 1)) (f (i + 2))
  refine g_aload_n (pc := 576) dL_law_576 2 rfl rfl ?_
  refine g_arg (pc := 577) (m := 1) hX hn (by omega) dL_law_577 dL_law_578 dL_law_579 dL_law_580 dL_law_581 (by decide) ?_
  refine g_arg (pc := 582) (m := 2) hX hn (by omega) dL_law_582 dL_law_583 dL_law_584 dL_law_585 dL_law_586 (by decide) ?_
  refine g_invR (pc := 587) (J := i_X8_light) (n := 2) (idx := 57) (As := [.int (f (i + 1)), .int (f (i + 2))]) (k := 0) (L2 := []) j_X8_light mw_L_57 dL_law_587 rcv_X8 rfl c1 (by decide) (by decide) rfl (by decide) (fun S2 r hp => ?_)
  obtain ⟨rfl, rfl⟩ := hp
  refine g_aload_n (pc := 590) dL_law_590 1 rfl rfl ?_
  refine g_arg (pc := 591) (m := 1) hX hn (by omega) dL_law_591 dL_law_592 dL_law_593 dL_law_594 dL_law_595 (by decide) ?_
  refine g_arg (pc := 596) (m := 2) hX hn (by omega) dL_law_596 dL_law_597 dL_law_598 dL_law_599 dL_law_600 (by decide) ?_
  refine g_invR (pc := 601) (J := i_X9_light) (n := 2) (idx := 60) (As := [.int (f (i + 1)), .int (f (i + 2))]) (k := 58) (L2 := [.int v]) j_X9_light mw_L_60 dL_law_601 rcv_X9 rfl c2 (by decide) (by decide) rfl (Nat.le_of_ble_eq_true rfl) (fun S2 r hp => ?_)
  obtain ⟨rfl, hR⟩ := c3 _ _ hp
  exact g_icmp_eq (pc := 604) (tgt := 1550) dL_law_604 (by decide) (fun _ => kk _ hR) (fun q => absurd rfl q)
theorem law_11 {E : En} {X : Xt} {b n i : Nat} {f : Nat → Int32} {S : St} (hX : SC X b n f) (hn : n ≤ 384) (hi : i + 6 ≤ n) (h : Rel S) (kk : ∀ S2, Rel S2 → G E X i_law S2 1550 (LL E b i) []) : G E X i_law S 609 (LL E b i) [] := by
  obtain ⟨S1, v, Post, c1, c2, c3⟩ := p_mark E h (f (i + 1)) (f (i + 2))
  refine g_aload_n (pc := 609) dL_law_609 2 rfl rfl ?_
  refine g_arg (pc := 610) (m := 1) hX hn (by omega) dL_law_610 dL_law_611 dL_law_612 dL_law_613 dL_law_614 (by decide) ?_
  refine g_arg (pc := 615) (m := 2) hX hn (by omega) dL_law_615 dL_law_616 dL_law_617 dL_law_618 dL_law_619 (by decide) ?_
  refine g_invR (pc := 620) (J := i_X8_mark) (n := 2) (idx := 61) (As := [.int (f (i + 1)), .int (f (i + 2))]) (k := 0) (L2 := []) j_X8_mark mw_L_61 dL_law_620 rcv_X8 rfl c1 (by decide) (by decide) rfl (by decide) (fun S2 r hp => ?_)
  obtain ⟨rfl, rfl⟩ := hp
  refine g_aload_n (pc := 623) dL_law_623 1 rfl rfl ?_
  refine g_arg (pc := 624) (m := 1) hX hn (by omega) dL_law_624 dL_law_625 dL_law_626 dL_law_627 dL_law_628 (by decide) ?_
  refine g_arg (pc := 629) (m := 2) hX hn (by omega) dL_law_629 dL_law_630 dL_law_631 dL_law_632 dL_law_633 (by decide) ?_
  refine g_invR (pc := 634) (J := i_X9_mark) (n := 2) (idx := 64) (As := [.int (f (i + 1)), .int (f (i + 2))]) (k := 58) (L2 := [.int v]) j_X9_mark mw_L_64 dL_law_634 rcv_X9 rfl c2 (by decide) (by decide) rfl (Nat.le_of_ble_eq_true rfl) (fun S2 r hp => ?_)
  obtain ⟨rfl, hR⟩ := c3 _ _ hp
  exact g_icmp_eq (pc := 637) (tgt := 1550) dL_law_637 (by decide) (fun _ => kk _ hR) (fun q => absurd rfl q)
theorem law_12 {E : En} {X : Xt} {b n i : Nat} {f : Nat → Int32} {S : St} (hX : SC X b n f) (hn : n ≤ 384) (hi : i + 6 ≤ n) (h : Rel S) (kk : ∀ S2, Rel S2 → G E X i_law S2 1550 (LL E b i) []) : G E X i_law S 642 (LL E b i) [] := by
  obtain ⟨S1, v, Post, c1, c2, c3⟩ := p_glows E h (f (i + 1)) (f (i + 2))
  refine g_aload_n (pc := 642) dL_law_642 2 rfl rfl ?_
  refine g_arg (pc := 643) (m := 1) hX hn (by omega) dL_law_643 dL_law_644 dL_law_645 dL_law_646 dL_law_647 (by decide) ?_
  refine g_arg (pc := 648) (m := 2) hX hn (by omega) dL_law_648 dL_law_649 dL_law_650 dL_law_651 dL_law_652 (by decide) ?_
  refine g_invR (pc := 653) (J := i_X8_glows) (n := 2) (idx := 65) (As := [.int (f (i + 1)), .int (f (i + 2))]) (k := 0) (L2 := []) j_X8_glows mw_L_65 dL_law_653 rcv_X8 rfl c1 (by decide) (by decide) rfl (by decide) (fun S2 r hp => ?_)
  obtain ⟨rfl, rfl⟩ := hp
  refine g_aload_n (pc := 656) dL_law_656 1 rfl rfl ?_
  refine g_arg (pc := 657) (m := 1) hX hn (by omega) dL_law_657 dL_law_658 dL_law_659 dL_law_660 dL_law_661 (by decide) ?_
  refine g_arg (pc := 662) (m := 2) hX hn (by omega) dL_law_662 dL_law_663 dL_law_664 dL_law_665 dL_law_666 (by decide) ?_
  refine g_invR (pc := 667) (J := i_X9_glows) (n := 2) (idx := 68) (As := [.int (f (i + 1)), .int (f (i + 2))]) (k := 58) (L2 := [.int v]) j_X9_glows mw_L_68 dL_law_667 rcv_X9 rfl c2 (by decide) (by decide) rfl (Nat.le_of_ble_eq_true rfl) (fun S2 r hp => ?_)
  obtain ⟨rfl, hR⟩ := c3 _ _ hp
  exact g_icmp_eq (pc := 670) (tgt := 1550) dL_law_670 (by decide) (fun _ => kk _ hR) (fun q => absurd rfl q)
theorem law_13 {E : En} {X : Xt} {b n i : Nat} {f : Nat → Int32} {S : St} (hX : SC X b n f) (hn : n ≤ 384) (hi : i + 6 ≤ n) (h : Rel S) (kk : ∀ S2, Rel S2 → G E X i_law S2 1550 (LL E b i) []) : G E X i_law S 675 (LL E b i) [] := by
  obtain ⟨S1, v, Post, c1, c2, c3⟩ := p_night E h
  refine g_aload_n (pc := 675) dL_law_675 2 rfl rfl ?_
  refine g_invR (pc := 676) (J := i_X8_night) (n := 0) (idx := 69) (As := []) (k := 0) (L2 := []) j_X8_night mw_L_69 dL_law_676 rcv_X8 rfl c1 (by decide) (by decide) rfl (by decide) (fun S2 r hp => ?_)
  obtain ⟨rfl, rfl⟩ := hp
  refine g_aload_n (pc := 679) dL_law_679 1 rfl rfl ?_
  refine g_invR (pc := 680) (J := i_X9_night) (n := 0) (idx := 73) (As := []) (k := 58) (L2 := [.int v]) j_X9_night mw_L_73 dL_law_680 rcv_X9 rfl c2 (by decide) (by decide) rfl (Nat.le_of_ble_eq_true rfl) (fun S2 r hp => ?_)
  obtain ⟨rfl, hR⟩ := c3 _ _ hp
  exact g_icmp_eq (pc := 683) (tgt := 1550) dL_law_683 (by decide) (fun _ => kk _ hR) (fun q => absurd rfl q)
theorem law_14 {E : En} {X : Xt} {b n i : Nat} {f : Nat → Int32} {S : St} (hX : SC X b n f) (hn : n ≤ 384) (hi : i + 6 ≤ n) (h : Rel S) (kk : ∀ S2, Rel S2 → G E X i_law S2 1550 (LL E b i) []) : G E X i_law S 688 (LL E b i) [] := by
  obtain ⟨S1, v, Post, c1, c2, c3⟩ := p_answer E h (f (i + 1))
  refine g_aload_n (pc := 688) dL_law_688 2 rfl rfl ?_
  refine g_arg (pc := 689) (m := 1) hX hn (by omega) dL_law_689 dL_law_690 dL_law_691 dL_law_692 dL_law_693 (by decide) ?_
  refine g_invR (pc := 694) (J := i_X8_answer) (n := 1) (idx := 74) (As := [.int (f (i + 1))]) (k := 0) (L2 := []) j_X8_answer mw_L_74 dL_law_694 rcv_X8 rfl c1 (by decide) (by decide) rfl (by decide) (fun S2 r hp => ?_)
  obtain ⟨rfl, rfl⟩ := hp
  refine g_aload_n (pc := 697) dL_law_697 1 rfl rfl ?_
  refine g_arg (pc := 698) (m := 1) hX hn (by omega) dL_law_698 dL_law_699 dL_law_700 dL_law_701 dL_law_702 (by decide) ?_
  refine g_invR (pc := 703) (J := i_X9_answer) (n := 1) (idx := 77) (As := [.int (f (i + 1))]) (k := 58) (L2 := [.int v]) j_X9_answer mw_L_77 dL_law_703 rcv_X9 rfl c2 (by decide) (by decide) rfl (Nat.le_of_ble_eq_true rfl) (fun S2 r hp => ?_)
  obtain ⟨rfl, hR⟩ := c3 _ _ hp
  exact g_icmp_eq (pc := 706) (tgt := 1550) dL_law_706 (by decide) (fun _ => kk _ hR) (fun q => absurd rfl q)
theorem law_15 {E : En} {X : Xt} {b n i : Nat} {f : Nat → Int32} {S : St} (hX : SC X b n f) (hn : n ≤ 384) (hi : i + 6 ≤ n) (h : Rel S) (kk : ∀ S2, Rel S2 → G E X i_law S2 1550 (LL E b i) []) : G E X i_law S 711 (LL E b i) [] := by
  obtain ⟨S1, v, Post, c1, c2, c3⟩ := p_relight E h (f (i + 1))
  refine g_aload_n (pc := 711) dL_law_711 2 rfl rfl ?_
  refine g_arg (pc := 712) (m := 1) hX hn (by omega) dL_law_712 dL_law_713 dL_law_714 dL_law_715 dL_law_716 (by decide) ?_
  refine g_invR (pc := 717) (J := i_X8_relight) (n := 1) (idx := 78) (As := [.int (f (i + 1))]) (k := 0) (L2 := []) j_X8_relight mw_L_78 dL_law_717 rcv_X8 rfl c1 (by decide) (by decide) rfl (by decide) (fun S2 r hp => ?_)
  obtain ⟨rfl, rfl⟩ := hp
  refine g_aload_n (pc := 720) dL_law_720 1 rfl rfl ?_
  refine g_arg (pc := 721) (m := 1) hX hn (by omega) dL_law_721 dL_law_722 dL_law_723 dL_law_724 dL_law_725 (by decide) ?_
  refine g_invR (pc := 726) (J := i_X9_relight) (n := 1) (idx := 81) (As := [.int (f (i + 1))]) (k := 58) (L2 := [.int v]) j_X9_relight mw_L_81 dL_law_726 rcv_X9 rfl c2 (by decide) (by decide) rfl (Nat.le_of_ble_eq_true rfl) (fun S2 r hp => ?_)
  obtain ⟨rfl, hR⟩ := c3 _ _ hp
  exact g_icmp_eq (pc := 729) (tgt := 1550) dL_law_729 (by decide) (fun _ => kk _ hR) (fun q => absurd rfl q)
theorem law_16 {E : En} {X : Xt} {b n i : Nat} {f : Nat → Int32} {S : St} (hX : SC X b n f) (hn : n ≤ 384) (hi : i + 6 ≤ n) (h : Rel S) (kk : ∀ S2, Rel S2 → G E X i_law S2 1550 (LL E b i) []) : G E X i_law S 734 (LL E b i) [] := by
  obtain ⟨S1, v, Post, c1, c2, c3⟩ := p_carry E h (f (i + 1)) (f (i + 2))
  refine g_aload_n (pc := 734) dL_law_734 2 rfl rfl ?_
  refine g_arg (pc := 735) (m := 1) hX hn (by omega) dL_law_735 dL_law_736 dL_law_737 dL_law_738 dL_law_739 (by decide) ?_
  refine g_arg (pc := 740) (m := 2) hX hn (by omega) dL_law_740 dL_law_741 dL_law_742 dL_law_743 dL_law_744 (by decide) ?_
  refine g_invR (pc := 745) (J := i_X8_carry) (n := 2) (idx := 82) (As := [.int (f (i + 1)), .int (f (i + 2))]) (k := 0) (L2 := []) j_X8_carry mw_L_82 dL_law_745 rcv_X8 rfl c1 (by decide) (by decide) rfl (by decide) (fun S2 r hp => ?_)
  obtain ⟨rfl, rfl⟩ := hp
  refine g_aload_n (pc := 748) dL_law_748 1 rfl rfl ?_
  refine g_arg (pc := 749) (m := 1) hX hn (by omega) dL_law_749 dL_law_750 dL_law_751 dL_law_752 dL_law_753 (by decide) ?_
  refine g_arg (pc := 754) (m := 2) hX hn (by omega) dL_law_754 dL_law_755 dL_law_756 dL_law_757 dL_law_758 (by decide) ?_
  refine g_invR (pc := 759) (J := i_X9_carry) (n := 2) (idx := 85) (As := [.int (f (i + 1)), .int (f (i + 2))]) (k := 58) (L2 := [.int v]) j_X9_carry mw_L_85 dL_law_759 rcv_X9 rfl c2 (by decide) (by decide) rfl (Nat.le_of_ble_eq_true rfl) (fun S2 r hp => ?_)
  obtain ⟨rfl, hR⟩ := c3 _ _ hp
  exact g_icmp_eq (pc := 762) (tgt := 1550) dL_law_762 (by decide) (fun _ => kk _ hR) (fun q => absurd rfl q)
theorem law_17 {E : En} {X : Xt} {b n i : Nat} {f : Nat → Int32} {S : St} (hX : SC X b n f) (hn : n ≤ 384) (hi : i + 6 ≤ n) (h : Rel S) (kk : ∀ S2, Rel S2 → G E X i_law S2 1550 (LL E b i) []) : G E X i_law S 767 (LL E b i) [] := by
  obtain ⟨S1, v, Post, c1, c2, c3⟩ := p_undo E h (f (i + 1))
  refine g_aload_n (pc := 767) dL_law_767 2 rfl rfl ?_
  refine g_arg (pc := 768) (m := 1) hX hn (by omega) dL_law_768 dL_law_769 dL_law_770 dL_law_771 dL_law_772 (by decide) ?_
  refine g_invR (pc := 773) (J := i_X8_undo) (n := 1) (idx := 86) (As := [.int (f (i + 1))]) (k := 0) (L2 := []) j_X8_undo mw_L_86 dL_law_773 rcv_X8 rfl c1 (by decide) (by decide) rfl (by decide) (fun S2 r hp => ?_)
  obtain ⟨rfl, rfl⟩ := hp
  refine g_aload_n (pc := 776) dL_law_776 1 rfl rfl ?_
  refine g_arg (pc := 777) (m := 1) hX hn (by omega) dL_law_777 dL_law_778 dL_law_779 dL_law_780 dL_law_781 (by decide) ?_
  refine g_invR (pc := 782) (J := i_X9_undo) (n := 1) (idx := 89) (As := [.int (f (i + 1))]) (k := 58) (L2 := [.int v]) j_X9_undo mw_L_89 dL_law_782 rcv_X9 rfl c2 (by decide) (by decide) rfl (Nat.le_of_ble_eq_true rfl) (fun S2 r hp => ?_)
  obtain ⟨rfl, hR⟩ := c3 _ _ hp
  exact g_icmp_eq (pc := 785) (tgt := 1550) dL_law_785 (by decide) (fun _ => kk _ hR) (fun q => absurd rfl q)
theorem law_18 {E : En} {X : Xt} {b n i : Nat} {f : Nat → Int32} {S : St} (hX : SC X b n f) (hn : n ≤ 384) (hi : i + 6 ≤ n) (h : Rel S) (kk : ∀ S2, Rel S2 → G E X i_law S2 1550 (LL E b i) []) : G E X i_law S 790 (LL E b i) [] := by
  obtain ⟨S1, v, Post, c1, c2, c3⟩ := p_keep E h (f (i + 1))
  refine g_aload_n (pc := 790) dL_law_790 2 rfl rfl ?_
  refine g_arg (pc := 791) (m := 1) hX hn (by omega) dL_law_791 dL_law_792 dL_law_793 dL_law_794 dL_law_795 (by decide) ?_
  refine g_invR (pc := 796) (J := i_X8_keep) (n := 1) (idx := 90) (As := [.int (f (i + 1))]) (k := 0) (L2 := []) j_X8_keep mw_L_90 dL_law_796 rcv_X8 rfl c1 (by decide) (by decide) rfl (by decide) (fun S2 r hp => ?_)
  obtain ⟨rfl, rfl⟩ := hp
  refine g_aload_n (pc := 799) dL_law_799 1 rfl rfl ?_
  refine g_arg (pc := 800) (m := 1) hX hn (by omega) dL_law_800 dL_law_801 dL_law_802 dL_law_803 dL_law_804 (by decide) ?_
  refine g_invR (pc := 805) (J := i_X9_keep) (n := 1) (idx := 93) (As := [.int (f (i + 1))]) (k := 58) (L2 := [.int v]) j_X9_keep mw_L_93 dL_law_805 rcv_X9 rfl c2 (by decide) (by decide) rfl (Nat.le_of_ble_eq_true rfl) (fun S2 r hp => ?_)
  obtain ⟨rfl, hR⟩ := c3 _ _ hp
  exact g_icmp_eq (pc := 808) (tgt := 1550) dL_law_808 (by decide) (fun _ => kk _ hR) (fun q => absurd rfl q)
theorem law_19 {E : En} {X : Xt} {b n i : Nat} {f : Nat → Int32} {S : St} (hX : SC X b n f) (hn : n ≤ 384) (hi : i + 6 ≤ n) (h : Rel S) (kk : ∀ S2, Rel S2 → G E X i_law S2 1550 (LL E b i) []) : G E X i_law S 813 (LL E b i) [] := by
  obtain ⟨S1, v, Post, c1, c2, c3⟩ := p_on E h (f (i + 1))
  refine g_aload_n (pc := 813) dL_law_813 2 rfl rfl ?_
  refine g_arg (pc := 814) (m := 1) hX hn (by omega) dL_law_814 dL_law_815 dL_law_816 dL_law_817 dL_law_818 (by decide) ?_
  refine g_invR (pc := 819) (J := i_X8_on) (n := 1) (idx := 94) (As := [.int (f (i + 1))]) (k := 0) (L2 := []) j_X8_on mw_L_94 dL_law_819 rcv_X8 rfl c1 (by decide) (by decide) rfl (by decide) (fun S2 r hp => ?_)
  obtain ⟨rfl, rfl⟩ := hp
  refine g_aload_n (pc := 822) dL_law_822 1 rfl rfl ?_
  refine g_arg (pc := 823) (m := 1) hX hn (by omega) dL_law_823 dL_law_824 dL_law_825 dL_law_826 dL_law_827 (by decide) ?_
  refine g_invR (pc := 828) (J := i_X9_on) (n := 1) (idx := 97) (As := [.int (f (i + 1))]) (k := 58) (L2 := [.int v]) j_X9_on mw_L_97 dL_law_828 rcv_X9 rfl c2 (by decide) (by decide) rfl (Nat.le_of_ble_eq_true rfl) (fun S2 r hp => ?_)
  obtain ⟨rfl, hR⟩ := c3 _ _ hp
  exact g_icmp_eq (pc := 831) (tgt := 1550) dL_law_831 (by decide) (fun _ => kk _ hR) (fun q => absurd rfl q)
theorem law_20 {E : En} {X : Xt} {b n i : Nat} {f : Nat → Int32} {S : St} (hX : SC X b n f) (hn : n ≤ 384) (hi : i + 6 ≤ n) (h : Rel S) (kk : ∀ S2, Rel S2 → G E X i_law S2 1550 (LL E b i) []) : G E X i_law S 836 (LL E b i) [] := by
  obtain ⟨S1, v, Post, c1, c2, c3⟩ := p_bright E h (f (i + 1))
  refine g_aload_n (pc := 836) dL_law_836 2 rfl rfl ?_
  refine g_arg (pc := 837) (m := 1) hX hn (by omega) dL_law_837 dL_law_838 dL_law_839 dL_law_840 dL_law_841 (by decide) ?_
  refine g_invR (pc := 842) (J := i_X8_bright) (n := 1) (idx := 98) (As := [.int (f (i + 1))]) (k := 0) (L2 := []) j_X8_bright mw_L_98 dL_law_842 rcv_X8 rfl c1 (by decide) (by decide) rfl (by decide) (fun S2 r hp => ?_)
  obtain ⟨rfl, rfl⟩ := hp
  refine g_aload_n (pc := 845) dL_law_845 1 rfl rfl ?_
  refine g_arg (pc := 846) (m := 1) hX hn (by omega) dL_law_846 dL_law_847 dL_law_848 dL_law_849 dL_law_850 (by decide) ?_
  refine g_invR (pc := 851) (J := i_X9_bright) (n := 1) (idx := 101) (As := [.int (f (i + 1))]) (k := 58) (L2 := [.int v]) j_X9_bright mw_L_101 dL_law_851 rcv_X9 rfl c2 (by decide) (by decide) rfl (Nat.le_of_ble_eq_true rfl) (fun S2 r hp => ?_)
  obtain ⟨rfl, hR⟩ := c3 _ _ hp
  exact g_icmp_eq (pc := 854) (tgt := 1550) dL_law_854 (by decide) (fun _ => kk _ hR) (fun q => absurd rfl q)
theorem law_21 {E : En} {X : Xt} {b n i : Nat} {f : Nat → Int32} {S : St} (hX : SC X b n f) (hn : n ≤ 384) (hi : i + 6 ≤ n) (h : Rel S) (kk : ∀ S2, Rel S2 → G E X i_law S2 1550 (LL E b i) []) : G E X i_law S 859 (LL E b i) [] := by
  obtain ⟨S1, v, Post, c1, c2, c3⟩ := p_along E h (f (i + 1)) (f (i + 2))
  refine g_aload_n (pc := 859) dL_law_859 2 rfl rfl ?_
  refine g_arg (pc := 860) (m := 1) hX hn (by omega) dL_law_860 dL_law_861 dL_law_862 dL_law_863 dL_law_864 (by decide) ?_
  refine g_arg (pc := 865) (m := 2) hX hn (by omega) dL_law_865 dL_law_866 dL_law_867 dL_law_868 dL_law_869 (by decide) ?_
  refine g_invR (pc := 870) (J := i_X8_along) (n := 2) (idx := 102) (As := [.int (f (i + 1)), .int (f (i + 2))]) (k := 0) (L2 := []) j_X8_along mw_L_102 dL_law_870 rcv_X8 rfl c1 (by decide) (by decide) rfl (by decide) (fun S2 r hp => ?_)
  obtain ⟨rfl, rfl⟩ := hp
  refine g_aload_n (pc := 873) dL_law_873 1 rfl rfl ?_
  refine g_arg (pc := 874) (m := 1) hX hn (by omega) dL_law_874 dL_law_875 dL_law_876 dL_law_877 dL_law_878 (by decide) ?_
  refine g_arg (pc := 879) (m := 2) hX hn (by omega) dL_law_879 dL_law_880 dL_law_881 dL_law_882 dL_law_883 (by decide) ?_
  refine g_invR (pc := 884) (J := i_X9_along) (n := 2) (idx := 105) (As := [.int (f (i + 1)), .int (f (i + 2))]) (k := 58) (L2 := [.int v]) j_X9_along mw_L_105 dL_law_884 rcv_X9 rfl c2 (by decide) (by decide) rfl (Nat.le_of_ble_eq_true rfl) (fun S2 r hp => ?_)
  obtain ⟨rfl, hR⟩ := c3 _ _ hp
  exact g_icmp_eq (pc := 887) (tgt := 1550) dL_law_887 (by decide) (fun _ => kk _ hR) (fun q => absurd rfl q)
theorem law_22 {E : En} {X : Xt} {b n i : Nat} {f : Nat → Int32} {S : St} (hX : SC X b n f) (hn : n ≤ 384) (hi : i + 6 ≤ n) (h : Rel S) (kk : ∀ S2, Rel S2 → G E X i_law S2 1550 (LL E b i) []) : G E X i_law S 892 (LL E b i) [] := by
  obtain ⟨S1, v, Post, c1, c2, c3⟩ := p_when E h (f (i + 1)) (f (i + 2))
  refine g_aload_n (pc := 892) dL_law_892 2 rfl rfl ?_
  refine g_arg (pc := 893) (m := 1) hX hn (by omega) dL_law_893 dL_law_894 dL_law_895 dL_law_896 dL_law_897 (by decide) ?_
  refine g_arg (pc := 898) (m := 2) hX hn (by omega) dL_law_898 dL_law_899 dL_law_900 dL_law_901 dL_law_902 (by decide) ?_
  refine g_invR (pc := 903) (J := i_X8_when) (n := 2) (idx := 106) (As := [.int (f (i + 1)), .int (f (i + 2))]) (k := 0) (L2 := []) j_X8_when mw_L_106 dL_law_903 rcv_X8 rfl c1 (by decide) (by decide) rfl (by decide) (fun S2 r hp => ?_)
  obtain ⟨rfl, rfl⟩ := hp
  refine g_aload_n (pc := 906) dL_law_906 1 rfl rfl ?_
  refine g_arg (pc := 907) (m := 1) hX hn (by omega) dL_law_907 dL_law_908 dL_law_909 dL_law_910 dL_law_911 (by decide) ?_
  refine g_arg (pc := 912) (m := 2) hX hn (by omega) dL_law_912 dL_law_913 dL_law_914 dL_law_915 dL_law_916 (by decide) ?_
  refine g_invR (pc := 917) (J := i_X9_when) (n := 2) (idx := 109) (As := [.int (f (i + 1)), .int (f (i + 2))]) (k := 58) (L2 := [.int v]) j_X9_when mw_L_109 dL_law_917 rcv_X9 rfl c2 (by decide) (by decide) rfl (Nat.le_of_ble_eq_true rfl) (fun S2 r hp => ?_)
  obtain ⟨rfl, hR⟩ := c3 _ _ hp
  exact g_icmp_eq (pc := 920) (tgt := 1550) dL_law_920 (by decide) (fun _ => kk _ hR) (fun q => absurd rfl q)
theorem law_23 {E : En} {X : Xt} {b n i : Nat} {f : Nat → Int32} {S : St} (hX : SC X b n f) (hn : n ≤ 384) (hi : i + 6 ≤ n) (h : Rel S) (kk : ∀ S2, Rel S2 → G E X i_law S2 1550 (LL E b i) []) : G E X i_law S 925 (LL E b i) [] := by
  obtain ⟨S1, v, Post, c1, c2, c3⟩ := p_stow E h (f (i + 1)) (f (i + 2)) (f (i + 3))
  refine g_aload_n (pc := 925) dL_law_925 2 rfl rfl ?_
  refine g_arg (pc := 926) (m := 1) hX hn (by omega) dL_law_926 dL_law_927 dL_law_928 dL_law_929 dL_law_930 (by decide) ?_
  refine g_arg (pc := 931) (m := 2) hX hn (by omega) dL_law_931 dL_law_932 dL_law_933 dL_law_934 dL_law_935 (by decide) ?_
  refine g_arg (pc := 936) (m := 3) hX hn (by omega) dL_law_936 dL_law_937 dL_law_938 dL_law_939 dL_law_940 (by decide) ?_
  refine g_invR (pc := 941) (J := i_X8_stow) (n := 3) (idx := 110) (As := [.int (f (i + 1)), .int (f (i + 2)), .int (f (i + 3))]) (k := 0) (L2 := []) j_X8_stow mw_L_110 dL_law_941 rcv_X8 rfl c1 (by decide) (by decide) rfl (by decide) (fun S2 r hp => ?_)
  obtain ⟨rfl, rfl⟩ := hp
  refine g_aload_n (pc := 944) dL_law_944 1 rfl rfl ?_
  refine g_arg (pc := 945) (m := 1) hX hn (by omega) dL_law_945 dL_law_946 dL_law_947 dL_law_948 dL_law_949 (by decide) ?_
  refine g_arg (pc := 950) (m := 2) hX hn (by omega) dL_law_950 dL_law_951 dL_law_952 dL_law_953 dL_law_954 (by decide) ?_
  refine g_arg (pc := 955) (m := 3) hX hn (by omega) dL_law_955 dL_law_956 dL_law_957 dL_law_958 dL_law_959 (by decide) ?_
  refine g_invR (pc := 960) (J := i_X9_stow) (n := 3) (idx := 113) (As := [.int (f (i + 1)), .int (f (i + 2)), .int (f (i + 3))]) (k := 58) (L2 := [.int v]) j_X9_stow mw_L_113 dL_law_960 rcv_X9 rfl c2 (by decide) (by decide) rfl (Nat.le_of_ble_eq_true rfl) (fun S2 r hp => ?_)
  obtain ⟨rfl, hR⟩ := c3 _ _ hp
  exact g_icmp_eq (pc := 963) (tgt := 1550) dL_law_963 (by decide) (fun _ => kk _ hR) (fun q => absurd rfl q)
theorem law_24 {E : En} {X : Xt} {b n i : Nat} {f : Nat → Int32} {S : St} (hX : SC X b n f) (hn : n ≤ 384) (hi : i + 6 ≤ n) (h : Rel S) (kk : ∀ S2, Rel S2 → G E X i_law S2 1550 (LL E b i) []) : G E X i_law S 968 (LL E b i) [] := by
  obtain ⟨S1, v, Post, c1, c2, c3⟩ := p_dark E h (f (i + 1))
  refine g_aload_n (pc := 968) dL_law_968 2 rfl rfl ?_
  refine g_arg (pc := 969) (m := 1) hX hn (by omega) dL_law_969 dL_law_970 dL_law_971 dL_law_972 dL_law_973 (by decide) ?_
  refine g_invR (pc := 974) (J := i_X8_dark) (n := 1) (idx := 114) (As := [.int (f (i + 1))]) (k := 0) (L2 := []) j_X8_dark mw_L_114 dL_law_974 rcv_X8 rfl c1 (by decide) (by decide) rfl (by decide) (fun S2 r hp => ?_)
  obtain ⟨rfl, rfl⟩ := hp
  refine g_aload_n (pc := 977) dL_law_977 1 rfl rfl ?_
  refine g_arg (pc := 978) (m := 1) hX hn (by omega) dL_law_978 dL_law_979 dL_law_980 dL_law_981 dL_law_982 (by decide) ?_
  refine g_invR (pc := 983) (J := i_X9_dark) (n := 1) (idx := 117) (As := [.int (f (i + 1))]) (k := 58) (L2 := [.int v]) j_X9_dark mw_L_117 dL_law_983 rcv_X9 rfl c2 (by decide) (by decide) rfl (Nat.le_of_ble_eq_true rfl) (fun S2 r hp => ?_)
  obtain ⟨rfl, hR⟩ := c3 _ _ hp
  exact g_icmp_eq (pc := 986) (tgt := 1550) dL_law_986 (by decide) (fun _ => kk _ hR) (fun q => absurd rfl q)
theorem law_25 {E : En} {X : Xt} {b n i : Nat} {f : Nat → Int32} {S : St} (hX : SC X b n f) (hn : n ≤ 384) (hi : i + 6 ≤ n) (h : Rel S) (kk : ∀ S2, Rel S2 → G E X i_law S2 1550 (LL E b i) []) : G E X i_law S 991 (LL E b i) [] := by
  obtain ⟨S1, v, Post, c1, c2, c3⟩ := p_road E h
  refine g_aload_n (pc := 991) dL_law_991 2 rfl rfl ?_
  refine g_invR (pc := 992) (J := i_X8_road) (n := 0) (idx := 118) (As := []) (k := 0) (L2 := []) j_X8_road mw_L_118 dL_law_992 rcv_X8 rfl c1 (by decide) (by decide) rfl (by decide) (fun S2 r hp => ?_)
  obtain ⟨rfl, rfl⟩ := hp
  refine g_aload_n (pc := 995) dL_law_995 1 rfl rfl ?_
  refine g_invR (pc := 996) (J := i_X9_road) (n := 0) (idx := 121) (As := []) (k := 58) (L2 := [.int v]) j_X9_road mw_L_121 dL_law_996 rcv_X9 rfl c2 (by decide) (by decide) rfl (Nat.le_of_ble_eq_true rfl) (fun S2 r hp => ?_)
  obtain ⟨rfl, hR⟩ := c3 _ _ hp
  exact g_icmp_eq (pc := 999) (tgt := 1550) dL_law_999 (by decide) (fun _ => kk _ hR) (fun q => absurd rfl q)
theorem law_26 {E : En} {X : Xt} {b n i : Nat} {f : Nat → Int32} {S : St} (hX : SC X b n f) (hn : n ≤ 384) (hi : i + 6 ≤ n) (h : Rel S) (kk : ∀ S2, Rel S2 → G E X i_law S2 1550 (LL E b i) []) : G E X i_law S 1004 (LL E b i) [] := by
  obtain ⟨S1, v, Post, c1, c2, c3⟩ := p_owes E h (f (i + 1))
  refine g_aload_n (pc := 1004) dL_law_1004 2 rfl rfl ?_
  refine g_arg (pc := 1005) (m := 1) hX hn (by omega) dL_law_1005 dL_law_1006 dL_law_1007 dL_law_1008 dL_law_1009 (by decide) ?_
  refine g_invR (pc := 1010) (J := i_X8_owes) (n := 1) (idx := 122) (As := [.int (f (i + 1))]) (k := 0) (L2 := []) j_X8_owes mw_L_122 dL_law_1010 rcv_X8 rfl c1 (by decide) (by decide) rfl (by decide) (fun S2 r hp => ?_)
  obtain ⟨rfl, rfl⟩ := hp
  refine g_aload_n (pc := 1013) dL_law_1013 1 rfl rfl ?_
  refine g_arg (pc := 1014) (m := 1) hX hn (by omega) dL_law_1014 dL_law_1015 dL_law_1016 dL_law_1017 dL_law_1018 (by decide) ?_
  refine g_invR (pc := 1019) (J := i_X9_owes) (n := 1) (idx := 125) (As := [.int (f (i + 1))]) (k := 58) (L2 := [.int v]) j_X9_owes mw_L_125 dL_law_1019 rcv_X9 rfl c2 (by decide) (by decide) rfl (Nat.le_of_ble_eq_true rfl) (fun S2 r hp => ?_)
  obtain ⟨rfl, hR⟩ := c3 _ _ hp
  exact g_icmp_eq (pc := 1022) (tgt := 1550) dL_law_1022 (by decide) (fun _ => kk _ hR) (fun q => absurd rfl q)
theorem law_27 {E : En} {X : Xt} {b n i : Nat} {f : Nat → Int32} {S : St} (hX : SC X b n f) (hn : n ≤ 384) (hi : i + 6 ≤ n) (h : Rel S) (kk : ∀ S2, Rel S2 → G E X i_law S2 1550 (LL E b i) []) : G E X i_law S 1027 (LL E b i) [] := by
  obtain ⟨S1, v, Post, c1, c2, c3⟩ := p_ring E h
  refine g_aload_n (pc := 1027) dL_law_1027 2 rfl rfl ?_
  refine g_invR (pc := 1028) (J := i_X8_ring) (n := 0) (idx := 126) (As := []) (k := 0) (L2 := []) j_X8_ring mw_L_126 dL_law_1028 rcv_X8 rfl c1 (by decide) (by decide) rfl (by decide) (fun S2 r hp => ?_)
  obtain ⟨rfl, rfl⟩ := hp
  refine g_aload_n (pc := 1031) dL_law_1031 1 rfl rfl ?_
  refine g_invR (pc := 1032) (J := i_X9_ring) (n := 0) (idx := 129) (As := []) (k := 58) (L2 := [.int v]) j_X9_ring mw_L_129 dL_law_1032 rcv_X9 rfl c2 (by decide) (by decide) rfl (Nat.le_of_ble_eq_true rfl) (fun S2 r hp => ?_)
  obtain ⟨rfl, hR⟩ := c3 _ _ hp
  exact g_icmp_eq (pc := 1035) (tgt := 1550) dL_law_1035 (by decide) (fun _ => kk _ hR) (fun q => absurd rfl q)
theorem law_28 {E : En} {X : Xt} {b n i : Nat} {f : Nat → Int32} {S : St} (hX : SC X b n f) (hn : n ≤ 384) (hi : i + 6 ≤ n) (h : Rel S) (kk : ∀ S2, Rel S2 → G E X i_law S2 1550 (LL E b i) []) : G E X i_law S 1040 (LL E b i) [] := by
  obtain ⟨S1, v, Post, c1, c2, c3⟩ := p_rings E h (f (i + 1))
  refine g_aload_n (pc := 1040) dL_law_1040 2 rfl rfl ?_
  refine g_arg (pc := 1041) (m := 1) hX hn (by omega) dL_law_1041 dL_law_1042 dL_law_1043 dL_law_1044 dL_law_1045 (by decide) ?_
  refine g_invR (pc := 1046) (J := i_X8_rings) (n := 1) (idx := 130) (As := [.int (f (i + 1))]) (k := 0) (L2 := []) j_X8_rings mw_L_130 dL_law_1046 rcv_X8 rfl c1 (by decide) (by decide) rfl (by decide) (fun S2 r hp => ?_)
  obtain ⟨rfl, rfl⟩ := hp
  refine g_aload_n (pc := 1049) dL_law_1049 1 rfl rfl ?_
  refine g_arg (pc := 1050) (m := 1) hX hn (by omega) dL_law_1050 dL_law_1051 dL_law_1052 dL_law_1053 dL_law_1054 (by decide) ?_
  refine g_invR (pc := 1055) (J := i_X9_rings) (n := 1) (idx := 133) (As := [.int (f (i + 1))]) (k := 58) (L2 := [.int v]) j_X9_rings mw_L_133 dL_law_1055 rcv_X9 rfl c2 (by decide) (by decide) rfl (Nat.le_of_ble_eq_true rfl) (fun S2 r hp => ?_)
  obtain ⟨rfl, hR⟩ := c3 _ _ hp
  exact g_icmp_eq (pc := 1058) (tgt := 1550) dL_law_1058 (by decide) (fun _ => kk _ hR) (fun q => absurd rfl q)
theorem law_29 {E : En} {X : Xt} {b n i : Nat} {f : Nat → Int32} {S : St} (hX : SC X b n f) (hn : n ≤ 384) (hi : i + 6 ≤ n) (h : Rel S) (kk : ∀ S2, Rel S2 → G E X i_law S2 1550 (LL E b i) []) : G E X i_law S 1063 (LL E b i) [] := by
  obtain ⟨S1, v, Post, c1, c2, c3⟩ := p_least E h (f (i + 1))
  refine g_aload_n (pc := 1063) dL_law_1063 2 rfl rfl ?_
  refine g_arg (pc := 1064) (m := 1) hX hn (by omega) dL_law_1064 dL_law_1065 dL_law_1066 dL_law_1067 dL_law_1068 (by decide) ?_
  refine g_invR (pc := 1069) (J := i_X8_least) (n := 1) (idx := 134) (As := [.int (f (i + 1))]) (k := 0) (L2 := []) j_X8_least mw_L_134 dL_law_1069 rcv_X8 rfl c1 (by decide) (by decide) rfl (by decide) (fun S2 r hp => ?_)
  obtain ⟨rfl, rfl⟩ := hp
  refine g_aload_n (pc := 1072) dL_law_1072 1 rfl rfl ?_
  refine g_arg (pc := 1073) (m := 1) hX hn (by omega) dL_law_1073 dL_law_1074 dL_law_1075 dL_law_1076 dL_law_1077 (by decide) ?_
  refine g_invR (pc := 1078) (J := i_X9_least) (n := 1) (idx := 137) (As := [.int (f (i + 1))]) (k := 58) (L2 := [.int v]) j_X9_least mw_L_137 dL_law_1078 rcv_X9 rfl c2 (by decide) (by decide) rfl (Nat.le_of_ble_eq_true rfl) (fun S2 r hp => ?_)
  obtain ⟨rfl, hR⟩ := c3 _ _ hp
  exact g_icmp_eq (pc := 1081) (tgt := 1550) dL_law_1081 (by decide) (fun _ => kk _ hR) (fun q => absurd rfl q)
theorem law_30 {E : En} {X : Xt} {b n i : Nat} {f : Nat → Int32} {S : St} (hX : SC X b n f) (hn : n ≤ 384) (hi : i + 6 ≤ n) (h : Rel S) (kk : ∀ S2, Rel S2 → G E X i_law S2 1550 (LL E b i) []) : G E X i_law S 1086 (LL E b i) [] := by
  obtain ⟨S1, v, Post, c1, c2, c3⟩ := p_chain E h (f (i + 1)) (f (i + 2)) (f (i + 3))
  refine g_aload_n (pc := 1086) dL_law_1086 2 rfl rfl ?_
  refine g_arg (pc := 1087) (m := 1) hX hn (by omega) dL_law_1087 dL_law_1088 dL_law_1089 dL_law_1090 dL_law_1091 (by decide) ?_
  refine g_arg (pc := 1092) (m := 2) hX hn (by omega) dL_law_1092 dL_law_1093 dL_law_1094 dL_law_1095 dL_law_1096 (by decide) ?_
  refine g_arg (pc := 1097) (m := 3) hX hn (by omega) dL_law_1097 dL_law_1098 dL_law_1099 dL_law_1100 dL_law_1101 (by decide) ?_
  refine g_invR (pc := 1102) (J := i_X8_chain) (n := 3) (idx := 138) (As := [.int (f (i + 1)), .int (f (i + 2)), .int (f (i + 3))]) (k := 0) (L2 := []) j_X8_chain mw_L_138 dL_law_1102 rcv_X8 rfl c1 (by decide) (by decide) rfl (by decide) (fun S2 r hp => ?_)
  obtain ⟨rfl, rfl⟩ := hp
  refine g_aload_n (pc := 1105) dL_law_1105 1 rfl rfl ?_
  refine g_arg (pc := 1106) (m := 1) hX hn (by omega) dL_law_1106 dL_law_1107 dL_law_1108 dL_law_1109 dL_law_1110 (by decide) ?_
  refine g_arg (pc := 1111) (m := 2) hX hn (by omega) dL_law_1111 dL_law_1112 dL_law_1113 dL_law_1114 dL_law_1115 (by decide) ?_
  refine g_arg (pc := 1116) (m := 3) hX hn (by omega) dL_law_1116 dL_law_1117 dL_law_1118 dL_law_1119 dL_law_1120 (by decide) ?_
  refine g_invR (pc := 1121) (J := i_X9_chain) (n := 3) (idx := 141) (As := [.int (f (i + 1)), .int (f (i + 2)), .int (f (i + 3))]) (k := 58) (L2 := [.int v]) j_X9_chain mw_L_141 dL_law_1121 rcv_X9 rfl c2 (by decide) (by decide) rfl (Nat.le_of_ble_eq_true rfl) (fun S2 r hp => ?_)
  obtain ⟨rfl, hR⟩ := c3 _ _ hp
  exact g_icmp_eq (pc := 1124) (tgt := 1550) dL_law_1124 (by decide) (fun _ => kk _ hR) (fun q => absurd rfl q)
theorem law_31 {E : En} {X : Xt} {b n i : Nat} {f : Nat → Int32} {S : St} (hX : SC X b n f) (hn : n ≤ 384) (hi : i + 6 ≤ n) (h : Rel S) (kk : ∀ S2, Rel S2 → G E X i_law S2 1550 (LL E b i) []) : G E X i_law S 1129 (LL E b i) [] := by
  obtain ⟨S1, v, Post, c1, c2, c3⟩ := p_dim E h (f (i + 1)) (f (i + 2))
  refine g_aload_n (pc := 1129) dL_law_1129 2 rfl rfl ?_
  refine g_arg (pc := 1130) (m := 1) hX hn (by omega) dL_law_1130 dL_law_1131 dL_law_1132 dL_law_1133 dL_law_1134 (by decide) ?_
  refine g_arg (pc := 1135) (m := 2) hX hn (by omega) dL_law_1135 dL_law_1136 dL_law_1137 dL_law_1138 dL_law_1139 (by decide) ?_
  refine g_invR (pc := 1140) (J := i_X8_dim) (n := 2) (idx := 142) (As := [.int (f (i + 1)), .int (f (i + 2))]) (k := 0) (L2 := []) j_X8_dim mw_L_142 dL_law_1140 rcv_X8 rfl c1 (by decide) (by decide) rfl (by decide) (fun S2 r hp => ?_)
  obtain ⟨rfl, rfl⟩ := hp
  refine g_aload_n (pc := 1143) dL_law_1143 1 rfl rfl ?_
  refine g_arg (pc := 1144) (m := 1) hX hn (by omega) dL_law_1144 dL_law_1145 dL_law_1146 dL_law_1147 dL_law_1148 (by decide) ?_
  refine g_arg (pc := 1149) (m := 2) hX hn (by omega) dL_law_1149 dL_law_1150 dL_law_1151 dL_law_1152 dL_law_1153 (by decide) ?_
  refine g_invR (pc := 1154) (J := i_X9_dim) (n := 2) (idx := 145) (As := [.int (f (i + 1)), .int (f (i + 2))]) (k := 58) (L2 := [.int v]) j_X9_dim mw_L_145 dL_law_1154 rcv_X9 rfl c2 (by decide) (by decide) rfl (Nat.le_of_ble_eq_true rfl) (fun S2 r hp => ?_)
  obtain ⟨rfl, hR⟩ := c3 _ _ hp
  exact g_icmp_eq (pc := 1157) (tgt := 1550) dL_law_1157 (by decide) (fun _ => kk _ hR) (fun q => absurd rfl q)
theorem law_32 {E : En} {X : Xt} {b n i : Nat} {f : Nat → Int32} {S : St} (hX : SC X b n f) (hn : n ≤ 384) (hi : i + 6 ≤ n) (h : Rel S) (kk : ∀ S2, Rel S2 → G E X i_law S2 1550 (LL E b i) []) : G E X i_law S 1162 (LL E b i) [] := by
  obtain ⟨S1, v, Post, c1, c2, c3⟩ := p_firsts E h (f (i + 1)) (f (i + 2))
  refine g_aload_n (pc := 1162) dL_law_1162 2 rfl rfl ?_
  refine g_arg (pc := 1163) (m := 1) hX hn (by omega) dL_law_1163 dL_law_1164 dL_law_1165 dL_law_1166 dL_law_1167 (by decide) ?_
  refine g_arg (pc := 1168) (m := 2) hX hn (by omega) dL_law_1168 dL_law_1169 dL_law_1170 dL_law_1171 dL_law_1172 (by decide) ?_
  refine g_invR (pc := 1173) (J := i_X8_firsts) (n := 2) (idx := 146) (As := [.int (f (i + 1)), .int (f (i + 2))]) (k := 0) (L2 := []) j_X8_firsts mw_L_146 dL_law_1173 rcv_X8 rfl c1 (by decide) (by decide) rfl (by decide) (fun S2 r hp => ?_)
  obtain ⟨rfl, rfl⟩ := hp
  refine g_aload_n (pc := 1176) dL_law_1176 1 rfl rfl ?_
  refine g_arg (pc := 1177) (m := 1) hX hn (by omega) dL_law_1177 dL_law_1178 dL_law_1179 dL_law_1180 dL_law_1181 (by decide) ?_
  refine g_arg (pc := 1182) (m := 2) hX hn (by omega) dL_law_1182 dL_law_1183 dL_law_1184 dL_law_1185 dL_law_1186 (by decide) ?_
  refine g_invR (pc := 1187) (J := i_X9_firsts) (n := 2) (idx := 149) (As := [.int (f (i + 1)), .int (f (i + 2))]) (k := 58) (L2 := [.int v]) j_X9_firsts mw_L_149 dL_law_1187 rcv_X9 rfl c2 (by decide) (by decide) rfl (Nat.le_of_ble_eq_true rfl) (fun S2 r hp => ?_)
  obtain ⟨rfl, hR⟩ := c3 _ _ hp
  exact g_icmp_eq (pc := 1190) (tgt := 1550) dL_law_1190 (by decide) (fun _ => kk _ hR) (fun q => absurd rfl q)
theorem law_33 {E : En} {X : Xt} {b n i : Nat} {f : Nat → Int32} {S : St} (hX : SC X b n f) (hn : n ≤ 384) (hi : i + 6 ≤ n) (h : Rel S) (kk : ∀ S2, Rel S2 → G E X i_law S2 1550 (LL E b i) []) : G E X i_law S 1195 (LL E b i) [] := by
  obtain ⟨S1, v, Post, c1, c2, c3⟩ := p_kinds E h (f (i + 1)) (f (i + 2))
  refine g_aload_n (pc := 1195) dL_law_1195 2 rfl rfl ?_
  refine g_arg (pc := 1196) (m := 1) hX hn (by omega) dL_law_1196 dL_law_1197 dL_law_1198 dL_law_1199 dL_law_1200 (by decide) ?_
  refine g_arg (pc := 1201) (m := 2) hX hn (by omega) dL_law_1201 dL_law_1202 dL_law_1203 dL_law_1204 dL_law_1205 (by decide) ?_
  refine g_invR (pc := 1206) (J := i_X8_kinds) (n := 2) (idx := 150) (As := [.int (f (i + 1)), .int (f (i + 2))]) (k := 0) (L2 := []) j_X8_kinds mw_L_150 dL_law_1206 rcv_X8 rfl c1 (by decide) (by decide) rfl (by decide) (fun S2 r hp => ?_)
  obtain ⟨rfl, rfl⟩ := hp
  refine g_aload_n (pc := 1209) dL_law_1209 1 rfl rfl ?_
  refine g_arg (pc := 1210) (m := 1) hX hn (by omega) dL_law_1210 dL_law_1211 dL_law_1212 dL_law_1213 dL_law_1214 (by decide) ?_
  refine g_arg (pc := 1215) (m := 2) hX hn (by omega) dL_law_1215 dL_law_1216 dL_law_1217 dL_law_1218 dL_law_1219 (by decide) ?_
  refine g_invR (pc := 1220) (J := i_X9_kinds) (n := 2) (idx := 153) (As := [.int (f (i + 1)), .int (f (i + 2))]) (k := 58) (L2 := [.int v]) j_X9_kinds mw_L_153 dL_law_1220 rcv_X9 rfl c2 (by decide) (by decide) rfl (Nat.le_of_ble_eq_true rfl) (fun S2 r hp => ?_)
  obtain ⟨rfl, hR⟩ := c3 _ _ hp
  exact g_icmp_eq (pc := 1223) (tgt := 1550) dL_law_1223 (by decide) (fun _ => kk _ hR) (fun q => absurd rfl q)
theorem law_34 {E : En} {X : Xt} {b n i : Nat} {f : Nat → Int32} {S : St} (hX : SC X b n f) (hn : n ≤ 384) (hi : i + 6 ≤ n) (h : Rel S) (kk : ∀ S2, Rel S2 → G E X i_law S2 1550 (LL E b i) []) : G E X i_law S 1228 (LL E b i) [] := by
  obtain ⟨S1, v, Post, c1, c2, c3⟩ := p_test E h (f (i + 1)) (f (i + 2))
  refine g_aload_n (pc := 1228) dL_law_1228 2 rfl rfl ?_
  refine g_arg (pc := 1229) (m := 1) hX hn (by omega) dL_law_1229 dL_law_1230 dL_law_1231 dL_law_1232 dL_law_1233 (by decide) ?_
  refine g_arg (pc := 1234) (m := 2) hX hn (by omega) dL_law_1234 dL_law_1235 dL_law_1236 dL_law_1237 dL_law_1238 (by decide) ?_
  refine g_invR (pc := 1239) (J := i_X8_test) (n := 2) (idx := 154) (As := [.int (f (i + 1)), .int (f (i + 2))]) (k := 0) (L2 := []) j_X8_test mw_L_154 dL_law_1239 rcv_X8 rfl c1 (by decide) (by decide) rfl (by decide) (fun S2 r hp => ?_)
  obtain ⟨rfl, rfl⟩ := hp
  refine g_aload_n (pc := 1242) dL_law_1242 1 rfl rfl ?_
  refine g_arg (pc := 1243) (m := 1) hX hn (by omega) dL_law_1243 dL_law_1244 dL_law_1245 dL_law_1246 dL_law_1247 (by decide) ?_
  refine g_arg (pc := 1248) (m := 2) hX hn (by omega) dL_law_1248 dL_law_1249 dL_law_1250 dL_law_1251 dL_law_1252 (by decide) ?_
  refine g_invR (pc := 1253) (J := i_X9_test) (n := 2) (idx := 157) (As := [.int (f (i + 1)), .int (f (i + 2))]) (k := 58) (L2 := [.int v]) j_X9_test mw_L_157 dL_law_1253 rcv_X9 rfl c2 (by decide) (by decide) rfl (Nat.le_of_ble_eq_true rfl) (fun S2 r hp => ?_)
  obtain ⟨rfl, hR⟩ := c3 _ _ hp
  exact g_icmp_eq (pc := 1256) (tgt := 1550) dL_law_1256 (by decide) (fun _ => kk _ hR) (fun q => absurd rfl q)
theorem law_35 {E : En} {X : Xt} {b n i : Nat} {f : Nat → Int32} {S : St} (hX : SC X b n f) (hn : n ≤ 384) (hi : i + 6 ≤ n) (h : Rel S) (kk : ∀ S2, Rel S2 → G E X i_law S2 1550 (LL E b i) []) : G E X i_law S 1261 (LL E b i) [] := by
  obtain ⟨S1, v, Post, c1, c2, c3⟩ := p_whose E h (f (i + 1)) (f (i + 2))
  refine g_aload_n (pc := 1261) dL_law_1261 2 rfl rfl ?_
  refine g_arg (pc := 1262) (m := 1) hX hn (by omega) dL_law_1262 dL_law_1263 dL_law_1264 dL_law_1265 dL_law_1266 (by decide) ?_
  refine g_arg (pc := 1267) (m := 2) hX hn (by omega) dL_law_1267 dL_law_1268 dL_law_1269 dL_law_1270 dL_law_1271 (by decide) ?_
  refine g_invR (pc := 1272) (J := i_X8_whose) (n := 2) (idx := 158) (As := [.int (f (i + 1)), .int (f (i + 2))]) (k := 0) (L2 := []) j_X8_whose mw_L_158 dL_law_1272 rcv_X8 rfl c1 (by decide) (by decide) rfl (by decide) (fun S2 r hp => ?_)
  obtain ⟨rfl, rfl⟩ := hp
  refine g_aload_n (pc := 1275) dL_law_1275 1 rfl rfl ?_
  refine g_arg (pc := 1276) (m := 1) hX hn (by omega) dL_law_1276 dL_law_1277 dL_law_1278 dL_law_1279 dL_law_1280 (by decide) ?_
  refine g_arg (pc := 1281) (m := 2) hX hn (by omega) dL_law_1281 dL_law_1282 dL_law_1283 dL_law_1284 dL_law_1285 (by decide) ?_
  refine g_invR (pc := 1286) (J := i_X9_whose) (n := 2) (idx := 161) (As := [.int (f (i + 1)), .int (f (i + 2))]) (k := 58) (L2 := [.int v]) j_X9_whose mw_L_161 dL_law_1286 rcv_X9 rfl c2 (by decide) (by decide) rfl (Nat.le_of_ble_eq_true rfl) (fun S2 r hp => ?_)
  obtain ⟨rfl, hR⟩ := c3 _ _ hp
  exact g_icmp_eq (pc := 1289) (tgt := 1550) dL_law_1289 (by decide) (fun _ => kk _ hR) (fun q => absurd rfl q)
theorem law_36 {E : En} {X : Xt} {b n i : Nat} {f : Nat → Int32} {S : St} (hX : SC X b n f) (hn : n ≤ 384) (hi : i + 6 ≤ n) (h : Rel S) (kk : ∀ S2, Rel S2 → G E X i_law S2 1550 (LL E b i) []) : G E X i_law S 1294 (LL E b i) [] := by
  obtain ⟨S1, v, Post, c1, c2, c3⟩ := p_duel E h (f (i + 1)) (f (i + 2))
  refine g_aload_n (pc := 1294) dL_law_1294 2 rfl rfl ?_
  refine g_arg (pc := 1295) (m := 1) hX hn (by omega) dL_law_1295 dL_law_1296 dL_law_1297 dL_law_1298 dL_law_1299 (by decide) ?_
  refine g_arg (pc := 1300) (m := 2) hX hn (by omega) dL_law_1300 dL_law_1301 dL_law_1302 dL_law_1303 dL_law_1304 (by decide) ?_
  refine g_invR (pc := 1305) (J := i_X8_duel) (n := 2) (idx := 162) (As := [.int (f (i + 1)), .int (f (i + 2))]) (k := 0) (L2 := []) j_X8_duel mw_L_162 dL_law_1305 rcv_X8 rfl c1 (by decide) (by decide) rfl (by decide) (fun S2 r hp => ?_)
  obtain ⟨rfl, rfl⟩ := hp
  refine g_aload_n (pc := 1308) dL_law_1308 1 rfl rfl ?_
  refine g_arg (pc := 1309) (m := 1) hX hn (by omega) dL_law_1309 dL_law_1310 dL_law_1311 dL_law_1312 dL_law_1313 (by decide) ?_
  refine g_arg (pc := 1314) (m := 2) hX hn (by omega) dL_law_1314 dL_law_1315 dL_law_1316 dL_law_1317 dL_law_1318 (by decide) ?_
  refine g_invR (pc := 1319) (J := i_X9_duel) (n := 2) (idx := 165) (As := [.int (f (i + 1)), .int (f (i + 2))]) (k := 58) (L2 := [.int v]) j_X9_duel mw_L_165 dL_law_1319 rcv_X9 rfl c2 (by decide) (by decide) rfl (Nat.le_of_ble_eq_true rfl) (fun S2 r hp => ?_)
  obtain ⟨rfl, hR⟩ := c3 _ _ hp
  exact g_icmp_eq (pc := 1322) (tgt := 1550) dL_law_1322 (by decide) (fun _ => kk _ hR) (fun q => absurd rfl q)
theorem law_37 {E : En} {X : Xt} {b n i : Nat} {f : Nat → Int32} {S : St} (hX : SC X b n f) (hn : n ≤ 384) (hi : i + 6 ≤ n) (h : Rel S) (kk : ∀ S2, Rel S2 → G E X i_law S2 1550 (LL E b i) []) : G E X i_law S 1327 (LL E b i) [] := by
  obtain ⟨S1, v, Post, c1, c2, c3⟩ := p_odds E h (f (i + 1)) (f (i + 2)) (f (i + 3))
  refine g_aload_n (pc := 1327) dL_law_1327 2 rfl rfl ?_
  refine g_arg (pc := 1328) (m := 1) hX hn (by omega) dL_law_1328 dL_law_1329 dL_law_1330 dL_law_1331 dL_law_1332 (by decide) ?_
  refine g_arg (pc := 1333) (m := 2) hX hn (by omega) dL_law_1333 dL_law_1334 dL_law_1335 dL_law_1336 dL_law_1337 (by decide) ?_
  refine g_arg (pc := 1338) (m := 3) hX hn (by omega) dL_law_1338 dL_law_1339 dL_law_1340 dL_law_1341 dL_law_1342 (by decide) ?_
  refine g_invR (pc := 1343) (J := i_X8_odds) (n := 3) (idx := 166) (As := [.int (f (i + 1)), .int (f (i + 2)), .int (f (i + 3))]) (k := 0) (L2 := []) j_X8_odds mw_L_166 dL_law_1343 rcv_X8 rfl c1 (by decide) (by decide) rfl (by decide) (fun S2 r hp => ?_)
  obtain ⟨rfl, rfl⟩ := hp
  refine g_aload_n (pc := 1346) dL_law_1346 1 rfl rfl ?_
  refine g_arg (pc := 1347) (m := 1) hX hn (by omega) dL_law_1347 dL_law_1348 dL_law_1349 dL_law_1350 dL_law_1351 (by decide) ?_
  refine g_arg (pc := 1352) (m := 2) hX hn (by omega) dL_law_1352 dL_law_1353 dL_law_1354 dL_law_1355 dL_law_1356 (by decide) ?_
  refine g_arg (pc := 1357) (m := 3) hX hn (by omega) dL_law_1357 dL_law_1358 dL_law_1359 dL_law_1360 dL_law_1361 (by decide) ?_
  refine g_invR (pc := 1362) (J := i_X9_odds) (n := 3) (idx := 169) (As := [.int (f (i + 1)), .int (f (i + 2)), .int (f (i + 3))]) (k := 58) (L2 := [.int v]) j_X9_odds mw_L_169 dL_law_1362 rcv_X9 rfl c2 (by decide) (by decide) rfl (Nat.le_of_ble_eq_true rfl) (fun S2 r hp => ?_)
  obtain ⟨rfl, hR⟩ := c3 _ _ hp
  exact g_icmp_eq (pc := 1365) (tgt := 1550) dL_law_1365 (by decide) (fun _ => kk _ hR) (fun q => absurd rfl q)
theorem law_38 {E : En} {X : Xt} {b n i : Nat} {f : Nat → Int32} {S : St} (hX : SC X b n f) (hn : n ≤ 384) (hi : i + 6 ≤ n) (h : Rel S) (kk : ∀ S2, Rel S2 → G E X i_law S2 1550 (LL E b i) []) : G E X i_law S 1370 (LL E b i) [] := by
  obtain ⟨S1, v, Post, c1, c2, c3⟩ := p_mid E h (f (i + 1)) (f (i + 2))
  refine g_aload_n (pc := 1370) dL_law_1370 2 rfl rfl ?_
  refine g_arg (pc := 1371) (m := 1) hX hn (by omega) dL_law_1371 dL_law_1372 dL_law_1373 dL_law_1374 dL_law_1375 (by decide) ?_
  refine g_arg (pc := 1376) (m := 2) hX hn (by omega) dL_law_1376 dL_law_1377 dL_law_1378 dL_law_1379 dL_law_1380 (by decide) ?_
  refine g_invR (pc := 1381) (J := i_X8_mid) (n := 2) (idx := 170) (As := [.int (f (i + 1)), .int (f (i + 2))]) (k := 0) (L2 := []) j_X8_mid mw_L_170 dL_law_1381 rcv_X8 rfl c1 (by decide) (by decide) rfl (by decide) (fun S2 r hp => ?_)
  obtain ⟨rfl, rfl⟩ := hp
  refine g_aload_n (pc := 1384) dL_law_1384 1 rfl rfl ?_
  refine g_arg (pc := 1385) (m := 1) hX hn (by omega) dL_law_1385 dL_law_1386 dL_law_1387 dL_law_1388 dL_law_1389 (by decide) ?_
  refine g_arg (pc := 1390) (m := 2) hX hn (by omega) dL_law_1390 dL_law_1391 dL_law_1392 dL_law_1393 dL_law_1394 (by decide) ?_
  refine g_invR (pc := 1395) (J := i_X9_mid) (n := 2) (idx := 173) (As := [.int (f (i + 1)), .int (f (i + 2))]) (k := 58) (L2 := [.int v]) j_X9_mid mw_L_173 dL_law_1395 rcv_X9 rfl c2 (by decide) (by decide) rfl (Nat.le_of_ble_eq_true rfl) (fun S2 r hp => ?_)
  obtain ⟨rfl, hR⟩ := c3 _ _ hp
  exact g_icmp_eq (pc := 1398) (tgt := 1550) dL_law_1398 (by decide) (fun _ => kk _ hR) (fun q => absurd rfl q)
theorem law_39 {E : En} {X : Xt} {b n i : Nat} {f : Nat → Int32} {S : St} (hX : SC X b n f) (hn : n ≤ 384) (hi : i + 6 ≤ n) (h : Rel S) (kk : ∀ S2, Rel S2 → G E X i_law S2 1550 (LL E b i) []) : G E X i_law S 1403 (LL E b i) [] := by
  obtain ⟨S1, v, Post, c1, c2, c3⟩ := p_lots E h (f (i + 1)) (f (i + 2))
  refine g_aload_n (pc := 1403) dL_law_1403 2 rfl rfl ?_
  refine g_arg (pc := 1404) (m := 1) hX hn (by omega) dL_law_1404 dL_law_1405 dL_law_1406 dL_law_1407 dL_law_1408 (by decide) ?_
  refine g_arg (pc := 1409) (m := 2) hX hn (by omega) dL_law_1409 dL_law_1410 dL_law_1411 dL_law_1412 dL_law_1413 (by decide) ?_
  refine g_invR (pc := 1414) (J := i_X8_lots) (n := 2) (idx := 174) (As := [.int (f (i + 1)), .int (f (i + 2))]) (k := 0) (L2 := []) j_X8_lots mw_L_174 dL_law_1414 rcv_X8 rfl c1 (by decide) (by decide) rfl (by decide) (fun S2 r hp => ?_)
  obtain ⟨rfl, rfl⟩ := hp
  refine g_aload_n (pc := 1417) dL_law_1417 1 rfl rfl ?_
  refine g_arg (pc := 1418) (m := 1) hX hn (by omega) dL_law_1418 dL_law_1419 dL_law_1420 dL_law_1421 dL_law_1422 (by decide) ?_
  refine g_arg (pc := 1423) (m := 2) hX hn (by omega) dL_law_1423 dL_law_1424 dL_law_1425 dL_law_1426 dL_law_1427 (by decide) ?_
  refine g_invR (pc := 1428) (J := i_X9_lots) (n := 2) (idx := 177) (As := [.int (f (i + 1)), .int (f (i + 2))]) (k := 58) (L2 := [.int v]) j_X9_lots mw_L_177 dL_law_1428 rcv_X9 rfl c2 (by decide) (by decide) rfl (Nat.le_of_ble_eq_true rfl) (fun S2 r hp => ?_)
  obtain ⟨rfl, hR⟩ := c3 _ _ hp
  exact g_icmp_eq (pc := 1431) (tgt := 1550) dL_law_1431 (by decide) (fun _ => kk _ hR) (fun q => absurd rfl q)
theorem law_40 {E : En} {X : Xt} {b n i : Nat} {f : Nat → Int32} {S : St} (hX : SC X b n f) (hn : n ≤ 384) (hi : i + 6 ≤ n) (h : Rel S) (kk : ∀ S2, Rel S2 → G E X i_law S2 1550 (LL E b i) []) : G E X i_law S 1436 (LL E b i) [] := by
  obtain ⟨S1, v, Post, c1, c2, c3⟩ := p_asked E h
  refine g_aload_n (pc := 1436) dL_law_1436 2 rfl rfl ?_
  refine g_invR (pc := 1437) (J := i_X8_asked) (n := 0) (idx := 178) (As := []) (k := 0) (L2 := []) j_X8_asked mw_L_178 dL_law_1437 rcv_X8 rfl c1 (by decide) (by decide) rfl (by decide) (fun S2 r hp => ?_)
  obtain ⟨rfl, rfl⟩ := hp
  refine g_aload_n (pc := 1440) dL_law_1440 1 rfl rfl ?_
  refine g_invR (pc := 1441) (J := i_X9_asked) (n := 0) (idx := 181) (As := []) (k := 58) (L2 := [.int v]) j_X9_asked mw_L_181 dL_law_1441 rcv_X9 rfl c2 (by decide) (by decide) rfl (Nat.le_of_ble_eq_true rfl) (fun S2 r hp => ?_)
  obtain ⟨rfl, hR⟩ := c3 _ _ hp
  exact g_icmp_eq (pc := 1444) (tgt := 1550) dL_law_1444 (by decide) (fun _ => kk _ hR) (fun q => absurd rfl q)
theorem law_41 {E : En} {X : Xt} {b n i : Nat} {f : Nat → Int32} {S : St} (hX : SC X b n f) (hn : n ≤ 384) (hi : i + 6 ≤ n) (h : Rel S) (kk : ∀ S2, Rel S2 → G E X i_law S2 1550 (LL E b i) []) : G E X i_law S 1449 (LL E b i) [] := by
  obtain ⟨S1, v, Post, c1, c2, c3⟩ := p_upper E h
  refine g_aload_n (pc := 1449) dL_law_1449 2 rfl rfl ?_
  refine g_invR (pc := 1450) (J := i_X8_upper) (n := 0) (idx := 182) (As := []) (k := 0) (L2 := []) j_X8_upper mw_L_182 dL_law_1450 rcv_X8 rfl c1 (by decide) (by decide) rfl (by decide) (fun S2 r hp => ?_)
  obtain ⟨rfl, rfl⟩ := hp
  refine g_aload_n (pc := 1453) dL_law_1453 1 rfl rfl ?_
  refine g_invR (pc := 1454) (J := i_X9_upper) (n := 0) (idx := 186) (As := []) (k := 58) (L2 := [.long v]) j_X9_upper mw_L_186 dL_law_1454 rcv_X9 rfl c2 (by decide) (by decide) rfl (Nat.le_of_ble_eq_true rfl) (fun S2 r hp => ?_)
  obtain ⟨rfl, hR⟩ := c3 _ _ hp
  refine g_lcmp (pc := 1457) dL_law_1457 ?_
  exact g_lc_eq (pc := 1458) (tgt := 1550) dL_law_1458 (by decide) (fun _ => kk _ hR) (fun q => absurd rfl q)
theorem law_42 {E : En} {X : Xt} {b n i : Nat} {f : Nat → Int32} {S : St} (hX : SC X b n f) (hn : n ≤ 384) (hi : i + 6 ≤ n) (h : Rel S) (kk : ∀ S2, Rel S2 → G E X i_law S2 1550 (LL E b i) []) : G E X i_law S 1463 (LL E b i) [] := by
  obtain ⟨S1, v, Post, c1, c2, c3⟩ := p_lower E h
  refine g_aload_n (pc := 1463) dL_law_1463 2 rfl rfl ?_
  refine g_invR (pc := 1464) (J := i_X8_lower) (n := 0) (idx := 187) (As := []) (k := 0) (L2 := []) j_X8_lower mw_L_187 dL_law_1464 rcv_X8 rfl c1 (by decide) (by decide) rfl (by decide) (fun S2 r hp => ?_)
  obtain ⟨rfl, rfl⟩ := hp
  refine g_aload_n (pc := 1467) dL_law_1467 1 rfl rfl ?_
  refine g_invR (pc := 1468) (J := i_X9_lower) (n := 0) (idx := 190) (As := []) (k := 58) (L2 := [.long v]) j_X9_lower mw_L_190 dL_law_1468 rcv_X9 rfl c2 (by decide) (by decide) rfl (Nat.le_of_ble_eq_true rfl) (fun S2 r hp => ?_)
  obtain ⟨rfl, hR⟩ := c3 _ _ hp
  refine g_lcmp (pc := 1471) dL_law_1471 ?_
  exact g_lc_eq (pc := 1472) (tgt := 1550) dL_law_1472 (by decide) (fun _ => kk _ hR) (fun q => absurd rfl q)
theorem law_43 {E : En} {X : Xt} {b n i : Nat} {f : Nat → Int32} {S : St} (hX : SC X b n f) (hn : n ≤ 384) (hi : i + 6 ≤ n) (h : Rel S) (kk : ∀ S2, Rel S2 → G E X i_law S2 1550 (LL E b i) []) : G E X i_law S 1477 (LL E b i) [] := by
  obtain ⟨S1, v, Post, c1, c2, c3⟩ := p_count E h (f (i + 1))
  refine g_aload_n (pc := 1477) dL_law_1477 2 rfl rfl ?_
  refine g_arg (pc := 1478) (m := 1) hX hn (by omega) dL_law_1478 dL_law_1479 dL_law_1480 dL_law_1481 dL_law_1482 (by decide) ?_
  refine g_invR (pc := 1483) (J := i_X8_count) (n := 1) (idx := 191) (As := [.int (f (i + 1))]) (k := 0) (L2 := []) j_X8_count mw_L_191 dL_law_1483 rcv_X8 rfl c1 (by decide) (by decide) rfl (by decide) (fun S2 r hp => ?_)
  obtain ⟨rfl, rfl⟩ := hp
  refine g_aload_n (pc := 1486) dL_law_1486 1 rfl rfl ?_
  refine g_arg (pc := 1487) (m := 1) hX hn (by omega) dL_law_1487 dL_law_1488 dL_law_1489 dL_law_1490 dL_law_1491 (by decide) ?_
  refine g_invR (pc := 1492) (J := i_X9_count) (n := 1) (idx := 194) (As := [.int (f (i + 1))]) (k := 58) (L2 := [.int v]) j_X9_count mw_L_194 dL_law_1492 rcv_X9 rfl c2 (by decide) (by decide) rfl (Nat.le_of_ble_eq_true rfl) (fun S2 r hp => ?_)
  obtain ⟨rfl, hR⟩ := c3 _ _ hp
  exact g_icmp_eq (pc := 1495) (tgt := 1550) dL_law_1495 (by decide) (fun _ => kk _ hR) (fun q => absurd rfl q)
theorem law_44 {E : En} {X : Xt} {b n i : Nat} {f : Nat → Int32} {S : St} (hX : SC X b n f) (hn : n ≤ 384) (hi : i + 6 ≤ n) (h : Rel S) (kk : ∀ S2, Rel S2 → G E X i_law S2 1550 (LL E b i) []) : G E X i_law S 1500 (LL E b i) [] := by
  obtain ⟨S1, v, Post, c1, c2, c3⟩ := p_finding E h
  refine g_aload_n (pc := 1500) dL_law_1500 2 rfl rfl ?_
  refine g_invR (pc := 1501) (J := i_X8_finding) (n := 0) (idx := 195) (As := []) (k := 0) (L2 := []) j_X8_finding mw_L_195 dL_law_1501 rcv_X8 rfl c1 (by decide) (by decide) rfl (by decide) (fun S2 r hp => ?_)
  obtain ⟨rfl, rfl⟩ := hp
  refine g_aload_n (pc := 1504) dL_law_1504 1 rfl rfl ?_
  refine g_invR (pc := 1505) (J := i_X9_finding) (n := 0) (idx := 198) (As := []) (k := 58) (L2 := [.int v]) j_X9_finding mw_L_198 dL_law_1505 rcv_X9 rfl c2 (by decide) (by decide) rfl (Nat.le_of_ble_eq_true rfl) (fun S2 r hp => ?_)
  obtain ⟨rfl, hR⟩ := c3 _ _ hp
  exact g_icmp_eq (pc := 1508) (tgt := 1550) dL_law_1508 (by decide) (fun _ => kk _ hR) (fun q => absurd rfl q)
theorem law_45 {E : En} {X : Xt} {b n i : Nat} {f : Nat → Int32} {S : St} (hX : SC X b n f) (hn : n ≤ 384) (hi : i + 6 ≤ n) (h : Rel S) (kk : ∀ S2, Rel S2 → G E X i_law S2 1550 (LL E b i) []) : G E X i_law S 1513 (LL E b i) [] := by
  obtain ⟨S1, v, Post, c1, c2, c3⟩ := p_findings E h (f (i + 1))
  refine g_aload_n (pc := 1513) dL_law_1513 2 rfl rfl ?_
  refine g_arg (pc := 1514) (m := 1) hX hn (by omega) dL_law_1514 dL_law_1515 dL_law_1516 dL_law_1517 dL_law_1518 (by decide) ?_
  refine g_invR (pc := 1519) (J := i_X8_findings) (n := 1) (idx := 199) (As := [.int (f (i + 1))]) (k := 0) (L2 := []) j_X8_findings mw_L_199 dL_law_1519 rcv_X8 rfl c1 (by decide) (by decide) rfl (by decide) (fun S2 r hp => ?_)
  obtain ⟨rfl, rfl⟩ := hp
  refine g_aload_n (pc := 1522) dL_law_1522 1 rfl rfl ?_
  refine g_arg (pc := 1523) (m := 1) hX hn (by omega) dL_law_1523 dL_law_1524 dL_law_1525 dL_law_1526 dL_law_1527 (by decide) ?_
  refine g_invR (pc := 1528) (J := i_X9_findings) (n := 1) (idx := 202) (As := [.int (f (i + 1))]) (k := 58) (L2 := [.int v]) j_X9_findings mw_L_202 dL_law_1528 rcv_X9 rfl c2 (by decide) (by decide) rfl (Nat.le_of_ble_eq_true rfl) (fun S2 r hp => ?_)
  obtain ⟨rfl, hR⟩ := c3 _ _ hp
  exact g_icmp_eq (pc := 1531) (tgt := 1550) dL_law_1531 (by decide) (fun _ => kk _ hR) (fun q => absurd rfl q)
theorem law_46 {E : En} {X : Xt} {b n i : Nat} {f : Nat → Int32} {S : St} (hX : SC X b n f) (hn : n ≤ 384) (hi : i + 6 ≤ n) (h : Rel S) (kk : ∀ S2, Rel S2 → G E X i_law S2 1550 (LL E b i) []) : G E X i_law S 1536 (LL E b i) [] := by
  obtain ⟨S1, v, Post, c1, c2, c3⟩ := p_digest E h
  refine g_aload_n (pc := 1536) dL_law_1536 2 rfl rfl ?_
  refine g_invR (pc := 1537) (J := i_X8_digest) (n := 0) (idx := 203) (As := []) (k := 0) (L2 := []) j_X8_digest mw_L_203 dL_law_1537 rcv_X8 rfl c1 (by decide) (by decide) rfl (by decide) (fun S2 r hp => ?_)
  obtain ⟨rfl, rfl⟩ := hp
  refine g_aload_n (pc := 1540) dL_law_1540 1 rfl rfl ?_
  refine g_invR (pc := 1541) (J := i_X9_digest) (n := 0) (idx := 206) (As := []) (k := 58) (L2 := [.long v]) j_X9_digest mw_L_206 dL_law_1541 rcv_X9 rfl c2 (by decide) (by decide) rfl (Nat.le_of_ble_eq_true rfl) (fun S2 r hp => ?_)
  obtain ⟨rfl, hR⟩ := c3 _ _ hp
  refine g_lcmp (pc := 1544) dL_law_1544 ?_
  exact g_lc_eq (pc := 1545) (tgt := 1550) dL_law_1545 (by decide) (fun _ => kk _ hR) (fun q => absurd rfl q)

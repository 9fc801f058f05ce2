/-! THE LAW'S CASES: printed by wip/whole/lawc.py -/
section URLQ
variable {p : Program} {l : Launch} {e : Env} {s : State} {mid : MethodId} {below : List Frame} {meth : Method} {c : Code} {D : va_G} {cas : Nat → ClassId} {ad : Nat → Value} {Q : State → Prop} {Cn Sn : Nat} {b L : Nat} {xs : Nat → Int32} {i : Int32} {x5 x6 : Option Value} {sh : List (Nat ⊕ (Nat × Nat))} {f : Nat → Nat → Int32} {g : Nat → Nat → Int64} {R : Nat → Nat → Option Nat}
theorem lcase_0 (hC : lwC p l s mid b c D cas ad L xs) (hin : ∀ k : Nat, k < 7 → vp_in (i + nI k) L) (hS : sh.length ≤ 1000) (hcap : Cn ≤ room_1.cells ∧ Sn ≤ room_1.slots) (hI : INV sh R f g) (K : ∀ f2 g2 R2, INV sh R2 f2 g2 → ∀ x5 x6, lwJ p l e s mid b below meth c D cas ad Cn Sn Q 1485 (lwL i x5 x6) [] (sh, f2, g2, R2)) : lwJ p l e s mid b below meth c D cas ad Cn Sn Q 216 (lwL i x5 x6) [] (sh, f, g, R) := by
  obtain ⟨L1, L2, K1, K2, l1, V1, N1, P1, E1, hJ⟩ := hI
  refine lj_aload_n hC.1 dL_law_216 rfl ?_
  refine lw_arg (kv := 1) hC dL_law_217 dL_law_218 dL_law_220 rfl dL_law_221 dL_law_222 rfl rfl (hin 1 (by decide)) ?_
  refine lj_i2l hC.1 dL_law_223 ?_
  refine lj_bipush (v := 32) hC.1 dL_law_224 rfl ?_
  refine lj_lshl hC.1 dL_law_226 ?_
  refine lw_arg (kv := 2) hC dL_law_227 dL_law_228 dL_law_230 rfl dL_law_231 dL_law_232 rfl rfl (hin 2 (by decide)) ?_
  refine lj_i2l hC.1 dL_law_233 ?_
  refine lj_ldc2 (w := Int64.ofNat 4294967295) hC.1 lk_12_19 dL_law_234 ?_
  refine lj_land hC.1 dL_law_237 ?_
  refine lj_lor hC.1 dL_law_238 ?_
  refine lw_arg (kv := 3) hC dL_law_239 dL_law_240 dL_law_242 rfl dL_law_243 dL_law_244 rfl rfl (hin 3 (by decide)) ?_
  refine lj_i2l hC.1 dL_law_245 ?_
  refine lj_bipush (v := 32) hC.1 dL_law_246 rfl ?_
  refine lj_lshl hC.1 dL_law_248 ?_
  refine lw_arg (kv := 4) hC dL_law_249 dL_law_250 dL_law_252 rfl dL_law_253 dL_law_254 rfl rfl (hin 4 (by decide)) ?_
  refine lj_i2l hC.1 dL_law_255 ?_
  refine lj_ldc2 (w := Int64.ofNat 4294967295) hC.1 lk_12_19 dL_law_256 ?_
  refine lj_land hC.1 dL_law_259 ?_
  refine lj_lor hC.1 dL_law_260 ?_
  refine lw_arg (kv := 5) hC dL_law_261 dL_law_262 dL_law_264 rfl dL_law_265 dL_law_266 rfl rfl (hin 5 (by decide)) ?_
  refine lj_i2l hC.1 dL_law_267 ?_
  refine lj_bipush (v := 32) hC.1 dL_law_268 rfl ?_
  refine lj_lshl hC.1 dL_law_270 ?_
  refine lw_arg6 (kv := 6) hC dL_law_271 dL_law_272 dL_law_274 rfl dL_law_276 dL_law_277 rfl rfl (hin 6 (by decide)) ?_
  refine lj_i2l hC.1 dL_law_278 ?_
  refine lj_ldc2 (w := Int64.ofNat 4294967295) hC.1 lk_12_19 dL_law_279 ?_
  refine lj_land hC.1 dL_law_282 ?_
  refine lj_lor hC.1 dL_law_283 ?_
  obtain ⟨v, f1, g1, R1, f2, g2, R2, c1, c2, hI2⟩ := show JC sh R f g 60 81 143 [.long (((xs (i + 1).toNatClampNeg).toInt64 <<< ((32 : Int32).toInt64 &&& 63)) ||| ((xs (i + 2).toNatClampNeg).toInt64 &&& Int64.ofNat 4294967295)), .long (((xs (i + 3).toNatClampNeg).toInt64 <<< ((32 : Int32).toInt64 &&& 63)) ||| ((xs (i + 4).toNatClampNeg).toInt64 &&& Int64.ofNat 4294967295)), .long (((xs (i + 5).toNatClampNeg).toInt64 <<< ((32 : Int32).toInt64 &&& 63)) ||| ((xs (i + 6).toNatClampNeg).toInt64 &&& Int64.ofNat 4294967295))] from (j_feed (d := 0) hJ)
  refine lj_virt (d := 59) (a := 0) (As := [.long (((xs (i + 1).toNatClampNeg).toInt64 <<< ((32 : Int32).toInt64 &&& 63)) ||| ((xs (i + 2).toNatClampNeg).toInt64 &&& Int64.ofNat 4294967295)), .long (((xs (i + 3).toNatClampNeg).toInt64 <<< ((32 : Int32).toInt64 &&& 63)) ||| ((xs (i + 4).toNatClampNeg).toInt64 &&& Int64.ofNat 4294967295)), .long (((xs (i + 5).toNatClampNeg).toInt64 <<< ((32 : Int32).toInt64 &&& 63)) ||| ((xs (i + 6).toNatClampNeg).toInt64 &&& Int64.ofNat 4294967295))]) (r := []) (v := (v, (sh, f1, g1, R1))) hC.1 lk_0_21 rfl (by decide) c1 rfl hS rfl (by decide) (by decide) hcap.1 hcap.2 (by decide) dL_law_284 ?_
  refine lj_aload_n hC.1 dL_law_287 rfl ?_
  refine lw_arg (kv := 1) hC dL_law_288 dL_law_289 dL_law_291 rfl dL_law_292 dL_law_293 rfl rfl (hin 1 (by decide)) ?_
  refine lj_i2l hC.1 dL_law_294 ?_
  refine lj_bipush (v := 32) hC.1 dL_law_295 rfl ?_
  refine lj_lshl hC.1 dL_law_297 ?_
  refine lw_arg (kv := 2) hC dL_law_298 dL_law_299 dL_law_301 rfl dL_law_302 dL_law_303 rfl rfl (hin 2 (by decide)) ?_
  refine lj_i2l hC.1 dL_law_304 ?_
  refine lj_ldc2 (w := Int64.ofNat 4294967295) hC.1 lk_12_19 dL_law_305 ?_
  refine lj_land hC.1 dL_law_308 ?_
  refine lj_lor hC.1 dL_law_309 ?_
  refine lw_arg (kv := 3) hC dL_law_310 dL_law_311 dL_law_313 rfl dL_law_314 dL_law_315 rfl rfl (hin 3 (by decide)) ?_
  refine lj_i2l hC.1 dL_law_316 ?_
  refine lj_bipush (v := 32) hC.1 dL_law_317 rfl ?_
  refine lj_lshl hC.1 dL_law_319 ?_
  refine lw_arg (kv := 4) hC dL_law_320 dL_law_321 dL_law_323 rfl dL_law_324 dL_law_325 rfl rfl (hin 4 (by decide)) ?_
  refine lj_i2l hC.1 dL_law_326 ?_
  refine lj_ldc2 (w := Int64.ofNat 4294967295) hC.1 lk_12_19 dL_law_327 ?_
  refine lj_land hC.1 dL_law_330 ?_
  refine lj_lor hC.1 dL_law_331 ?_
  refine lw_arg (kv := 5) hC dL_law_332 dL_law_333 dL_law_335 rfl dL_law_336 dL_law_337 rfl rfl (hin 5 (by decide)) ?_
  refine lj_i2l hC.1 dL_law_338 ?_
  refine lj_bipush (v := 32) hC.1 dL_law_339 rfl ?_
  refine lj_lshl hC.1 dL_law_341 ?_
  refine lw_arg6 (kv := 6) hC dL_law_342 dL_law_343 dL_law_345 rfl dL_law_347 dL_law_348 rfl rfl (hin 6 (by decide)) ?_
  refine lj_i2l hC.1 dL_law_349 ?_
  refine lj_ldc2 (w := Int64.ofNat 4294967295) hC.1 lk_12_19 dL_law_350 ?_
  refine lj_land hC.1 dL_law_353 ?_
  refine lj_lor hC.1 dL_law_354 ?_
  refine lj_virt (d := 59) (a := 208) (As := [.long (((xs (i + 1).toNatClampNeg).toInt64 <<< ((32 : Int32).toInt64 &&& 63)) ||| ((xs (i + 2).toNatClampNeg).toInt64 &&& Int64.ofNat 4294967295)), .long (((xs (i + 3).toNatClampNeg).toInt64 <<< ((32 : Int32).toInt64 &&& 63)) ||| ((xs (i + 4).toNatClampNeg).toInt64 &&& Int64.ofNat 4294967295)), .long (((xs (i + 5).toNatClampNeg).toInt64 <<< ((32 : Int32).toInt64 &&& 63)) ||| ((xs (i + 6).toNatClampNeg).toInt64 &&& Int64.ofNat 4294967295))]) (r := [.int v]) (v := (v, (sh, f2, g2, R2))) hC.1 lk_0_25 rfl (by decide) c2 rfl hS rfl (by decide) (by decide) hcap.1 hcap.2 (by show 1 ≤ 8; decide) dL_law_355 ?_
  exact lj_icmp_eq hC.1 dL_law_358 (x := 1485) rfl (fun _ => K f2 g2 R2 hI2 x5 x6) (fun y => absurd rfl y)
theorem lcase_1 (hC : lwC p l s mid b c D cas ad L xs) (hin : ∀ k : Nat, k < 7 → vp_in (i + nI k) L) (hS : sh.length ≤ 1000) (hcap : Cn ≤ room_1.cells ∧ Sn ≤ room_1.slots) (hI : INV sh R f g) (K : ∀ f2 g2 R2, INV sh R2 f2 g2 → ∀ x5 x6, lwJ p l e s mid b below meth c D cas ad Cn Sn Q 1485 (lwL i x5 x6) [] (sh, f2, g2, R2)) : lwJ p l e s mid b below meth c D cas ad Cn Sn Q 363 (lwL i x5 x6) [] (sh, f, g, R) := by
  obtain ⟨L1, L2, K1, K2, l1, V1, N1, P1, E1, hJ⟩ := hI
  refine lj_aload_n hC.1 dL_law_363 rfl ?_
  obtain ⟨v, f1, g1, R1, f2, g2, R2, c1, c2, hI2⟩ := show JC sh R f g 60 83 177 [] from (j_marches (d := 0) hJ hS)
  refine lj_virt (d := 59) (a := 0) (As := []) (r := []) (v := (v, (sh, f1, g1, R1))) hC.1 lk_0_26 rfl (by decide) c1 rfl hS rfl (by decide) (by decide) hcap.1 hcap.2 (by decide) dL_law_364 ?_
  refine lj_aload_n hC.1 dL_law_367 rfl ?_
  refine lj_virt (d := 59) (a := 208) (As := []) (r := [.int v]) (v := (v, (sh, f2, g2, R2))) hC.1 lk_0_30 rfl (by decide) c2 rfl hS rfl (by decide) (by decide) hcap.1 hcap.2 (by show 1 ≤ 8; decide) dL_law_368 ?_
  exact lj_icmp_eq hC.1 dL_law_371 (x := 1485) rfl (fun _ => K f2 g2 R2 hI2 x5 x6) (fun y => absurd rfl y)
theorem lcase_2 (hC : lwC p l s mid b c D cas ad L xs) (hin : ∀ k : Nat, k < 7 → vp_in (i + nI k) L) (hS : sh.length ≤ 1000) (hcap : Cn ≤ room_1.cells ∧ Sn ≤ room_1.slots) (hI : INV sh R f g) (K : ∀ f2 g2 R2, INV sh R2 f2 g2 → ∀ x5 x6, lwJ p l e s mid b below meth c D cas ad Cn Sn Q 1485 (lwL i x5 x6) [] (sh, f2, g2, R2)) : lwJ p l e s mid b below meth c D cas ad Cn Sn Q 376 (lwL i x5 x6) [] (sh, f, g, R) := by
  obtain ⟨L1, L2, K1, K2, l1, V1, N1, P1, E1, hJ⟩ := hI
  refine lj_aload_n hC.1 dL_law_376 rfl ?_
  obtain ⟨v, f1, g1, R1, f2, g2, R2, c1, c2, hI2⟩ := show JC sh R f g 60 85 178 [] from (j_evening (d := 0) hJ hS)
  refine lj_virt (d := 59) (a := 0) (As := []) (r := []) (v := (v, (sh, f1, g1, R1))) hC.1 lk_0_31 rfl (by decide) c1 rfl hS rfl (by decide) (by decide) hcap.1 hcap.2 (by decide) dL_law_377 ?_
  refine lj_aload_n hC.1 dL_law_380 rfl ?_
  refine lj_virt (d := 59) (a := 208) (As := []) (r := [.int v]) (v := (v, (sh, f2, g2, R2))) hC.1 lk_0_34 rfl (by decide) c2 rfl hS rfl (by decide) (by decide) hcap.1 hcap.2 (by show 1 ≤ 8; decide) dL_law_381 ?_
  exact lj_icmp_eq hC.1 dL_law_384 (x := 1485) rfl (fun _ => K f2 g2 R2 hI2 x5 x6) (fun y => absurd rfl y)
theorem lcase_3 (hC : lwC p l s mid b c D cas ad L xs) (hin : ∀ k : Nat, k < 7 → vp_in (i + nI k) L) (hS : sh.length ≤ 1000) (hcap : Cn ≤ room_1.cells ∧ Sn ≤ room_1.slots) (hI : INV sh R f g) (K : ∀ f2 g2 R2, INV sh R2 f2 g2 → ∀ x5 x6, lwJ p l e s mid b below meth c D cas ad Cn Sn Q 1485 (lwL i x5 x6) [] (sh, f2, g2, R2)) : lwJ p l e s mid b below meth c D cas ad Cn Sn Q 389 (lwL i x5 x6) [] (sh, f, g, R) := by
  obtain ⟨L1, L2, K1, K2, l1, V1, N1, P1, E1, hJ⟩ := hI
  refine lj_aload_n hC.1 dL_law_389 rfl ?_
  refine lw_arg (kv := 1) hC dL_law_390 dL_law_391 dL_law_393 rfl dL_law_394 dL_law_395 rfl rfl (hin 1 (by decide)) ?_
  refine lw_arg (kv := 2) hC dL_law_396 dL_law_397 dL_law_399 rfl dL_law_400 dL_law_401 rfl rfl (hin 2 (by decide)) ?_
  obtain ⟨v, f1, g1, R1, f2, g2, R2, c1, c2, hI2⟩ := show JC sh R f g 60 86 201 [.int (xs (i + 1).toNatClampNeg), .int (xs (i + 2).toNatClampNeg)] from (hJ.jc (j_room (d := 0) hJ))
  refine lj_virt (d := 59) (a := 0) (As := [.int (xs (i + 1).toNatClampNeg), .int (xs (i + 2).toNatClampNeg)]) (r := []) (v := (v, (sh, f1, g1, R1))) hC.1 lk_0_35 rfl (by decide) c1 rfl hS rfl (by decide) (by decide) hcap.1 hcap.2 (by decide) dL_law_402 ?_
  refine lj_aload_n hC.1 dL_law_405 rfl ?_
  refine lw_arg (kv := 1) hC dL_law_406 dL_law_407 dL_law_409 rfl dL_law_410 dL_law_411 rfl rfl (hin 1 (by decide)) ?_
  refine lw_arg (kv := 2) hC dL_law_412 dL_law_413 dL_law_415 rfl dL_law_416 dL_law_417 rfl rfl (hin 2 (by decide)) ?_
  refine lj_virt (d := 59) (a := 208) (As := [.int (xs (i + 1).toNatClampNeg), .int (xs (i + 2).toNatClampNeg)]) (r := [.int v]) (v := (v, (sh, f2, g2, R2))) hC.1 lk_0_39 rfl (by decide) c2 rfl hS rfl (by decide) (by decide) hcap.1 hcap.2 (by show 1 ≤ 8; decide) dL_law_418 ?_
  exact lj_icmp_eq hC.1 dL_law_421 (x := 1485) rfl (fun _ => K f2 g2 R2 hI2 x5 x6) (fun y => absurd rfl y)
theorem lcase_4 (hC : lwC p l s mid b c D cas ad L xs) (hin : ∀ k : Nat, k < 7 → vp_in (i + nI k) L) (hS : sh.length ≤ 1000) (hcap : Cn ≤ room_1.cells ∧ Sn ≤ room_1.slots) (hI : INV sh R f g) (K : ∀ f2 g2 R2, INV sh R2 f2 g2 → ∀ x5 x6, lwJ p l e s mid b below meth c D cas ad Cn Sn Q 1485 (lwL i x5 x6) [] (sh, f2, g2, R2)) : lwJ p l e s mid b below meth c D cas ad Cn Sn Q 426 (lwL i x5 x6) [] (sh, f, g, R) := by
  obtain ⟨L1, L2, K1, K2, l1, V1, N1, P1, E1, hJ⟩ := hI
  refine lj_aload_n hC.1 dL_law_426 rfl ?_
  refine lw_arg (kv := 1) hC dL_law_427 dL_law_428 dL_law_430 rfl dL_law_431 dL_law_432 rfl rfl (hin 1 (by decide)) ?_
  refine lw_arg (kv := 2) hC dL_law_433 dL_law_434 dL_law_436 rfl dL_law_437 dL_law_438 rfl rfl (hin 2 (by decide)) ?_
  obtain ⟨v, f1, g1, R1, f2, g2, R2, c1, c2, hI2⟩ := show JC sh R f g 60 87 202 [.int (xs (i + 1).toNatClampNeg), .int (xs (i + 2).toNatClampNeg)] from (hJ.jc (j_person (d := 0) hJ))
  refine lj_virt (d := 59) (a := 0) (As := [.int (xs (i + 1).toNatClampNeg), .int (xs (i + 2).toNatClampNeg)]) (r := []) (v := (v, (sh, f1, g1, R1))) hC.1 lk_0_40 rfl (by decide) c1 rfl hS rfl (by decide) (by decide) hcap.1 hcap.2 (by decide) dL_law_439 ?_
  refine lj_aload_n hC.1 dL_law_442 rfl ?_
  refine lw_arg (kv := 1) hC dL_law_443 dL_law_444 dL_law_446 rfl dL_law_447 dL_law_448 rfl rfl (hin 1 (by decide)) ?_
  refine lw_arg (kv := 2) hC dL_law_449 dL_law_450 dL_law_452 rfl dL_law_453 dL_law_454 rfl rfl (hin 2 (by decide)) ?_
  refine lj_virt (d := 59) (a := 208) (As := [.int (xs (i + 1).toNatClampNeg), .int (xs (i + 2).toNatClampNeg)]) (r := [.int v]) (v := (v, (sh, f2, g2, R2))) hC.1 lk_0_43 rfl (by decide) c2 rfl hS rfl (by decide) (by decide) hcap.1 hcap.2 (by show 1 ≤ 8; decide) dL_law_455 ?_
  exact lj_icmp_eq hC.1 dL_law_458 (x := 1485) rfl (fun _ => K f2 g2 R2 hI2 x5 x6) (fun y => absurd rfl y)
theorem lcase_5 (hC : lwC p l s mid b c D cas ad L xs) (hin : ∀ k : Nat, k < 7 → vp_in (i + nI k) L) (hS : sh.length ≤ 1000) (hcap : Cn ≤ room_1.cells ∧ Sn ≤ room_1.slots) (hI : INV sh R f g) (K : ∀ f2 g2 R2, INV sh R2 f2 g2 → ∀ x5 x6, lwJ p l e s mid b below meth c D cas ad Cn Sn Q 1485 (lwL i x5 x6) [] (sh, f2, g2, R2)) : lwJ p l e s mid b below meth c D cas ad Cn Sn Q 463 (lwL i x5 x6) [] (sh, f, g, R) := by
  obtain ⟨L1, L2, K1, K2, l1, V1, N1, P1, E1, hJ⟩ := hI
  refine lj_aload_n hC.1 dL_law_463 rfl ?_
  refine lw_arg (kv := 1) hC dL_law_464 dL_law_465 dL_law_467 rfl dL_law_468 dL_law_469 rfl rfl (hin 1 (by decide)) ?_
  refine lw_arg (kv := 2) hC dL_law_470 dL_law_471 dL_law_473 rfl dL_law_474 dL_law_475 rfl rfl (hin 2 (by decide)) ?_
  obtain ⟨v, f1, g1, R1, f2, g2, R2, c1, c2, hI2⟩ := show JC sh R f g 60 88 204 [.int (xs (i + 1).toNatClampNeg), .int (xs (i + 2).toNatClampNeg)] from (j_walk (d := 0) hJ)
  refine lj_virt (d := 59) (a := 0) (As := [.int (xs (i + 1).toNatClampNeg), .int (xs (i + 2).toNatClampNeg)]) (r := []) (v := (v, (sh, f1, g1, R1))) hC.1 lk_0_44 rfl (by decide) c1 rfl hS rfl (by decide) (by decide) hcap.1 hcap.2 (by decide) dL_law_476 ?_
  refine lj_aload_n hC.1 dL_law_479 rfl ?_
  refine lw_arg (kv := 1) hC dL_law_480 dL_law_481 dL_law_483 rfl dL_law_484 dL_law_485 rfl rfl (hin 1 (by decide)) ?_
  refine lw_arg (kv := 2) hC dL_law_486 dL_law_487 dL_law_489 rfl dL_law_490 dL_law_491 rfl rfl (hin 2 (by decide)) ?_
  refine lj_virt (d := 59) (a := 208) (As := [.int (xs (i + 1).toNatClampNeg), .int (xs (i + 2).toNatClampNeg)]) (r := [.int v]) (v := (v, (sh, f2, g2, R2))) hC.1 lk_0_48 rfl (by decide) c2 rfl hS rfl (by decide) (by decide) hcap.1 hcap.2 (by show 1 ≤ 8; decide) dL_law_492 ?_
  exact lj_icmp_eq hC.1 dL_law_495 (x := 1485) rfl (fun _ => K f2 g2 R2 hI2 x5 x6) (fun y => absurd rfl y)
theorem lcase_6 (hC : lwC p l s mid b c D cas ad L xs) (hin : ∀ k : Nat, k < 7 → vp_in (i + nI k) L) (hS : sh.length ≤ 1000) (hcap : Cn ≤ room_1.cells ∧ Sn ≤ room_1.slots) (hI : INV sh R f g) (K : ∀ f2 g2 R2, INV sh R2 f2 g2 → ∀ x5 x6, lwJ p l e s mid b below meth c D cas ad Cn Sn Q 1485 (lwL i x5 x6) [] (sh, f2, g2, R2)) : lwJ p l e s mid b below meth c D cas ad Cn Sn Q 500 (lwL i x5 x6) [] (sh, f, g, R) := by
  obtain ⟨L1, L2, K1, K2, l1, V1, N1, P1, E1, hJ⟩ := hI
  refine lj_aload_n hC.1 dL_law_500 rfl ?_
  refine lw_arg (kv := 1) hC dL_law_501 dL_law_502 dL_law_504 rfl dL_law_505 dL_law_506 rfl rfl (hin 1 (by decide)) ?_
  refine lw_arg (kv := 2) hC dL_law_507 dL_law_508 dL_law_510 rfl dL_law_511 dL_law_512 rfl rfl (hin 2 (by decide)) ?_
  obtain ⟨v, f1, g1, R1, f2, g2, R2, c1, c2, hI2⟩ := show JC sh R f g 60 89 205 [.int (xs (i + 1).toNatClampNeg), .int (xs (i + 2).toNatClampNeg)] from (j_show (d := 0) hJ)
  refine lj_virt (d := 59) (a := 0) (As := [.int (xs (i + 1).toNatClampNeg), .int (xs (i + 2).toNatClampNeg)]) (r := []) (v := (v, (sh, f1, g1, R1))) hC.1 lk_0_49 rfl (by decide) c1 rfl hS rfl (by decide) (by decide) hcap.1 hcap.2 (by decide) dL_law_513 ?_
  refine lj_aload_n hC.1 dL_law_516 rfl ?_
  refine lw_arg (kv := 1) hC dL_law_517 dL_law_518 dL_law_520 rfl dL_law_521 dL_law_522 rfl rfl (hin 1 (by decide)) ?_
  refine lw_arg (kv := 2) hC dL_law_523 dL_law_524 dL_law_526 rfl dL_law_527 dL_law_528 rfl rfl (hin 2 (by decide)) ?_
  refine lj_virt (d := 59) (a := 208) (As := [.int (xs (i + 1).toNatClampNeg), .int (xs (i + 2).toNatClampNeg)]) (r := [.int v]) (v := (v, (sh, f2, g2, R2))) hC.1 lk_0_52 rfl (by decide) c2 rfl hS rfl (by decide) (by decide) hcap.1 hcap.2 (by show 1 ≤ 8; decide) dL_law_529 ?_
  exact lj_icmp_eq hC.1 dL_law_532 (x := 1485) rfl (fun _ => K f2 g2 R2 hI2 x5 x6) (fun y => absurd rfl y)
theorem lcase_7 (hC : lwC p l s mid b c D cas ad L xs) (hin : ∀ k : Nat, k < 7 → vp_in (i + nI k) L) (hS : sh.length ≤ 1000) (hcap : Cn ≤ room_1.cells ∧ Sn ≤ room_1.slots) (hI : INV sh R f g) (K : ∀ f2 g2 R2, INV sh R2 f2 g2 → ∀ x5 x6, lwJ p l e s mid b below meth c D cas ad Cn Sn Q 1485 (lwL i x5 x6) [] (sh, f2, g2, R2)) : lwJ p l e s mid b below meth c D cas ad Cn Sn Q 537 (lwL i x5 x6) [] (sh, f, g, R) := by
  obtain ⟨L1, L2, K1, K2, l1, V1, N1, P1, E1, hJ⟩ := hI
  refine lj_aload_n hC.1 dL_law_537 rfl ?_
  refine lw_arg (kv := 1) hC dL_law_538 dL_law_539 dL_law_541 rfl dL_law_542 dL_law_543 rfl rfl (hin 1 (by decide)) ?_
  obtain ⟨v, f1, g1, R1, f2, g2, R2, c1, c2, hI2⟩ := show JC sh R f g 60 90 206 [.int (xs (i + 1).toNatClampNeg)] from (j_speak (d := 0) hJ)
  refine lj_virt (d := 59) (a := 0) (As := [.int (xs (i + 1).toNatClampNeg)]) (r := []) (v := (v, (sh, f1, g1, R1))) hC.1 lk_0_53 rfl (by decide) c1 rfl hS rfl (by decide) (by decide) hcap.1 hcap.2 (by decide) dL_law_544 ?_
  refine lj_aload_n hC.1 dL_law_547 rfl ?_
  refine lw_arg (kv := 1) hC dL_law_548 dL_law_549 dL_law_551 rfl dL_law_552 dL_law_553 rfl rfl (hin 1 (by decide)) ?_
  refine lj_virt (d := 59) (a := 208) (As := [.int (xs (i + 1).toNatClampNeg)]) (r := [.int v]) (v := (v, (sh, f2, g2, R2))) hC.1 lk_0_57 rfl (by decide) c2 rfl hS rfl (by decide) (by decide) hcap.1 hcap.2 (by show 1 ≤ 8; decide) dL_law_554 ?_
  exact lj_icmp_eq hC.1 dL_law_557 (x := 1485) rfl (fun _ => K f2 g2 R2 hI2 x5 x6) (fun y => absurd rfl y)
theorem lcase_8 (hC : lwC p l s mid b c D cas ad L xs) (hin : ∀ k : Nat, k < 7 → vp_in (i + nI k) L) (hS : sh.length ≤ 1000) (hcap : Cn ≤ room_1.cells ∧ Sn ≤ room_1.slots) (hI : INV sh R f g) (K : ∀ f2 g2 R2, INV sh R2 f2 g2 → ∀ x5 x6, lwJ p l e s mid b below meth c D cas ad Cn Sn Q 1485 (lwL i x5 x6) [] (sh, f2, g2, R2)) : lwJ p l e s mid b below meth c D cas ad Cn Sn Q 562 (lwL i x5 x6) [] (sh, f, g, R) := by
  obtain ⟨L1, L2, K1, K2, l1, V1, N1, P1, E1, hJ⟩ := hI
  refine lj_aload_n hC.1 dL_law_562 rfl ?_
  refine lw_arg (kv := 1) hC dL_law_563 dL_law_564 dL_law_566 rfl dL_law_567 dL_law_568 rfl rfl (hin 1 (by decide)) ?_
  obtain ⟨v, f1, g1, R1, f2, g2, R2, c1, c2, hI2⟩ := show JC sh R f g 60 91 207 [.int (xs (i + 1).toNatClampNeg)] from (j_burn (d := 0) hJ)
  refine lj_virt (d := 59) (a := 0) (As := [.int (xs (i + 1).toNatClampNeg)]) (r := []) (v := (v, (sh, f1, g1, R1))) hC.1 lk_0_58 rfl (by decide) c1 rfl hS rfl (by decide) (by decide) hcap.1 hcap.2 (by decide) dL_law_569 ?_
  refine lj_aload_n hC.1 dL_law_572 rfl ?_
  refine lw_arg (kv := 1) hC dL_law_573 dL_law_574 dL_law_576 rfl dL_law_577 dL_law_578 rfl rfl (hin 1 (by decide)) ?_
  refine lj_virt (d := 59) (a := 208) (As := [.int (xs (i + 1).toNatClampNeg)]) (r := [.int v]) (v := (v, (sh, f2, g2, R2))) hC.1 lk_0_62 rfl (by decide) c2 rfl hS rfl (by decide) (by decide) hcap.1 hcap.2 (by show 1 ≤ 8; decide) dL_law_579 ?_
  exact lj_icmp_eq hC.1 dL_law_582 (x := 1485) rfl (fun _ => K f2 g2 R2 hI2 x5 x6) (fun y => absurd rfl y)
theorem lcase_9 (hC : lwC p l s mid b c D cas ad L xs) (hin : ∀ k : Nat, k < 7 → vp_in (i + nI k) L) (hS : sh.length ≤ 1000) (hcap : Cn ≤ room_1.cells ∧ Sn ≤ room_1.slots) (hI : INV sh R f g) (K : ∀ f2 g2 R2, INV sh R2 f2 g2 → ∀ x5 x6, lwJ p l e s mid b below meth c D cas ad Cn Sn Q 1485 (lwL i x5 x6) [] (sh, f2, g2, R2)) : lwJ p l e s mid b below meth c D cas ad Cn Sn Q 587 (lwL i x5 x6) [] (sh, f, g, R) := by
  obtain ⟨L1, L2, K1, K2, l1, V1, N1, P1, E1, hJ⟩ := hI
  refine lj_aload_n hC.1 dL_law_587 rfl ?_
  obtain ⟨v, f1, g1, R1, f2, g2, R2, c1, c2, hI2⟩ := show JC sh R f g 60 92 208 [] from (j_minute (d := 0) hJ)
  refine lj_virt (d := 59) (a := 0) (As := []) (r := []) (v := (v, (sh, f1, g1, R1))) hC.1 lk_0_63 rfl (by decide) c1 rfl hS rfl (by decide) (by decide) hcap.1 hcap.2 (by decide) dL_law_588 ?_
  refine lj_aload_n hC.1 dL_law_591 rfl ?_
  refine lj_virt (d := 59) (a := 208) (As := []) (r := [.int v]) (v := (v, (sh, f2, g2, R2))) hC.1 lk_0_66 rfl (by decide) c2 rfl hS rfl (by decide) (by decide) hcap.1 hcap.2 (by show 1 ≤ 8; decide) dL_law_592 ?_
  exact lj_icmp_eq hC.1 dL_law_595 (x := 1485) rfl (fun _ => K f2 g2 R2 hI2 x5 x6) (fun y => absurd rfl y)
theorem lcase_10 (hC : lwC p l s mid b c D cas ad L xs) (hin : ∀ k : Nat, k < 7 → vp_in (i + nI k) L) (hS : sh.length ≤ 1000) (hcap : Cn ≤ room_1.cells ∧ Sn ≤ room_1.slots) (hI : INV sh R f g) (K : ∀ f2 g2 R2, INV sh R2 f2 g2 → ∀ x5 x6, lwJ p l e s mid b below meth c D cas ad Cn Sn Q 1485 (lwL i x5 x6) [] (sh, f2, g2, R2)) : lwJ p l e s mid b below meth c D cas ad Cn Sn Q 600 (lwL i x5 x6) [] (sh, f, g, R) := by
  obtain ⟨L1, L2, K1, K2, l1, V1, N1, P1, E1, hJ⟩ := hI
  refine lj_aload_n hC.1 dL_law_600 rfl ?_
  obtain ⟨v, f1, g1, R1, f2, g2, R2, c1, c2, hI2⟩ := show JC sh R f g 60 94 209 [] from (j_undo (d := 0) hJ)
  refine lj_virt (d := 59) (a := 0) (As := []) (r := []) (v := (v, (sh, f1, g1, R1))) hC.1 lk_0_67 rfl (by decide) c1 rfl hS rfl (by decide) (by decide) hcap.1 hcap.2 (by decide) dL_law_601 ?_
  refine lj_aload_n hC.1 dL_law_604 rfl ?_
  refine lj_virt (d := 59) (a := 208) (As := []) (r := [.int v]) (v := (v, (sh, f2, g2, R2))) hC.1 lk_0_71 rfl (by decide) c2 rfl hS rfl (by decide) (by decide) hcap.1 hcap.2 (by show 1 ≤ 8; decide) dL_law_605 ?_
  exact lj_icmp_eq hC.1 dL_law_608 (x := 1485) rfl (fun _ => K f2 g2 R2 hI2 x5 x6) (fun y => absurd rfl y)
theorem lcase_11 (hC : lwC p l s mid b c D cas ad L xs) (hin : ∀ k : Nat, k < 7 → vp_in (i + nI k) L) (hS : sh.length ≤ 1000) (hcap : Cn ≤ room_1.cells ∧ Sn ≤ room_1.slots) (hI : INV sh R f g) (K : ∀ f2 g2 R2, INV sh R2 f2 g2 → ∀ x5 x6, lwJ p l e s mid b below meth c D cas ad Cn Sn Q 1485 (lwL i x5 x6) [] (sh, f2, g2, R2)) : lwJ p l e s mid b below meth c D cas ad Cn Sn Q 613 (lwL i x5 x6) [] (sh, f, g, R) := by
  obtain ⟨L1, L2, K1, K2, l1, V1, N1, P1, E1, hJ⟩ := hI
  refine lj_aload_n hC.1 dL_law_613 rfl ?_
  refine lw_arg (kv := 1) hC dL_law_614 dL_law_615 dL_law_617 rfl dL_law_618 dL_law_619 rfl rfl (hin 1 (by decide)) ?_
  obtain ⟨v, f1, g1, R1, f2, g2, R2, c1, c2, hI2⟩ := show JC sh R f g 60 95 212 [.int (xs (i + 1).toNatClampNeg)] from (hJ.jc (j_judged (d := 0) hJ))
  refine lj_virt (d := 59) (a := 0) (As := [.int (xs (i + 1).toNatClampNeg)]) (r := []) (v := (v, (sh, f1, g1, R1))) hC.1 lk_0_72 rfl (by decide) c1 rfl hS rfl (by decide) (by decide) hcap.1 hcap.2 (by decide) dL_law_620 ?_
  refine lj_aload_n hC.1 dL_law_623 rfl ?_
  refine lw_arg (kv := 1) hC dL_law_624 dL_law_625 dL_law_627 rfl dL_law_628 dL_law_629 rfl rfl (hin 1 (by decide)) ?_
  refine lj_virt (d := 59) (a := 208) (As := [.int (xs (i + 1).toNatClampNeg)]) (r := [.int v]) (v := (v, (sh, f2, g2, R2))) hC.1 lk_0_75 rfl (by decide) c2 rfl hS rfl (by decide) (by decide) hcap.1 hcap.2 (by show 1 ≤ 8; decide) dL_law_630 ?_
  exact lj_icmp_eq hC.1 dL_law_633 (x := 1485) rfl (fun _ => K f2 g2 R2 hI2 x5 x6) (fun y => absurd rfl y)
theorem lcase_12 (hC : lwC p l s mid b c D cas ad L xs) (hin : ∀ k : Nat, k < 7 → vp_in (i + nI k) L) (hS : sh.length ≤ 1000) (hcap : Cn ≤ room_1.cells ∧ Sn ≤ room_1.slots) (hI : INV sh R f g) (K : ∀ f2 g2 R2, INV sh R2 f2 g2 → ∀ x5 x6, lwJ p l e s mid b below meth c D cas ad Cn Sn Q 1485 (lwL i x5 x6) [] (sh, f2, g2, R2)) : lwJ p l e s mid b below meth c D cas ad Cn Sn Q 638 (lwL i x5 x6) [] (sh, f, g, R) := by
  obtain ⟨L1, L2, K1, K2, l1, V1, N1, P1, E1, hJ⟩ := hI
  refine lj_aload_n hC.1 dL_law_638 rfl ?_
  refine lw_arg (kv := 1) hC dL_law_639 dL_law_640 dL_law_642 rfl dL_law_643 dL_law_644 rfl rfl (hin 1 (by decide)) ?_
  obtain ⟨v, f1, g1, R1, f2, g2, R2, c1, c2, hI2⟩ := show JC sh R f g 60 96 213 [.int (xs (i + 1).toNatClampNeg)] from (hJ.jc (j_host (d := 0) hJ))
  refine lj_virt (d := 59) (a := 0) (As := [.int (xs (i + 1).toNatClampNeg)]) (r := []) (v := (v, (sh, f1, g1, R1))) hC.1 lk_0_76 rfl (by decide) c1 rfl hS rfl (by decide) (by decide) hcap.1 hcap.2 (by decide) dL_law_645 ?_
  refine lj_aload_n hC.1 dL_law_648 rfl ?_
  refine lw_arg (kv := 1) hC dL_law_649 dL_law_650 dL_law_652 rfl dL_law_653 dL_law_654 rfl rfl (hin 1 (by decide)) ?_
  refine lj_virt (d := 59) (a := 208) (As := [.int (xs (i + 1).toNatClampNeg)]) (r := [.int v]) (v := (v, (sh, f2, g2, R2))) hC.1 lk_0_79 rfl (by decide) c2 rfl hS rfl (by decide) (by decide) hcap.1 hcap.2 (by show 1 ≤ 8; decide) dL_law_655 ?_
  exact lj_icmp_eq hC.1 dL_law_658 (x := 1485) rfl (fun _ => K f2 g2 R2 hI2 x5 x6) (fun y => absurd rfl y)
theorem lcase_13 (hC : lwC p l s mid b c D cas ad L xs) (hin : ∀ k : Nat, k < 7 → vp_in (i + nI k) L) (hS : sh.length ≤ 1000) (hcap : Cn ≤ room_1.cells ∧ Sn ≤ room_1.slots) (hI : INV sh R f g) (K : ∀ f2 g2 R2, INV sh R2 f2 g2 → ∀ x5 x6, lwJ p l e s mid b below meth c D cas ad Cn Sn Q 1485 (lwL i x5 x6) [] (sh, f2, g2, R2)) : lwJ p l e s mid b below meth c D cas ad Cn Sn Q 663 (lwL i x5 x6) [] (sh, f, g, R) := by
  obtain ⟨L1, L2, K1, K2, l1, V1, N1, P1, E1, hJ⟩ := hI
  refine lj_aload_n hC.1 dL_law_663 rfl ?_
  refine lw_arg (kv := 1) hC dL_law_664 dL_law_665 dL_law_667 rfl dL_law_668 dL_law_669 rfl rfl (hin 1 (by decide)) ?_
  obtain ⟨v, f1, g1, R1, f2, g2, R2, c1, c2, hI2⟩ := show JC sh R f g 60 97 215 [.int (xs (i + 1).toNatClampNeg)] from (hJ.jc (j_frees (d := 0) hJ))
  refine lj_virt (d := 59) (a := 0) (As := [.int (xs (i + 1).toNatClampNeg)]) (r := []) (v := (v, (sh, f1, g1, R1))) hC.1 lk_0_80 rfl (by decide) c1 rfl hS rfl (by decide) (by decide) hcap.1 hcap.2 (by decide) dL_law_670 ?_
  refine lj_aload_n hC.1 dL_law_673 rfl ?_
  refine lw_arg (kv := 1) hC dL_law_674 dL_law_675 dL_law_677 rfl dL_law_678 dL_law_679 rfl rfl (hin 1 (by decide)) ?_
  refine lj_virt (d := 59) (a := 208) (As := [.int (xs (i + 1).toNatClampNeg)]) (r := [.int v]) (v := (v, (sh, f2, g2, R2))) hC.1 lk_0_83 rfl (by decide) c2 rfl hS rfl (by decide) (by decide) hcap.1 hcap.2 (by show 1 ≤ 8; decide) dL_law_680 ?_
  exact lj_icmp_eq hC.1 dL_law_683 (x := 1485) rfl (fun _ => K f2 g2 R2 hI2 x5 x6) (fun y => absurd rfl y)
theorem lcase_14 (hC : lwC p l s mid b c D cas ad L xs) (hin : ∀ k : Nat, k < 7 → vp_in (i + nI k) L) (hS : sh.length ≤ 1000) (hcap : Cn ≤ room_1.cells ∧ Sn ≤ room_1.slots) (hI : INV sh R f g) (K : ∀ f2 g2 R2, INV sh R2 f2 g2 → ∀ x5 x6, lwJ p l e s mid b below meth c D cas ad Cn Sn Q 1485 (lwL i x5 x6) [] (sh, f2, g2, R2)) : lwJ p l e s mid b below meth c D cas ad Cn Sn Q 688 (lwL i x5 x6) [] (sh, f, g, R) := by
  obtain ⟨L1, L2, K1, K2, l1, V1, N1, P1, E1, hJ⟩ := hI
  refine lj_aload_n hC.1 dL_law_688 rfl ?_
  refine lw_arg (kv := 1) hC dL_law_689 dL_law_690 dL_law_692 rfl dL_law_693 dL_law_694 rfl rfl (hin 1 (by decide)) ?_
  refine lw_arg (kv := 2) hC dL_law_695 dL_law_696 dL_law_698 rfl dL_law_699 dL_law_700 rfl rfl (hin 2 (by decide)) ?_
  obtain ⟨v, f1, g1, R1, f2, g2, R2, c1, c2, hI2⟩ := show JC sh R f g 60 99 216 [.int (xs (i + 1).toNatClampNeg), .int (xs (i + 2).toNatClampNeg)] from (hJ.jc (j_later (d := 0) hJ))
  refine lj_virt (d := 59) (a := 0) (As := [.int (xs (i + 1).toNatClampNeg), .int (xs (i + 2).toNatClampNeg)]) (r := []) (v := (v, (sh, f1, g1, R1))) hC.1 lk_0_84 rfl (by decide) c1 rfl hS rfl (by decide) (by decide) hcap.1 hcap.2 (by decide) dL_law_701 ?_
  refine lj_aload_n hC.1 dL_law_704 rfl ?_
  refine lw_arg (kv := 1) hC dL_law_705 dL_law_706 dL_law_708 rfl dL_law_709 dL_law_710 rfl rfl (hin 1 (by decide)) ?_
  refine lw_arg (kv := 2) hC dL_law_711 dL_law_712 dL_law_714 rfl dL_law_715 dL_law_716 rfl rfl (hin 2 (by decide)) ?_
  refine lj_virt (d := 59) (a := 208) (As := [.int (xs (i + 1).toNatClampNeg), .int (xs (i + 2).toNatClampNeg)]) (r := [.int v]) (v := (v, (sh, f2, g2, R2))) hC.1 lk_0_87 rfl (by decide) c2 rfl hS rfl (by decide) (by decide) hcap.1 hcap.2 (by show 1 ≤ 8; decide) dL_law_717 ?_
  exact lj_icmp_eq hC.1 dL_law_720 (x := 1485) rfl (fun _ => K f2 g2 R2 hI2 x5 x6) (fun y => absurd rfl y)
theorem lcase_15 (hC : lwC p l s mid b c D cas ad L xs) (hin : ∀ k : Nat, k < 7 → vp_in (i + nI k) L) (hS : sh.length ≤ 1000) (hcap : Cn ≤ room_1.cells ∧ Sn ≤ room_1.slots) (hI : INV sh R f g) (K : ∀ f2 g2 R2, INV sh R2 f2 g2 → ∀ x5 x6, lwJ p l e s mid b below meth c D cas ad Cn Sn Q 1485 (lwL i x5 x6) [] (sh, f2, g2, R2)) : lwJ p l e s mid b below meth c D cas ad Cn Sn Q 725 (lwL i x5 x6) [] (sh, f, g, R) := by
  obtain ⟨L1, L2, K1, K2, l1, V1, N1, P1, E1, hJ⟩ := hI
  refine lj_aload_n hC.1 dL_law_725 rfl ?_
  refine lw_arg (kv := 1) hC dL_law_726 dL_law_727 dL_law_729 rfl dL_law_730 dL_law_731 rfl rfl (hin 1 (by decide)) ?_
  obtain ⟨v, f1, g1, R1, f2, g2, R2, c1, c2, hI2⟩ := show JC sh R f g 60 100 217 [.int (xs (i + 1).toNatClampNeg)] from (hJ.jc (j_out (d := 0) hJ))
  refine lj_virt (d := 59) (a := 0) (As := [.int (xs (i + 1).toNatClampNeg)]) (r := []) (v := (v, (sh, f1, g1, R1))) hC.1 lk_0_88 rfl (by decide) c1 rfl hS rfl (by decide) (by decide) hcap.1 hcap.2 (by decide) dL_law_732 ?_
  refine lj_aload_n hC.1 dL_law_735 rfl ?_
  refine lw_arg (kv := 1) hC dL_law_736 dL_law_737 dL_law_739 rfl dL_law_740 dL_law_741 rfl rfl (hin 1 (by decide)) ?_
  refine lj_virt (d := 59) (a := 208) (As := [.int (xs (i + 1).toNatClampNeg)]) (r := [.int v]) (v := (v, (sh, f2, g2, R2))) hC.1 lk_0_91 rfl (by decide) c2 rfl hS rfl (by decide) (by decide) hcap.1 hcap.2 (by show 1 ≤ 8; decide) dL_law_742 ?_
  exact lj_icmp_eq hC.1 dL_law_745 (x := 1485) rfl (fun _ => K f2 g2 R2 hI2 x5 x6) (fun y => absurd rfl y)
theorem lcase_16 (hC : lwC p l s mid b c D cas ad L xs) (hin : ∀ k : Nat, k < 7 → vp_in (i + nI k) L) (hS : sh.length ≤ 1000) (hcap : Cn ≤ room_1.cells ∧ Sn ≤ room_1.slots) (hI : INV sh R f g) (K : ∀ f2 g2 R2, INV sh R2 f2 g2 → ∀ x5 x6, lwJ p l e s mid b below meth c D cas ad Cn Sn Q 1485 (lwL i x5 x6) [] (sh, f2, g2, R2)) : lwJ p l e s mid b below meth c D cas ad Cn Sn Q 750 (lwL i x5 x6) [] (sh, f, g, R) := by
  obtain ⟨L1, L2, K1, K2, l1, V1, N1, P1, E1, hJ⟩ := hI
  refine lj_aload_n hC.1 dL_law_750 rfl ?_
  obtain ⟨v, f1, g1, R1, f2, g2, R2, c1, c2, hI2⟩ := show JC sh R f g 60 101 218 [] from (hJ.jc (j_calm (d := 0) hJ))
  refine lj_virt (d := 59) (a := 0) (As := []) (r := []) (v := (v, (sh, f1, g1, R1))) hC.1 lk_0_92 rfl (by decide) c1 rfl hS rfl (by decide) (by decide) hcap.1 hcap.2 (by decide) dL_law_751 ?_
  refine lj_aload_n hC.1 dL_law_754 rfl ?_
  refine lj_virt (d := 59) (a := 208) (As := []) (r := [.int v]) (v := (v, (sh, f2, g2, R2))) hC.1 lk_0_95 rfl (by decide) c2 rfl hS rfl (by decide) (by decide) hcap.1 hcap.2 (by show 1 ≤ 8; decide) dL_law_755 ?_
  exact lj_icmp_eq hC.1 dL_law_758 (x := 1485) rfl (fun _ => K f2 g2 R2 hI2 x5 x6) (fun y => absurd rfl y)
theorem lcase_17 (hC : lwC p l s mid b c D cas ad L xs) (hin : ∀ k : Nat, k < 7 → vp_in (i + nI k) L) (hS : sh.length ≤ 1000) (hcap : Cn ≤ room_1.cells ∧ Sn ≤ room_1.slots) (hI : INV sh R f g) (K : ∀ f2 g2 R2, INV sh R2 f2 g2 → ∀ x5 x6, lwJ p l e s mid b below meth c D cas ad Cn Sn Q 1485 (lwL i x5 x6) [] (sh, f2, g2, R2)) : lwJ p l e s mid b below meth c D cas ad Cn Sn Q 763 (lwL i x5 x6) [] (sh, f, g, R) := by
  obtain ⟨L1, L2, K1, K2, l1, V1, N1, P1, E1, hJ⟩ := hI
  refine lj_aload_n hC.1 dL_law_763 rfl ?_
  refine lw_arg (kv := 1) hC dL_law_764 dL_law_765 dL_law_767 rfl dL_law_768 dL_law_769 rfl rfl (hin 1 (by decide)) ?_
  obtain ⟨v, f1, g1, R1, f2, g2, R2, c1, c2, hI2⟩ := show JC sh R f g 60 102 220 [.int (xs (i + 1).toNatClampNeg)] from (hJ.jc (j_may (d := 0) hJ))
  refine lj_virt (d := 59) (a := 0) (As := [.int (xs (i + 1).toNatClampNeg)]) (r := []) (v := (v, (sh, f1, g1, R1))) hC.1 lk_0_96 rfl (by decide) c1 rfl hS rfl (by decide) (by decide) hcap.1 hcap.2 (by decide) dL_law_770 ?_
  refine lj_aload_n hC.1 dL_law_773 rfl ?_
  refine lw_arg (kv := 1) hC dL_law_774 dL_law_775 dL_law_777 rfl dL_law_778 dL_law_779 rfl rfl (hin 1 (by decide)) ?_
  refine lj_virt (d := 59) (a := 208) (As := [.int (xs (i + 1).toNatClampNeg)]) (r := [.int v]) (v := (v, (sh, f2, g2, R2))) hC.1 lk_0_99 rfl (by decide) c2 rfl hS rfl (by decide) (by decide) hcap.1 hcap.2 (by show 1 ≤ 8; decide) dL_law_780 ?_
  exact lj_icmp_eq hC.1 dL_law_783 (x := 1485) rfl (fun _ => K f2 g2 R2 hI2 x5 x6) (fun y => absurd rfl y)
theorem lcase_18 (hC : lwC p l s mid b c D cas ad L xs) (hin : ∀ k : Nat, k < 7 → vp_in (i + nI k) L) (hS : sh.length ≤ 1000) (hcap : Cn ≤ room_1.cells ∧ Sn ≤ room_1.slots) (hI : INV sh R f g) (K : ∀ f2 g2 R2, INV sh R2 f2 g2 → ∀ x5 x6, lwJ p l e s mid b below meth c D cas ad Cn Sn Q 1485 (lwL i x5 x6) [] (sh, f2, g2, R2)) : lwJ p l e s mid b below meth c D cas ad Cn Sn Q 788 (lwL i x5 x6) [] (sh, f, g, R) := by
  obtain ⟨L1, L2, K1, K2, l1, V1, N1, P1, E1, hJ⟩ := hI
  refine lj_aload_n hC.1 dL_law_788 rfl ?_
  refine lw_arg (kv := 1) hC dL_law_789 dL_law_790 dL_law_792 rfl dL_law_793 dL_law_794 rfl rfl (hin 1 (by decide)) ?_
  obtain ⟨v, f1, g1, R1, f2, g2, R2, c1, c2, hI2⟩ := show JC sh R f g 60 104 221 [.int (xs (i + 1).toNatClampNeg)] from (hJ.jc (j_goes (d := 0) hJ))
  refine lj_virt (d := 59) (a := 0) (As := [.int (xs (i + 1).toNatClampNeg)]) (r := []) (v := (v, (sh, f1, g1, R1))) hC.1 lk_0_100 rfl (by decide) c1 rfl hS rfl (by decide) (by decide) hcap.1 hcap.2 (by decide) dL_law_795 ?_
  refine lj_aload_n hC.1 dL_law_798 rfl ?_
  refine lw_arg (kv := 1) hC dL_law_799 dL_law_800 dL_law_802 rfl dL_law_803 dL_law_804 rfl rfl (hin 1 (by decide)) ?_
  refine lj_virt (d := 59) (a := 208) (As := [.int (xs (i + 1).toNatClampNeg)]) (r := [.int v]) (v := (v, (sh, f2, g2, R2))) hC.1 lk_0_103 rfl (by decide) c2 rfl hS rfl (by decide) (by decide) hcap.1 hcap.2 (by show 1 ≤ 8; decide) dL_law_805 ?_
  exact lj_icmp_eq hC.1 dL_law_808 (x := 1485) rfl (fun _ => K f2 g2 R2 hI2 x5 x6) (fun y => absurd rfl y)
theorem lcase_19 (hC : lwC p l s mid b c D cas ad L xs) (hin : ∀ k : Nat, k < 7 → vp_in (i + nI k) L) (hS : sh.length ≤ 1000) (hcap : Cn ≤ room_1.cells ∧ Sn ≤ room_1.slots) (hI : INV sh R f g) (K : ∀ f2 g2 R2, INV sh R2 f2 g2 → ∀ x5 x6, lwJ p l e s mid b below meth c D cas ad Cn Sn Q 1485 (lwL i x5 x6) [] (sh, f2, g2, R2)) : lwJ p l e s mid b below meth c D cas ad Cn Sn Q 813 (lwL i x5 x6) [] (sh, f, g, R) := by
  obtain ⟨L1, L2, K1, K2, l1, V1, N1, P1, E1, hJ⟩ := hI
  refine lj_aload_n hC.1 dL_law_813 rfl ?_
  refine lw_arg (kv := 1) hC dL_law_814 dL_law_815 dL_law_817 rfl dL_law_818 dL_law_819 rfl rfl (hin 1 (by decide)) ?_
  refine lw_arg (kv := 2) hC dL_law_820 dL_law_821 dL_law_823 rfl dL_law_824 dL_law_825 rfl rfl (hin 2 (by decide)) ?_
  obtain ⟨v, f1, g1, R1, f2, g2, R2, c1, c2, hI2⟩ := show JC sh R f g 60 106 222 [.int (xs (i + 1).toNatClampNeg), .int (xs (i + 2).toNatClampNeg)] from (hJ.jc (j_stay (d := 0) hJ))
  refine lj_virt (d := 59) (a := 0) (As := [.int (xs (i + 1).toNatClampNeg), .int (xs (i + 2).toNatClampNeg)]) (r := []) (v := (v, (sh, f1, g1, R1))) hC.1 lk_0_104 rfl (by decide) c1 rfl hS rfl (by decide) (by decide) hcap.1 hcap.2 (by decide) dL_law_826 ?_
  refine lj_aload_n hC.1 dL_law_829 rfl ?_
  refine lw_arg (kv := 1) hC dL_law_830 dL_law_831 dL_law_833 rfl dL_law_834 dL_law_835 rfl rfl (hin 1 (by decide)) ?_
  refine lw_arg (kv := 2) hC dL_law_836 dL_law_837 dL_law_839 rfl dL_law_840 dL_law_841 rfl rfl (hin 2 (by decide)) ?_
  refine lj_virt (d := 59) (a := 208) (As := [.int (xs (i + 1).toNatClampNeg), .int (xs (i + 2).toNatClampNeg)]) (r := [.int v]) (v := (v, (sh, f2, g2, R2))) hC.1 lk_0_107 rfl (by decide) c2 rfl hS rfl (by decide) (by decide) hcap.1 hcap.2 (by show 1 ≤ 8; decide) dL_law_842 ?_
  exact lj_icmp_eq hC.1 dL_law_845 (x := 1485) rfl (fun _ => K f2 g2 R2 hI2 x5 x6) (fun y => absurd rfl y)
theorem lcase_20 (hC : lwC p l s mid b c D cas ad L xs) (hin : ∀ k : Nat, k < 7 → vp_in (i + nI k) L) (hS : sh.length ≤ 1000) (hcap : Cn ≤ room_1.cells ∧ Sn ≤ room_1.slots) (hI : INV sh R f g) (K : ∀ f2 g2 R2, INV sh R2 f2 g2 → ∀ x5 x6, lwJ p l e s mid b below meth c D cas ad Cn Sn Q 1485 (lwL i x5 x6) [] (sh, f2, g2, R2)) : lwJ p l e s mid b below meth c D cas ad Cn Sn Q 850 (lwL i x5 x6) [] (sh, f, g, R) := by
  obtain ⟨L1, L2, K1, K2, l1, V1, N1, P1, E1, hJ⟩ := hI
  refine lj_aload_n hC.1 dL_law_850 rfl ?_
  refine lw_arg (kv := 1) hC dL_law_851 dL_law_852 dL_law_854 rfl dL_law_855 dL_law_856 rfl rfl (hin 1 (by decide)) ?_
  obtain ⟨v, f1, g1, R1, f2, g2, R2, c1, c2, hI2⟩ := show JC sh R f g 60 109 224 [.int (xs (i + 1).toNatClampNeg)] from (hJ.jc (j_reach (d := 0) hJ))
  refine lj_virt (d := 59) (a := 0) (As := [.int (xs (i + 1).toNatClampNeg)]) (r := []) (v := (v, (sh, f1, g1, R1))) hC.1 lk_0_108 rfl (by decide) c1 rfl hS rfl (by decide) (by decide) hcap.1 hcap.2 (by decide) dL_law_857 ?_
  refine lj_aload_n hC.1 dL_law_860 rfl ?_
  refine lw_arg (kv := 1) hC dL_law_861 dL_law_862 dL_law_864 rfl dL_law_865 dL_law_866 rfl rfl (hin 1 (by decide)) ?_
  refine lj_virt (d := 59) (a := 208) (As := [.int (xs (i + 1).toNatClampNeg)]) (r := [.int v]) (v := (v, (sh, f2, g2, R2))) hC.1 lk_0_111 rfl (by decide) c2 rfl hS rfl (by decide) (by decide) hcap.1 hcap.2 (by show 1 ≤ 8; decide) dL_law_867 ?_
  exact lj_icmp_eq hC.1 dL_law_870 (x := 1485) rfl (fun _ => K f2 g2 R2 hI2 x5 x6) (fun y => absurd rfl y)
theorem lcase_21 (hC : lwC p l s mid b c D cas ad L xs) (hin : ∀ k : Nat, k < 7 → vp_in (i + nI k) L) (hS : sh.length ≤ 1000) (hcap : Cn ≤ room_1.cells ∧ Sn ≤ room_1.slots) (hI : INV sh R f g) (K : ∀ f2 g2 R2, INV sh R2 f2 g2 → ∀ x5 x6, lwJ p l e s mid b below meth c D cas ad Cn Sn Q 1485 (lwL i x5 x6) [] (sh, f2, g2, R2)) : lwJ p l e s mid b below meth c D cas ad Cn Sn Q 875 (lwL i x5 x6) [] (sh, f, g, R) := by
  obtain ⟨L1, L2, K1, K2, l1, V1, N1, P1, E1, hJ⟩ := hI
  refine lj_aload_n hC.1 dL_law_875 rfl ?_
  refine lw_arg (kv := 1) hC dL_law_876 dL_law_877 dL_law_879 rfl dL_law_880 dL_law_881 rfl rfl (hin 1 (by decide)) ?_
  refine lw_arg (kv := 2) hC dL_law_882 dL_law_883 dL_law_885 rfl dL_law_886 dL_law_887 rfl rfl (hin 2 (by decide)) ?_
  obtain ⟨v, f1, g1, R1, f2, g2, R2, c1, c2, hI2⟩ := show JC sh R f g 60 110 225 [.int (xs (i + 1).toNatClampNeg), .int (xs (i + 2).toNatClampNeg)] from (hJ.jc (j_far (d := 0) hJ))
  refine lj_virt (d := 59) (a := 0) (As := [.int (xs (i + 1).toNatClampNeg), .int (xs (i + 2).toNatClampNeg)]) (r := []) (v := (v, (sh, f1, g1, R1))) hC.1 lk_0_112 rfl (by decide) c1 rfl hS rfl (by decide) (by decide) hcap.1 hcap.2 (by decide) dL_law_888 ?_
  refine lj_aload_n hC.1 dL_law_891 rfl ?_
  refine lw_arg (kv := 1) hC dL_law_892 dL_law_893 dL_law_895 rfl dL_law_896 dL_law_897 rfl rfl (hin 1 (by decide)) ?_
  refine lw_arg (kv := 2) hC dL_law_898 dL_law_899 dL_law_901 rfl dL_law_902 dL_law_903 rfl rfl (hin 2 (by decide)) ?_
  refine lj_virt (d := 59) (a := 208) (As := [.int (xs (i + 1).toNatClampNeg), .int (xs (i + 2).toNatClampNeg)]) (r := [.int v]) (v := (v, (sh, f2, g2, R2))) hC.1 lk_0_115 rfl (by decide) c2 rfl hS rfl (by decide) (by decide) hcap.1 hcap.2 (by show 1 ≤ 8; decide) dL_law_904 ?_
  exact lj_icmp_eq hC.1 dL_law_907 (x := 1485) rfl (fun _ => K f2 g2 R2 hI2 x5 x6) (fun y => absurd rfl y)
theorem lcase_22 (hC : lwC p l s mid b c D cas ad L xs) (hin : ∀ k : Nat, k < 7 → vp_in (i + nI k) L) (hS : sh.length ≤ 1000) (hcap : Cn ≤ room_1.cells ∧ Sn ≤ room_1.slots) (hI : INV sh R f g) (K : ∀ f2 g2 R2, INV sh R2 f2 g2 → ∀ x5 x6, lwJ p l e s mid b below meth c D cas ad Cn Sn Q 1485 (lwL i x5 x6) [] (sh, f2, g2, R2)) : lwJ p l e s mid b below meth c D cas ad Cn Sn Q 912 (lwL i x5 x6) [] (sh, f, g, R) := by
  obtain ⟨L1, L2, K1, K2, l1, V1, N1, P1, E1, hJ⟩ := hI
  refine lj_aload_n hC.1 dL_law_912 rfl ?_
  obtain ⟨v, f1, g1, R1, f2, g2, R2, c1, c2, hI2⟩ := show JC sh R f g 60 111 227 [] from (hJ.jc (j_halls (d := 0) hJ))
  refine lj_virt (d := 59) (a := 0) (As := []) (r := []) (v := (v, (sh, f1, g1, R1))) hC.1 lk_0_116 rfl (by decide) c1 rfl hS rfl (by decide) (by decide) hcap.1 hcap.2 (by decide) dL_law_913 ?_
  refine lj_aload_n hC.1 dL_law_916 rfl ?_
  refine lj_virt (d := 59) (a := 208) (As := []) (r := [.int v]) (v := (v, (sh, f2, g2, R2))) hC.1 lk_0_119 rfl (by decide) c2 rfl hS rfl (by decide) (by decide) hcap.1 hcap.2 (by show 1 ≤ 8; decide) dL_law_917 ?_
  exact lj_icmp_eq hC.1 dL_law_920 (x := 1485) rfl (fun _ => K f2 g2 R2 hI2 x5 x6) (fun y => absurd rfl y)
theorem lcase_23 (hC : lwC p l s mid b c D cas ad L xs) (hin : ∀ k : Nat, k < 7 → vp_in (i + nI k) L) (hS : sh.length ≤ 1000) (hcap : Cn ≤ room_1.cells ∧ Sn ≤ room_1.slots) (hI : INV sh R f g) (K : ∀ f2 g2 R2, INV sh R2 f2 g2 → ∀ x5 x6, lwJ p l e s mid b below meth c D cas ad Cn Sn Q 1485 (lwL i x5 x6) [] (sh, f2, g2, R2)) : lwJ p l e s mid b below meth c D cas ad Cn Sn Q 925 (lwL i x5 x6) [] (sh, f, g, R) := by
  obtain ⟨L1, L2, K1, K2, l1, V1, N1, P1, E1, hJ⟩ := hI
  refine lj_aload_n hC.1 dL_law_925 rfl ?_
  obtain ⟨v, f1, g1, R1, f2, g2, R2, c1, c2, hI2⟩ := show JC sh R f g 60 112 228 [] from (hJ.jc (j_hinges (d := 0) hJ))
  refine lj_virt (d := 59) (a := 0) (As := []) (r := []) (v := (v, (sh, f1, g1, R1))) hC.1 lk_0_120 rfl (by decide) c1 rfl hS rfl (by decide) (by decide) hcap.1 hcap.2 (by decide) dL_law_926 ?_
  refine lj_aload_n hC.1 dL_law_929 rfl ?_
  refine lj_virt (d := 59) (a := 208) (As := []) (r := [.int v]) (v := (v, (sh, f2, g2, R2))) hC.1 lk_0_123 rfl (by decide) c2 rfl hS rfl (by decide) (by decide) hcap.1 hcap.2 (by show 1 ≤ 8; decide) dL_law_930 ?_
  exact lj_icmp_eq hC.1 dL_law_933 (x := 1485) rfl (fun _ => K f2 g2 R2 hI2 x5 x6) (fun y => absurd rfl y)
theorem lcase_24 (hC : lwC p l s mid b c D cas ad L xs) (hin : ∀ k : Nat, k < 7 → vp_in (i + nI k) L) (hS : sh.length ≤ 1000) (hcap : Cn ≤ room_1.cells ∧ Sn ≤ room_1.slots) (hI : INV sh R f g) (K : ∀ f2 g2 R2, INV sh R2 f2 g2 → ∀ x5 x6, lwJ p l e s mid b below meth c D cas ad Cn Sn Q 1485 (lwL i x5 x6) [] (sh, f2, g2, R2)) : lwJ p l e s mid b below meth c D cas ad Cn Sn Q 938 (lwL i x5 x6) [] (sh, f, g, R) := by
  obtain ⟨L1, L2, K1, K2, l1, V1, N1, P1, E1, hJ⟩ := hI
  refine lj_aload_n hC.1 dL_law_938 rfl ?_
  refine lw_arg (kv := 1) hC dL_law_939 dL_law_940 dL_law_942 rfl dL_law_943 dL_law_944 rfl rfl (hin 1 (by decide)) ?_
  obtain ⟨v, f1, g1, R1, f2, g2, R2, c1, c2, hI2⟩ := show JC sh R f g 60 114 230 [.int (xs (i + 1).toNatClampNeg)] from (hJ.jc (j_lines (d := 0) hJ))
  refine lj_virt (d := 59) (a := 0) (As := [.int (xs (i + 1).toNatClampNeg)]) (r := []) (v := (v, (sh, f1, g1, R1))) hC.1 lk_0_124 rfl (by decide) c1 rfl hS rfl (by decide) (by decide) hcap.1 hcap.2 (by decide) dL_law_945 ?_
  refine lj_aload_n hC.1 dL_law_948 rfl ?_
  refine lw_arg (kv := 1) hC dL_law_949 dL_law_950 dL_law_952 rfl dL_law_953 dL_law_954 rfl rfl (hin 1 (by decide)) ?_
  refine lj_virt (d := 59) (a := 208) (As := [.int (xs (i + 1).toNatClampNeg)]) (r := [.int v]) (v := (v, (sh, f2, g2, R2))) hC.1 lk_0_127 rfl (by decide) c2 rfl hS rfl (by decide) (by decide) hcap.1 hcap.2 (by show 1 ≤ 8; decide) dL_law_955 ?_
  exact lj_icmp_eq hC.1 dL_law_958 (x := 1485) rfl (fun _ => K f2 g2 R2 hI2 x5 x6) (fun y => absurd rfl y)
theorem lcase_25 (hC : lwC p l s mid b c D cas ad L xs) (hin : ∀ k : Nat, k < 7 → vp_in (i + nI k) L) (hS : sh.length ≤ 1000) (hcap : Cn ≤ room_1.cells ∧ Sn ≤ room_1.slots) (hI : INV sh R f g) (K : ∀ f2 g2 R2, INV sh R2 f2 g2 → ∀ x5 x6, lwJ p l e s mid b below meth c D cas ad Cn Sn Q 1485 (lwL i x5 x6) [] (sh, f2, g2, R2)) : lwJ p l e s mid b below meth c D cas ad Cn Sn Q 963 (lwL i x5 x6) [] (sh, f, g, R) := by
  obtain ⟨L1, L2, K1, K2, l1, V1, N1, P1, E1, hJ⟩ := hI
  refine lj_aload_n hC.1 dL_law_963 rfl ?_
  refine lw_arg (kv := 1) hC dL_law_964 dL_law_965 dL_law_967 rfl dL_law_968 dL_law_969 rfl rfl (hin 1 (by decide)) ?_
  refine lw_arg (kv := 2) hC dL_law_970 dL_law_971 dL_law_973 rfl dL_law_974 dL_law_975 rfl rfl (hin 2 (by decide)) ?_
  obtain ⟨v, f1, g1, R1, f2, g2, R2, c1, c2, hI2⟩ := show JC sh R f g 60 115 231 [.int (xs (i + 1).toNatClampNeg), .int (xs (i + 2).toNatClampNeg)] from (hJ.jc (j_fire (d := 0) hJ))
  refine lj_virt (d := 59) (a := 0) (As := [.int (xs (i + 1).toNatClampNeg), .int (xs (i + 2).toNatClampNeg)]) (r := []) (v := (v, (sh, f1, g1, R1))) hC.1 lk_0_128 rfl (by decide) c1 rfl hS rfl (by decide) (by decide) hcap.1 hcap.2 (by decide) dL_law_976 ?_
  refine lj_aload_n hC.1 dL_law_979 rfl ?_
  refine lw_arg (kv := 1) hC dL_law_980 dL_law_981 dL_law_983 rfl dL_law_984 dL_law_985 rfl rfl (hin 1 (by decide)) ?_
  refine lw_arg (kv := 2) hC dL_law_986 dL_law_987 dL_law_989 rfl dL_law_990 dL_law_991 rfl rfl (hin 2 (by decide)) ?_
  refine lj_virt (d := 59) (a := 208) (As := [.int (xs (i + 1).toNatClampNeg), .int (xs (i + 2).toNatClampNeg)]) (r := [.int v]) (v := (v, (sh, f2, g2, R2))) hC.1 lk_0_131 rfl (by decide) c2 rfl hS rfl (by decide) (by decide) hcap.1 hcap.2 (by show 1 ≤ 8; decide) dL_law_992 ?_
  exact lj_icmp_eq hC.1 dL_law_995 (x := 1485) rfl (fun _ => K f2 g2 R2 hI2 x5 x6) (fun y => absurd rfl y)
theorem lcase_26 (hC : lwC p l s mid b c D cas ad L xs) (hin : ∀ k : Nat, k < 7 → vp_in (i + nI k) L) (hS : sh.length ≤ 1000) (hcap : Cn ≤ room_1.cells ∧ Sn ≤ room_1.slots) (hI : INV sh R f g) (K : ∀ f2 g2 R2, INV sh R2 f2 g2 → ∀ x5 x6, lwJ p l e s mid b below meth c D cas ad Cn Sn Q 1485 (lwL i x5 x6) [] (sh, f2, g2, R2)) : lwJ p l e s mid b below meth c D cas ad Cn Sn Q 1000 (lwL i x5 x6) [] (sh, f, g, R) := by
  obtain ⟨L1, L2, K1, K2, l1, V1, N1, P1, E1, hJ⟩ := hI
  refine lj_aload_n hC.1 dL_law_1000 rfl ?_
  refine lw_arg (kv := 1) hC dL_law_1001 dL_law_1002 dL_law_1004 rfl dL_law_1005 dL_law_1006 rfl rfl (hin 1 (by decide)) ?_
  refine lw_arg (kv := 2) hC dL_law_1007 dL_law_1008 dL_law_1010 rfl dL_law_1011 dL_law_1012 rfl rfl (hin 2 (by decide)) ?_
  obtain ⟨v, f1, g1, R1, f2, g2, R2, c1, c2, hI2⟩ := show JC sh R f g 60 116 233 [.int (xs (i + 1).toNatClampNeg), .int (xs (i + 2).toNatClampNeg)] from (hJ.jc (j_queue (d := 0) hJ))
  refine lj_virt (d := 59) (a := 0) (As := [.int (xs (i + 1).toNatClampNeg), .int (xs (i + 2).toNatClampNeg)]) (r := []) (v := (v, (sh, f1, g1, R1))) hC.1 lk_0_132 rfl (by decide) c1 rfl hS rfl (by decide) (by decide) hcap.1 hcap.2 (by decide) dL_law_1013 ?_
  refine lj_aload_n hC.1 dL_law_1016 rfl ?_
  refine lw_arg (kv := 1) hC dL_law_1017 dL_law_1018 dL_law_1020 rfl dL_law_1021 dL_law_1022 rfl rfl (hin 1 (by decide)) ?_
  refine lw_arg (kv := 2) hC dL_law_1023 dL_law_1024 dL_law_1026 rfl dL_law_1027 dL_law_1028 rfl rfl (hin 2 (by decide)) ?_
  refine lj_virt (d := 59) (a := 208) (As := [.int (xs (i + 1).toNatClampNeg), .int (xs (i + 2).toNatClampNeg)]) (r := [.int v]) (v := (v, (sh, f2, g2, R2))) hC.1 lk_0_135 rfl (by decide) c2 rfl hS rfl (by decide) (by decide) hcap.1 hcap.2 (by show 1 ≤ 8; decide) dL_law_1029 ?_
  exact lj_icmp_eq hC.1 dL_law_1032 (x := 1485) rfl (fun _ => K f2 g2 R2 hI2 x5 x6) (fun y => absurd rfl y)
theorem lcase_27 (hC : lwC p l s mid b c D cas ad L xs) (hin : ∀ k : Nat, k < 7 → vp_in (i + nI k) L) (hS : sh.length ≤ 1000) (hcap : Cn ≤ room_1.cells ∧ Sn ≤ room_1.slots) (hI : INV sh R f g) (K : ∀ f2 g2 R2, INV sh R2 f2 g2 → ∀ x5 x6, lwJ p l e s mid b below meth c D cas ad Cn Sn Q 1485 (lwL i x5 x6) [] (sh, f2, g2, R2)) : lwJ p l e s mid b below meth c D cas ad Cn Sn Q 1037 (lwL i x5 x6) [] (sh, f, g, R) := by
  obtain ⟨L1, L2, K1, K2, l1, V1, N1, P1, E1, hJ⟩ := hI
  refine lj_aload_n hC.1 dL_law_1037 rfl ?_
  obtain ⟨v, f1, g1, R1, f2, g2, R2, c1, c2, hI2⟩ := show JC sh R f g 60 117 234 [] from (hJ.jc (j_longest (d := 0) hJ))
  refine lj_virt (d := 59) (a := 0) (As := []) (r := []) (v := (v, (sh, f1, g1, R1))) hC.1 lk_0_136 rfl (by decide) c1 rfl hS rfl (by decide) (by decide) hcap.1 hcap.2 (by decide) dL_law_1038 ?_
  refine lj_aload_n hC.1 dL_law_1041 rfl ?_
  refine lj_virt (d := 59) (a := 208) (As := []) (r := [.int v]) (v := (v, (sh, f2, g2, R2))) hC.1 lk_0_139 rfl (by decide) c2 rfl hS rfl (by decide) (by decide) hcap.1 hcap.2 (by show 1 ≤ 8; decide) dL_law_1042 ?_
  exact lj_icmp_eq hC.1 dL_law_1045 (x := 1485) rfl (fun _ => K f2 g2 R2 hI2 x5 x6) (fun y => absurd rfl y)
theorem lcase_28 (hC : lwC p l s mid b c D cas ad L xs) (hin : ∀ k : Nat, k < 7 → vp_in (i + nI k) L) (hS : sh.length ≤ 1000) (hcap : Cn ≤ room_1.cells ∧ Sn ≤ room_1.slots) (hI : INV sh R f g) (K : ∀ f2 g2 R2, INV sh R2 f2 g2 → ∀ x5 x6, lwJ p l e s mid b below meth c D cas ad Cn Sn Q 1485 (lwL i x5 x6) [] (sh, f2, g2, R2)) : lwJ p l e s mid b below meth c D cas ad Cn Sn Q 1050 (lwL i x5 x6) [] (sh, f, g, R) := by
  obtain ⟨L1, L2, K1, K2, l1, V1, N1, P1, E1, hJ⟩ := hI
  refine lj_aload_n hC.1 dL_law_1050 rfl ?_
  obtain ⟨v, f1, g1, R1, f2, g2, R2, c1, c2, hI2⟩ := show JC sh R f g 60 118 235 [] from (hJ.jc (j_as (d := 0) hJ))
  refine lj_virt (d := 59) (a := 0) (As := []) (r := []) (v := (v, (sh, f1, g1, R1))) hC.1 lk_0_140 rfl (by decide) c1 rfl hS rfl (by decide) (by decide) hcap.1 hcap.2 (by decide) dL_law_1051 ?_
  refine lj_aload_n hC.1 dL_law_1054 rfl ?_
  refine lj_virt (d := 59) (a := 208) (As := []) (r := [.int v]) (v := (v, (sh, f2, g2, R2))) hC.1 lk_0_143 rfl (by decide) c2 rfl hS rfl (by decide) (by decide) hcap.1 hcap.2 (by show 1 ≤ 8; decide) dL_law_1055 ?_
  exact lj_icmp_eq hC.1 dL_law_1058 (x := 1485) rfl (fun _ => K f2 g2 R2 hI2 x5 x6) (fun y => absurd rfl y)
theorem lcase_29 (hC : lwC p l s mid b c D cas ad L xs) (hin : ∀ k : Nat, k < 7 → vp_in (i + nI k) L) (hS : sh.length ≤ 1000) (hcap : Cn ≤ room_1.cells ∧ Sn ≤ room_1.slots) (hI : INV sh R f g) (K : ∀ f2 g2 R2, INV sh R2 f2 g2 → ∀ x5 x6, lwJ p l e s mid b below meth c D cas ad Cn Sn Q 1485 (lwL i x5 x6) [] (sh, f2, g2, R2)) : lwJ p l e s mid b below meth c D cas ad Cn Sn Q 1063 (lwL i x5 x6) [] (sh, f, g, R) := by
  obtain ⟨L1, L2, K1, K2, l1, V1, N1, P1, E1, hJ⟩ := hI
  refine lj_aload_n hC.1 dL_law_1063 rfl ?_
  refine lw_arg (kv := 1) hC dL_law_1064 dL_law_1065 dL_law_1067 rfl dL_law_1068 dL_law_1069 rfl rfl (hin 1 (by decide)) ?_
  obtain ⟨v, f1, g1, R1, f2, g2, R2, c1, c2, hI2⟩ := show JC sh R f g 60 119 236 [.int (xs (i + 1).toNatClampNeg)] from (hJ.jc (j_been (d := 0) hJ))
  refine lj_virt (d := 59) (a := 0) (As := [.int (xs (i + 1).toNatClampNeg)]) (r := []) (v := (v, (sh, f1, g1, R1))) hC.1 lk_0_144 rfl (by decide) c1 rfl hS rfl (by decide) (by decide) hcap.1 hcap.2 (by decide) dL_law_1070 ?_
  refine lj_aload_n hC.1 dL_law_1073 rfl ?_
  refine lw_arg (kv := 1) hC dL_law_1074 dL_law_1075 dL_law_1077 rfl dL_law_1078 dL_law_1079 rfl rfl (hin 1 (by decide)) ?_
  refine lj_virt (d := 59) (a := 208) (As := [.int (xs (i + 1).toNatClampNeg)]) (r := [.int v]) (v := (v, (sh, f2, g2, R2))) hC.1 lk_0_147 rfl (by decide) c2 rfl hS rfl (by decide) (by decide) hcap.1 hcap.2 (by show 1 ≤ 8; decide) dL_law_1080 ?_
  exact lj_icmp_eq hC.1 dL_law_1083 (x := 1485) rfl (fun _ => K f2 g2 R2 hI2 x5 x6) (fun y => absurd rfl y)
theorem lcase_30 (hC : lwC p l s mid b c D cas ad L xs) (hin : ∀ k : Nat, k < 7 → vp_in (i + nI k) L) (hS : sh.length ≤ 1000) (hcap : Cn ≤ room_1.cells ∧ Sn ≤ room_1.slots) (hI : INV sh R f g) (K : ∀ f2 g2 R2, INV sh R2 f2 g2 → ∀ x5 x6, lwJ p l e s mid b below meth c D cas ad Cn Sn Q 1485 (lwL i x5 x6) [] (sh, f2, g2, R2)) : lwJ p l e s mid b below meth c D cas ad Cn Sn Q 1088 (lwL i x5 x6) [] (sh, f, g, R) := by
  obtain ⟨L1, L2, K1, K2, l1, V1, N1, P1, E1, hJ⟩ := hI
  refine lj_aload_n hC.1 dL_law_1088 rfl ?_
  obtain ⟨v, f1, g1, R1, f2, g2, R2, c1, c2, hI2⟩ := show JC sh R f g 60 120 237 [] from (hJ.jc (j_alike (d := 0) hJ))
  refine lj_virt (d := 59) (a := 0) (As := []) (r := []) (v := (v, (sh, f1, g1, R1))) hC.1 lk_0_148 rfl (by decide) c1 rfl hS rfl (by decide) (by decide) hcap.1 hcap.2 (by decide) dL_law_1089 ?_
  refine lj_aload_n hC.1 dL_law_1092 rfl ?_
  refine lj_virt (d := 59) (a := 208) (As := []) (r := [.int v]) (v := (v, (sh, f2, g2, R2))) hC.1 lk_0_151 rfl (by decide) c2 rfl hS rfl (by decide) (by decide) hcap.1 hcap.2 (by show 1 ≤ 8; decide) dL_law_1093 ?_
  exact lj_icmp_eq hC.1 dL_law_1096 (x := 1485) rfl (fun _ => K f2 g2 R2 hI2 x5 x6) (fun y => absurd rfl y)
theorem lcase_31 (hC : lwC p l s mid b c D cas ad L xs) (hin : ∀ k : Nat, k < 7 → vp_in (i + nI k) L) (hS : sh.length ≤ 1000) (hcap : Cn ≤ room_1.cells ∧ Sn ≤ room_1.slots) (hI : INV sh R f g) (K : ∀ f2 g2 R2, INV sh R2 f2 g2 → ∀ x5 x6, lwJ p l e s mid b below meth c D cas ad Cn Sn Q 1485 (lwL i x5 x6) [] (sh, f2, g2, R2)) : lwJ p l e s mid b below meth c D cas ad Cn Sn Q 1101 (lwL i x5 x6) [] (sh, f, g, R) := by
  obtain ⟨L1, L2, K1, K2, l1, V1, N1, P1, E1, hJ⟩ := hI
  refine lj_aload_n hC.1 dL_law_1101 rfl ?_
  obtain ⟨v, f1, g1, R1, f2, g2, R2, c1, c2, hI2⟩ := show JC sh R f g 60 123 223 [] from (hJ.jc (j_widows (d := 0) hJ))
  refine lj_virt (d := 59) (a := 0) (As := []) (r := []) (v := (v, (sh, f1, g1, R1))) hC.1 lk_0_152 rfl (by decide) c1 rfl hS rfl (by decide) (by decide) hcap.1 hcap.2 (by decide) dL_law_1102 ?_
  refine lj_aload_n hC.1 dL_law_1105 rfl ?_
  refine lj_virt (d := 59) (a := 208) (As := []) (r := [.int v]) (v := (v, (sh, f2, g2, R2))) hC.1 lk_0_155 rfl (by decide) c2 rfl hS rfl (by decide) (by decide) hcap.1 hcap.2 (by show 1 ≤ 8; decide) dL_law_1106 ?_
  exact lj_icmp_eq hC.1 dL_law_1109 (x := 1485) rfl (fun _ => K f2 g2 R2 hI2 x5 x6) (fun y => absurd rfl y)
theorem lcase_32 (hC : lwC p l s mid b c D cas ad L xs) (hin : ∀ k : Nat, k < 7 → vp_in (i + nI k) L) (hS : sh.length ≤ 1000) (hcap : Cn ≤ room_1.cells ∧ Sn ≤ room_1.slots) (hI : INV sh R f g) (K : ∀ f2 g2 R2, INV sh R2 f2 g2 → ∀ x5 x6, lwJ p l e s mid b below meth c D cas ad Cn Sn Q 1485 (lwL i x5 x6) [] (sh, f2, g2, R2)) : lwJ p l e s mid b below meth c D cas ad Cn Sn Q 1114 (lwL i x5 x6) [] (sh, f, g, R) := by
  obtain ⟨L1, L2, K1, K2, l1, V1, N1, P1, E1, hJ⟩ := hI
  refine lj_aload_n hC.1 dL_law_1114 rfl ?_
  refine lw_arg (kv := 1) hC dL_law_1115 dL_law_1116 dL_law_1118 rfl dL_law_1119 dL_law_1120 rfl rfl (hin 1 (by decide)) ?_
  refine lw_arg (kv := 2) hC dL_law_1121 dL_law_1122 dL_law_1124 rfl dL_law_1125 dL_law_1126 rfl rfl (hin 2 (by decide)) ?_
  refine lw_arg (kv := 3) hC dL_law_1127 dL_law_1128 dL_law_1130 rfl dL_law_1131 dL_law_1132 rfl rfl (hin 3 (by decide)) ?_
  refine lj_ifeq hC.1 dL_law_1133 (x := 1140) rfl (fun y0 => ?_) (fun y0 => ?_)
  · skip
    refine lj_iconst (v := 0) hC.1 dL_law_1140 rfl ?_
    obtain ⟨v, f1, g1, R1, f2, g2, R2, c1, c2, hI2⟩ := show JC sh R f g 60 124 239 [.int (xs (i + 1).toNatClampNeg), .int (xs (i + 2).toNatClampNeg), .int (ur_b false)] from (j_see (d := 0) hJ)
    refine lj_virt (d := 59) (a := 0) (As := [.int (xs (i + 1).toNatClampNeg), .int (xs (i + 2).toNatClampNeg), .int (ur_b false)]) (r := []) (v := (v, (sh, f1, g1, R1))) hC.1 lk_0_156 rfl (by decide) c1 rfl hS rfl (by decide) (by decide) hcap.1 hcap.2 (by decide) dL_law_1141 ?_
    refine lj_aload_n hC.1 dL_law_1144 rfl ?_
    refine lw_arg (kv := 1) hC dL_law_1145 dL_law_1146 dL_law_1148 rfl dL_law_1149 dL_law_1150 rfl rfl (hin 1 (by decide)) ?_
    refine lw_arg (kv := 2) hC dL_law_1151 dL_law_1152 dL_law_1154 rfl dL_law_1155 dL_law_1156 rfl rfl (hin 2 (by decide)) ?_
    refine lw_arg (kv := 3) hC dL_law_1157 dL_law_1158 dL_law_1160 rfl dL_law_1161 dL_law_1162 rfl rfl (hin 3 (by decide)) ?_
    refine lj_ifeq hC.1 dL_law_1163 (x := 1170) rfl (fun _ => ?_) (fun y => absurd y0 y)
    refine lj_iconst (v := 0) hC.1 dL_law_1170 rfl ?_
    refine lj_virt (d := 59) (a := 208) (As := [.int (xs (i + 1).toNatClampNeg), .int (xs (i + 2).toNatClampNeg), .int (ur_b false)]) (r := [.int v]) (v := (v, (sh, f2, g2, R2))) hC.1 lk_0_160 rfl (by decide) c2 rfl hS rfl (by decide) (by decide) hcap.1 hcap.2 (by show 1 ≤ 8; decide) dL_law_1171 ?_
    exact lj_icmp_eq hC.1 dL_law_1174 (x := 1485) rfl (fun _ => K f2 g2 R2 hI2 x5 x6) (fun y => absurd rfl y)
  · skip
    refine lj_iconst (v := 1) hC.1 dL_law_1136 rfl ?_
    refine lj_goto hC.1 dL_law_1137 (x := 1141) rfl ?_
    obtain ⟨v, f1, g1, R1, f2, g2, R2, c1, c2, hI2⟩ := show JC sh R f g 60 124 239 [.int (xs (i + 1).toNatClampNeg), .int (xs (i + 2).toNatClampNeg), .int (ur_b true)] from (j_see (d := 0) hJ)
    refine lj_virt (d := 59) (a := 0) (As := [.int (xs (i + 1).toNatClampNeg), .int (xs (i + 2).toNatClampNeg), .int (ur_b true)]) (r := []) (v := (v, (sh, f1, g1, R1))) hC.1 lk_0_156 rfl (by decide) c1 rfl hS rfl (by decide) (by decide) hcap.1 hcap.2 (by decide) dL_law_1141 ?_
    refine lj_aload_n hC.1 dL_law_1144 rfl ?_
    refine lw_arg (kv := 1) hC dL_law_1145 dL_law_1146 dL_law_1148 rfl dL_law_1149 dL_law_1150 rfl rfl (hin 1 (by decide)) ?_
    refine lw_arg (kv := 2) hC dL_law_1151 dL_law_1152 dL_law_1154 rfl dL_law_1155 dL_law_1156 rfl rfl (hin 2 (by decide)) ?_
    refine lw_arg (kv := 3) hC dL_law_1157 dL_law_1158 dL_law_1160 rfl dL_law_1161 dL_law_1162 rfl rfl (hin 3 (by decide)) ?_
    refine lj_ifeq hC.1 dL_law_1163 (x := 1170) rfl (fun y => absurd y y0) (fun _ => ?_)
    refine lj_iconst (v := 1) hC.1 dL_law_1166 rfl ?_
    refine lj_goto hC.1 dL_law_1167 (x := 1171) rfl ?_
    refine lj_virt (d := 59) (a := 208) (As := [.int (xs (i + 1).toNatClampNeg), .int (xs (i + 2).toNatClampNeg), .int (ur_b true)]) (r := [.int v]) (v := (v, (sh, f2, g2, R2))) hC.1 lk_0_160 rfl (by decide) c2 rfl hS rfl (by decide) (by decide) hcap.1 hcap.2 (by show 1 ≤ 8; decide) dL_law_1171 ?_
    exact lj_icmp_eq hC.1 dL_law_1174 (x := 1485) rfl (fun _ => K f2 g2 R2 hI2 x5 x6) (fun y => absurd rfl y)
theorem lcase_33 (hC : lwC p l s mid b c D cas ad L xs) (hin : ∀ k : Nat, k < 7 → vp_in (i + nI k) L) (hS : sh.length ≤ 1000) (hcap : Cn ≤ room_1.cells ∧ Sn ≤ room_1.slots) (hI : INV sh R f g) (K : ∀ f2 g2 R2, INV sh R2 f2 g2 → ∀ x5 x6, lwJ p l e s mid b below meth c D cas ad Cn Sn Q 1485 (lwL i x5 x6) [] (sh, f2, g2, R2)) : lwJ p l e s mid b below meth c D cas ad Cn Sn Q 1179 (lwL i x5 x6) [] (sh, f, g, R) := by
  obtain ⟨L1, L2, K1, K2, l1, V1, N1, P1, E1, hJ⟩ := hI
  refine lj_aload_n hC.1 dL_law_1179 rfl ?_
  obtain ⟨v, f1, g1, R1, f2, g2, R2, c1, c2, hI2⟩ := show JC sh R f g 60 125 241 [] from (hJ.jc (j_which (d := 0) hJ))
  refine lj_virt (d := 59) (a := 0) (As := []) (r := []) (v := (v, (sh, f1, g1, R1))) hC.1 lk_0_161 rfl (by decide) c1 rfl hS rfl (by decide) (by decide) hcap.1 hcap.2 (by decide) dL_law_1180 ?_
  refine lj_aload_n hC.1 dL_law_1183 rfl ?_
  refine lj_virt (d := 59) (a := 208) (As := []) (r := [.int v]) (v := (v, (sh, f2, g2, R2))) hC.1 lk_0_164 rfl (by decide) c2 rfl hS rfl (by decide) (by decide) hcap.1 hcap.2 (by show 1 ≤ 8; decide) dL_law_1184 ?_
  exact lj_icmp_eq hC.1 dL_law_1187 (x := 1485) rfl (fun _ => K f2 g2 R2 hI2 x5 x6) (fun y => absurd rfl y)
theorem lcase_34 (hC : lwC p l s mid b c D cas ad L xs) (hin : ∀ k : Nat, k < 7 → vp_in (i + nI k) L) (hS : sh.length ≤ 1000) (hcap : Cn ≤ room_1.cells ∧ Sn ≤ room_1.slots) (hI : INV sh R f g) (K : ∀ f2 g2 R2, INV sh R2 f2 g2 → ∀ x5 x6, lwJ p l e s mid b below meth c D cas ad Cn Sn Q 1485 (lwL i x5 x6) [] (sh, f2, g2, R2)) : lwJ p l e s mid b below meth c D cas ad Cn Sn Q 1192 (lwL i x5 x6) [] (sh, f, g, R) := by
  obtain ⟨L1, L2, K1, K2, l1, V1, N1, P1, E1, hJ⟩ := hI
  refine lj_aload_n hC.1 dL_law_1192 rfl ?_
  obtain ⟨v, f1, g1, R1, f2, g2, R2, c1, c2, hI2⟩ := show JC sh R f g 60 126 242 [] from (hJ.jc (j_ask (d := 0) hJ))
  refine lj_virt (d := 59) (a := 0) (As := []) (r := []) (v := (v, (sh, f1, g1, R1))) hC.1 lk_0_165 rfl (by decide) c1 rfl hS rfl (by decide) (by decide) hcap.1 hcap.2 (by decide) dL_law_1193 ?_
  refine lj_aload_n hC.1 dL_law_1196 rfl ?_
  refine lj_virt (d := 59) (a := 208) (As := []) (r := [.int v]) (v := (v, (sh, f2, g2, R2))) hC.1 lk_0_168 rfl (by decide) c2 rfl hS rfl (by decide) (by decide) hcap.1 hcap.2 (by show 1 ≤ 8; decide) dL_law_1197 ?_
  exact lj_icmp_eq hC.1 dL_law_1200 (x := 1485) rfl (fun _ => K f2 g2 R2 hI2 x5 x6) (fun y => absurd rfl y)
theorem lcase_35 (hC : lwC p l s mid b c D cas ad L xs) (hin : ∀ k : Nat, k < 7 → vp_in (i + nI k) L) (hS : sh.length ≤ 1000) (hcap : Cn ≤ room_1.cells ∧ Sn ≤ room_1.slots) (hI : INV sh R f g) (K : ∀ f2 g2 R2, INV sh R2 f2 g2 → ∀ x5 x6, lwJ p l e s mid b below meth c D cas ad Cn Sn Q 1485 (lwL i x5 x6) [] (sh, f2, g2, R2)) : lwJ p l e s mid b below meth c D cas ad Cn Sn Q 1205 (lwL i x5 x6) [] (sh, f, g, R) := by
  obtain ⟨L1, L2, K1, K2, l1, V1, N1, P1, E1, hJ⟩ := hI
  refine lj_aload_n hC.1 dL_law_1205 rfl ?_
  refine lw_arg (kv := 1) hC dL_law_1206 dL_law_1207 dL_law_1209 rfl dL_law_1210 dL_law_1211 rfl rfl (hin 1 (by decide)) ?_
  refine lw_arg (kv := 2) hC dL_law_1212 dL_law_1213 dL_law_1215 rfl dL_law_1216 dL_law_1217 rfl rfl (hin 2 (by decide)) ?_
  refine lw_arg (kv := 3) hC dL_law_1218 dL_law_1219 dL_law_1221 rfl dL_law_1222 dL_law_1223 rfl rfl (hin 3 (by decide)) ?_
  refine lw_arg (kv := 4) hC dL_law_1224 dL_law_1225 dL_law_1227 rfl dL_law_1228 dL_law_1229 rfl rfl (hin 4 (by decide)) ?_
  obtain ⟨v, f1, g1, R1, f2, g2, R2, c1, c2, hI2⟩ := show JC sh R f g 60 127 243 [.int (xs (i + 1).toNatClampNeg), .int (xs (i + 2).toNatClampNeg), .int (xs (i + 3).toNatClampNeg), .int (xs (i + 4).toNatClampNeg)] from (hJ.jc (j_chance (d := 0) hJ))
  refine lj_virt (d := 59) (a := 0) (As := [.int (xs (i + 1).toNatClampNeg), .int (xs (i + 2).toNatClampNeg), .int (xs (i + 3).toNatClampNeg), .int (xs (i + 4).toNatClampNeg)]) (r := []) (v := (v, (sh, f1, g1, R1))) hC.1 lk_0_169 rfl (by decide) c1 rfl hS rfl (by decide) (by decide) hcap.1 hcap.2 (by decide) dL_law_1230 ?_
  refine lj_aload_n hC.1 dL_law_1233 rfl ?_
  refine lw_arg (kv := 1) hC dL_law_1234 dL_law_1235 dL_law_1237 rfl dL_law_1238 dL_law_1239 rfl rfl (hin 1 (by decide)) ?_
  refine lw_arg (kv := 2) hC dL_law_1240 dL_law_1241 dL_law_1243 rfl dL_law_1244 dL_law_1245 rfl rfl (hin 2 (by decide)) ?_
  refine lw_arg (kv := 3) hC dL_law_1246 dL_law_1247 dL_law_1249 rfl dL_law_1250 dL_law_1251 rfl rfl (hin 3 (by decide)) ?_
  refine lw_arg (kv := 4) hC dL_law_1252 dL_law_1253 dL_law_1255 rfl dL_law_1256 dL_law_1257 rfl rfl (hin 4 (by decide)) ?_
  refine lj_virt (d := 59) (a := 208) (As := [.int (xs (i + 1).toNatClampNeg), .int (xs (i + 2).toNatClampNeg), .int (xs (i + 3).toNatClampNeg), .int (xs (i + 4).toNatClampNeg)]) (r := [.int v]) (v := (v, (sh, f2, g2, R2))) hC.1 lk_0_172 rfl (by decide) c2 rfl hS rfl (by decide) (by decide) hcap.1 hcap.2 (by show 1 ≤ 8; decide) dL_law_1258 ?_
  exact lj_icmp_eq hC.1 dL_law_1261 (x := 1485) rfl (fun _ => K f2 g2 R2 hI2 x5 x6) (fun y => absurd rfl y)
theorem lcase_37 (hC : lwC p l s mid b c D cas ad L xs) (hin : ∀ k : Nat, k < 7 → vp_in (i + nI k) L) (hS : sh.length ≤ 1000) (hcap : Cn ≤ room_1.cells ∧ Sn ≤ room_1.slots) (hI : INV sh R f g) (K : ∀ f2 g2 R2, INV sh R2 f2 g2 → ∀ x5 x6, lwJ p l e s mid b below meth c D cas ad Cn Sn Q 1485 (lwL i x5 x6) [] (sh, f2, g2, R2)) : lwJ p l e s mid b below meth c D cas ad Cn Sn Q 1358 (lwL i x5 x6) [] (sh, f, g, R) := by
  obtain ⟨L1, L2, K1, K2, l1, V1, N1, P1, E1, hJ⟩ := hI
  refine lj_aload_n hC.1 dL_law_1358 rfl ?_
  refine lw_arg (kv := 1) hC dL_law_1359 dL_law_1360 dL_law_1362 rfl dL_law_1363 dL_law_1364 rfl rfl (hin 1 (by decide)) ?_
  refine lw_arg (kv := 2) hC dL_law_1365 dL_law_1366 dL_law_1368 rfl dL_law_1369 dL_law_1370 rfl rfl (hin 2 (by decide)) ?_
  refine lw_arg (kv := 3) hC dL_law_1371 dL_law_1372 dL_law_1374 rfl dL_law_1375 dL_law_1376 rfl rfl (hin 3 (by decide)) ?_
  obtain ⟨v, f1, g1, R1, f2, g2, R2, c1, c2, hI2⟩ := show JC sh R f g 60 132 248 [.int (xs (i + 1).toNatClampNeg), .int (xs (i + 2).toNatClampNeg), .int (xs (i + 3).toNatClampNeg)] from (j_evenings (d := 0) hJ)
  refine lj_virt (d := 59) (a := 0) (As := [.int (xs (i + 1).toNatClampNeg), .int (xs (i + 2).toNatClampNeg), .int (xs (i + 3).toNatClampNeg)]) (r := []) (v := (v, (sh, f1, g1, R1))) hC.1 lk_0_182 rfl (by decide) c1 rfl hS rfl (by decide) (by decide) hcap.1 hcap.2 (by decide) dL_law_1377 ?_
  refine lj_aload_n hC.1 dL_law_1380 rfl ?_
  refine lw_arg (kv := 1) hC dL_law_1381 dL_law_1382 dL_law_1384 rfl dL_law_1385 dL_law_1386 rfl rfl (hin 1 (by decide)) ?_
  refine lw_arg (kv := 2) hC dL_law_1387 dL_law_1388 dL_law_1390 rfl dL_law_1391 dL_law_1392 rfl rfl (hin 2 (by decide)) ?_
  refine lw_arg (kv := 3) hC dL_law_1393 dL_law_1394 dL_law_1396 rfl dL_law_1397 dL_law_1398 rfl rfl (hin 3 (by decide)) ?_
  refine lj_virt (d := 59) (a := 208) (As := [.int (xs (i + 1).toNatClampNeg), .int (xs (i + 2).toNatClampNeg), .int (xs (i + 3).toNatClampNeg)]) (r := [.int v]) (v := (v, (sh, f2, g2, R2))) hC.1 lk_0_186 rfl (by decide) c2 rfl hS rfl (by decide) (by decide) hcap.1 hcap.2 (by show 1 ≤ 8; decide) dL_law_1399 ?_
  exact lj_icmp_eq hC.1 dL_law_1402 (x := 1485) rfl (fun _ => K f2 g2 R2 hI2 x5 x6) (fun y => absurd rfl y)
theorem lcase_38 (hC : lwC p l s mid b c D cas ad L xs) (hin : ∀ k : Nat, k < 7 → vp_in (i + nI k) L) (hS : sh.length ≤ 1000) (hcap : Cn ≤ room_1.cells ∧ Sn ≤ room_1.slots) (hI : INV sh R f g) (K : ∀ f2 g2 R2, INV sh R2 f2 g2 → ∀ x5 x6, lwJ p l e s mid b below meth c D cas ad Cn Sn Q 1485 (lwL i x5 x6) [] (sh, f2, g2, R2)) : lwJ p l e s mid b below meth c D cas ad Cn Sn Q 1407 (lwL i x5 x6) [] (sh, f, g, R) := by
  obtain ⟨L1, L2, K1, K2, l1, V1, N1, P1, E1, hJ⟩ := hI
  refine lj_aload_n hC.1 dL_law_1407 rfl ?_
  refine lw_arg (kv := 1) hC dL_law_1408 dL_law_1409 dL_law_1411 rfl dL_law_1412 dL_law_1413 rfl rfl (hin 1 (by decide)) ?_
  refine lw_arg (kv := 2) hC dL_law_1414 dL_law_1415 dL_law_1417 rfl dL_law_1418 dL_law_1419 rfl rfl (hin 2 (by decide)) ?_
  refine lj_ifeq hC.1 dL_law_1420 (x := 1427) rfl (fun y0 => ?_) (fun y0 => ?_)
  · skip
    refine lj_iconst (v := 0) hC.1 dL_law_1427 rfl ?_
    obtain ⟨v, f1, g1, R1, f2, g2, R2, c1, c2, hI2⟩ := show JC sh R f g 60 134 249 [.int (xs (i + 1).toNatClampNeg), .int (ur_b false)] from (j_mark (d := 0) hJ)
    refine lj_virt (d := 59) (a := 0) (As := [.int (xs (i + 1).toNatClampNeg), .int (ur_b false)]) (r := []) (v := (v, (sh, f1, g1, R1))) hC.1 lk_0_187 rfl (by decide) c1 rfl hS rfl (by decide) (by decide) hcap.1 hcap.2 (by decide) dL_law_1428 ?_
    refine lj_aload_n hC.1 dL_law_1431 rfl ?_
    refine lw_arg (kv := 1) hC dL_law_1432 dL_law_1433 dL_law_1435 rfl dL_law_1436 dL_law_1437 rfl rfl (hin 1 (by decide)) ?_
    refine lw_arg (kv := 2) hC dL_law_1438 dL_law_1439 dL_law_1441 rfl dL_law_1442 dL_law_1443 rfl rfl (hin 2 (by decide)) ?_
    refine lj_ifeq hC.1 dL_law_1444 (x := 1451) rfl (fun _ => ?_) (fun y => absurd y0 y)
    refine lj_iconst (v := 0) hC.1 dL_law_1451 rfl ?_
    refine lj_virt (d := 59) (a := 208) (As := [.int (xs (i + 1).toNatClampNeg), .int (ur_b false)]) (r := [.int v]) (v := (v, (sh, f2, g2, R2))) hC.1 lk_0_191 rfl (by decide) c2 rfl hS rfl (by decide) (by decide) hcap.1 hcap.2 (by show 1 ≤ 8; decide) dL_law_1452 ?_
    exact lj_icmp_eq hC.1 dL_law_1455 (x := 1485) rfl (fun _ => K f2 g2 R2 hI2 x5 x6) (fun y => absurd rfl y)
  · skip
    refine lj_iconst (v := 1) hC.1 dL_law_1423 rfl ?_
    refine lj_goto hC.1 dL_law_1424 (x := 1428) rfl ?_
    obtain ⟨v, f1, g1, R1, f2, g2, R2, c1, c2, hI2⟩ := show JC sh R f g 60 134 249 [.int (xs (i + 1).toNatClampNeg), .int (ur_b true)] from (j_mark (d := 0) hJ)
    refine lj_virt (d := 59) (a := 0) (As := [.int (xs (i + 1).toNatClampNeg), .int (ur_b true)]) (r := []) (v := (v, (sh, f1, g1, R1))) hC.1 lk_0_187 rfl (by decide) c1 rfl hS rfl (by decide) (by decide) hcap.1 hcap.2 (by decide) dL_law_1428 ?_
    refine lj_aload_n hC.1 dL_law_1431 rfl ?_
    refine lw_arg (kv := 1) hC dL_law_1432 dL_law_1433 dL_law_1435 rfl dL_law_1436 dL_law_1437 rfl rfl (hin 1 (by decide)) ?_
    refine lw_arg (kv := 2) hC dL_law_1438 dL_law_1439 dL_law_1441 rfl dL_law_1442 dL_law_1443 rfl rfl (hin 2 (by decide)) ?_
    refine lj_ifeq hC.1 dL_law_1444 (x := 1451) rfl (fun y => absurd y y0) (fun _ => ?_)
    refine lj_iconst (v := 1) hC.1 dL_law_1447 rfl ?_
    refine lj_goto hC.1 dL_law_1448 (x := 1452) rfl ?_
    refine lj_virt (d := 59) (a := 208) (As := [.int (xs (i + 1).toNatClampNeg), .int (ur_b true)]) (r := [.int v]) (v := (v, (sh, f2, g2, R2))) hC.1 lk_0_191 rfl (by decide) c2 rfl hS rfl (by decide) (by decide) hcap.1 hcap.2 (by show 1 ≤ 8; decide) dL_law_1452 ?_
    exact lj_icmp_eq hC.1 dL_law_1455 (x := 1485) rfl (fun _ => K f2 g2 R2 hI2 x5 x6) (fun y => absurd rfl y)
theorem lcase_39 (hC : lwC p l s mid b c D cas ad L xs) (hin : ∀ k : Nat, k < 7 → vp_in (i + nI k) L) (hS : sh.length ≤ 1000) (hcap : Cn ≤ room_1.cells ∧ Sn ≤ room_1.slots) (hI : INV sh R f g) (K : ∀ f2 g2 R2, INV sh R2 f2 g2 → ∀ x5 x6, lwJ p l e s mid b below meth c D cas ad Cn Sn Q 1485 (lwL i x5 x6) [] (sh, f2, g2, R2)) : lwJ p l e s mid b below meth c D cas ad Cn Sn Q 1460 (lwL i x5 x6) [] (sh, f, g, R) := by
  obtain ⟨L1, L2, K1, K2, l1, V1, N1, P1, E1, hJ⟩ := hI
  refine lj_aload_n hC.1 dL_law_1460 rfl ?_
  refine lw_arg (kv := 1) hC dL_law_1461 dL_law_1462 dL_law_1464 rfl dL_law_1465 dL_law_1466 rfl rfl (hin 1 (by decide)) ?_
  obtain ⟨v, f1, g1, R1, f2, g2, R2, c1, c2, hI2⟩ := show JC sh R f g 60 135 250 [.int (xs (i + 1).toNatClampNeg)] from (hJ.jc (j_count (d := 0) hJ))
  refine lj_virt (d := 59) (a := 0) (As := [.int (xs (i + 1).toNatClampNeg)]) (r := []) (v := (v, (sh, f1, g1, R1))) hC.1 lk_0_192 rfl (by decide) c1 rfl hS rfl (by decide) (by decide) hcap.1 hcap.2 (by decide) dL_law_1467 ?_
  refine lj_aload_n hC.1 dL_law_1470 rfl ?_
  refine lw_arg (kv := 1) hC dL_law_1471 dL_law_1472 dL_law_1474 rfl dL_law_1475 dL_law_1476 rfl rfl (hin 1 (by decide)) ?_
  refine lj_virt (d := 59) (a := 208) (As := [.int (xs (i + 1).toNatClampNeg)]) (r := [.int v]) (v := (v, (sh, f2, g2, R2))) hC.1 lk_0_195 rfl (by decide) c2 rfl hS rfl (by decide) (by decide) hcap.1 hcap.2 (by show 1 ≤ 8; decide) dL_law_1477 ?_
  exact lj_icmp_eq hC.1 dL_law_1480 (x := 1485) rfl (fun _ => K f2 g2 R2 hI2 x5 x6) (fun y => absurd rfl y)
end URLQ

/-! the law's cases (by wip/whole/gcase.py) -/
def sd (a b : Int32) : Int64 := (a.toInt64 <<< ((32 : Int32).toInt64 &&& 63)) ||| (b.toInt64 &&& 4294967295)
section LWD
variable {Γ : lw_Γ} {n pc : Nat} {ex : List (Nat × Value)} {st : List Value} {hc hm : rx_Hp} {f : Nat → Int64} {ce sl : Nat} {S : Gs}
theorem l_i2l {x : Int32} (hd : decode code pc = .ok (.i2l, 1)) (k : Lw Γ n (pc + 1) ex (.long x.toInt64 :: st) hc hm f ce sl) : Lw Γ n pc ex (.int x :: st) hc hm f ce sl :=
  fun p l e s m below meth c H locs ls C hl hH => lv_i2l C.1.1.1 C.1.1.2.1 hd rfl (k p l e s m below meth c H locs ls C hl hH)
theorem l_bip {z : Int} {v : Int32} (hd : decode code pc = .ok (.bipush z, 2)) (hv : (Int8.ofInt z).toInt32 = v) (k : Lw Γ n (pc + 2) ex (.int v :: st) hc hm f ce sl) : Lw Γ n pc ex st hc hm f ce sl :=
  fun p l e s m below meth c H locs ls C hl hH => lv_bipush C.1.1.1 C.1.1.2.1 hd hv (k p l e s m below meth c H locs ls C hl hH)
theorem l_lshl {x : Int64} {y : Int32} (hd : decode code pc = .ok (.lshl, 1)) (k : Lw Γ n (pc + 1) ex (.long (x <<< (y.toInt64 &&& 63)) :: st) hc hm f ce sl) : Lw Γ n pc ex (.int y :: .long x :: st) hc hm f ce sl :=
  fun p l e s m below meth c H locs ls C hl hH => lv_lshl C.1.1.1 C.1.1.2.1 hd rfl (k p l e s m below meth c H locs ls C hl hH)
theorem l_ldc2 {i : Nat} {v : Int64} (hd : decode code pc = .ok (.ldc2_w i, 3)) (hm9 : Cond.constantLong "GlassRoomLaw" i v ∈ rx_gw) (k : Lw Γ n (pc + 3) ex (.long v :: st) hc hm f ce sl) : Lw Γ n pc ex st hc hm f ce sl :=
  fun p l e s m below meth c H locs ls C hl hH => lv_ldc2 C.1.1.1 C.1.1.2.1 C.1.1.2.2.2.1 (C.1.1.2.2.2.2 _ hm9) hd (k p l e s m below meth c H locs ls C hl hH)
theorem l_land {x y : Int64} (hd : decode code pc = .ok (.land, 1)) (k : Lw Γ n (pc + 1) ex (.long (x &&& y) :: st) hc hm f ce sl) : Lw Γ n pc ex (.long y :: .long x :: st) hc hm f ce sl :=
  fun p l e s m below meth c H locs ls C hl hH => lv_land C.1.1.1 C.1.1.2.1 hd (k p l e s m below meth c H locs ls C hl hH)
theorem l_lor {x y : Int64} (hd : decode code pc = .ok (.lor, 1)) (k : Lw Γ n (pc + 1) ex (.long (x ||| y) :: st) hc hm f ce sl) : Lw Γ n pc ex (.long y :: .long x :: st) hc hm f ce sl :=
  fun p l e s m below meth c H locs ls C hl hH => lv_lor C.1.1.1 C.1.1.2.1 hd (k p l e s m below meth c H locs ls C hl hH)
theorem cs_0 (hn : n + 6 ≤ Γ.2.2.2.2.1) (ok : ROk S) (rc : RC S hc) (rm : RM S hm) (hcs : ce ≤ 601024 ∧ sl ≤ 7293034) (K : LK Γ n ce sl) : Lw Γ n 184 [] [] hc hm f ce sl := by
  obtain ⟨v, S', ok', eC, eM⟩ := t_feed ok (Γ.2.2.2.2.2 (n + 1)) (Γ.2.2.2.2.2 (n + 2)) (Γ.2.2.2.2.2 (n + 3)) (Γ.2.2.2.2.2 (n + 4)) (Γ.2.2.2.2.2 (n + 5))
  refine l_c dL_law_184 ?_
  refine l_arg 1 (by decide) hn dL_law_185 dL_law_186 dL_law_188 dL_law_189 dL_law_190 rfl ?_
  refine l_arg 2 (by decide) hn dL_law_191 dL_law_192 dL_law_194 dL_law_195 dL_law_196 rfl ?_
  refine l_arg 3 (by decide) hn dL_law_197 dL_law_198 dL_law_200 dL_law_201 dL_law_202 rfl ?_
  refine l_arg 4 (by decide) hn dL_law_203 dL_law_204 dL_law_206 dL_law_207 dL_law_208 rfl ?_
  refine l_arg 5 (by decide) hn dL_law_209 dL_law_210 dL_law_212 dL_law_213 dL_law_214 rfl ?_
  refine l_callC [.int (Γ.2.2.2.2.2 (n + 1)), .int (Γ.2.2.2.2.2 (n + 2)), .int (Γ.2.2.2.2.2 (n + 3)), .int (Γ.2.2.2.2.2 (n + 4)), .int (Γ.2.2.2.2.2 (n + 5))] [] dL_law_215 ml_L_19 (eC Γ.1 hc rc) rfl rfl (by decide) rfl (by decide) hcs (fun hc' rc' => ?_) rfl
  refine l_m dL_law_218 ?_
  refine l_arg 1 (by decide) hn dL_law_219 dL_law_220 dL_law_222 dL_law_223 dL_law_224 rfl ?_
  refine l_arg 2 (by decide) hn dL_law_225 dL_law_226 dL_law_228 dL_law_229 dL_law_230 rfl ?_
  refine l_arg 3 (by decide) hn dL_law_231 dL_law_232 dL_law_234 dL_law_235 dL_law_236 rfl ?_
  refine l_arg 4 (by decide) hn dL_law_237 dL_law_238 dL_law_240 dL_law_241 dL_law_242 rfl ?_
  refine l_arg 5 (by decide) hn dL_law_243 dL_law_244 dL_law_246 dL_law_247 dL_law_248 rfl ?_
  refine l_callM [.int (Γ.2.2.2.2.2 (n + 1)), .int (Γ.2.2.2.2.2 (n + 2)), .int (Γ.2.2.2.2.2 (n + 3)), .int (Γ.2.2.2.2.2 (n + 4)), .int (Γ.2.2.2.2.2 (n + 5))] [.int v] dL_law_249 ml_L_23 (eM Γ.2.1 hm rm) rfl rfl (by decide) rfl (show 1 + 0 ≤ 8 from by decide) hcs (fun hm' rm' => ?_) rfl
  exact l_same dL_law_252 (by decide) (K S' hc' hm' f ce sl [] ok' rc' rm' (Nat.le_succ _) (Nat.le_add_right _ _))
theorem cs_1 (hn : n + 6 ≤ Γ.2.2.2.2.1) (ok : ROk S) (rc : RC S hc) (rm : RM S hm) (hcs : ce ≤ 601024 ∧ sl ≤ 7293034) (K : LK Γ n ce sl) : Lw Γ n 257 [] [] hc hm f ce sl := by
  obtain ⟨v, S', ok', eC, eM⟩ := t_end ok (Γ.2.2.2.2.2 (n + 1))
  refine l_c dL_law_257 ?_
  refine l_arg 1 (by decide) hn dL_law_258 dL_law_259 dL_law_261 dL_law_262 dL_law_263 rfl ?_
  refine l_callC [.int (Γ.2.2.2.2.2 (n + 1))] [] dL_law_264 ml_L_24 (eC Γ.1 hc rc) rfl rfl (by decide) rfl (by decide) hcs (fun hc' rc' => ?_) rfl
  refine l_m dL_law_267 ?_
  refine l_arg 1 (by decide) hn dL_law_268 dL_law_269 dL_law_271 dL_law_272 dL_law_273 rfl ?_
  refine l_callM [.int (Γ.2.2.2.2.2 (n + 1))] [.int v] dL_law_274 ml_L_28 (eM Γ.2.1 hm rm) rfl rfl (by decide) rfl (show 1 + 0 ≤ 8 from by decide) hcs (fun hm' rm' => ?_) rfl
  exact l_same dL_law_277 (by decide) (K S' hc' hm' f ce sl [] ok' rc' rm' (Nat.le_succ _) (Nat.le_add_right _ _))
theorem cs_2 (hn : n + 6 ≤ Γ.2.2.2.2.1) (ok : ROk S) (rc : RC S hc) (rm : RM S hm) (hcs : ce ≤ 601024 ∧ sl ≤ 7293034) (K : LK Γ n ce sl) : Lw Γ n 282 [] [] hc hm f ce sl := by
  obtain ⟨v, S', ok', eC, eM⟩ := t_fault ok (Γ.2.2.2.2.2 (n + 1))
  refine l_c dL_law_282 ?_
  refine l_arg 1 (by decide) hn dL_law_283 dL_law_284 dL_law_286 dL_law_287 dL_law_288 rfl ?_
  refine l_callC [.int (Γ.2.2.2.2.2 (n + 1))] [] dL_law_289 ml_L_29 (eC Γ.1 hc rc) rfl rfl (by decide) rfl (by decide) hcs (fun hc' rc' => ?_) rfl
  refine l_m dL_law_292 ?_
  refine l_arg 1 (by decide) hn dL_law_293 dL_law_294 dL_law_296 dL_law_297 dL_law_298 rfl ?_
  refine l_callM [.int (Γ.2.2.2.2.2 (n + 1))] [.int v] dL_law_299 ml_L_33 (eM Γ.2.1 hm rm) rfl rfl (by decide) rfl (show 1 + 0 ≤ 8 from by decide) hcs (fun hm' rm' => ?_) rfl
  exact l_same dL_law_302 (by decide) (K S' hc' hm' f ce sl [] ok' rc' rm' (Nat.le_succ _) (Nat.le_add_right _ _))
theorem cs_3 (hn : n + 6 ≤ Γ.2.2.2.2.1) (ok : ROk S) (rc : RC S hc) (rm : RM S hm) (hcs : ce ≤ 601024 ∧ sl ≤ 7293034) (K : LK Γ n ce sl) : Lw Γ n 307 [] [] hc hm f ce sl := by
  obtain ⟨v, S', ok', eC, eM⟩ := t_text ok (Γ.2.2.2.2.2 (n + 1))
  refine l_c dL_law_307 ?_
  refine l_arg 1 (by decide) hn dL_law_308 dL_law_309 dL_law_311 dL_law_312 dL_law_313 rfl ?_
  refine l_callC [.int (Γ.2.2.2.2.2 (n + 1))] [] dL_law_314 ml_L_34 (eC Γ.1 hc rc) rfl rfl (by decide) rfl (by decide) hcs (fun hc' rc' => ?_) rfl
  refine l_m dL_law_317 ?_
  refine l_arg 1 (by decide) hn dL_law_318 dL_law_319 dL_law_321 dL_law_322 dL_law_323 rfl ?_
  refine l_callM [.int (Γ.2.2.2.2.2 (n + 1))] [.int v] dL_law_324 ml_L_37 (eM Γ.2.1 hm rm) rfl rfl (by decide) rfl (show 1 + 0 ≤ 8 from by decide) hcs (fun hm' rm' => ?_) rfl
  exact l_same dL_law_327 (by decide) (K S' hc' hm' f ce sl [] ok' rc' rm' (Nat.le_succ _) (Nat.le_add_right _ _))
theorem cs_5 (hn : n + 6 ≤ Γ.2.2.2.2.1) (ok : ROk S) (rc : RC S hc) (rm : RM S hm) (hcs : ce ≤ 601024 ∧ sl ≤ 7293034) (K : LK Γ n ce sl) : Lw Γ n 400 [] [] hc hm f ce sl := by
  obtain ⟨v, S', ok', eC, eM⟩ := t_light ok (Γ.2.2.2.2.2 (n + 1))
  refine l_c dL_law_400 ?_
  refine l_arg 1 (by decide) hn dL_law_401 dL_law_402 dL_law_404 dL_law_405 dL_law_406 rfl ?_
  refine l_callC [.int (Γ.2.2.2.2.2 (n + 1))] [] dL_law_407 ml_L_48 (eC Γ.1 hc rc) rfl rfl (by decide) rfl (by decide) hcs (fun hc' rc' => ?_) rfl
  refine l_m dL_law_410 ?_
  refine l_arg 1 (by decide) hn dL_law_411 dL_law_412 dL_law_414 dL_law_415 dL_law_416 rfl ?_
  refine l_callM [.int (Γ.2.2.2.2.2 (n + 1))] [.int v] dL_law_417 ml_L_51 (eM Γ.2.1 hm rm) rfl rfl (by decide) rfl (show 1 + 0 ≤ 8 from by decide) hcs (fun hm' rm' => ?_) rfl
  exact l_same dL_law_420 (by decide) (K S' hc' hm' f ce sl [] ok' rc' rm' (Nat.le_succ _) (Nat.le_add_right _ _))
theorem cs_6 (hn : n + 6 ≤ Γ.2.2.2.2.1) (ok : ROk S) (rc : RC S hc) (rm : RM S hm) (hcs : ce ≤ 601024 ∧ sl ≤ 7293034) (K : LK Γ n ce sl) : Lw Γ n 425 [] [] hc hm f ce sl := by
  obtain ⟨v, S', ok', eC, eM⟩ := t_move ok (Γ.2.2.2.2.2 (n + 1)) (Γ.2.2.2.2.2 (n + 2)) (Γ.2.2.2.2.2 (n + 3))
  refine l_c dL_law_425 ?_
  refine l_arg 1 (by decide) hn dL_law_426 dL_law_427 dL_law_429 dL_law_430 dL_law_431 rfl ?_
  refine l_arg 2 (by decide) hn dL_law_432 dL_law_433 dL_law_435 dL_law_436 dL_law_437 rfl ?_
  refine l_arg 3 (by decide) hn dL_law_438 dL_law_439 dL_law_441 dL_law_442 dL_law_443 rfl ?_
  refine l_callC [.int (Γ.2.2.2.2.2 (n + 1)), .int (Γ.2.2.2.2.2 (n + 2)), .int (Γ.2.2.2.2.2 (n + 3))] [] dL_law_444 ml_L_52 (eC Γ.1 hc rc) rfl rfl (by decide) rfl (by decide) hcs (fun hc' rc' => ?_) rfl
  refine l_m dL_law_447 ?_
  refine l_arg 1 (by decide) hn dL_law_448 dL_law_449 dL_law_451 dL_law_452 dL_law_453 rfl ?_
  refine l_arg 2 (by decide) hn dL_law_454 dL_law_455 dL_law_457 dL_law_458 dL_law_459 rfl ?_
  refine l_arg 3 (by decide) hn dL_law_460 dL_law_461 dL_law_463 dL_law_464 dL_law_465 rfl ?_
  refine l_callM [.int (Γ.2.2.2.2.2 (n + 1)), .int (Γ.2.2.2.2.2 (n + 2)), .int (Γ.2.2.2.2.2 (n + 3))] [.int v] dL_law_466 ml_L_56 (eM Γ.2.1 hm rm) rfl rfl (by decide) rfl (show 1 + 0 ≤ 8 from by decide) hcs (fun hm' rm' => ?_) rfl
  exact l_same dL_law_469 (by decide) (K S' hc' hm' f ce sl [] ok' rc' rm' (Nat.le_succ _) (Nat.le_add_right _ _))
theorem cs_7 (hn : n + 6 ≤ Γ.2.2.2.2.1) (ok : ROk S) (rc : RC S hc) (rm : RM S hm) (hcs : ce ≤ 601024 ∧ sl ≤ 7293034) (K : LK Γ n ce sl) : Lw Γ n 474 [] [] hc hm f ce sl := by
  obtain ⟨v, S', ok', eC, eM⟩ := t_glass ok (Γ.2.2.2.2.2 (n + 1))
  refine l_c dL_law_474 ?_
  refine l_arg 1 (by decide) hn dL_law_475 dL_law_476 dL_law_478 dL_law_479 dL_law_480 rfl ?_
  refine l_callC [.int (Γ.2.2.2.2.2 (n + 1))] [] dL_law_481 ml_L_57 (eC Γ.1 hc rc) rfl rfl (by decide) rfl (by decide) hcs (fun hc' rc' => ?_) rfl
  refine l_m dL_law_484 ?_
  refine l_arg 1 (by decide) hn dL_law_485 dL_law_486 dL_law_488 dL_law_489 dL_law_490 rfl ?_
  refine l_callM [.int (Γ.2.2.2.2.2 (n + 1))] [.int v] dL_law_491 ml_L_60 (eM Γ.2.1 hm rm) rfl rfl (by decide) rfl (show 1 + 0 ≤ 8 from by decide) hcs (fun hm' rm' => ?_) rfl
  exact l_same dL_law_494 (by decide) (K S' hc' hm' f ce sl [] ok' rc' rm' (Nat.le_succ _) (Nat.le_add_right _ _))
theorem cs_8 (hn : n + 6 ≤ Γ.2.2.2.2.1) (ok : ROk S) (rc : RC S hc) (rm : RM S hm) (hcs : ce ≤ 601024 ∧ sl ≤ 7293034) (K : LK Γ n ce sl) : Lw Γ n 499 [] [] hc hm f ce sl := by
  obtain ⟨v, S', ok', eC, eM⟩ := t_steps ok (Γ.2.2.2.2.2 (n + 1)) (sd (Γ.2.2.2.2.2 (n + 2)) (Γ.2.2.2.2.2 (n + 3)))
  refine l_c dL_law_499 ?_
  refine l_arg 1 (by decide) hn dL_law_500 dL_law_501 dL_law_503 dL_law_504 dL_law_505 rfl ?_
  refine l_arg 2 (by decide) hn dL_law_506 dL_law_507 dL_law_509 dL_law_510 dL_law_511 rfl ?_
  refine l_i2l dL_law_512 ?_
  refine l_bip (v := 32) dL_law_513 (by decide) ?_
  refine l_lshl dL_law_515 ?_
  refine l_arg 3 (by decide) hn dL_law_516 dL_law_517 dL_law_519 dL_law_520 dL_law_521 rfl ?_
  refine l_i2l dL_law_522 ?_
  refine l_ldc2 dL_law_523 (rx_s7 148 rfl rfl) ?_
  refine l_land dL_law_526 ?_
  refine l_lor dL_law_527 ?_
  refine l_callC [.int (Γ.2.2.2.2.2 (n + 1)), .long (sd (Γ.2.2.2.2.2 (n + 2)) (Γ.2.2.2.2.2 (n + 3)))] [] dL_law_528 ml_L_63 (eC Γ.1 hc rc) rfl rfl (by decide) rfl (by decide) hcs (fun hc' rc' => ?_) rfl
  refine l_m dL_law_531 ?_
  refine l_arg 1 (by decide) hn dL_law_532 dL_law_533 dL_law_535 dL_law_536 dL_law_537 rfl ?_
  refine l_arg 2 (by decide) hn dL_law_538 dL_law_539 dL_law_541 dL_law_542 dL_law_543 rfl ?_
  refine l_i2l dL_law_544 ?_
  refine l_bip (v := 32) dL_law_545 (by decide) ?_
  refine l_lshl dL_law_547 ?_
  refine l_arg 3 (by decide) hn dL_law_548 dL_law_549 dL_law_551 dL_law_552 dL_law_553 rfl ?_
  refine l_i2l dL_law_554 ?_
  refine l_ldc2 dL_law_555 (rx_s7 148 rfl rfl) ?_
  refine l_land dL_law_558 ?_
  refine l_lor dL_law_559 ?_
  refine l_callM [.int (Γ.2.2.2.2.2 (n + 1)), .long (sd (Γ.2.2.2.2.2 (n + 2)) (Γ.2.2.2.2.2 (n + 3)))] [.int v] dL_law_560 ml_L_67 (eM Γ.2.1 hm rm) rfl rfl (by decide) rfl (show 1 + 0 ≤ 8 from by decide) hcs (fun hm' rm' => ?_) rfl
  exact l_same dL_law_563 (by decide) (K S' hc' hm' f ce sl [] ok' rc' rm' (Nat.le_succ _) (Nat.le_add_right _ _))
theorem cs_9 (hn : n + 6 ≤ Γ.2.2.2.2.1) (ok : ROk S) (rc : RC S hc) (rm : RM S hm) (hcs : ce ≤ 601024 ∧ sl ≤ 7293034) (K : LK Γ n ce sl) : Lw Γ n 568 [] [] hc hm f ce sl := by
  obtain ⟨v, S', ok', eC, eM⟩ := t_undo ok 
  refine l_c dL_law_568 ?_
  refine l_callC [] [] dL_law_569 ml_L_68 (eC Γ.1 hc rc) rfl rfl (by decide) rfl (by decide) hcs (fun hc' rc' => ?_) rfl
  refine l_m dL_law_572 ?_
  refine l_callM [] [.int v] dL_law_573 ml_L_71 (eM Γ.2.1 hm rm) rfl rfl (by decide) rfl (show 1 + 0 ≤ 8 from by decide) hcs (fun hm' rm' => ?_) rfl
  exact l_same dL_law_576 (by decide) (K S' hc' hm' f ce sl [] ok' rc' rm' (Nat.le_succ _) (Nat.le_add_right _ _))
theorem cs_10 (hn : n + 6 ≤ Γ.2.2.2.2.1) (ok : ROk S) (rc : RC S hc) (rm : RM S hm) (hcs : ce ≤ 601024 ∧ sl ≤ 7293034) (K : LK Γ n ce sl) : Lw Γ n 581 [] [] hc hm f ce sl := by
  obtain ⟨v, S', ok', eC, eM⟩ := t_image ok (Γ.2.2.2.2.2 (n + 1)) (Γ.2.2.2.2.2 (n + 2)) (Γ.2.2.2.2.2 (n + 3)) (Γ.2.2.2.2.2 (n + 4))
  refine l_c dL_law_581 ?_
  refine l_arg 1 (by decide) hn dL_law_582 dL_law_583 dL_law_585 dL_law_586 dL_law_587 rfl ?_
  refine l_arg 2 (by decide) hn dL_law_588 dL_law_589 dL_law_591 dL_law_592 dL_law_593 rfl ?_
  refine l_arg 3 (by decide) hn dL_law_594 dL_law_595 dL_law_597 dL_law_598 dL_law_599 rfl ?_
  refine l_arg 4 (by decide) hn dL_law_600 dL_law_601 dL_law_603 dL_law_604 dL_law_605 rfl ?_
  refine l_callC [.int (Γ.2.2.2.2.2 (n + 1)), .int (Γ.2.2.2.2.2 (n + 2)), .int (Γ.2.2.2.2.2 (n + 3)), .int (Γ.2.2.2.2.2 (n + 4))] [] dL_law_606 ml_L_72 (eC Γ.1 hc rc) rfl rfl (by decide) rfl (by decide) hcs (fun hc' rc' => ?_) rfl
  refine l_m dL_law_609 ?_
  refine l_arg 1 (by decide) hn dL_law_610 dL_law_611 dL_law_613 dL_law_614 dL_law_615 rfl ?_
  refine l_arg 2 (by decide) hn dL_law_616 dL_law_617 dL_law_619 dL_law_620 dL_law_621 rfl ?_
  refine l_arg 3 (by decide) hn dL_law_622 dL_law_623 dL_law_625 dL_law_626 dL_law_627 rfl ?_
  refine l_arg 4 (by decide) hn dL_law_628 dL_law_629 dL_law_631 dL_law_632 dL_law_633 rfl ?_
  refine l_callM [.int (Γ.2.2.2.2.2 (n + 1)), .int (Γ.2.2.2.2.2 (n + 2)), .int (Γ.2.2.2.2.2 (n + 3)), .int (Γ.2.2.2.2.2 (n + 4))] [.int v] dL_law_634 ml_L_76 (eM Γ.2.1 hm rm) rfl rfl (by decide) rfl (show 1 + 0 ≤ 8 from by decide) hcs (fun hm' rm' => ?_) rfl
  exact l_same dL_law_637 (by decide) (K S' hc' hm' f ce sl [] ok' rc' rm' (Nat.le_succ _) (Nat.le_add_right _ _))
theorem cs_11 (hn : n + 6 ≤ Γ.2.2.2.2.1) (ok : ROk S) (rc : RC S hc) (rm : RM S hm) (hcs : ce ≤ 601024 ∧ sl ≤ 7293034) (K : LK Γ n ce sl) : Lw Γ n 642 [] [] hc hm f ce sl := by
  obtain ⟨v, S', ok', eC, eM⟩ := t_far ok (Γ.2.2.2.2.2 (n + 1)) (Γ.2.2.2.2.2 (n + 2)) (Γ.2.2.2.2.2 (n + 3)) (Γ.2.2.2.2.2 (n + 4))
  refine l_c dL_law_642 ?_
  refine l_arg 1 (by decide) hn dL_law_643 dL_law_644 dL_law_646 dL_law_647 dL_law_648 rfl ?_
  refine l_arg 2 (by decide) hn dL_law_649 dL_law_650 dL_law_652 dL_law_653 dL_law_654 rfl ?_
  refine l_arg 3 (by decide) hn dL_law_655 dL_law_656 dL_law_658 dL_law_659 dL_law_660 rfl ?_
  refine l_arg 4 (by decide) hn dL_law_661 dL_law_662 dL_law_664 dL_law_665 dL_law_666 rfl ?_
  refine l_callC [.int (Γ.2.2.2.2.2 (n + 1)), .int (Γ.2.2.2.2.2 (n + 2)), .int (Γ.2.2.2.2.2 (n + 3)), .int (Γ.2.2.2.2.2 (n + 4))] [] dL_law_667 ml_L_77 (eC Γ.1 hc rc) rfl rfl (by decide) rfl (by decide) hcs (fun hc' rc' => ?_) rfl
  refine l_m dL_law_670 ?_
  refine l_arg 1 (by decide) hn dL_law_671 dL_law_672 dL_law_674 dL_law_675 dL_law_676 rfl ?_
  refine l_arg 2 (by decide) hn dL_law_677 dL_law_678 dL_law_680 dL_law_681 dL_law_682 rfl ?_
  refine l_arg 3 (by decide) hn dL_law_683 dL_law_684 dL_law_686 dL_law_687 dL_law_688 rfl ?_
  refine l_arg 4 (by decide) hn dL_law_689 dL_law_690 dL_law_692 dL_law_693 dL_law_694 rfl ?_
  refine l_callM [.int (Γ.2.2.2.2.2 (n + 1)), .int (Γ.2.2.2.2.2 (n + 2)), .int (Γ.2.2.2.2.2 (n + 3)), .int (Γ.2.2.2.2.2 (n + 4))] [.int v] dL_law_695 ml_L_80 (eM Γ.2.1 hm rm) rfl rfl (by decide) rfl (show 1 + 0 ≤ 8 from by decide) hcs (fun hm' rm' => ?_) rfl
  exact l_same dL_law_698 (by decide) (K S' hc' hm' f ce sl [] ok' rc' rm' (Nat.le_succ _) (Nat.le_add_right _ _))
theorem cs_12 (hn : n + 6 ≤ Γ.2.2.2.2.1) (ok : ROk S) (rc : RC S hc) (rm : RM S hm) (hcs : ce ≤ 601024 ∧ sl ≤ 7293034) (K : LK Γ n ce sl) : Lw Γ n 703 [] [] hc hm f ce sl := by
  obtain ⟨v, S', ok', eC, eM⟩ := t_lightOf ok (Γ.2.2.2.2.2 (n + 1)) (Γ.2.2.2.2.2 (n + 2)) (Γ.2.2.2.2.2 (n + 3)) (Γ.2.2.2.2.2 (n + 4))
  refine l_c dL_law_703 ?_
  refine l_arg 1 (by decide) hn dL_law_704 dL_law_705 dL_law_707 dL_law_708 dL_law_709 rfl ?_
  refine l_arg 2 (by decide) hn dL_law_710 dL_law_711 dL_law_713 dL_law_714 dL_law_715 rfl ?_
  refine l_arg 3 (by decide) hn dL_law_716 dL_law_717 dL_law_719 dL_law_720 dL_law_721 rfl ?_
  refine l_arg 4 (by decide) hn dL_law_722 dL_law_723 dL_law_725 dL_law_726 dL_law_727 rfl ?_
  refine l_callC [.int (Γ.2.2.2.2.2 (n + 1)), .int (Γ.2.2.2.2.2 (n + 2)), .int (Γ.2.2.2.2.2 (n + 3)), .int (Γ.2.2.2.2.2 (n + 4))] [] dL_law_728 ml_L_81 (eC Γ.1 hc rc) rfl rfl (by decide) rfl (by decide) hcs (fun hc' rc' => ?_) rfl
  refine l_m dL_law_731 ?_
  refine l_arg 1 (by decide) hn dL_law_732 dL_law_733 dL_law_735 dL_law_736 dL_law_737 rfl ?_
  refine l_arg 2 (by decide) hn dL_law_738 dL_law_739 dL_law_741 dL_law_742 dL_law_743 rfl ?_
  refine l_arg 3 (by decide) hn dL_law_744 dL_law_745 dL_law_747 dL_law_748 dL_law_749 rfl ?_
  refine l_arg 4 (by decide) hn dL_law_750 dL_law_751 dL_law_753 dL_law_754 dL_law_755 rfl ?_
  refine l_callM [.int (Γ.2.2.2.2.2 (n + 1)), .int (Γ.2.2.2.2.2 (n + 2)), .int (Γ.2.2.2.2.2 (n + 3)), .int (Γ.2.2.2.2.2 (n + 4))] [.int v] dL_law_756 ml_L_84 (eM Γ.2.1 hm rm) rfl rfl (by decide) rfl (show 1 + 0 ≤ 8 from by decide) hcs (fun hm' rm' => ?_) rfl
  exact l_same dL_law_759 (by decide) (K S' hc' hm' f ce sl [] ok' rc' rm' (Nat.le_succ _) (Nat.le_add_right _ _))
theorem cs_13 (hn : n + 6 ≤ Γ.2.2.2.2.1) (ok : ROk S) (rc : RC S hc) (rm : RM S hm) (hcs : ce ≤ 601024 ∧ sl ≤ 7293034) (K : LK Γ n ce sl) : Lw Γ n 764 [] [] hc hm f ce sl := by
  obtain ⟨v, S', ok', eC, eM⟩ := t_near ok (Γ.2.2.2.2.2 (n + 1)) (Γ.2.2.2.2.2 (n + 2)) (Γ.2.2.2.2.2 (n + 3)) (Γ.2.2.2.2.2 (n + 4))
  refine l_c dL_law_764 ?_
  refine l_arg 1 (by decide) hn dL_law_765 dL_law_766 dL_law_768 dL_law_769 dL_law_770 rfl ?_
  refine l_arg 2 (by decide) hn dL_law_771 dL_law_772 dL_law_774 dL_law_775 dL_law_776 rfl ?_
  refine l_arg 3 (by decide) hn dL_law_777 dL_law_778 dL_law_780 dL_law_781 dL_law_782 rfl ?_
  refine l_arg 4 (by decide) hn dL_law_783 dL_law_784 dL_law_786 dL_law_787 dL_law_788 rfl ?_
  refine l_callC [.int (Γ.2.2.2.2.2 (n + 1)), .int (Γ.2.2.2.2.2 (n + 2)), .int (Γ.2.2.2.2.2 (n + 3)), .int (Γ.2.2.2.2.2 (n + 4))] [] dL_law_789 ml_L_85 (eC Γ.1 hc rc) rfl rfl (by decide) rfl (by decide) hcs (fun hc' rc' => ?_) rfl
  refine l_m dL_law_792 ?_
  refine l_arg 1 (by decide) hn dL_law_793 dL_law_794 dL_law_796 dL_law_797 dL_law_798 rfl ?_
  refine l_arg 2 (by decide) hn dL_law_799 dL_law_800 dL_law_802 dL_law_803 dL_law_804 rfl ?_
  refine l_arg 3 (by decide) hn dL_law_805 dL_law_806 dL_law_808 dL_law_809 dL_law_810 rfl ?_
  refine l_arg 4 (by decide) hn dL_law_811 dL_law_812 dL_law_814 dL_law_815 dL_law_816 rfl ?_
  refine l_callM [.int (Γ.2.2.2.2.2 (n + 1)), .int (Γ.2.2.2.2.2 (n + 2)), .int (Γ.2.2.2.2.2 (n + 3)), .int (Γ.2.2.2.2.2 (n + 4))] [.int v] dL_law_817 ml_L_88 (eM Γ.2.1 hm rm) rfl rfl (by decide) rfl (show 1 + 0 ≤ 8 from by decide) hcs (fun hm' rm' => ?_) rfl
  exact l_same dL_law_820 (by decide) (K S' hc' hm' f ce sl [] ok' rc' rm' (Nat.le_succ _) (Nat.le_add_right _ _))
theorem cs_14 (hn : n + 6 ≤ Γ.2.2.2.2.1) (ok : ROk S) (rc : RC S hc) (rm : RM S hm) (hcs : ce ≤ 601024 ∧ sl ≤ 7293034) (K : LK Γ n ce sl) : Lw Γ n 825 [] [] hc hm f ce sl := by
  obtain ⟨v, S', ok', eC, eM⟩ := t_within ok (Γ.2.2.2.2.2 (n + 1)) (Γ.2.2.2.2.2 (n + 2)) (Γ.2.2.2.2.2 (n + 3))
  refine l_c dL_law_825 ?_
  refine l_arg 1 (by decide) hn dL_law_826 dL_law_827 dL_law_829 dL_law_830 dL_law_831 rfl ?_
  refine l_arg 2 (by decide) hn dL_law_832 dL_law_833 dL_law_835 dL_law_836 dL_law_837 rfl ?_
  refine l_arg 3 (by decide) hn dL_law_838 dL_law_839 dL_law_841 dL_law_842 dL_law_843 rfl ?_
  refine l_callC [.int (Γ.2.2.2.2.2 (n + 1)), .int (Γ.2.2.2.2.2 (n + 2)), .int (Γ.2.2.2.2.2 (n + 3))] [] dL_law_844 ml_L_89 (eC Γ.1 hc rc) rfl rfl (by decide) rfl (by decide) hcs (fun hc' rc' => ?_) rfl
  refine l_m dL_law_847 ?_
  refine l_arg 1 (by decide) hn dL_law_848 dL_law_849 dL_law_851 dL_law_852 dL_law_853 rfl ?_
  refine l_arg 2 (by decide) hn dL_law_854 dL_law_855 dL_law_857 dL_law_858 dL_law_859 rfl ?_
  refine l_arg 3 (by decide) hn dL_law_860 dL_law_861 dL_law_863 dL_law_864 dL_law_865 rfl ?_
  refine l_callM [.int (Γ.2.2.2.2.2 (n + 1)), .int (Γ.2.2.2.2.2 (n + 2)), .int (Γ.2.2.2.2.2 (n + 3))] [.int v] dL_law_866 ml_L_92 (eM Γ.2.1 hm rm) rfl rfl (by decide) rfl (show 1 + 0 ≤ 8 from by decide) hcs (fun hm' rm' => ?_) rfl
  exact l_same dL_law_869 (by decide) (K S' hc' hm' f ce sl [] ok' rc' rm' (Nat.le_succ _) (Nat.le_add_right _ _))
theorem cs_15 (hn : n + 6 ≤ Γ.2.2.2.2.1) (ok : ROk S) (rc : RC S hc) (rm : RM S hm) (hcs : ce ≤ 601024 ∧ sl ≤ 7293034) (K : LK Γ n ce sl) : Lw Γ n 874 [] [] hc hm f ce sl := by
  obtain ⟨v, S', ok', eC, eM⟩ := t_brighter ok (Γ.2.2.2.2.2 (n + 1)) (Γ.2.2.2.2.2 (n + 2))
  refine l_c dL_law_874 ?_
  refine l_arg 1 (by decide) hn dL_law_875 dL_law_876 dL_law_878 dL_law_879 dL_law_880 rfl ?_
  refine l_arg 2 (by decide) hn dL_law_881 dL_law_882 dL_law_884 dL_law_885 dL_law_886 rfl ?_
  refine l_callC [.int (Γ.2.2.2.2.2 (n + 1)), .int (Γ.2.2.2.2.2 (n + 2))] [] dL_law_887 ml_L_93 (eC Γ.1 hc rc) rfl rfl (by decide) rfl (by decide) hcs (fun hc' rc' => ?_) rfl
  refine l_m dL_law_890 ?_
  refine l_arg 1 (by decide) hn dL_law_891 dL_law_892 dL_law_894 dL_law_895 dL_law_896 rfl ?_
  refine l_arg 2 (by decide) hn dL_law_897 dL_law_898 dL_law_900 dL_law_901 dL_law_902 rfl ?_
  refine l_callM [.int (Γ.2.2.2.2.2 (n + 1)), .int (Γ.2.2.2.2.2 (n + 2))] [.int v] dL_law_903 ml_L_96 (eM Γ.2.1 hm rm) rfl rfl (by decide) rfl (show 1 + 0 ≤ 8 from by decide) hcs (fun hm' rm' => ?_) rfl
  exact l_same dL_law_906 (by decide) (K S' hc' hm' f ce sl [] ok' rc' rm' (Nat.le_succ _) (Nat.le_add_right _ _))
theorem cs_16 (hn : n + 6 ≤ Γ.2.2.2.2.1) (ok : ROk S) (rc : RC S hc) (rm : RM S hm) (hcs : ce ≤ 601024 ∧ sl ≤ 7293034) (K : LK Γ n ce sl) : Lw Γ n 911 [] [] hc hm f ce sl := by
  obtain ⟨v, S', ok', eC, eM⟩ := t_seen ok (Γ.2.2.2.2.2 (n + 1)) (Γ.2.2.2.2.2 (n + 2)) (Γ.2.2.2.2.2 (n + 3)) (Γ.2.2.2.2.2 (n + 4))
  refine l_c dL_law_911 ?_
  refine l_arg 1 (by decide) hn dL_law_912 dL_law_913 dL_law_915 dL_law_916 dL_law_917 rfl ?_
  refine l_arg 2 (by decide) hn dL_law_918 dL_law_919 dL_law_921 dL_law_922 dL_law_923 rfl ?_
  refine l_arg 3 (by decide) hn dL_law_924 dL_law_925 dL_law_927 dL_law_928 dL_law_929 rfl ?_
  refine l_arg 4 (by decide) hn dL_law_930 dL_law_931 dL_law_933 dL_law_934 dL_law_935 rfl ?_
  refine l_callC [.int (Γ.2.2.2.2.2 (n + 1)), .int (Γ.2.2.2.2.2 (n + 2)), .int (Γ.2.2.2.2.2 (n + 3)), .int (Γ.2.2.2.2.2 (n + 4))] [] dL_law_936 ml_L_97 (eC Γ.1 hc rc) rfl rfl (by decide) rfl (by decide) hcs (fun hc' rc' => ?_) rfl
  refine l_m dL_law_939 ?_
  refine l_arg 1 (by decide) hn dL_law_940 dL_law_941 dL_law_943 dL_law_944 dL_law_945 rfl ?_
  refine l_arg 2 (by decide) hn dL_law_946 dL_law_947 dL_law_949 dL_law_950 dL_law_951 rfl ?_
  refine l_arg 3 (by decide) hn dL_law_952 dL_law_953 dL_law_955 dL_law_956 dL_law_957 rfl ?_
  refine l_arg 4 (by decide) hn dL_law_958 dL_law_959 dL_law_961 dL_law_962 dL_law_963 rfl ?_
  refine l_callM [.int (Γ.2.2.2.2.2 (n + 1)), .int (Γ.2.2.2.2.2 (n + 2)), .int (Γ.2.2.2.2.2 (n + 3)), .int (Γ.2.2.2.2.2 (n + 4))] [.int v] dL_law_964 ml_L_100 (eM Γ.2.1 hm rm) rfl rfl (by decide) rfl (show 1 + 0 ≤ 8 from by decide) hcs (fun hm' rm' => ?_) rfl
  exact l_same dL_law_967 (by decide) (K S' hc' hm' f ce sl [] ok' rc' rm' (Nat.le_succ _) (Nat.le_add_right _ _))
theorem cs_17 (hn : n + 6 ≤ Γ.2.2.2.2.1) (ok : ROk S) (rc : RC S hc) (rm : RM S hm) (hcs : ce ≤ 601024 ∧ sl ≤ 7293034) (K : LK Γ n ce sl) : Lw Γ n 972 [] [] hc hm f ce sl := by
  obtain ⟨v, S', ok', eC, eM⟩ := t_view ok (Γ.2.2.2.2.2 (n + 1)) (Γ.2.2.2.2.2 (n + 2)) (Γ.2.2.2.2.2 (n + 3))
  refine l_c dL_law_972 ?_
  refine l_arg 1 (by decide) hn dL_law_973 dL_law_974 dL_law_976 dL_law_977 dL_law_978 rfl ?_
  refine l_arg 2 (by decide) hn dL_law_979 dL_law_980 dL_law_982 dL_law_983 dL_law_984 rfl ?_
  refine l_arg 3 (by decide) hn dL_law_985 dL_law_986 dL_law_988 dL_law_989 dL_law_990 rfl ?_
  refine l_callC [.int (Γ.2.2.2.2.2 (n + 1)), .int (Γ.2.2.2.2.2 (n + 2)), .int (Γ.2.2.2.2.2 (n + 3))] [] dL_law_991 ml_L_101 (eC Γ.1 hc rc) rfl rfl (by decide) rfl (by decide) hcs (fun hc' rc' => ?_) rfl
  refine l_m dL_law_994 ?_
  refine l_arg 1 (by decide) hn dL_law_995 dL_law_996 dL_law_998 dL_law_999 dL_law_1000 rfl ?_
  refine l_arg 2 (by decide) hn dL_law_1001 dL_law_1002 dL_law_1004 dL_law_1005 dL_law_1006 rfl ?_
  refine l_arg 3 (by decide) hn dL_law_1007 dL_law_1008 dL_law_1010 dL_law_1011 dL_law_1012 rfl ?_
  refine l_callM [.int (Γ.2.2.2.2.2 (n + 1)), .int (Γ.2.2.2.2.2 (n + 2)), .int (Γ.2.2.2.2.2 (n + 3))] [.int v] dL_law_1013 ml_L_104 (eM Γ.2.1 hm rm) rfl rfl (by decide) rfl (show 1 + 0 ≤ 8 from by decide) hcs (fun hm' rm' => ?_) rfl
  exact l_same dL_law_1016 (by decide) (K S' hc' hm' f ce sl [] ok' rc' rm' (Nat.le_succ _) (Nat.le_add_right _ _))
theorem cs_18 (hn : n + 6 ≤ Γ.2.2.2.2.1) (ok : ROk S) (rc : RC S hc) (rm : RM S hm) (hcs : ce ≤ 601024 ∧ sl ≤ 7293034) (K : LK Γ n ce sl) : Lw Γ n 1021 [] [] hc hm f ce sl := by
  obtain ⟨v, S', ok', eC, eM⟩ := t_walls ok (Γ.2.2.2.2.2 (n + 1)) (Γ.2.2.2.2.2 (n + 2))
  refine l_c dL_law_1021 ?_
  refine l_arg 1 (by decide) hn dL_law_1022 dL_law_1023 dL_law_1025 dL_law_1026 dL_law_1027 rfl ?_
  refine l_arg 2 (by decide) hn dL_law_1028 dL_law_1029 dL_law_1031 dL_law_1032 dL_law_1033 rfl ?_
  refine l_callC [.int (Γ.2.2.2.2.2 (n + 1)), .int (Γ.2.2.2.2.2 (n + 2))] [] dL_law_1034 ml_L_105 (eC Γ.1 hc rc) rfl rfl (by decide) rfl (by decide) hcs (fun hc' rc' => ?_) rfl
  refine l_m dL_law_1037 ?_
  refine l_arg 1 (by decide) hn dL_law_1038 dL_law_1039 dL_law_1041 dL_law_1042 dL_law_1043 rfl ?_
  refine l_arg 2 (by decide) hn dL_law_1044 dL_law_1045 dL_law_1047 dL_law_1048 dL_law_1049 rfl ?_
  refine l_callM [.int (Γ.2.2.2.2.2 (n + 1)), .int (Γ.2.2.2.2.2 (n + 2))] [.int v] dL_law_1050 ml_L_108 (eM Γ.2.1 hm rm) rfl rfl (by decide) rfl (show 1 + 0 ≤ 8 from by decide) hcs (fun hm' rm' => ?_) rfl
  exact l_same dL_law_1053 (by decide) (K S' hc' hm' f ce sl [] ok' rc' rm' (Nat.le_succ _) (Nat.le_add_right _ _))
theorem cs_19 (hn : n + 6 ≤ Γ.2.2.2.2.1) (ok : ROk S) (rc : RC S hc) (rm : RM S hm) (hcs : ce ≤ 601024 ∧ sl ≤ 7293034) (K : LK Γ n ce sl) : Lw Γ n 1058 [] [] hc hm f ce sl := by
  obtain ⟨v, S', ok', eC, eM⟩ := t_hits ok (Γ.2.2.2.2.2 (n + 1)) (Γ.2.2.2.2.2 (n + 2)) (Γ.2.2.2.2.2 (n + 3)) (Γ.2.2.2.2.2 (n + 4)) (Γ.2.2.2.2.2 (n + 5))
  refine l_c dL_law_1058 ?_
  refine l_arg 1 (by decide) hn dL_law_1059 dL_law_1060 dL_law_1062 dL_law_1063 dL_law_1064 rfl ?_
  refine l_arg 2 (by decide) hn dL_law_1065 dL_law_1066 dL_law_1068 dL_law_1069 dL_law_1070 rfl ?_
  refine l_arg 3 (by decide) hn dL_law_1071 dL_law_1072 dL_law_1074 dL_law_1075 dL_law_1076 rfl ?_
  refine l_arg 4 (by decide) hn dL_law_1077 dL_law_1078 dL_law_1080 dL_law_1081 dL_law_1082 rfl ?_
  refine l_arg 5 (by decide) hn dL_law_1083 dL_law_1084 dL_law_1086 dL_law_1087 dL_law_1088 rfl ?_
  refine l_callC [.int (Γ.2.2.2.2.2 (n + 1)), .int (Γ.2.2.2.2.2 (n + 2)), .int (Γ.2.2.2.2.2 (n + 3)), .int (Γ.2.2.2.2.2 (n + 4)), .int (Γ.2.2.2.2.2 (n + 5))] [] dL_law_1089 ml_L_109 (eC Γ.1 hc rc) rfl rfl (by decide) rfl (by decide) hcs (fun hc' rc' => ?_) rfl
  refine l_m dL_law_1092 ?_
  refine l_arg 1 (by decide) hn dL_law_1093 dL_law_1094 dL_law_1096 dL_law_1097 dL_law_1098 rfl ?_
  refine l_arg 2 (by decide) hn dL_law_1099 dL_law_1100 dL_law_1102 dL_law_1103 dL_law_1104 rfl ?_
  refine l_arg 3 (by decide) hn dL_law_1105 dL_law_1106 dL_law_1108 dL_law_1109 dL_law_1110 rfl ?_
  refine l_arg 4 (by decide) hn dL_law_1111 dL_law_1112 dL_law_1114 dL_law_1115 dL_law_1116 rfl ?_
  refine l_arg 5 (by decide) hn dL_law_1117 dL_law_1118 dL_law_1120 dL_law_1121 dL_law_1122 rfl ?_
  refine l_callM [.int (Γ.2.2.2.2.2 (n + 1)), .int (Γ.2.2.2.2.2 (n + 2)), .int (Γ.2.2.2.2.2 (n + 3)), .int (Γ.2.2.2.2.2 (n + 4)), .int (Γ.2.2.2.2.2 (n + 5))] [.int v] dL_law_1123 ml_L_112 (eM Γ.2.1 hm rm) rfl rfl (by decide) rfl (show 1 + 0 ≤ 8 from by decide) hcs (fun hm' rm' => ?_) rfl
  exact l_same dL_law_1126 (by decide) (K S' hc' hm' f ce sl [] ok' rc' rm' (Nat.le_succ _) (Nat.le_add_right _ _))
theorem cs_20 (hn : n + 6 ≤ Γ.2.2.2.2.1) (ok : ROk S) (rc : RC S hc) (rm : RM S hm) (hcs : ce ≤ 601024 ∧ sl ≤ 7293034) (K : LK Γ n ce sl) : Lw Γ n 1131 [] [] hc hm f ce sl := by
  obtain ⟨v, S', ok', eC, eM⟩ := t_round ok (Γ.2.2.2.2.2 (n + 1)) (Γ.2.2.2.2.2 (n + 2))
  refine l_c dL_law_1131 ?_
  refine l_arg 1 (by decide) hn dL_law_1132 dL_law_1133 dL_law_1135 dL_law_1136 dL_law_1137 rfl ?_
  refine l_arg 2 (by decide) hn dL_law_1138 dL_law_1139 dL_law_1141 dL_law_1142 dL_law_1143 rfl ?_
  refine l_callC [.int (Γ.2.2.2.2.2 (n + 1)), .int (Γ.2.2.2.2.2 (n + 2))] [] dL_law_1144 ml_L_113 (eC Γ.1 hc rc) rfl rfl (by decide) rfl (by decide) hcs (fun hc' rc' => ?_) rfl
  refine l_m dL_law_1147 ?_
  refine l_arg 1 (by decide) hn dL_law_1148 dL_law_1149 dL_law_1151 dL_law_1152 dL_law_1153 rfl ?_
  refine l_arg 2 (by decide) hn dL_law_1154 dL_law_1155 dL_law_1157 dL_law_1158 dL_law_1159 rfl ?_
  refine l_callM [.int (Γ.2.2.2.2.2 (n + 1)), .int (Γ.2.2.2.2.2 (n + 2))] [.int v] dL_law_1160 ml_L_116 (eM Γ.2.1 hm rm) rfl rfl (by decide) rfl (show 1 + 0 ≤ 8 from by decide) hcs (fun hm' rm' => ?_) rfl
  exact l_same dL_law_1163 (by decide) (K S' hc' hm' f ce sl [] ok' rc' rm' (Nat.le_succ _) (Nat.le_add_right _ _))
theorem cs_21 (hn : n + 6 ≤ Γ.2.2.2.2.1) (ok : ROk S) (rc : RC S hc) (rm : RM S hm) (hcs : ce ≤ 601024 ∧ sl ≤ 7293034) (K : LK Γ n ce sl) : Lw Γ n 1168 [] [] hc hm f ce sl := by
  obtain ⟨v, S', ok', eC, eM⟩ := t_ways ok (Γ.2.2.2.2.2 (n + 1)) (Γ.2.2.2.2.2 (n + 2)) (Γ.2.2.2.2.2 (n + 3))
  refine l_c dL_law_1168 ?_
  refine l_arg 1 (by decide) hn dL_law_1169 dL_law_1170 dL_law_1172 dL_law_1173 dL_law_1174 rfl ?_
  refine l_arg 2 (by decide) hn dL_law_1175 dL_law_1176 dL_law_1178 dL_law_1179 dL_law_1180 rfl ?_
  refine l_arg 3 (by decide) hn dL_law_1181 dL_law_1182 dL_law_1184 dL_law_1185 dL_law_1186 rfl ?_
  refine l_callC [.int (Γ.2.2.2.2.2 (n + 1)), .int (Γ.2.2.2.2.2 (n + 2)), .int (Γ.2.2.2.2.2 (n + 3))] [] dL_law_1187 ml_L_117 (eC Γ.1 hc rc) rfl rfl (by decide) rfl (by decide) hcs (fun hc' rc' => ?_) rfl
  refine l_m dL_law_1190 ?_
  refine l_arg 1 (by decide) hn dL_law_1191 dL_law_1192 dL_law_1194 dL_law_1195 dL_law_1196 rfl ?_
  refine l_arg 2 (by decide) hn dL_law_1197 dL_law_1198 dL_law_1200 dL_law_1201 dL_law_1202 rfl ?_
  refine l_arg 3 (by decide) hn dL_law_1203 dL_law_1204 dL_law_1206 dL_law_1207 dL_law_1208 rfl ?_
  refine l_callM [.int (Γ.2.2.2.2.2 (n + 1)), .int (Γ.2.2.2.2.2 (n + 2)), .int (Γ.2.2.2.2.2 (n + 3))] [.int v] dL_law_1209 ml_L_120 (eM Γ.2.1 hm rm) rfl rfl (by decide) rfl (show 1 + 0 ≤ 8 from by decide) hcs (fun hm' rm' => ?_) rfl
  exact l_same dL_law_1212 (by decide) (K S' hc' hm' f ce sl [] ok' rc' rm' (Nat.le_succ _) (Nat.le_add_right _ _))
theorem cs_22 (hn : n + 6 ≤ Γ.2.2.2.2.1) (ok : ROk S) (rc : RC S hc) (rm : RM S hm) (hcs : ce ≤ 601024 ∧ sl ≤ 7293034) (K : LK Γ n ce sl) : Lw Γ n 1217 [] [] hc hm f ce sl := by
  obtain ⟨v, S', ok', eC, eM⟩ := t_hang ok (Γ.2.2.2.2.2 (n + 1)) (Γ.2.2.2.2.2 (n + 2)) (Γ.2.2.2.2.2 (n + 3)) (Γ.2.2.2.2.2 (n + 4))
  refine l_c dL_law_1217 ?_
  refine l_arg 1 (by decide) hn dL_law_1218 dL_law_1219 dL_law_1221 dL_law_1222 dL_law_1223 rfl ?_
  refine l_arg 2 (by decide) hn dL_law_1224 dL_law_1225 dL_law_1227 dL_law_1228 dL_law_1229 rfl ?_
  refine l_arg 3 (by decide) hn dL_law_1230 dL_law_1231 dL_law_1233 dL_law_1234 dL_law_1235 rfl ?_
  refine l_arg 4 (by decide) hn dL_law_1236 dL_law_1237 dL_law_1239 dL_law_1240 dL_law_1241 rfl ?_
  refine l_callC [.int (Γ.2.2.2.2.2 (n + 1)), .int (Γ.2.2.2.2.2 (n + 2)), .int (Γ.2.2.2.2.2 (n + 3)), .int (Γ.2.2.2.2.2 (n + 4))] [] dL_law_1242 ml_L_121 (eC Γ.1 hc rc) rfl rfl (by decide) rfl (by decide) hcs (fun hc' rc' => ?_) rfl
  refine l_m dL_law_1245 ?_
  refine l_arg 1 (by decide) hn dL_law_1246 dL_law_1247 dL_law_1249 dL_law_1250 dL_law_1251 rfl ?_
  refine l_arg 2 (by decide) hn dL_law_1252 dL_law_1253 dL_law_1255 dL_law_1256 dL_law_1257 rfl ?_
  refine l_arg 3 (by decide) hn dL_law_1258 dL_law_1259 dL_law_1261 dL_law_1262 dL_law_1263 rfl ?_
  refine l_arg 4 (by decide) hn dL_law_1264 dL_law_1265 dL_law_1267 dL_law_1268 dL_law_1269 rfl ?_
  refine l_callM [.int (Γ.2.2.2.2.2 (n + 1)), .int (Γ.2.2.2.2.2 (n + 2)), .int (Γ.2.2.2.2.2 (n + 3)), .int (Γ.2.2.2.2.2 (n + 4))] [.int v] dL_law_1270 ml_L_124 (eM Γ.2.1 hm rm) rfl rfl (by decide) rfl (show 1 + 0 ≤ 8 from by decide) hcs (fun hm' rm' => ?_) rfl
  exact l_same dL_law_1273 (by decide) (K S' hc' hm' f ce sl [] ok' rc' rm' (Nat.le_succ _) (Nat.le_add_right _ _))
theorem cs_23 (hn : n + 6 ≤ Γ.2.2.2.2.1) (ok : ROk S) (rc : RC S hc) (rm : RM S hm) (hcs : ce ≤ 601024 ∧ sl ≤ 7293034) (K : LK Γ n ce sl) : Lw Γ n 1278 [] [] hc hm f ce sl := by
  obtain ⟨v, S', ok', eC, eM⟩ := t_pane ok (Γ.2.2.2.2.2 (n + 1)) (Γ.2.2.2.2.2 (n + 2)) (Γ.2.2.2.2.2 (n + 3))
  refine l_c dL_law_1278 ?_
  refine l_arg 1 (by decide) hn dL_law_1279 dL_law_1280 dL_law_1282 dL_law_1283 dL_law_1284 rfl ?_
  refine l_arg 2 (by decide) hn dL_law_1285 dL_law_1286 dL_law_1288 dL_law_1289 dL_law_1290 rfl ?_
  refine l_arg 3 (by decide) hn dL_law_1291 dL_law_1292 dL_law_1294 dL_law_1295 dL_law_1296 rfl ?_
  refine l_callC [.int (Γ.2.2.2.2.2 (n + 1)), .int (Γ.2.2.2.2.2 (n + 2)), .int (Γ.2.2.2.2.2 (n + 3))] [] dL_law_1297 ml_L_125 (eC Γ.1 hc rc) rfl rfl (by decide) rfl (by decide) hcs (fun hc' rc' => ?_) rfl
  refine l_m dL_law_1300 ?_
  refine l_arg 1 (by decide) hn dL_law_1301 dL_law_1302 dL_law_1304 dL_law_1305 dL_law_1306 rfl ?_
  refine l_arg 2 (by decide) hn dL_law_1307 dL_law_1308 dL_law_1310 dL_law_1311 dL_law_1312 rfl ?_
  refine l_arg 3 (by decide) hn dL_law_1313 dL_law_1314 dL_law_1316 dL_law_1317 dL_law_1318 rfl ?_
  refine l_callM [.int (Γ.2.2.2.2.2 (n + 1)), .int (Γ.2.2.2.2.2 (n + 2)), .int (Γ.2.2.2.2.2 (n + 3))] [.int v] dL_law_1319 ml_L_128 (eM Γ.2.1 hm rm) rfl rfl (by decide) rfl (show 1 + 0 ≤ 8 from by decide) hcs (fun hm' rm' => ?_) rfl
  exact l_same dL_law_1322 (by decide) (K S' hc' hm' f ce sl [] ok' rc' rm' (Nat.le_succ _) (Nat.le_add_right _ _))
theorem cs_24 (hn : n + 6 ≤ Γ.2.2.2.2.1) (ok : ROk S) (rc : RC S hc) (rm : RM S hm) (hcs : ce ≤ 601024 ∧ sl ≤ 7293034) (K : LK Γ n ce sl) : Lw Γ n 1327 [] [] hc hm f ce sl := by
  obtain ⟨v, S', ok', eC, eM⟩ := t_hinge ok (Γ.2.2.2.2.2 (n + 1)) (Γ.2.2.2.2.2 (n + 2)) (Γ.2.2.2.2.2 (n + 3))
  refine l_c dL_law_1327 ?_
  refine l_arg 1 (by decide) hn dL_law_1328 dL_law_1329 dL_law_1331 dL_law_1332 dL_law_1333 rfl ?_
  refine l_arg 2 (by decide) hn dL_law_1334 dL_law_1335 dL_law_1337 dL_law_1338 dL_law_1339 rfl ?_
  refine l_arg 3 (by decide) hn dL_law_1340 dL_law_1341 dL_law_1343 dL_law_1344 dL_law_1345 rfl ?_
  refine l_callC [.int (Γ.2.2.2.2.2 (n + 1)), .int (Γ.2.2.2.2.2 (n + 2)), .int (Γ.2.2.2.2.2 (n + 3))] [] dL_law_1346 ml_L_129 (eC Γ.1 hc rc) rfl rfl (by decide) rfl (by decide) hcs (fun hc' rc' => ?_) rfl
  refine l_m dL_law_1349 ?_
  refine l_arg 1 (by decide) hn dL_law_1350 dL_law_1351 dL_law_1353 dL_law_1354 dL_law_1355 rfl ?_
  refine l_arg 2 (by decide) hn dL_law_1356 dL_law_1357 dL_law_1359 dL_law_1360 dL_law_1361 rfl ?_
  refine l_arg 3 (by decide) hn dL_law_1362 dL_law_1363 dL_law_1365 dL_law_1366 dL_law_1367 rfl ?_
  refine l_callM [.int (Γ.2.2.2.2.2 (n + 1)), .int (Γ.2.2.2.2.2 (n + 2)), .int (Γ.2.2.2.2.2 (n + 3))] [.int v] dL_law_1368 ml_L_132 (eM Γ.2.1 hm rm) rfl rfl (by decide) rfl (show 1 + 0 ≤ 8 from by decide) hcs (fun hm' rm' => ?_) rfl
  exact l_same dL_law_1371 (by decide) (K S' hc' hm' f ce sl [] ok' rc' rm' (Nat.le_succ _) (Nat.le_add_right _ _))
theorem cs_25 (hn : n + 6 ≤ Γ.2.2.2.2.1) (ok : ROk S) (rc : RC S hc) (rm : RM S hm) (hcs : ce ≤ 601024 ∧ sl ≤ 7293034) (K : LK Γ n ce sl) : Lw Γ n 1376 [] [] hc hm f ce sl := by
  obtain ⟨v, S', ok', eC, eM⟩ := t_angles ok (Γ.2.2.2.2.2 (n + 1)) (Γ.2.2.2.2.2 (n + 2))
  refine l_c dL_law_1376 ?_
  refine l_arg 1 (by decide) hn dL_law_1377 dL_law_1378 dL_law_1380 dL_law_1381 dL_law_1382 rfl ?_
  refine l_arg 2 (by decide) hn dL_law_1383 dL_law_1384 dL_law_1386 dL_law_1387 dL_law_1388 rfl ?_
  refine l_callC [.int (Γ.2.2.2.2.2 (n + 1)), .int (Γ.2.2.2.2.2 (n + 2))] [] dL_law_1389 ml_L_133 (eC Γ.1 hc rc) rfl rfl (by decide) rfl (by decide) hcs (fun hc' rc' => ?_) rfl
  refine l_m dL_law_1392 ?_
  refine l_arg 1 (by decide) hn dL_law_1393 dL_law_1394 dL_law_1396 dL_law_1397 dL_law_1398 rfl ?_
  refine l_arg 2 (by decide) hn dL_law_1399 dL_law_1400 dL_law_1402 dL_law_1403 dL_law_1404 rfl ?_
  refine l_callM [.int (Γ.2.2.2.2.2 (n + 1)), .int (Γ.2.2.2.2.2 (n + 2))] [.int v] dL_law_1405 ml_L_136 (eM Γ.2.1 hm rm) rfl rfl (by decide) rfl (show 1 + 0 ≤ 8 from by decide) hcs (fun hm' rm' => ?_) rfl
  exact l_same dL_law_1408 (by decide) (K S' hc' hm' f ce sl [] ok' rc' rm' (Nat.le_succ _) (Nat.le_add_right _ _))
theorem cs_26 (hn : n + 6 ≤ Γ.2.2.2.2.1) (ok : ROk S) (rc : RC S hc) (rm : RM S hm) (hcs : ce ≤ 601024 ∧ sl ≤ 7293034) (K : LK Γ n ce sl) : Lw Γ n 1413 [] [] hc hm f ce sl := by
  obtain ⟨v, S', ok', eC, eM⟩ := t_beads ok (Γ.2.2.2.2.2 (n + 1)) (Γ.2.2.2.2.2 (n + 2))
  refine l_c dL_law_1413 ?_
  refine l_arg 1 (by decide) hn dL_law_1414 dL_law_1415 dL_law_1417 dL_law_1418 dL_law_1419 rfl ?_
  refine l_arg 2 (by decide) hn dL_law_1420 dL_law_1421 dL_law_1423 dL_law_1424 dL_law_1425 rfl ?_
  refine l_callC [.int (Γ.2.2.2.2.2 (n + 1)), .int (Γ.2.2.2.2.2 (n + 2))] [] dL_law_1426 ml_L_137 (eC Γ.1 hc rc) rfl rfl (by decide) rfl (by decide) hcs (fun hc' rc' => ?_) rfl
  refine l_m dL_law_1429 ?_
  refine l_arg 1 (by decide) hn dL_law_1430 dL_law_1431 dL_law_1433 dL_law_1434 dL_law_1435 rfl ?_
  refine l_arg 2 (by decide) hn dL_law_1436 dL_law_1437 dL_law_1439 dL_law_1440 dL_law_1441 rfl ?_
  refine l_callM [.int (Γ.2.2.2.2.2 (n + 1)), .int (Γ.2.2.2.2.2 (n + 2))] [.int v] dL_law_1442 ml_L_140 (eM Γ.2.1 hm rm) rfl rfl (by decide) rfl (show 1 + 0 ≤ 8 from by decide) hcs (fun hm' rm' => ?_) rfl
  exact l_same dL_law_1445 (by decide) (K S' hc' hm' f ce sl [] ok' rc' rm' (Nat.le_succ _) (Nat.le_add_right _ _))
theorem cs_27 (hn : n + 6 ≤ Γ.2.2.2.2.1) (ok : ROk S) (rc : RC S hc) (rm : RM S hm) (hcs : ce ≤ 601024 ∧ sl ≤ 7293034) (K : LK Γ n ce sl) : Lw Γ n 1450 [] [] hc hm f ce sl := by
  obtain ⟨v, S', ok', eC, eM⟩ := t_photo ok (Γ.2.2.2.2.2 (n + 1)) (Γ.2.2.2.2.2 (n + 2))
  refine l_c dL_law_1450 ?_
  refine l_arg 1 (by decide) hn dL_law_1451 dL_law_1452 dL_law_1454 dL_law_1455 dL_law_1456 rfl ?_
  refine l_arg 2 (by decide) hn dL_law_1457 dL_law_1458 dL_law_1460 dL_law_1461 dL_law_1462 rfl ?_
  refine l_callC [.int (Γ.2.2.2.2.2 (n + 1)), .int (Γ.2.2.2.2.2 (n + 2))] [] dL_law_1463 ml_L_141 (eC Γ.1 hc rc) rfl rfl (by decide) rfl (by decide) hcs (fun hc' rc' => ?_) rfl
  refine l_m dL_law_1466 ?_
  refine l_arg 1 (by decide) hn dL_law_1467 dL_law_1468 dL_law_1470 dL_law_1471 dL_law_1472 rfl ?_
  refine l_arg 2 (by decide) hn dL_law_1473 dL_law_1474 dL_law_1476 dL_law_1477 dL_law_1478 rfl ?_
  refine l_callM [.int (Γ.2.2.2.2.2 (n + 1)), .int (Γ.2.2.2.2.2 (n + 2))] [.int v] dL_law_1479 ml_L_144 (eM Γ.2.1 hm rm) rfl rfl (by decide) rfl (show 1 + 0 ≤ 8 from by decide) hcs (fun hm' rm' => ?_) rfl
  exact l_same dL_law_1482 (by decide) (K S' hc' hm' f ce sl [] ok' rc' rm' (Nat.le_succ _) (Nat.le_add_right _ _))
theorem cs_28 (hn : n + 6 ≤ Γ.2.2.2.2.1) (ok : ROk S) (rc : RC S hc) (rm : RM S hm) (hcs : ce ≤ 601024 ∧ sl ≤ 7293034) (K : LK Γ n ce sl) : Lw Γ n 1487 [] [] hc hm f ce sl := by
  obtain ⟨v, S', ok', eC, eM⟩ := t_fits ok (Γ.2.2.2.2.2 (n + 1))
  refine l_c dL_law_1487 ?_
  refine l_arg 1 (by decide) hn dL_law_1488 dL_law_1489 dL_law_1491 dL_law_1492 dL_law_1493 rfl ?_
  refine l_callC [.int (Γ.2.2.2.2.2 (n + 1))] [] dL_law_1494 ml_L_145 (eC Γ.1 hc rc) rfl rfl (by decide) rfl (by decide) hcs (fun hc' rc' => ?_) rfl
  refine l_m dL_law_1497 ?_
  refine l_arg 1 (by decide) hn dL_law_1498 dL_law_1499 dL_law_1501 dL_law_1502 dL_law_1503 rfl ?_
  refine l_callM [.int (Γ.2.2.2.2.2 (n + 1))] [.int v] dL_law_1504 ml_L_148 (eM Γ.2.1 hm rm) rfl rfl (by decide) rfl (show 1 + 0 ≤ 8 from by decide) hcs (fun hm' rm' => ?_) rfl
  exact l_same dL_law_1507 (by decide) (K S' hc' hm' f ce sl [] ok' rc' rm' (Nat.le_succ _) (Nat.le_add_right _ _))
theorem cs_29 (hn : n + 6 ≤ Γ.2.2.2.2.1) (ok : ROk S) (rc : RC S hc) (rm : RM S hm) (hcs : ce ≤ 601024 ∧ sl ≤ 7293034) (K : LK Γ n ce sl) : Lw Γ n 1512 [] [] hc hm f ce sl := by
  obtain ⟨v, S', ok', eC, eM⟩ := t_keep ok 
  refine l_c dL_law_1512 ?_
  refine l_callC [] [] dL_law_1513 ml_L_149 (eC Γ.1 hc rc) rfl rfl (by decide) rfl (by decide) hcs (fun hc' rc' => ?_) rfl
  refine l_m dL_law_1516 ?_
  refine l_callM [] [.int v] dL_law_1517 ml_L_152 (eM Γ.2.1 hm rm) rfl rfl (by decide) rfl (show 1 + 0 ≤ 8 from by decide) hcs (fun hm' rm' => ?_) rfl
  exact l_same dL_law_1520 (by decide) (K S' hc' hm' f ce sl [] ok' rc' rm' (Nat.le_succ _) (Nat.le_add_right _ _))
theorem cs_30 (hn : n + 6 ≤ Γ.2.2.2.2.1) (ok : ROk S) (rc : RC S hc) (rm : RM S hm) (hcs : ce ≤ 601024 ∧ sl ≤ 7293034) (K : LK Γ n ce sl) : Lw Γ n 1525 [] [] hc hm f ce sl := by
  obtain ⟨v, S', ok', eC, eM⟩ := t_back ok 
  refine l_c dL_law_1525 ?_
  refine l_callC [] [] dL_law_1526 ml_L_153 (eC Γ.1 hc rc) rfl rfl (by decide) rfl (by decide) hcs (fun hc' rc' => ?_) rfl
  refine l_m dL_law_1529 ?_
  refine l_callM [] [.int v] dL_law_1530 ml_L_156 (eM Γ.2.1 hm rm) rfl rfl (by decide) rfl (show 1 + 0 ≤ 8 from by decide) hcs (fun hm' rm' => ?_) rfl
  exact l_same dL_law_1533 (by decide) (K S' hc' hm' f ce sl [] ok' rc' rm' (Nat.le_succ _) (Nat.le_add_right _ _))
theorem cs_31 (hn : n + 6 ≤ Γ.2.2.2.2.1) (ok : ROk S) (rc : RC S hc) (rm : RM S hm) (hcs : ce ≤ 601024 ∧ sl ≤ 7293034) (K : LK Γ n ce sl) : Lw Γ n 1538 [] [] hc hm f ce sl := by
  obtain ⟨v, S', ok', eC, eM⟩ := t_count ok (Γ.2.2.2.2.2 (n + 1))
  refine l_c dL_law_1538 ?_
  refine l_arg 1 (by decide) hn dL_law_1539 dL_law_1540 dL_law_1542 dL_law_1543 dL_law_1544 rfl ?_
  refine l_callC [.int (Γ.2.2.2.2.2 (n + 1))] [] dL_law_1545 ml_L_157 (eC Γ.1 hc rc) rfl rfl (by decide) rfl (by decide) hcs (fun hc' rc' => ?_) rfl
  refine l_m dL_law_1548 ?_
  refine l_arg 1 (by decide) hn dL_law_1549 dL_law_1550 dL_law_1552 dL_law_1553 dL_law_1554 rfl ?_
  refine l_callM [.int (Γ.2.2.2.2.2 (n + 1))] [.int v] dL_law_1555 ml_L_160 (eM Γ.2.1 hm rm) rfl rfl (by decide) rfl (show 1 + 0 ≤ 8 from by decide) hcs (fun hm' rm' => ?_) rfl
  exact l_same dL_law_1558 (by decide) (K S' hc' hm' f ce sl [] ok' rc' rm' (Nat.le_succ _) (Nat.le_add_right _ _))
end LWD

/-! THE LAW'S TURNS, ONE BY ONE -/
section XP75
variable {p : Program} {l : Launch} {e : Env} {s : State} {m : MethodId} {args : Array Value} {below : List Frame} {meth : Method} {c : Code} {P : XP} {A : Nat → Prop} {cells slots : Nat} {Q : State → Prop} {ret : Option FieldType} {σ : XS} {b L i : Nat} {xs : Nat → Int32}

set_option maxRecDepth 100000 in
set_option maxHeartbeats 4000000 in
theorem k_0 (hl0 : l.stackTraces = false) (C : XC p s m args meth c P A 9 RL cL_law ret) (hP : xAll P) (hX : SC s A b L xs) (hi : i + 6 ≤ L) (hR : RV σ) (hc : cells + 8 ≤ room_1.cells ∧ slots + 64 ≤ room_1.slots) (kk : ∀ σ1, RV σ1 → XW p l e room_1 s m args below meth c P A 9 (cells + 8) (slots + 64) Q σ1 2900 (lvL P b i) []) : XW p l e room_1 s m args below meth c P A 9 cells slots Q σ 288 (lvL P b i) [] := by
  obtain ⟨v, σ1, τ1, hC6, hM7, hR1⟩ := s_append l P hP σ hR (xs (i + 1)) (xs (i + 2)) (xs (i + 3)) (xs (i + 4)) (xs (i + 5))
  refine X_aload_n (pc := 288) C 1 dL_law_288 rfl rfl ?_
  refine X_arg (pc := 289) C hX hi 1 (by decide) (by decide) rfl rfl dL_law_289 dL_law_290 dL_law_292 dL_law_293 dL_law_294 ?_
  refine X_arg (pc := 295) C hX hi 2 (by decide) (by decide) rfl rfl dL_law_295 dL_law_296 dL_law_298 dL_law_299 dL_law_300 ?_
  refine X_arg (pc := 301) C hX hi 3 (by decide) (by decide) rfl rfl dL_law_301 dL_law_302 dL_law_304 dL_law_305 dL_law_306 ?_
  refine X_arg (pc := 307) C hX hi 4 (by decide) (by decide) rfl rfl dL_law_307 dL_law_308 dL_law_310 dL_law_311 dL_law_312 ?_
  refine X_arg (pc := 313) C hX hi 5 (by decide) (by decide) rfl rfl dL_law_313 dL_law_314 dL_law_316 dL_law_317 dL_law_318 ?_
  refine X_vI (i9 := .inr 0) (ci := 6) (n := 5) (pc := 319) C [.int (xs (i + 1)), .int (xs (i + 2)), .int (xs (i + 3)), .int (xs (i + 4)), .int (xs (i + 5))] hC6 m_c_X6_append m_m_L_135 m_i_X6_append m_s_X6_append m_n_X6 ⟨by decide +kernel, by decide +kernel, by decide +kernel⟩ ⟨Nat.le_of_ble_eq_true rfl, Nat.le_of_ble_eq_true rfl⟩ ⟨rfl, rfl⟩ ⟨Nat.le_trans (Nat.le_add_right _ _) hc.1, Nat.le_trans (Nat.le_add_right _ _) hc.2⟩ hP.n0 rfl rfl rfl rfl (Nat.le_of_ble_eq_true rfl) rfl dL_law_319 ?_
  refine X_aload_n (pc := 322) C 2 dL_law_322 rfl rfl ?_
  refine X_arg (pc := 323) C hX hi 1 (by decide) (by decide) rfl rfl dL_law_323 dL_law_324 dL_law_326 dL_law_327 dL_law_328 ?_
  refine X_arg (pc := 329) C hX hi 2 (by decide) (by decide) rfl rfl dL_law_329 dL_law_330 dL_law_332 dL_law_333 dL_law_334 ?_
  refine X_arg (pc := 335) C hX hi 3 (by decide) (by decide) rfl rfl dL_law_335 dL_law_336 dL_law_338 dL_law_339 dL_law_340 ?_
  refine X_arg (pc := 341) C hX hi 4 (by decide) (by decide) rfl rfl dL_law_341 dL_law_342 dL_law_344 dL_law_345 dL_law_346 ?_
  refine X_arg (pc := 347) C hX hi 5 (by decide) (by decide) rfl rfl dL_law_347 dL_law_348 dL_law_350 dL_law_351 dL_law_352 ?_
  refine X_vI (i9 := .inr 9) (ci := 7) (n := 5) (pc := 353) C [.int (xs (i + 1)), .int (xs (i + 2)), .int (xs (i + 3)), .int (xs (i + 4)), .int (xs (i + 5))] hM7 m_c_X7_append m_m_L_139 m_i_X7_append m_s_X7_append m_n_X7 ⟨by decide +kernel, by decide +kernel, by decide +kernel⟩ ⟨Nat.le_of_ble_eq_true rfl, Nat.le_of_ble_eq_true rfl⟩ ⟨rfl, rfl⟩ ⟨Nat.le_trans (Nat.le_add_right _ _) hc.1, Nat.le_trans (Nat.le_add_right _ _) hc.2⟩ (hP.2.1 9 (by decide) (by decide)) rfl rfl rfl rfl (Nat.le_of_ble_eq_true rfl) rfl dL_law_353 ?_
  exact X_icmp_eq (pc := 356) C 2900 dL_law_356 (by decide) (fun _ => (XW.widen (Nat.le_add_right _ _) (Nat.le_add_right _ _) (kk _ hR1))) (fun q => absurd rfl q)

set_option maxRecDepth 100000 in
set_option maxHeartbeats 4000000 in
theorem k_1 (hl0 : l.stackTraces = false) (C : XC p s m args meth c P A 9 RL cL_law ret) (hP : xAll P) (hX : SC s A b L xs) (hi : i + 6 ≤ L) (hR : RV σ) (hc : cells + 8 ≤ room_1.cells ∧ slots + 64 ≤ room_1.slots) (kk : ∀ σ1, RV σ1 → XW p l e room_1 s m args below meth c P A 9 (cells + 8) (slots + 64) Q σ1 2900 (lvL P b i) []) : XW p l e room_1 s m args below meth c P A 9 cells slots Q σ 361 (lvL P b i) [] := by
  refine X_aload_n (pc := 361) C 1 dL_law_361 rfl rfl ?_
  refine X_arg (pc := 362) C hX hi 1 (by decide) (by decide) rfl rfl dL_law_362 dL_law_363 dL_law_365 dL_law_366 dL_law_367 ?_
  refine X_aload_n (pc := 368) C 3 dL_law_368 rfl rfl ?_
  refine X_callSH (n := 3) (pc := 369) C [.ref (P.2.2.1 (.inr 0)), .int (xs (i + 1)), .ref (P.2.2.1 (.inr 19))] (p_truncateInput l hl0 P hP σ hR (xs (i + 1))) m_h_L_truncateInput m_m_L_140 m_t_L_truncateInput m_n_L ⟨by decide +kernel, by decide +kernel, by decide +kernel⟩ ⟨Nat.le_of_ble_eq_true rfl, Nat.le_of_ble_eq_true rfl⟩ ⟨Nat.le_trans (Nat.add_le_add_left (Nat.le_of_ble_eq_true rfl) _) hc.1, Nat.le_trans (Nat.add_le_add_left (Nat.le_of_ble_eq_true rfl) _) hc.2⟩ rfl (Nat.le_of_ble_eq_true rfl) rfl dL_law_369 (fun v9 σ1 hp => ?_)
  obtain ⟨k, v, τ1, rfl, hM, hR1, h7, h0, hB⟩ := hp
  show XW p l e room_1 s m args below meth c P A 9 _ _ Q σ1 372 (lvL P b i) [.int k]
  refine X_istore (pc := 372) (lv1 := [(0, .ref b), (1, .ref (P.2.2.1 (.inr 0))), (2, .ref (P.2.2.1 (.inr 9))), (3, .ref (P.2.2.1 (.inr 19))), (4, .int (nI i)), (5, .int k)]) C dL_law_372 (by decide) rfl ?_
  refine X_aload_n (pc := 374) C 2 dL_law_374 rfl rfl ?_
  refine X_arg (pc := 375) C hX hi 1 (by decide) (by decide) rfl rfl dL_law_375 dL_law_376 dL_law_378 dL_law_379 dL_law_380 ?_
  refine X_vI (i9 := .inr 9) (ci := 7) (n := 1) (pc := 381) C [.int (xs (i + 1))] hM m_c_X7_truncateInput m_m_L_145 m_i_X7_truncateInput m_s_X7_truncateInput m_n_X7 ⟨by decide +kernel, by decide +kernel, by decide +kernel⟩ ⟨Nat.le_of_ble_eq_true rfl, Nat.le_of_ble_eq_true rfl⟩ ⟨rfl, rfl⟩ ⟨Nat.le_trans (Nat.add_le_add_left (Nat.le_of_ble_eq_true rfl) _) hc.1, Nat.le_trans (Nat.add_le_add_left (Nat.le_of_ble_eq_true rfl) _) hc.2⟩ (hP.2.1 9 (by decide) (by decide)) rfl rfl rfl rfl (Nat.le_of_ble_eq_true rfl) rfl dL_law_381 ?_
  exact X_tailI (pc := 384) C hP h7 h0 ⟨Nat.le_trans (Nat.add_le_add_left (Nat.le_of_ble_eq_true rfl) _) hc.1, Nat.le_trans (Nat.add_le_add_left (Nat.le_of_ble_eq_true rfl) _) hc.2⟩ dL_law_384 dL_law_386 dL_law_387 dL_law_390 dL_law_392 dL_law_397 dL_law_399 dL_law_402 dL_law_403 dL_law_404 dL_law_405 dL_law_407 dL_law_408 dL_law_409 dL_law_414 (by decide) (XW.widen (Nat.add_le_add_left (Nat.le_of_ble_eq_true rfl) _) (Nat.add_le_add_left (Nat.le_of_ble_eq_true rfl) _) (kk _ hR1))

set_option maxRecDepth 100000 in
set_option maxHeartbeats 4000000 in
theorem k_2 (hl0 : l.stackTraces = false) (C : XC p s m args meth c P A 9 RL cL_law ret) (hP : xAll P) (hX : SC s A b L xs) (hi : i + 6 ≤ L) (hR : RV σ) (hc : cells + 8 ≤ room_1.cells ∧ slots + 64 ≤ room_1.slots) (kk : ∀ σ1, RV σ1 → XW p l e room_1 s m args below meth c P A 9 (cells + 8) (slots + 64) Q σ1 2900 (lvL P b i) []) : XW p l e room_1 s m args below meth c P A 9 cells slots Q σ 417 (lvL P b i) [] := by
  obtain ⟨v, σ1, τ1, hC6, hM7, hR1⟩ := s_load l P hP σ hR
  refine X_aload_n (pc := 417) C 1 dL_law_417 rfl rfl ?_
  refine X_vI (i9 := .inr 0) (ci := 6) (n := 0) (pc := 418) C [] hC6 m_c_X6_load m_m_L_149 m_i_X6_load m_s_X6_load m_n_X6 ⟨by decide +kernel, by decide +kernel, by decide +kernel⟩ ⟨Nat.le_of_ble_eq_true rfl, Nat.le_of_ble_eq_true rfl⟩ ⟨rfl, rfl⟩ ⟨Nat.le_trans (Nat.le_add_right _ _) hc.1, Nat.le_trans (Nat.le_add_right _ _) hc.2⟩ hP.n0 rfl rfl rfl rfl (Nat.le_of_ble_eq_true rfl) rfl dL_law_418 ?_
  refine X_aload_n (pc := 421) C 2 dL_law_421 rfl rfl ?_
  refine X_vI (i9 := .inr 9) (ci := 7) (n := 0) (pc := 422) C [] hM7 m_c_X7_load m_m_L_152 m_i_X7_load m_s_X7_load m_n_X7 ⟨by decide +kernel, by decide +kernel, by decide +kernel⟩ ⟨Nat.le_of_ble_eq_true rfl, Nat.le_of_ble_eq_true rfl⟩ ⟨rfl, rfl⟩ ⟨Nat.le_trans (Nat.le_add_right _ _) hc.1, Nat.le_trans (Nat.le_add_right _ _) hc.2⟩ (hP.2.1 9 (by decide) (by decide)) rfl rfl rfl rfl (Nat.le_of_ble_eq_true rfl) rfl dL_law_422 ?_
  exact X_icmp_eq (pc := 425) C 2900 dL_law_425 (by decide) (fun _ => (XW.widen (Nat.le_add_right _ _) (Nat.le_add_right _ _) (kk _ hR1))) (fun q => absurd rfl q)

set_option maxRecDepth 100000 in
set_option maxHeartbeats 4000000 in
theorem k_3 (hl0 : l.stackTraces = false) (C : XC p s m args meth c P A 9 RL cL_law ret) (hP : xAll P) (hX : SC s A b L xs) (hi : i + 6 ≤ L) (hR : RV σ) (hc : cells + 8 ≤ room_1.cells ∧ slots + 64 ≤ room_1.slots) (kk : ∀ σ1, RV σ1 → XW p l e room_1 s m args below meth c P A 9 (cells + 8) (slots + 64) Q σ1 2900 (lvL P b i) []) : XW p l e room_1 s m args below meth c P A 9 cells slots Q σ 430 (lvL P b i) [] := by
  obtain ⟨v, σ1, τ1, hC6, hM7, hR1⟩ := s_play l P hP σ hR
  refine X_aload_n (pc := 430) C 1 dL_law_430 rfl rfl ?_
  refine X_vI (i9 := .inr 0) (ci := 6) (n := 0) (pc := 431) C [] hC6 m_c_X6_play m_m_L_153 m_i_X6_play m_s_X6_play m_n_X6 ⟨by decide +kernel, by decide +kernel, by decide +kernel⟩ ⟨Nat.le_of_ble_eq_true rfl, Nat.le_of_ble_eq_true rfl⟩ ⟨rfl, rfl⟩ ⟨Nat.le_trans (Nat.le_add_right _ _) hc.1, Nat.le_trans (Nat.le_add_right _ _) hc.2⟩ hP.n0 rfl rfl rfl rfl (Nat.le_of_ble_eq_true rfl) rfl dL_law_431 ?_
  refine X_aload_n (pc := 434) C 2 dL_law_434 rfl rfl ?_
  refine X_vI (i9 := .inr 9) (ci := 7) (n := 0) (pc := 435) C [] hM7 m_c_X7_play m_m_L_156 m_i_X7_play m_s_X7_play m_n_X7 ⟨by decide +kernel, by decide +kernel, by decide +kernel⟩ ⟨Nat.le_of_ble_eq_true rfl, Nat.le_of_ble_eq_true rfl⟩ ⟨rfl, rfl⟩ ⟨Nat.le_trans (Nat.le_add_right _ _) hc.1, Nat.le_trans (Nat.le_add_right _ _) hc.2⟩ (hP.2.1 9 (by decide) (by decide)) rfl rfl rfl rfl (Nat.le_of_ble_eq_true rfl) rfl dL_law_435 ?_
  exact X_icmp_eq (pc := 438) C 2900 dL_law_438 (by decide) (fun _ => (XW.widen (Nat.le_add_right _ _) (Nat.le_add_right _ _) (kk _ hR1))) (fun q => absurd rfl q)

set_option maxRecDepth 100000 in
set_option maxHeartbeats 4000000 in
theorem k_4 (hl0 : l.stackTraces = false) (C : XC p s m args meth c P A 9 RL cL_law ret) (hP : xAll P) (hX : SC s A b L xs) (hi : i + 6 ≤ L) (hR : RV σ) (hc : cells + 8 ≤ room_1.cells ∧ slots + 64 ≤ room_1.slots) (kk : ∀ σ1, RV σ1 → XW p l e room_1 s m args below meth c P A 9 (cells + 8) (slots + 64) Q σ1 2900 (lvL P b i) []) : XW p l e room_1 s m args below meth c P A 9 cells slots Q σ 443 (lvL P b i) [] := by
  obtain ⟨v, σ1, τ1, hC6, hM7, hR1⟩ := s_errorCode l P hP σ hR
  refine X_aload_n (pc := 443) C 1 dL_law_443 rfl rfl ?_
  refine X_vI (i9 := .inr 0) (ci := 6) (n := 0) (pc := 444) C [] hC6 m_c_X6_errorCode m_m_L_157 m_i_X6_errorCode m_s_X6_errorCode m_n_X6 ⟨by decide +kernel, by decide +kernel, by decide +kernel⟩ ⟨Nat.le_of_ble_eq_true rfl, Nat.le_of_ble_eq_true rfl⟩ ⟨rfl, rfl⟩ ⟨Nat.le_trans (Nat.le_add_right _ _) hc.1, Nat.le_trans (Nat.le_add_right _ _) hc.2⟩ hP.n0 rfl rfl rfl rfl (Nat.le_of_ble_eq_true rfl) rfl dL_law_444 ?_
  refine X_aload_n (pc := 447) C 2 dL_law_447 rfl rfl ?_
  refine X_vI (i9 := .inr 9) (ci := 7) (n := 0) (pc := 448) C [] hM7 m_c_X7_errorCode m_m_L_160 m_i_X7_errorCode m_s_X7_errorCode m_n_X7 ⟨by decide +kernel, by decide +kernel, by decide +kernel⟩ ⟨Nat.le_of_ble_eq_true rfl, Nat.le_of_ble_eq_true rfl⟩ ⟨rfl, rfl⟩ ⟨Nat.le_trans (Nat.le_add_right _ _) hc.1, Nat.le_trans (Nat.le_add_right _ _) hc.2⟩ (hP.2.1 9 (by decide) (by decide)) rfl rfl rfl rfl (Nat.le_of_ble_eq_true rfl) rfl dL_law_448 ?_
  exact X_icmp_eq (pc := 451) C 2900 dL_law_451 (by decide) (fun _ => (XW.widen (Nat.le_add_right _ _) (Nat.le_add_right _ _) (kk _ hR1))) (fun q => absurd rfl q)

set_option maxRecDepth 100000 in
set_option maxHeartbeats 4000000 in
theorem k_5 (hl0 : l.stackTraces = false) (C : XC p s m args meth c P A 9 RL cL_law ret) (hP : xAll P) (hX : SC s A b L xs) (hi : i + 6 ≤ L) (hR : RV σ) (hc : cells + 8 ≤ room_1.cells ∧ slots + 64 ≤ room_1.slots) (kk : ∀ σ1, RV σ1 → XW p l e room_1 s m args below meth c P A 9 (cells + 8) (slots + 64) Q σ1 2900 (lvL P b i) []) : XW p l e room_1 s m args below meth c P A 9 cells slots Q σ 456 (lvL P b i) [] := by
  obtain ⟨v, σ1, τ1, hC6, hM7, hR1⟩ := s_errorOffset l P hP σ hR
  refine X_aload_n (pc := 456) C 1 dL_law_456 rfl rfl ?_
  refine X_vI (i9 := .inr 0) (ci := 6) (n := 0) (pc := 457) C [] hC6 m_c_X6_errorOffset m_m_L_161 m_i_X6_errorOffset m_s_X6_errorOffset m_n_X6 ⟨by decide +kernel, by decide +kernel, by decide +kernel⟩ ⟨Nat.le_of_ble_eq_true rfl, Nat.le_of_ble_eq_true rfl⟩ ⟨rfl, rfl⟩ ⟨Nat.le_trans (Nat.le_add_right _ _) hc.1, Nat.le_trans (Nat.le_add_right _ _) hc.2⟩ hP.n0 rfl rfl rfl rfl (Nat.le_of_ble_eq_true rfl) rfl dL_law_457 ?_
  refine X_aload_n (pc := 460) C 2 dL_law_460 rfl rfl ?_
  refine X_vI (i9 := .inr 9) (ci := 7) (n := 0) (pc := 461) C [] hM7 m_c_X7_errorOffset m_m_L_164 m_i_X7_errorOffset m_s_X7_errorOffset m_n_X7 ⟨by decide +kernel, by decide +kernel, by decide +kernel⟩ ⟨Nat.le_of_ble_eq_true rfl, Nat.le_of_ble_eq_true rfl⟩ ⟨rfl, rfl⟩ ⟨Nat.le_trans (Nat.le_add_right _ _) hc.1, Nat.le_trans (Nat.le_add_right _ _) hc.2⟩ (hP.2.1 9 (by decide) (by decide)) rfl rfl rfl rfl (Nat.le_of_ble_eq_true rfl) rfl dL_law_461 ?_
  exact X_icmp_eq (pc := 464) C 2900 dL_law_464 (by decide) (fun _ => (XW.widen (Nat.le_add_right _ _) (Nat.le_add_right _ _) (kk _ hR1))) (fun q => absurd rfl q)

set_option maxRecDepth 100000 in
set_option maxHeartbeats 4000000 in
theorem k_6 (hl0 : l.stackTraces = false) (C : XC p s m args meth c P A 9 RL cL_law ret) (hP : xAll P) (hX : SC s A b L xs) (hi : i + 6 ≤ L) (hR : RV σ) (hc : cells + 8 ≤ room_1.cells ∧ slots + 64 ≤ room_1.slots) (kk : ∀ σ1, RV σ1 → XW p l e room_1 s m args below meth c P A 9 (cells + 8) (slots + 64) Q σ1 2900 (lvL P b i) []) : XW p l e room_1 s m args below meth c P A 9 cells slots Q σ 469 (lvL P b i) [] := by
  refine X_aload_n (pc := 469) C 1 dL_law_469 rfl rfl ?_
  refine X_arg (pc := 470) C hX hi 1 (by decide) (by decide) rfl rfl dL_law_470 dL_law_471 dL_law_473 dL_law_474 dL_law_475 ?_
  refine X_arg (pc := 476) C hX hi 2 (by decide) (by decide) rfl rfl dL_law_476 dL_law_477 dL_law_479 dL_law_480 dL_law_481 ?_
  refine X_arg (pc := 482) C hX hi 3 (by decide) (by decide) rfl rfl dL_law_482 dL_law_483 dL_law_485 dL_law_486 dL_law_487 ?_
  refine X_ub (pc := 488) C 495 496 rfl rfl dL_law_488 dL_law_491 dL_law_492 dL_law_495 ?_
  refine X_aload_n (pc := 496) C 3 dL_law_496 rfl rfl ?_
  refine X_callSH (n := 5) (pc := 497) C [.ref (P.2.2.1 (.inr 0)), .int (xs (i + 1)), .int (xs (i + 2)), .int (ub (xs (i + 3))), .ref (P.2.2.1 (.inr 19))] (p_call l hl0 P hP σ hR (xs (i + 1)) (xs (i + 2)) (ub (xs (i + 3))) (ub01 _)) m_h_L_call m_m_L_165 m_t_L_call m_n_L ⟨by decide +kernel, by decide +kernel, by decide +kernel⟩ ⟨Nat.le_of_ble_eq_true rfl, Nat.le_of_ble_eq_true rfl⟩ ⟨Nat.le_trans (Nat.add_le_add_left (Nat.le_of_ble_eq_true rfl) _) hc.1, Nat.le_trans (Nat.add_le_add_left (Nat.le_of_ble_eq_true rfl) _) hc.2⟩ rfl (Nat.le_of_ble_eq_true rfl) rfl dL_law_497 (fun v9 σ1 hp => ?_)
  obtain ⟨k, v, τ1, rfl, hM, hR1, h7, h0, hB⟩ := hp
  show XW p l e room_1 s m args below meth c P A 9 _ _ Q σ1 500 (lvL P b i) [.int k]
  refine X_istore (pc := 500) (lv1 := [(0, .ref b), (1, .ref (P.2.2.1 (.inr 0))), (2, .ref (P.2.2.1 (.inr 9))), (3, .ref (P.2.2.1 (.inr 19))), (4, .int (nI i)), (5, .int k)]) C dL_law_500 (by decide) rfl ?_
  refine X_aload_n (pc := 502) C 2 dL_law_502 rfl rfl ?_
  refine X_arg (pc := 503) C hX hi 1 (by decide) (by decide) rfl rfl dL_law_503 dL_law_504 dL_law_506 dL_law_507 dL_law_508 ?_
  refine X_arg (pc := 509) C hX hi 2 (by decide) (by decide) rfl rfl dL_law_509 dL_law_510 dL_law_512 dL_law_513 dL_law_514 ?_
  refine X_arg (pc := 515) C hX hi 3 (by decide) (by decide) rfl rfl dL_law_515 dL_law_516 dL_law_518 dL_law_519 dL_law_520 ?_
  refine X_ub (pc := 521) C 528 529 rfl rfl dL_law_521 dL_law_524 dL_law_525 dL_law_528 ?_
  refine X_vI (i9 := .inr 9) (ci := 7) (n := 3) (pc := 529) C [.int (xs (i + 1)), .int (xs (i + 2)), .int (ub (xs (i + 3)))] hM m_c_X7_call m_m_L_168 m_i_X7_call m_s_X7_call m_n_X7 ⟨by decide +kernel, by decide +kernel, by decide +kernel⟩ ⟨Nat.le_of_ble_eq_true rfl, Nat.le_of_ble_eq_true rfl⟩ ⟨rfl, rfl⟩ ⟨Nat.le_trans (Nat.add_le_add_left (Nat.le_of_ble_eq_true rfl) _) hc.1, Nat.le_trans (Nat.add_le_add_left (Nat.le_of_ble_eq_true rfl) _) hc.2⟩ (hP.2.1 9 (by decide) (by decide)) rfl rfl rfl rfl (Nat.le_of_ble_eq_true rfl) rfl dL_law_529 ?_
  exact X_tailI (pc := 532) C hP h7 h0 ⟨Nat.le_trans (Nat.add_le_add_left (Nat.le_of_ble_eq_true rfl) _) hc.1, Nat.le_trans (Nat.add_le_add_left (Nat.le_of_ble_eq_true rfl) _) hc.2⟩ dL_law_532 dL_law_534 dL_law_535 dL_law_538 dL_law_540 dL_law_545 dL_law_547 dL_law_550 dL_law_551 dL_law_552 dL_law_553 dL_law_555 dL_law_556 dL_law_557 dL_law_562 (by decide) (XW.widen (Nat.add_le_add_left (Nat.le_of_ble_eq_true rfl) _) (Nat.add_le_add_left (Nat.le_of_ble_eq_true rfl) _) (kk _ hR1))

set_option maxRecDepth 100000 in
set_option maxHeartbeats 4000000 in
theorem k_7 (hl0 : l.stackTraces = false) (C : XC p s m args meth c P A 9 RL cL_law ret) (hP : xAll P) (hX : SC s A b L xs) (hi : i + 6 ≤ L) (hR : RV σ) (hc : cells + 8 ≤ room_1.cells ∧ slots + 64 ≤ room_1.slots) (kk : ∀ σ1, RV σ1 → XW p l e room_1 s m args below meth c P A 9 (cells + 8) (slots + 64) Q σ1 2900 (lvL P b i) []) : XW p l e room_1 s m args below meth c P A 9 cells slots Q σ 565 (lvL P b i) [] := by
  refine X_aload_n (pc := 565) C 1 dL_law_565 rfl rfl ?_
  refine X_arg (pc := 566) C hX hi 1 (by decide) (by decide) rfl rfl dL_law_566 dL_law_567 dL_law_569 dL_law_570 dL_law_571 ?_
  refine X_arg (pc := 572) C hX hi 2 (by decide) (by decide) rfl rfl dL_law_572 dL_law_573 dL_law_575 dL_law_576 dL_law_577 ?_
  refine X_arg (pc := 578) C hX hi 3 (by decide) (by decide) rfl rfl dL_law_578 dL_law_579 dL_law_581 dL_law_582 dL_law_583 ?_
  refine X_ub (pc := 584) C 591 592 rfl rfl dL_law_584 dL_law_587 dL_law_588 dL_law_591 ?_
  refine X_aload_n (pc := 592) C 3 dL_law_592 rfl rfl ?_
  refine X_callSH (n := 5) (pc := 593) C [.ref (P.2.2.1 (.inr 0)), .int (xs (i + 1)), .int (xs (i + 2)), .int (ub (xs (i + 3))), .ref (P.2.2.1 (.inr 19))] (p_callTrunk l hl0 P hP σ hR (xs (i + 1)) (xs (i + 2)) (ub (xs (i + 3))) (ub01 _)) m_h_L_callTrunk m_m_L_169 m_t_L_callTrunk m_n_L ⟨by decide +kernel, by decide +kernel, by decide +kernel⟩ ⟨Nat.le_of_ble_eq_true rfl, Nat.le_of_ble_eq_true rfl⟩ ⟨Nat.le_trans (Nat.add_le_add_left (Nat.le_of_ble_eq_true rfl) _) hc.1, Nat.le_trans (Nat.add_le_add_left (Nat.le_of_ble_eq_true rfl) _) hc.2⟩ rfl (Nat.le_of_ble_eq_true rfl) rfl dL_law_593 (fun v9 σ1 hp => ?_)
  obtain ⟨k, v, τ1, rfl, hM, hR1, h7, h0, hB⟩ := hp
  show XW p l e room_1 s m args below meth c P A 9 _ _ Q σ1 596 (lvL P b i) [.int k]
  refine X_istore (pc := 596) (lv1 := [(0, .ref b), (1, .ref (P.2.2.1 (.inr 0))), (2, .ref (P.2.2.1 (.inr 9))), (3, .ref (P.2.2.1 (.inr 19))), (4, .int (nI i)), (5, .int k)]) C dL_law_596 (by decide) rfl ?_
  refine X_aload_n (pc := 598) C 2 dL_law_598 rfl rfl ?_
  refine X_arg (pc := 599) C hX hi 1 (by decide) (by decide) rfl rfl dL_law_599 dL_law_600 dL_law_602 dL_law_603 dL_law_604 ?_
  refine X_arg (pc := 605) C hX hi 2 (by decide) (by decide) rfl rfl dL_law_605 dL_law_606 dL_law_608 dL_law_609 dL_law_610 ?_
  refine X_arg (pc := 611) C hX hi 3 (by decide) (by decide) rfl rfl dL_law_611 dL_law_612 dL_law_614 dL_law_615 dL_law_616 ?_
  refine X_ub (pc := 617) C 624 625 rfl rfl dL_law_617 dL_law_620 dL_law_621 dL_law_624 ?_
  refine X_vI (i9 := .inr 9) (ci := 7) (n := 3) (pc := 625) C [.int (xs (i + 1)), .int (xs (i + 2)), .int (ub (xs (i + 3)))] hM m_c_X7_callTrunk m_m_L_171 m_i_X7_callTrunk m_s_X7_callTrunk m_n_X7 ⟨by decide +kernel, by decide +kernel, by decide +kernel⟩ ⟨Nat.le_of_ble_eq_true rfl, Nat.le_of_ble_eq_true rfl⟩ ⟨rfl, rfl⟩ ⟨Nat.le_trans (Nat.add_le_add_left (Nat.le_of_ble_eq_true rfl) _) hc.1, Nat.le_trans (Nat.add_le_add_left (Nat.le_of_ble_eq_true rfl) _) hc.2⟩ (hP.2.1 9 (by decide) (by decide)) rfl rfl rfl rfl (Nat.le_of_ble_eq_true rfl) rfl dL_law_625 ?_
  exact X_tailI (pc := 628) C hP h7 h0 ⟨Nat.le_trans (Nat.add_le_add_left (Nat.le_of_ble_eq_true rfl) _) hc.1, Nat.le_trans (Nat.add_le_add_left (Nat.le_of_ble_eq_true rfl) _) hc.2⟩ dL_law_628 dL_law_630 dL_law_631 dL_law_634 dL_law_636 dL_law_641 dL_law_643 dL_law_646 dL_law_647 dL_law_648 dL_law_649 dL_law_651 dL_law_652 dL_law_653 dL_law_658 (by decide) (XW.widen (Nat.add_le_add_left (Nat.le_of_ble_eq_true rfl) _) (Nat.add_le_add_left (Nat.le_of_ble_eq_true rfl) _) (kk _ hR1))

set_option maxRecDepth 100000 in
set_option maxHeartbeats 4000000 in
theorem k_8 (hl0 : l.stackTraces = false) (C : XC p s m args meth c P A 9 RL cL_law ret) (hP : xAll P) (hX : SC s A b L xs) (hi : i + 6 ≤ L) (hR : RV σ) (hc : cells + 8 ≤ room_1.cells ∧ slots + 64 ≤ room_1.slots) (kk : ∀ σ1, RV σ1 → XW p l e room_1 s m args below meth c P A 9 (cells + 8) (slots + 64) Q σ1 2900 (lvL P b i) []) : XW p l e room_1 s m args below meth c P A 9 cells slots Q σ 661 (lvL P b i) [] := by
  refine X_aload_n (pc := 661) C 1 dL_law_661 rfl rfl ?_
  refine X_arg (pc := 662) C hX hi 1 (by decide) (by decide) rfl rfl dL_law_662 dL_law_663 dL_law_665 dL_law_666 dL_law_667 ?_
  refine X_aload_n (pc := 668) C 3 dL_law_668 rfl rfl ?_
  refine X_callSH (n := 3) (pc := 669) C [.ref (P.2.2.1 (.inr 0)), .int (xs (i + 1)), .ref (P.2.2.1 (.inr 19))] (p_end l hl0 P hP σ hR (xs (i + 1))) m_h_L_end m_m_L_172 m_t_L_end m_n_L ⟨by decide +kernel, by decide +kernel, by decide +kernel⟩ ⟨Nat.le_of_ble_eq_true rfl, Nat.le_of_ble_eq_true rfl⟩ ⟨Nat.le_trans (Nat.add_le_add_left (Nat.le_of_ble_eq_true rfl) _) hc.1, Nat.le_trans (Nat.add_le_add_left (Nat.le_of_ble_eq_true rfl) _) hc.2⟩ rfl (Nat.le_of_ble_eq_true rfl) rfl dL_law_669 (fun v9 σ1 hp => ?_)
  obtain ⟨k, v, τ1, rfl, hM, hR1, h7, h0, hB⟩ := hp
  show XW p l e room_1 s m args below meth c P A 9 _ _ Q σ1 672 (lvL P b i) [.int k]
  refine X_istore (pc := 672) (lv1 := [(0, .ref b), (1, .ref (P.2.2.1 (.inr 0))), (2, .ref (P.2.2.1 (.inr 9))), (3, .ref (P.2.2.1 (.inr 19))), (4, .int (nI i)), (5, .int k)]) C dL_law_672 (by decide) rfl ?_
  refine X_aload_n (pc := 674) C 2 dL_law_674 rfl rfl ?_
  refine X_arg (pc := 675) C hX hi 1 (by decide) (by decide) rfl rfl dL_law_675 dL_law_676 dL_law_678 dL_law_679 dL_law_680 ?_
  refine X_vI (i9 := .inr 9) (ci := 7) (n := 1) (pc := 681) C [.int (xs (i + 1))] hM m_c_X7_end m_m_L_174 m_i_X7_end m_s_X7_end m_n_X7 ⟨by decide +kernel, by decide +kernel, by decide +kernel⟩ ⟨Nat.le_of_ble_eq_true rfl, Nat.le_of_ble_eq_true rfl⟩ ⟨rfl, rfl⟩ ⟨Nat.le_trans (Nat.add_le_add_left (Nat.le_of_ble_eq_true rfl) _) hc.1, Nat.le_trans (Nat.add_le_add_left (Nat.le_of_ble_eq_true rfl) _) hc.2⟩ (hP.2.1 9 (by decide) (by decide)) rfl rfl rfl rfl (Nat.le_of_ble_eq_true rfl) rfl dL_law_681 ?_
  exact X_tailI (pc := 684) C hP h7 h0 ⟨Nat.le_trans (Nat.add_le_add_left (Nat.le_of_ble_eq_true rfl) _) hc.1, Nat.le_trans (Nat.add_le_add_left (Nat.le_of_ble_eq_true rfl) _) hc.2⟩ dL_law_684 dL_law_686 dL_law_687 dL_law_690 dL_law_692 dL_law_697 dL_law_699 dL_law_702 dL_law_703 dL_law_704 dL_law_705 dL_law_707 dL_law_708 dL_law_709 dL_law_714 (by decide) (XW.widen (Nat.add_le_add_left (Nat.le_of_ble_eq_true rfl) _) (Nat.add_le_add_left (Nat.le_of_ble_eq_true rfl) _) (kk _ hR1))

set_option maxRecDepth 100000 in
set_option maxHeartbeats 4000000 in
theorem k_9 (hl0 : l.stackTraces = false) (C : XC p s m args meth c P A 9 RL cL_law ret) (hP : xAll P) (hX : SC s A b L xs) (hi : i + 6 ≤ L) (hR : RV σ) (hc : cells + 8 ≤ room_1.cells ∧ slots + 64 ≤ room_1.slots) (kk : ∀ σ1, RV σ1 → XW p l e room_1 s m args below meth c P A 9 (cells + 8) (slots + 64) Q σ1 2900 (lvL P b i) []) : XW p l e room_1 s m args below meth c P A 9 cells slots Q σ 717 (lvL P b i) [] := by
  refine X_aload_n (pc := 717) C 1 dL_law_717 rfl rfl ?_
  refine X_arg (pc := 718) C hX hi 1 (by decide) (by decide) rfl rfl dL_law_718 dL_law_719 dL_law_721 dL_law_722 dL_law_723 ?_
  refine X_aload_n (pc := 724) C 3 dL_law_724 rfl rfl ?_
  refine X_callSH (n := 3) (pc := 725) C [.ref (P.2.2.1 (.inr 0)), .int (xs (i + 1)), .ref (P.2.2.1 (.inr 19))] (p_waitFor l hl0 P hP σ hR (xs (i + 1))) m_h_L_waitFor m_m_L_175 m_t_L_waitFor m_n_L ⟨by decide +kernel, by decide +kernel, by decide +kernel⟩ ⟨Nat.le_of_ble_eq_true rfl, Nat.le_of_ble_eq_true rfl⟩ ⟨Nat.le_trans (Nat.add_le_add_left (Nat.le_of_ble_eq_true rfl) _) hc.1, Nat.le_trans (Nat.add_le_add_left (Nat.le_of_ble_eq_true rfl) _) hc.2⟩ rfl (Nat.le_of_ble_eq_true rfl) rfl dL_law_725 (fun v9 σ1 hp => ?_)
  obtain ⟨k, v, τ1, rfl, hM, hR1, h7, h0, hB⟩ := hp
  show XW p l e room_1 s m args below meth c P A 9 _ _ Q σ1 728 (lvL P b i) [.int k]
  refine X_istore (pc := 728) (lv1 := [(0, .ref b), (1, .ref (P.2.2.1 (.inr 0))), (2, .ref (P.2.2.1 (.inr 9))), (3, .ref (P.2.2.1 (.inr 19))), (4, .int (nI i)), (5, .int k)]) C dL_law_728 (by decide) rfl ?_
  refine X_aload_n (pc := 730) C 2 dL_law_730 rfl rfl ?_
  refine X_arg (pc := 731) C hX hi 1 (by decide) (by decide) rfl rfl dL_law_731 dL_law_732 dL_law_734 dL_law_735 dL_law_736 ?_
  refine X_vI (i9 := .inr 9) (ci := 7) (n := 1) (pc := 737) C [.int (xs (i + 1))] hM m_c_X7_waitFor m_m_L_177 m_i_X7_waitFor m_s_X7_waitFor m_n_X7 ⟨by decide +kernel, by decide +kernel, by decide +kernel⟩ ⟨Nat.le_of_ble_eq_true rfl, Nat.le_of_ble_eq_true rfl⟩ ⟨rfl, rfl⟩ ⟨Nat.le_trans (Nat.add_le_add_left (Nat.le_of_ble_eq_true rfl) _) hc.1, Nat.le_trans (Nat.add_le_add_left (Nat.le_of_ble_eq_true rfl) _) hc.2⟩ (hP.2.1 9 (by decide) (by decide)) rfl rfl rfl rfl (Nat.le_of_ble_eq_true rfl) rfl dL_law_737 ?_
  exact X_tailI (pc := 740) C hP h7 h0 ⟨Nat.le_trans (Nat.add_le_add_left (Nat.le_of_ble_eq_true rfl) _) hc.1, Nat.le_trans (Nat.add_le_add_left (Nat.le_of_ble_eq_true rfl) _) hc.2⟩ dL_law_740 dL_law_742 dL_law_743 dL_law_746 dL_law_748 dL_law_753 dL_law_755 dL_law_758 dL_law_759 dL_law_760 dL_law_761 dL_law_763 dL_law_764 dL_law_765 dL_law_770 (by decide) (XW.widen (Nat.add_le_add_left (Nat.le_of_ble_eq_true rfl) _) (Nat.add_le_add_left (Nat.le_of_ble_eq_true rfl) _) (kk _ hR1))

set_option maxRecDepth 100000 in
set_option maxHeartbeats 4000000 in
theorem k_10 (hl0 : l.stackTraces = false) (C : XC p s m args meth c P A 9 RL cL_law ret) (hP : xAll P) (hX : SC s A b L xs) (hi : i + 6 ≤ L) (hR : RV σ) (hc : cells + 8 ≤ room_1.cells ∧ slots + 64 ≤ room_1.slots) (kk : ∀ σ1, RV σ1 → XW p l e room_1 s m args below meth c P A 9 (cells + 8) (slots + 64) Q σ1 2900 (lvL P b i) []) : XW p l e room_1 s m args below meth c P A 9 cells slots Q σ 773 (lvL P b i) [] := by
  refine X_aload_n (pc := 773) C 1 dL_law_773 rfl rfl ?_
  refine X_arg (pc := 774) C hX hi 1 (by decide) (by decide) rfl rfl dL_law_774 dL_law_775 dL_law_777 dL_law_778 dL_law_779 ?_
  refine X_arg (pc := 780) C hX hi 2 (by decide) (by decide) rfl rfl dL_law_780 dL_law_781 dL_law_783 dL_law_784 dL_law_785 ?_
  refine X_aload_n (pc := 786) C 3 dL_law_786 rfl rfl ?_
  refine X_callSH (n := 4) (pc := 787) C [.ref (P.2.2.1 (.inr 0)), .int (xs (i + 1)), .int (xs (i + 2)), .ref (P.2.2.1 (.inr 19))] (p_setCuriosity l hl0 P hP σ hR (xs (i + 1)) (xs (i + 2))) m_h_L_setCuriosity m_m_L_178 m_t_L_setCuriosity m_n_L ⟨by decide +kernel, by decide +kernel, by decide +kernel⟩ ⟨Nat.le_of_ble_eq_true rfl, Nat.le_of_ble_eq_true rfl⟩ ⟨Nat.le_trans (Nat.add_le_add_left (Nat.le_of_ble_eq_true rfl) _) hc.1, Nat.le_trans (Nat.add_le_add_left (Nat.le_of_ble_eq_true rfl) _) hc.2⟩ rfl (Nat.le_of_ble_eq_true rfl) rfl dL_law_787 (fun v9 σ1 hp => ?_)
  obtain ⟨k, v, τ1, rfl, hM, hR1, h7, h0, hB⟩ := hp
  show XW p l e room_1 s m args below meth c P A 9 _ _ Q σ1 790 (lvL P b i) [.int k]
  refine X_istore (pc := 790) (lv1 := [(0, .ref b), (1, .ref (P.2.2.1 (.inr 0))), (2, .ref (P.2.2.1 (.inr 9))), (3, .ref (P.2.2.1 (.inr 19))), (4, .int (nI i)), (5, .int k)]) C dL_law_790 (by decide) rfl ?_
  refine X_aload_n (pc := 792) C 2 dL_law_792 rfl rfl ?_
  refine X_arg (pc := 793) C hX hi 1 (by decide) (by decide) rfl rfl dL_law_793 dL_law_794 dL_law_796 dL_law_797 dL_law_798 ?_
  refine X_arg (pc := 799) C hX hi 2 (by decide) (by decide) rfl rfl dL_law_799 dL_law_800 dL_law_802 dL_law_803 dL_law_804 ?_
  refine X_vI (i9 := .inr 9) (ci := 7) (n := 2) (pc := 805) C [.int (xs (i + 1)), .int (xs (i + 2))] hM m_c_X7_setCuriosity m_m_L_181 m_i_X7_setCuriosity m_s_X7_setCuriosity m_n_X7 ⟨by decide +kernel, by decide +kernel, by decide +kernel⟩ ⟨Nat.le_of_ble_eq_true rfl, Nat.le_of_ble_eq_true rfl⟩ ⟨rfl, rfl⟩ ⟨Nat.le_trans (Nat.add_le_add_left (Nat.le_of_ble_eq_true rfl) _) hc.1, Nat.le_trans (Nat.add_le_add_left (Nat.le_of_ble_eq_true rfl) _) hc.2⟩ (hP.2.1 9 (by decide) (by decide)) rfl rfl rfl rfl (Nat.le_of_ble_eq_true rfl) rfl dL_law_805 ?_
  exact X_tailI (pc := 808) C hP h7 h0 ⟨Nat.le_trans (Nat.add_le_add_left (Nat.le_of_ble_eq_true rfl) _) hc.1, Nat.le_trans (Nat.add_le_add_left (Nat.le_of_ble_eq_true rfl) _) hc.2⟩ dL_law_808 dL_law_810 dL_law_811 dL_law_814 dL_law_816 dL_law_821 dL_law_823 dL_law_826 dL_law_827 dL_law_828 dL_law_829 dL_law_831 dL_law_832 dL_law_833 dL_law_838 (by decide) (XW.widen (Nat.add_le_add_left (Nat.le_of_ble_eq_true rfl) _) (Nat.add_le_add_left (Nat.le_of_ble_eq_true rfl) _) (kk _ hR1))

set_option maxRecDepth 100000 in
set_option maxHeartbeats 4000000 in
theorem k_11 (hl0 : l.stackTraces = false) (C : XC p s m args meth c P A 9 RL cL_law ret) (hP : xAll P) (hX : SC s A b L xs) (hi : i + 6 ≤ L) (hR : RV σ) (hc : cells + 8 ≤ room_1.cells ∧ slots + 64 ≤ room_1.slots) (kk : ∀ σ1, RV σ1 → XW p l e room_1 s m args below meth c P A 9 (cells + 8) (slots + 64) Q σ1 2900 (lvL P b i) []) : XW p l e room_1 s m args below meth c P A 9 cells slots Q σ 841 (lvL P b i) [] := by
  refine X_aload_n (pc := 841) C 1 dL_law_841 rfl rfl ?_
  refine X_aload_n (pc := 842) C 3 dL_law_842 rfl rfl ?_
  refine X_callSH (n := 2) (pc := 843) C [.ref (P.2.2.1 (.inr 0)), .ref (P.2.2.1 (.inr 19))] (p_undo l hl0 P hP σ hR) m_h_L_undo m_m_L_182 m_t_L_undo m_n_L ⟨by decide +kernel, by decide +kernel, by decide +kernel⟩ ⟨Nat.le_of_ble_eq_true rfl, Nat.le_of_ble_eq_true rfl⟩ ⟨Nat.le_trans (Nat.add_le_add_left (Nat.le_of_ble_eq_true rfl) _) hc.1, Nat.le_trans (Nat.add_le_add_left (Nat.le_of_ble_eq_true rfl) _) hc.2⟩ rfl (Nat.le_of_ble_eq_true rfl) rfl dL_law_843 (fun v9 σ1 hp => ?_)
  obtain ⟨k, v, τ1, rfl, hM, hR1, h7, h0, hB⟩ := hp
  show XW p l e room_1 s m args below meth c P A 9 _ _ Q σ1 846 (lvL P b i) [.int k]
  refine X_istore (pc := 846) (lv1 := [(0, .ref b), (1, .ref (P.2.2.1 (.inr 0))), (2, .ref (P.2.2.1 (.inr 9))), (3, .ref (P.2.2.1 (.inr 19))), (4, .int (nI i)), (5, .int k)]) C dL_law_846 (by decide) rfl ?_
  refine X_aload_n (pc := 848) C 2 dL_law_848 rfl rfl ?_
  refine X_vI (i9 := .inr 9) (ci := 7) (n := 0) (pc := 849) C [] hM m_c_X7_undo m_m_L_185 m_i_X7_undo m_s_X7_undo m_n_X7 ⟨by decide +kernel, by decide +kernel, by decide +kernel⟩ ⟨Nat.le_of_ble_eq_true rfl, Nat.le_of_ble_eq_true rfl⟩ ⟨rfl, rfl⟩ ⟨Nat.le_trans (Nat.add_le_add_left (Nat.le_of_ble_eq_true rfl) _) hc.1, Nat.le_trans (Nat.add_le_add_left (Nat.le_of_ble_eq_true rfl) _) hc.2⟩ (hP.2.1 9 (by decide) (by decide)) rfl rfl rfl rfl (Nat.le_of_ble_eq_true rfl) rfl dL_law_849 ?_
  exact X_tailI (pc := 852) C hP h7 h0 ⟨Nat.le_trans (Nat.add_le_add_left (Nat.le_of_ble_eq_true rfl) _) hc.1, Nat.le_trans (Nat.add_le_add_left (Nat.le_of_ble_eq_true rfl) _) hc.2⟩ dL_law_852 dL_law_854 dL_law_855 dL_law_858 dL_law_860 dL_law_865 dL_law_867 dL_law_870 dL_law_871 dL_law_872 dL_law_873 dL_law_875 dL_law_876 dL_law_877 dL_law_882 (by decide) (XW.widen (Nat.add_le_add_left (Nat.le_of_ble_eq_true rfl) _) (Nat.add_le_add_left (Nat.le_of_ble_eq_true rfl) _) (kk _ hR1))

set_option maxRecDepth 100000 in
set_option maxHeartbeats 4000000 in
theorem k_12 (hl0 : l.stackTraces = false) (C : XC p s m args meth c P A 9 RL cL_law ret) (hP : xAll P) (hX : SC s A b L xs) (hi : i + 6 ≤ L) (hR : RV σ) (hc : cells + 8 ≤ room_1.cells ∧ slots + 64 ≤ room_1.slots) (kk : ∀ σ1, RV σ1 → XW p l e room_1 s m args below meth c P A 9 (cells + 8) (slots + 64) Q σ1 2900 (lvL P b i) []) : XW p l e room_1 s m args below meth c P A 9 cells slots Q σ 885 (lvL P b i) [] := by
  refine X_aload_n (pc := 885) C 1 dL_law_885 rfl rfl ?_
  refine X_arg (pc := 886) C hX hi 1 (by decide) (by decide) rfl rfl dL_law_886 dL_law_887 dL_law_889 dL_law_890 dL_law_891 ?_
  refine X_aload_n (pc := 892) C 3 dL_law_892 rfl rfl ?_
  refine X_callSH (n := 3) (pc := 893) C [.ref (P.2.2.1 (.inr 0)), .int (xs (i + 1)), .ref (P.2.2.1 (.inr 19))] (p_save l hl0 P hP σ hR (xs (i + 1))) m_h_L_save m_m_L_186 m_t_L_save m_n_L ⟨by decide +kernel, by decide +kernel, by decide +kernel⟩ ⟨Nat.le_of_ble_eq_true rfl, Nat.le_of_ble_eq_true rfl⟩ ⟨Nat.le_trans (Nat.add_le_add_left (Nat.le_of_ble_eq_true rfl) _) hc.1, Nat.le_trans (Nat.add_le_add_left (Nat.le_of_ble_eq_true rfl) _) hc.2⟩ rfl (Nat.le_of_ble_eq_true rfl) rfl dL_law_893 (fun v9 σ1 hp => ?_)
  obtain ⟨k, v, τ1, rfl, hM, hR1, h7, h0, hB⟩ := hp
  show XW p l e room_1 s m args below meth c P A 9 _ _ Q σ1 896 (lvL P b i) [.int k]
  refine X_istore (pc := 896) (lv1 := [(0, .ref b), (1, .ref (P.2.2.1 (.inr 0))), (2, .ref (P.2.2.1 (.inr 9))), (3, .ref (P.2.2.1 (.inr 19))), (4, .int (nI i)), (5, .int k)]) C dL_law_896 (by decide) rfl ?_
  refine X_aload_n (pc := 898) C 2 dL_law_898 rfl rfl ?_
  refine X_arg (pc := 899) C hX hi 1 (by decide) (by decide) rfl rfl dL_law_899 dL_law_900 dL_law_902 dL_law_903 dL_law_904 ?_
  refine X_vI (i9 := .inr 9) (ci := 7) (n := 1) (pc := 905) C [.int (xs (i + 1))] hM m_c_X7_save m_m_L_188 m_i_X7_save m_s_X7_save m_n_X7 ⟨by decide +kernel, by decide +kernel, by decide +kernel⟩ ⟨Nat.le_of_ble_eq_true rfl, Nat.le_of_ble_eq_true rfl⟩ ⟨rfl, rfl⟩ ⟨Nat.le_trans (Nat.add_le_add_left (Nat.le_of_ble_eq_true rfl) _) hc.1, Nat.le_trans (Nat.add_le_add_left (Nat.le_of_ble_eq_true rfl) _) hc.2⟩ (hP.2.1 9 (by decide) (by decide)) rfl rfl rfl rfl (Nat.le_of_ble_eq_true rfl) rfl dL_law_905 ?_
  exact X_tailI (pc := 908) C hP h7 h0 ⟨Nat.le_trans (Nat.add_le_add_left (Nat.le_of_ble_eq_true rfl) _) hc.1, Nat.le_trans (Nat.add_le_add_left (Nat.le_of_ble_eq_true rfl) _) hc.2⟩ dL_law_908 dL_law_910 dL_law_911 dL_law_914 dL_law_916 dL_law_921 dL_law_923 dL_law_926 dL_law_927 dL_law_928 dL_law_929 dL_law_931 dL_law_932 dL_law_933 dL_law_938 (by decide) (XW.widen (Nat.add_le_add_left (Nat.le_of_ble_eq_true rfl) _) (Nat.add_le_add_left (Nat.le_of_ble_eq_true rfl) _) (kk _ hR1))

set_option maxRecDepth 100000 in
set_option maxHeartbeats 4000000 in
theorem k_13 (hl0 : l.stackTraces = false) (C : XC p s m args meth c P A 9 RL cL_law ret) (hP : xAll P) (hX : SC s A b L xs) (hi : i + 6 ≤ L) (hR : RV σ) (hc : cells + 8 ≤ room_1.cells ∧ slots + 64 ≤ room_1.slots) (kk : ∀ σ1, RV σ1 → XW p l e room_1 s m args below meth c P A 9 (cells + 8) (slots + 64) Q σ1 2900 (lvL P b i) []) : XW p l e room_1 s m args below meth c P A 9 cells slots Q σ 941 (lvL P b i) [] := by
  refine X_aload_n (pc := 941) C 1 dL_law_941 rfl rfl ?_
  refine X_arg (pc := 942) C hX hi 1 (by decide) (by decide) rfl rfl dL_law_942 dL_law_943 dL_law_945 dL_law_946 dL_law_947 ?_
  refine X_aload_n (pc := 948) C 3 dL_law_948 rfl rfl ?_
  refine X_callSH (n := 3) (pc := 949) C [.ref (P.2.2.1 (.inr 0)), .int (xs (i + 1)), .ref (P.2.2.1 (.inr 19))] (p_restore l hl0 P hP σ hR (xs (i + 1))) m_h_L_restore m_m_L_189 m_t_L_restore m_n_L ⟨by decide +kernel, by decide +kernel, by decide +kernel⟩ ⟨Nat.le_of_ble_eq_true rfl, Nat.le_of_ble_eq_true rfl⟩ ⟨Nat.le_trans (Nat.add_le_add_left (Nat.le_of_ble_eq_true rfl) _) hc.1, Nat.le_trans (Nat.add_le_add_left (Nat.le_of_ble_eq_true rfl) _) hc.2⟩ rfl (Nat.le_of_ble_eq_true rfl) rfl dL_law_949 (fun v9 σ1 hp => ?_)
  obtain ⟨k, v, τ1, rfl, hM, hR1, h7, h0, hB⟩ := hp
  show XW p l e room_1 s m args below meth c P A 9 _ _ Q σ1 952 (lvL P b i) [.int k]
  refine X_istore (pc := 952) (lv1 := [(0, .ref b), (1, .ref (P.2.2.1 (.inr 0))), (2, .ref (P.2.2.1 (.inr 9))), (3, .ref (P.2.2.1 (.inr 19))), (4, .int (nI i)), (5, .int k)]) C dL_law_952 (by decide) rfl ?_
  refine X_aload_n (pc := 954) C 2 dL_law_954 rfl rfl ?_
  refine X_arg (pc := 955) C hX hi 1 (by decide) (by decide) rfl rfl dL_law_955 dL_law_956 dL_law_958 dL_law_959 dL_law_960 ?_
  refine X_vI (i9 := .inr 9) (ci := 7) (n := 1) (pc := 961) C [.int (xs (i + 1))] hM m_c_X7_restore m_m_L_191 m_i_X7_restore m_s_X7_restore m_n_X7 ⟨by decide +kernel, by decide +kernel, by decide +kernel⟩ ⟨Nat.le_of_ble_eq_true rfl, Nat.le_of_ble_eq_true rfl⟩ ⟨rfl, rfl⟩ ⟨Nat.le_trans (Nat.add_le_add_left (Nat.le_of_ble_eq_true rfl) _) hc.1, Nat.le_trans (Nat.add_le_add_left (Nat.le_of_ble_eq_true rfl) _) hc.2⟩ (hP.2.1 9 (by decide) (by decide)) rfl rfl rfl rfl (Nat.le_of_ble_eq_true rfl) rfl dL_law_961 ?_
  exact X_tailI (pc := 964) C hP h7 h0 ⟨Nat.le_trans (Nat.add_le_add_left (Nat.le_of_ble_eq_true rfl) _) hc.1, Nat.le_trans (Nat.add_le_add_left (Nat.le_of_ble_eq_true rfl) _) hc.2⟩ dL_law_964 dL_law_966 dL_law_967 dL_law_970 dL_law_972 dL_law_977 dL_law_979 dL_law_982 dL_law_983 dL_law_984 dL_law_985 dL_law_987 dL_law_988 dL_law_989 dL_law_994 (by decide) (XW.widen (Nat.add_le_add_left (Nat.le_of_ble_eq_true rfl) _) (Nat.add_le_add_left (Nat.le_of_ble_eq_true rfl) _) (kk _ hR1))

set_option maxRecDepth 100000 in
set_option maxHeartbeats 4000000 in
theorem k_14 (hl0 : l.stackTraces = false) (C : XC p s m args meth c P A 9 RL cL_law ret) (hP : xAll P) (hX : SC s A b L xs) (hi : i + 6 ≤ L) (hR : RV σ) (hc : cells + 8 ≤ room_1.cells ∧ slots + 64 ≤ room_1.slots) (kk : ∀ σ1, RV σ1 → XW p l e room_1 s m args below meth c P A 9 (cells + 8) (slots + 64) Q σ1 2900 (lvL P b i) []) : XW p l e room_1 s m args below meth c P A 9 cells slots Q σ 997 (lvL P b i) [] := by
  obtain ⟨v, σ1, τ1, hC6, hM7, hR1⟩ := s_clock l P hP σ hR
  refine X_aload_n (pc := 997) C 1 dL_law_997 rfl rfl ?_
  refine X_vI (i9 := .inr 0) (ci := 6) (n := 0) (pc := 998) C [] hC6 m_c_X6_clock m_m_L_192 m_i_X6_clock m_s_X6_clock m_n_X6 ⟨by decide +kernel, by decide +kernel, by decide +kernel⟩ ⟨Nat.le_of_ble_eq_true rfl, Nat.le_of_ble_eq_true rfl⟩ ⟨rfl, rfl⟩ ⟨Nat.le_trans (Nat.le_add_right _ _) hc.1, Nat.le_trans (Nat.le_add_right _ _) hc.2⟩ hP.n0 rfl rfl rfl rfl (Nat.le_of_ble_eq_true rfl) rfl dL_law_998 ?_
  refine X_aload_n (pc := 1001) C 2 dL_law_1001 rfl rfl ?_
  refine X_vI (i9 := .inr 9) (ci := 7) (n := 0) (pc := 1002) C [] hM7 m_c_X7_clock m_m_L_195 m_i_X7_clock m_s_X7_clock m_n_X7 ⟨by decide +kernel, by decide +kernel, by decide +kernel⟩ ⟨Nat.le_of_ble_eq_true rfl, Nat.le_of_ble_eq_true rfl⟩ ⟨rfl, rfl⟩ ⟨Nat.le_trans (Nat.le_add_right _ _) hc.1, Nat.le_trans (Nat.le_add_right _ _) hc.2⟩ (hP.2.1 9 (by decide) (by decide)) rfl rfl rfl rfl (Nat.le_of_ble_eq_true rfl) rfl dL_law_1002 ?_
  exact X_icmp_eq (pc := 1005) C 2900 dL_law_1005 (by decide) (fun _ => (XW.widen (Nat.le_add_right _ _) (Nat.le_add_right _ _) (kk _ hR1))) (fun q => absurd rfl q)

set_option maxRecDepth 100000 in
set_option maxHeartbeats 4000000 in
theorem k_15 (hl0 : l.stackTraces = false) (C : XC p s m args meth c P A 9 RL cL_law ret) (hP : xAll P) (hX : SC s A b L xs) (hi : i + 6 ≤ L) (hR : RV σ) (hc : cells + 8 ≤ room_1.cells ∧ slots + 64 ≤ room_1.slots) (kk : ∀ σ1, RV σ1 → XW p l e room_1 s m args below meth c P A 9 (cells + 8) (slots + 64) Q σ1 2900 (lvL P b i) []) : XW p l e room_1 s m args below meth c P A 9 cells slots Q σ 1010 (lvL P b i) [] := by
  obtain ⟨v, σ1, τ1, hC6, hM7, hR1⟩ := s_lineCount l P hP σ hR
  refine X_aload_n (pc := 1010) C 1 dL_law_1010 rfl rfl ?_
  refine X_vI (i9 := .inr 0) (ci := 6) (n := 0) (pc := 1011) C [] hC6 m_c_X6_lineCount m_m_L_196 m_i_X6_lineCount m_s_X6_lineCount m_n_X6 ⟨by decide +kernel, by decide +kernel, by decide +kernel⟩ ⟨Nat.le_of_ble_eq_true rfl, Nat.le_of_ble_eq_true rfl⟩ ⟨rfl, rfl⟩ ⟨Nat.le_trans (Nat.le_add_right _ _) hc.1, Nat.le_trans (Nat.le_add_right _ _) hc.2⟩ hP.n0 rfl rfl rfl rfl (Nat.le_of_ble_eq_true rfl) rfl dL_law_1011 ?_
  refine X_aload_n (pc := 1014) C 2 dL_law_1014 rfl rfl ?_
  refine X_vI (i9 := .inr 9) (ci := 7) (n := 0) (pc := 1015) C [] hM7 m_c_X7_lineCount m_m_L_199 m_i_X7_lineCount m_s_X7_lineCount m_n_X7 ⟨by decide +kernel, by decide +kernel, by decide +kernel⟩ ⟨Nat.le_of_ble_eq_true rfl, Nat.le_of_ble_eq_true rfl⟩ ⟨rfl, rfl⟩ ⟨Nat.le_trans (Nat.le_add_right _ _) hc.1, Nat.le_trans (Nat.le_add_right _ _) hc.2⟩ (hP.2.1 9 (by decide) (by decide)) rfl rfl rfl rfl (Nat.le_of_ble_eq_true rfl) rfl dL_law_1015 ?_
  exact X_icmp_eq (pc := 1018) C 2900 dL_law_1018 (by decide) (fun _ => (XW.widen (Nat.le_add_right _ _) (Nat.le_add_right _ _) (kk _ hR1))) (fun q => absurd rfl q)

set_option maxRecDepth 100000 in
set_option maxHeartbeats 4000000 in
theorem k_16 (hl0 : l.stackTraces = false) (C : XC p s m args meth c P A 9 RL cL_law ret) (hP : xAll P) (hX : SC s A b L xs) (hi : i + 6 ≤ L) (hR : RV σ) (hc : cells + 8 ≤ room_1.cells ∧ slots + 64 ≤ room_1.slots) (kk : ∀ σ1, RV σ1 → XW p l e room_1 s m args below meth c P A 9 (cells + 8) (slots + 64) Q σ1 2900 (lvL P b i) []) : XW p l e room_1 s m args below meth c P A 9 cells slots Q σ 1023 (lvL P b i) [] := by
  obtain ⟨v, σ1, τ1, hC6, hM7, hR1⟩ := s_cordCount l P hP σ hR
  refine X_aload_n (pc := 1023) C 1 dL_law_1023 rfl rfl ?_
  refine X_vI (i9 := .inr 0) (ci := 6) (n := 0) (pc := 1024) C [] hC6 m_c_X6_cordCount m_m_L_200 m_i_X6_cordCount m_s_X6_cordCount m_n_X6 ⟨by decide +kernel, by decide +kernel, by decide +kernel⟩ ⟨Nat.le_of_ble_eq_true rfl, Nat.le_of_ble_eq_true rfl⟩ ⟨rfl, rfl⟩ ⟨Nat.le_trans (Nat.le_add_right _ _) hc.1, Nat.le_trans (Nat.le_add_right _ _) hc.2⟩ hP.n0 rfl rfl rfl rfl (Nat.le_of_ble_eq_true rfl) rfl dL_law_1024 ?_
  refine X_aload_n (pc := 1027) C 2 dL_law_1027 rfl rfl ?_
  refine X_vI (i9 := .inr 9) (ci := 7) (n := 0) (pc := 1028) C [] hM7 m_c_X7_cordCount m_m_L_203 m_i_X7_cordCount m_s_X7_cordCount m_n_X7 ⟨by decide +kernel, by decide +kernel, by decide +kernel⟩ ⟨Nat.le_of_ble_eq_true rfl, Nat.le_of_ble_eq_true rfl⟩ ⟨rfl, rfl⟩ ⟨Nat.le_trans (Nat.le_add_right _ _) hc.1, Nat.le_trans (Nat.le_add_right _ _) hc.2⟩ (hP.2.1 9 (by decide) (by decide)) rfl rfl rfl rfl (Nat.le_of_ble_eq_true rfl) rfl dL_law_1028 ?_
  exact X_icmp_eq (pc := 1031) C 2900 dL_law_1031 (by decide) (fun _ => (XW.widen (Nat.le_add_right _ _) (Nat.le_add_right _ _) (kk _ hR1))) (fun q => absurd rfl q)

set_option maxRecDepth 100000 in
set_option maxHeartbeats 4000000 in
theorem k_17 (hl0 : l.stackTraces = false) (C : XC p s m args meth c P A 9 RL cL_law ret) (hP : xAll P) (hX : SC s A b L xs) (hi : i + 6 ≤ L) (hR : RV σ) (hc : cells + 8 ≤ room_1.cells ∧ slots + 64 ≤ room_1.slots) (kk : ∀ σ1, RV σ1 → XW p l e room_1 s m args below meth c P A 9 (cells + 8) (slots + 64) Q σ1 2900 (lvL P b i) []) : XW p l e room_1 s m args below meth c P A 9 cells slots Q σ 1036 (lvL P b i) [] := by
  obtain ⟨v, σ1, τ1, hC6, hM7, hR1⟩ := s_freeCords l P hP σ hR
  refine X_aload_n (pc := 1036) C 1 dL_law_1036 rfl rfl ?_
  refine X_vI (i9 := .inr 0) (ci := 6) (n := 0) (pc := 1037) C [] hC6 m_c_X6_freeCords m_m_L_204 m_i_X6_freeCords m_s_X6_freeCords m_n_X6 ⟨by decide +kernel, by decide +kernel, by decide +kernel⟩ ⟨Nat.le_of_ble_eq_true rfl, Nat.le_of_ble_eq_true rfl⟩ ⟨rfl, rfl⟩ ⟨Nat.le_trans (Nat.le_add_right _ _) hc.1, Nat.le_trans (Nat.le_add_right _ _) hc.2⟩ hP.n0 rfl rfl rfl rfl (Nat.le_of_ble_eq_true rfl) rfl dL_law_1037 ?_
  refine X_aload_n (pc := 1040) C 2 dL_law_1040 rfl rfl ?_
  refine X_vI (i9 := .inr 9) (ci := 7) (n := 0) (pc := 1041) C [] hM7 m_c_X7_freeCords m_m_L_207 m_i_X7_freeCords m_s_X7_freeCords m_n_X7 ⟨by decide +kernel, by decide +kernel, by decide +kernel⟩ ⟨Nat.le_of_ble_eq_true rfl, Nat.le_of_ble_eq_true rfl⟩ ⟨rfl, rfl⟩ ⟨Nat.le_trans (Nat.le_add_right _ _) hc.1, Nat.le_trans (Nat.le_add_right _ _) hc.2⟩ (hP.2.1 9 (by decide) (by decide)) rfl rfl rfl rfl (Nat.le_of_ble_eq_true rfl) rfl dL_law_1041 ?_
  exact X_icmp_eq (pc := 1044) C 2900 dL_law_1044 (by decide) (fun _ => (XW.widen (Nat.le_add_right _ _) (Nat.le_add_right _ _) (kk _ hR1))) (fun q => absurd rfl q)

set_option maxRecDepth 100000 in
set_option maxHeartbeats 4000000 in
theorem k_18 (hl0 : l.stackTraces = false) (C : XC p s m args meth c P A 9 RL cL_law ret) (hP : xAll P) (hX : SC s A b L xs) (hi : i + 6 ≤ L) (hR : RV σ) (hc : cells + 8 ≤ room_1.cells ∧ slots + 64 ≤ room_1.slots) (kk : ∀ σ1, RV σ1 → XW p l e room_1 s m args below meth c P A 9 (cells + 8) (slots + 64) Q σ1 2900 (lvL P b i) []) : XW p l e room_1 s m args below meth c P A 9 cells slots Q σ 1049 (lvL P b i) [] := by
  obtain ⟨v, σ1, τ1, hC6, hM7, hR1⟩ := s_trunkCount l P hP σ hR
  refine X_aload_n (pc := 1049) C 1 dL_law_1049 rfl rfl ?_
  refine X_vI (i9 := .inr 0) (ci := 6) (n := 0) (pc := 1050) C [] hC6 m_c_X6_trunkCount m_m_L_208 m_i_X6_trunkCount m_s_X6_trunkCount m_n_X6 ⟨by decide +kernel, by decide +kernel, by decide +kernel⟩ ⟨Nat.le_of_ble_eq_true rfl, Nat.le_of_ble_eq_true rfl⟩ ⟨rfl, rfl⟩ ⟨Nat.le_trans (Nat.le_add_right _ _) hc.1, Nat.le_trans (Nat.le_add_right _ _) hc.2⟩ hP.n0 rfl rfl rfl rfl (Nat.le_of_ble_eq_true rfl) rfl dL_law_1050 ?_
  refine X_aload_n (pc := 1053) C 2 dL_law_1053 rfl rfl ?_
  refine X_vI (i9 := .inr 9) (ci := 7) (n := 0) (pc := 1054) C [] hM7 m_c_X7_trunkCount m_m_L_211 m_i_X7_trunkCount m_s_X7_trunkCount m_n_X7 ⟨by decide +kernel, by decide +kernel, by decide +kernel⟩ ⟨Nat.le_of_ble_eq_true rfl, Nat.le_of_ble_eq_true rfl⟩ ⟨rfl, rfl⟩ ⟨Nat.le_trans (Nat.le_add_right _ _) hc.1, Nat.le_trans (Nat.le_add_right _ _) hc.2⟩ (hP.2.1 9 (by decide) (by decide)) rfl rfl rfl rfl (Nat.le_of_ble_eq_true rfl) rfl dL_law_1054 ?_
  exact X_icmp_eq (pc := 1057) C 2900 dL_law_1057 (by decide) (fun _ => (XW.widen (Nat.le_add_right _ _) (Nat.le_add_right _ _) (kk _ hR1))) (fun q => absurd rfl q)

set_option maxRecDepth 100000 in
set_option maxHeartbeats 4000000 in
theorem k_19 (hl0 : l.stackTraces = false) (C : XC p s m args meth c P A 9 RL cL_law ret) (hP : xAll P) (hX : SC s A b L xs) (hi : i + 6 ≤ L) (hR : RV σ) (hc : cells + 8 ≤ room_1.cells ∧ slots + 64 ≤ room_1.slots) (kk : ∀ σ1, RV σ1 → XW p l e room_1 s m args below meth c P A 9 (cells + 8) (slots + 64) Q σ1 2900 (lvL P b i) []) : XW p l e room_1 s m args below meth c P A 9 cells slots Q σ 1062 (lvL P b i) [] := by
  obtain ⟨v, σ1, τ1, hC6, hM7, hR1⟩ := s_subscriberCount l P hP σ hR
  refine X_aload_n (pc := 1062) C 1 dL_law_1062 rfl rfl ?_
  refine X_vI (i9 := .inr 0) (ci := 6) (n := 0) (pc := 1063) C [] hC6 m_c_X6_subscriberCount m_m_L_212 m_i_X6_subscriberCount m_s_X6_subscriberCount m_n_X6 ⟨by decide +kernel, by decide +kernel, by decide +kernel⟩ ⟨Nat.le_of_ble_eq_true rfl, Nat.le_of_ble_eq_true rfl⟩ ⟨rfl, rfl⟩ ⟨Nat.le_trans (Nat.le_add_right _ _) hc.1, Nat.le_trans (Nat.le_add_right _ _) hc.2⟩ hP.n0 rfl rfl rfl rfl (Nat.le_of_ble_eq_true rfl) rfl dL_law_1063 ?_
  refine X_aload_n (pc := 1066) C 2 dL_law_1066 rfl rfl ?_
  refine X_vI (i9 := .inr 9) (ci := 7) (n := 0) (pc := 1067) C [] hM7 m_c_X7_subscriberCount m_m_L_215 m_i_X7_subscriberCount m_s_X7_subscriberCount m_n_X7 ⟨by decide +kernel, by decide +kernel, by decide +kernel⟩ ⟨Nat.le_of_ble_eq_true rfl, Nat.le_of_ble_eq_true rfl⟩ ⟨rfl, rfl⟩ ⟨Nat.le_trans (Nat.le_add_right _ _) hc.1, Nat.le_trans (Nat.le_add_right _ _) hc.2⟩ (hP.2.1 9 (by decide) (by decide)) rfl rfl rfl rfl (Nat.le_of_ble_eq_true rfl) rfl dL_law_1067 ?_
  exact X_icmp_eq (pc := 1070) C 2900 dL_law_1070 (by decide) (fun _ => (XW.widen (Nat.le_add_right _ _) (Nat.le_add_right _ _) (kk _ hR1))) (fun q => absurd rfl q)

set_option maxRecDepth 100000 in
set_option maxHeartbeats 4000000 in
theorem k_20 (hl0 : l.stackTraces = false) (C : XC p s m args meth c P A 9 RL cL_law ret) (hP : xAll P) (hX : SC s A b L xs) (hi : i + 6 ≤ L) (hR : RV σ) (hc : cells + 8 ≤ room_1.cells ∧ slots + 64 ≤ room_1.slots) (kk : ∀ σ1, RV σ1 → XW p l e room_1 s m args below meth c P A 9 (cells + 8) (slots + 64) Q σ1 2900 (lvL P b i) []) : XW p l e room_1 s m args below meth c P A 9 cells slots Q σ 1075 (lvL P b i) [] := by
  obtain ⟨v, σ1, τ1, hC6, hM7, hR1⟩ := s_callCount l P hP σ hR
  refine X_aload_n (pc := 1075) C 1 dL_law_1075 rfl rfl ?_
  refine X_vI (i9 := .inr 0) (ci := 6) (n := 0) (pc := 1076) C [] hC6 m_c_X6_callCount m_m_L_216 m_i_X6_callCount m_s_X6_callCount m_n_X6 ⟨by decide +kernel, by decide +kernel, by decide +kernel⟩ ⟨Nat.le_of_ble_eq_true rfl, Nat.le_of_ble_eq_true rfl⟩ ⟨rfl, rfl⟩ ⟨Nat.le_trans (Nat.le_add_right _ _) hc.1, Nat.le_trans (Nat.le_add_right _ _) hc.2⟩ hP.n0 rfl rfl rfl rfl (Nat.le_of_ble_eq_true rfl) rfl dL_law_1076 ?_
  refine X_aload_n (pc := 1079) C 2 dL_law_1079 rfl rfl ?_
  refine X_vI (i9 := .inr 9) (ci := 7) (n := 0) (pc := 1080) C [] hM7 m_c_X7_callCount m_m_L_219 m_i_X7_callCount m_s_X7_callCount m_n_X7 ⟨by decide +kernel, by decide +kernel, by decide +kernel⟩ ⟨Nat.le_of_ble_eq_true rfl, Nat.le_of_ble_eq_true rfl⟩ ⟨rfl, rfl⟩ ⟨Nat.le_trans (Nat.le_add_right _ _) hc.1, Nat.le_trans (Nat.le_add_right _ _) hc.2⟩ (hP.2.1 9 (by decide) (by decide)) rfl rfl rfl rfl (Nat.le_of_ble_eq_true rfl) rfl dL_law_1080 ?_
  exact X_icmp_eq (pc := 1083) C 2900 dL_law_1083 (by decide) (fun _ => (XW.widen (Nat.le_add_right _ _) (Nat.le_add_right _ _) (kk _ hR1))) (fun q => absurd rfl q)

set_option maxRecDepth 100000 in
set_option maxHeartbeats 4000000 in
theorem k_21 (hl0 : l.stackTraces = false) (C : XC p s m args meth c P A 9 RL cL_law ret) (hP : xAll P) (hX : SC s A b L xs) (hi : i + 6 ≤ L) (hR : RV σ) (hc : cells + 8 ≤ room_1.cells ∧ slots + 64 ≤ room_1.slots) (kk : ∀ σ1, RV σ1 → XW p l e room_1 s m args below meth c P A 9 (cells + 8) (slots + 64) Q σ1 2900 (lvL P b i) []) : XW p l e room_1 s m args below meth c P A 9 cells slots Q σ 1088 (lvL P b i) [] := by
  obtain ⟨v, σ1, τ1, hC6, hM7, hR1⟩ := s_waitingCalls l P hP σ hR
  refine X_aload_n (pc := 1088) C 1 dL_law_1088 rfl rfl ?_
  refine X_vI (i9 := .inr 0) (ci := 6) (n := 0) (pc := 1089) C [] hC6 m_c_X6_waitingCalls m_m_L_220 m_i_X6_waitingCalls m_s_X6_waitingCalls m_n_X6 ⟨by decide +kernel, by decide +kernel, by decide +kernel⟩ ⟨Nat.le_of_ble_eq_true rfl, Nat.le_of_ble_eq_true rfl⟩ ⟨rfl, rfl⟩ ⟨Nat.le_trans (Nat.le_add_right _ _) hc.1, Nat.le_trans (Nat.le_add_right _ _) hc.2⟩ hP.n0 rfl rfl rfl rfl (Nat.le_of_ble_eq_true rfl) rfl dL_law_1089 ?_
  refine X_aload_n (pc := 1092) C 2 dL_law_1092 rfl rfl ?_
  refine X_vI (i9 := .inr 9) (ci := 7) (n := 0) (pc := 1093) C [] hM7 m_c_X7_waitingCalls m_m_L_223 m_i_X7_waitingCalls m_s_X7_waitingCalls m_n_X7 ⟨by decide +kernel, by decide +kernel, by decide +kernel⟩ ⟨Nat.le_of_ble_eq_true rfl, Nat.le_of_ble_eq_true rfl⟩ ⟨rfl, rfl⟩ ⟨Nat.le_trans (Nat.le_add_right _ _) hc.1, Nat.le_trans (Nat.le_add_right _ _) hc.2⟩ (hP.2.1 9 (by decide) (by decide)) rfl rfl rfl rfl (Nat.le_of_ble_eq_true rfl) rfl dL_law_1093 ?_
  exact X_icmp_eq (pc := 1096) C 2900 dL_law_1096 (by decide) (fun _ => (XW.widen (Nat.le_add_right _ _) (Nat.le_add_right _ _) (kk _ hR1))) (fun q => absurd rfl q)

set_option maxRecDepth 100000 in
set_option maxHeartbeats 4000000 in
theorem k_22 (hl0 : l.stackTraces = false) (C : XC p s m args meth c P A 9 RL cL_law ret) (hP : xAll P) (hX : SC s A b L xs) (hi : i + 6 ≤ L) (hR : RV σ) (hc : cells + 8 ≤ room_1.cells ∧ slots + 64 ≤ room_1.slots) (kk : ∀ σ1, RV σ1 → XW p l e room_1 s m args below meth c P A 9 (cells + 8) (slots + 64) Q σ1 2900 (lvL P b i) []) : XW p l e room_1 s m args below meth c P A 9 cells slots Q σ 1101 (lvL P b i) [] := by
  obtain ⟨v, σ1, τ1, hC6, hM7, hR1⟩ := s_talkingCalls l P hP σ hR
  refine X_aload_n (pc := 1101) C 1 dL_law_1101 rfl rfl ?_
  refine X_vI (i9 := .inr 0) (ci := 6) (n := 0) (pc := 1102) C [] hC6 m_c_X6_talkingCalls m_m_L_224 m_i_X6_talkingCalls m_s_X6_talkingCalls m_n_X6 ⟨by decide +kernel, by decide +kernel, by decide +kernel⟩ ⟨Nat.le_of_ble_eq_true rfl, Nat.le_of_ble_eq_true rfl⟩ ⟨rfl, rfl⟩ ⟨Nat.le_trans (Nat.le_add_right _ _) hc.1, Nat.le_trans (Nat.le_add_right _ _) hc.2⟩ hP.n0 rfl rfl rfl rfl (Nat.le_of_ble_eq_true rfl) rfl dL_law_1102 ?_
  refine X_aload_n (pc := 1105) C 2 dL_law_1105 rfl rfl ?_
  refine X_vI (i9 := .inr 9) (ci := 7) (n := 0) (pc := 1106) C [] hM7 m_c_X7_talkingCalls m_m_L_227 m_i_X7_talkingCalls m_s_X7_talkingCalls m_n_X7 ⟨by decide +kernel, by decide +kernel, by decide +kernel⟩ ⟨Nat.le_of_ble_eq_true rfl, Nat.le_of_ble_eq_true rfl⟩ ⟨rfl, rfl⟩ ⟨Nat.le_trans (Nat.le_add_right _ _) hc.1, Nat.le_trans (Nat.le_add_right _ _) hc.2⟩ (hP.2.1 9 (by decide) (by decide)) rfl rfl rfl rfl (Nat.le_of_ble_eq_true rfl) rfl dL_law_1106 ?_
  exact X_icmp_eq (pc := 1109) C 2900 dL_law_1109 (by decide) (fun _ => (XW.widen (Nat.le_add_right _ _) (Nat.le_add_right _ _) (kk _ hR1))) (fun q => absurd rfl q)

set_option maxRecDepth 100000 in
set_option maxHeartbeats 4000000 in
theorem k_23 (hl0 : l.stackTraces = false) (C : XC p s m args meth c P A 9 RL cL_law ret) (hP : xAll P) (hX : SC s A b L xs) (hi : i + 6 ≤ L) (hR : RV σ) (hc : cells + 8 ≤ room_1.cells ∧ slots + 64 ≤ room_1.slots) (kk : ∀ σ1, RV σ1 → XW p l e room_1 s m args below meth c P A 9 (cells + 8) (slots + 64) Q σ1 2900 (lvL P b i) []) : XW p l e room_1 s m args below meth c P A 9 cells slots Q σ 1114 (lvL P b i) [] := by
  obtain ⟨v, σ1, τ1, hC6, hM7, hR1⟩ := s_undoableChanges l P hP σ hR
  refine X_aload_n (pc := 1114) C 1 dL_law_1114 rfl rfl ?_
  refine X_vI (i9 := .inr 0) (ci := 6) (n := 0) (pc := 1115) C [] hC6 m_c_X6_undoableChanges m_m_L_228 m_i_X6_undoableChanges m_s_X6_undoableChanges m_n_X6 ⟨by decide +kernel, by decide +kernel, by decide +kernel⟩ ⟨Nat.le_of_ble_eq_true rfl, Nat.le_of_ble_eq_true rfl⟩ ⟨rfl, rfl⟩ ⟨Nat.le_trans (Nat.le_add_right _ _) hc.1, Nat.le_trans (Nat.le_add_right _ _) hc.2⟩ hP.n0 rfl rfl rfl rfl (Nat.le_of_ble_eq_true rfl) rfl dL_law_1115 ?_
  refine X_aload_n (pc := 1118) C 2 dL_law_1118 rfl rfl ?_
  refine X_vI (i9 := .inr 9) (ci := 7) (n := 0) (pc := 1119) C [] hM7 m_c_X7_undoableChanges m_m_L_231 m_i_X7_undoableChanges m_s_X7_undoableChanges m_n_X7 ⟨by decide +kernel, by decide +kernel, by decide +kernel⟩ ⟨Nat.le_of_ble_eq_true rfl, Nat.le_of_ble_eq_true rfl⟩ ⟨rfl, rfl⟩ ⟨Nat.le_trans (Nat.le_add_right _ _) hc.1, Nat.le_trans (Nat.le_add_right _ _) hc.2⟩ (hP.2.1 9 (by decide) (by decide)) rfl rfl rfl rfl (Nat.le_of_ble_eq_true rfl) rfl dL_law_1119 ?_
  exact X_icmp_eq (pc := 1122) C 2900 dL_law_1122 (by decide) (fun _ => (XW.widen (Nat.le_add_right _ _) (Nat.le_add_right _ _) (kk _ hR1))) (fun q => absurd rfl q)

set_option maxRecDepth 100000 in
set_option maxHeartbeats 4000000 in
theorem k_24 (hl0 : l.stackTraces = false) (C : XC p s m args meth c P A 9 RL cL_law ret) (hP : xAll P) (hX : SC s A b L xs) (hi : i + 6 ≤ L) (hR : RV σ) (hc : cells + 8 ≤ room_1.cells ∧ slots + 64 ≤ room_1.slots) (kk : ∀ σ1, RV σ1 → XW p l e room_1 s m args below meth c P A 9 (cells + 8) (slots + 64) Q σ1 2900 (lvL P b i) []) : XW p l e room_1 s m args below meth c P A 9 cells slots Q σ 1127 (lvL P b i) [] := by
  refine X_aload_n (pc := 1127) C 1 dL_law_1127 rfl rfl ?_
  refine X_arg (pc := 1128) C hX hi 1 (by decide) (by decide) rfl rfl dL_law_1128 dL_law_1129 dL_law_1131 dL_law_1132 dL_law_1133 ?_
  refine X_aload_n (pc := 1134) C 3 dL_law_1134 rfl rfl ?_
  refine X_callSH (n := 3) (pc := 1135) C [.ref (P.2.2.1 (.inr 0)), .int (xs (i + 1)), .ref (P.2.2.1 (.inr 19))] (p_isLineBusy l hl0 P hP σ hR (xs (i + 1))) m_h_L_isLineBusy m_m_L_232 m_t_L_isLineBusy m_n_L ⟨by decide +kernel, by decide +kernel, by decide +kernel⟩ ⟨Nat.le_of_ble_eq_true rfl, Nat.le_of_ble_eq_true rfl⟩ ⟨Nat.le_trans (Nat.add_le_add_left (Nat.le_of_ble_eq_true rfl) _) hc.1, Nat.le_trans (Nat.add_le_add_left (Nat.le_of_ble_eq_true rfl) _) hc.2⟩ rfl (Nat.le_of_ble_eq_true rfl) rfl dL_law_1135 (fun v9 σ1 hp => ?_)
  obtain ⟨k, v, τ1, rfl, hM, hR1, h7, h0, hB⟩ := hp
  show XW p l e room_1 s m args below meth c P A 9 _ _ Q σ1 1138 (lvL P b i) [.int k]
  refine X_istore (pc := 1138) (lv1 := [(0, .ref b), (1, .ref (P.2.2.1 (.inr 0))), (2, .ref (P.2.2.1 (.inr 9))), (3, .ref (P.2.2.1 (.inr 19))), (4, .int (nI i)), (5, .int k)]) C dL_law_1138 (by decide) rfl ?_
  refine X_aload_n (pc := 1140) C 2 dL_law_1140 rfl rfl ?_
  refine X_arg (pc := 1141) C hX hi 1 (by decide) (by decide) rfl rfl dL_law_1141 dL_law_1142 dL_law_1144 dL_law_1145 dL_law_1146 ?_
  refine X_vI (i9 := .inr 9) (ci := 7) (n := 1) (pc := 1147) C [.int (xs (i + 1))] hM m_c_X7_isLineBusy m_m_L_234 m_i_X7_isLineBusy m_s_X7_isLineBusy m_n_X7 ⟨by decide +kernel, by decide +kernel, by decide +kernel⟩ ⟨Nat.le_of_ble_eq_true rfl, Nat.le_of_ble_eq_true rfl⟩ ⟨rfl, rfl⟩ ⟨Nat.le_trans (Nat.add_le_add_left (Nat.le_of_ble_eq_true rfl) _) hc.1, Nat.le_trans (Nat.add_le_add_left (Nat.le_of_ble_eq_true rfl) _) hc.2⟩ (hP.2.1 9 (by decide) (by decide)) rfl rfl rfl rfl (Nat.le_of_ble_eq_true rfl) rfl dL_law_1147 ?_
  exact X_tailB (pc := 1150) C hP h7 h0 hB ⟨Nat.le_trans (Nat.add_le_add_left (Nat.le_of_ble_eq_true rfl) _) hc.1, Nat.le_trans (Nat.add_le_add_left (Nat.le_of_ble_eq_true rfl) _) hc.2⟩ dL_law_1150 dL_law_1152 dL_law_1153 dL_law_1156 dL_law_1158 dL_law_1163 dL_law_1165 dL_law_1168 dL_law_1169 dL_law_1170 dL_law_1171 dL_law_1173 dL_law_1176 dL_law_1177 dL_law_1180 dL_law_1181 dL_law_1182 dL_law_1187 (by decide) (XW.widen (Nat.add_le_add_left (Nat.le_of_ble_eq_true rfl) _) (Nat.add_le_add_left (Nat.le_of_ble_eq_true rfl) _) (kk _ hR1))

set_option maxRecDepth 100000 in
set_option maxHeartbeats 4000000 in
theorem k_25 (hl0 : l.stackTraces = false) (C : XC p s m args meth c P A 9 RL cL_law ret) (hP : xAll P) (hX : SC s A b L xs) (hi : i + 6 ≤ L) (hR : RV σ) (hc : cells + 8 ≤ room_1.cells ∧ slots + 64 ≤ room_1.slots) (kk : ∀ σ1, RV σ1 → XW p l e room_1 s m args below meth c P A 9 (cells + 8) (slots + 64) Q σ1 2900 (lvL P b i) []) : XW p l e room_1 s m args below meth c P A 9 cells slots Q σ 1190 (lvL P b i) [] := by
  refine X_aload_n (pc := 1190) C 1 dL_law_1190 rfl rfl ?_
  refine X_arg (pc := 1191) C hX hi 1 (by decide) (by decide) rfl rfl dL_law_1191 dL_law_1192 dL_law_1194 dL_law_1195 dL_law_1196 ?_
  refine X_aload_n (pc := 1197) C 3 dL_law_1197 rfl rfl ?_
  refine X_callSH (n := 3) (pc := 1198) C [.ref (P.2.2.1 (.inr 0)), .int (xs (i + 1)), .ref (P.2.2.1 (.inr 19))] (p_isTrunkBusy l hl0 P hP σ hR (xs (i + 1))) m_h_L_isTrunkBusy m_m_L_235 m_t_L_isTrunkBusy m_n_L ⟨by decide +kernel, by decide +kernel, by decide +kernel⟩ ⟨Nat.le_of_ble_eq_true rfl, Nat.le_of_ble_eq_true rfl⟩ ⟨Nat.le_trans (Nat.add_le_add_left (Nat.le_of_ble_eq_true rfl) _) hc.1, Nat.le_trans (Nat.add_le_add_left (Nat.le_of_ble_eq_true rfl) _) hc.2⟩ rfl (Nat.le_of_ble_eq_true rfl) rfl dL_law_1198 (fun v9 σ1 hp => ?_)
  obtain ⟨k, v, τ1, rfl, hM, hR1, h7, h0, hB⟩ := hp
  show XW p l e room_1 s m args below meth c P A 9 _ _ Q σ1 1201 (lvL P b i) [.int k]
  refine X_istore (pc := 1201) (lv1 := [(0, .ref b), (1, .ref (P.2.2.1 (.inr 0))), (2, .ref (P.2.2.1 (.inr 9))), (3, .ref (P.2.2.1 (.inr 19))), (4, .int (nI i)), (5, .int k)]) C dL_law_1201 (by decide) rfl ?_
  refine X_aload_n (pc := 1203) C 2 dL_law_1203 rfl rfl ?_
  refine X_arg (pc := 1204) C hX hi 1 (by decide) (by decide) rfl rfl dL_law_1204 dL_law_1205 dL_law_1207 dL_law_1208 dL_law_1209 ?_
  refine X_vI (i9 := .inr 9) (ci := 7) (n := 1) (pc := 1210) C [.int (xs (i + 1))] hM m_c_X7_isTrunkBusy m_m_L_237 m_i_X7_isTrunkBusy m_s_X7_isTrunkBusy m_n_X7 ⟨by decide +kernel, by decide +kernel, by decide +kernel⟩ ⟨Nat.le_of_ble_eq_true rfl, Nat.le_of_ble_eq_true rfl⟩ ⟨rfl, rfl⟩ ⟨Nat.le_trans (Nat.add_le_add_left (Nat.le_of_ble_eq_true rfl) _) hc.1, Nat.le_trans (Nat.add_le_add_left (Nat.le_of_ble_eq_true rfl) _) hc.2⟩ (hP.2.1 9 (by decide) (by decide)) rfl rfl rfl rfl (Nat.le_of_ble_eq_true rfl) rfl dL_law_1210 ?_
  exact X_tailB (pc := 1213) C hP h7 h0 hB ⟨Nat.le_trans (Nat.add_le_add_left (Nat.le_of_ble_eq_true rfl) _) hc.1, Nat.le_trans (Nat.add_le_add_left (Nat.le_of_ble_eq_true rfl) _) hc.2⟩ dL_law_1213 dL_law_1215 dL_law_1216 dL_law_1219 dL_law_1221 dL_law_1226 dL_law_1228 dL_law_1231 dL_law_1232 dL_law_1233 dL_law_1234 dL_law_1236 dL_law_1239 dL_law_1240 dL_law_1243 dL_law_1244 dL_law_1245 dL_law_1250 (by decide) (XW.widen (Nat.add_le_add_left (Nat.le_of_ble_eq_true rfl) _) (Nat.add_le_add_left (Nat.le_of_ble_eq_true rfl) _) (kk _ hR1))

set_option maxRecDepth 100000 in
set_option maxHeartbeats 4000000 in
theorem k_26 (hl0 : l.stackTraces = false) (C : XC p s m args meth c P A 9 RL cL_law ret) (hP : xAll P) (hX : SC s A b L xs) (hi : i + 6 ≤ L) (hR : RV σ) (hc : cells + 8 ≤ room_1.cells ∧ slots + 64 ≤ room_1.slots) (kk : ∀ σ1, RV σ1 → XW p l e room_1 s m args below meth c P A 9 (cells + 8) (slots + 64) Q σ1 2900 (lvL P b i) []) : XW p l e room_1 s m args below meth c P A 9 cells slots Q σ 1253 (lvL P b i) [] := by
  refine X_aload_n (pc := 1253) C 1 dL_law_1253 rfl rfl ?_
  refine X_arg (pc := 1254) C hX hi 1 (by decide) (by decide) rfl rfl dL_law_1254 dL_law_1255 dL_law_1257 dL_law_1258 dL_law_1259 ?_
  refine X_aload_n (pc := 1260) C 3 dL_law_1260 rfl rfl ?_
  refine X_callSH (n := 3) (pc := 1261) C [.ref (P.2.2.1 (.inr 0)), .int (xs (i + 1)), .ref (P.2.2.1 (.inr 19))] (p_toll l hl0 P hP σ hR (xs (i + 1))) m_h_L_toll m_m_L_238 m_t_L_toll m_n_L ⟨by decide +kernel, by decide +kernel, by decide +kernel⟩ ⟨Nat.le_of_ble_eq_true rfl, Nat.le_of_ble_eq_true rfl⟩ ⟨Nat.le_trans (Nat.add_le_add_left (Nat.le_of_ble_eq_true rfl) _) hc.1, Nat.le_trans (Nat.add_le_add_left (Nat.le_of_ble_eq_true rfl) _) hc.2⟩ rfl (Nat.le_of_ble_eq_true rfl) rfl dL_law_1261 (fun v9 σ1 hp => ?_)
  obtain ⟨k, v, τ1, rfl, hM, hR1, h7, h0, hB⟩ := hp
  show XW p l e room_1 s m args below meth c P A 9 _ _ Q σ1 1264 (lvL P b i) [.int k]
  refine X_istore (pc := 1264) (lv1 := [(0, .ref b), (1, .ref (P.2.2.1 (.inr 0))), (2, .ref (P.2.2.1 (.inr 9))), (3, .ref (P.2.2.1 (.inr 19))), (4, .int (nI i)), (5, .int k)]) C dL_law_1264 (by decide) rfl ?_
  refine X_aload_n (pc := 1266) C 2 dL_law_1266 rfl rfl ?_
  refine X_arg (pc := 1267) C hX hi 1 (by decide) (by decide) rfl rfl dL_law_1267 dL_law_1268 dL_law_1270 dL_law_1271 dL_law_1272 ?_
  refine X_vI (i9 := .inr 9) (ci := 7) (n := 1) (pc := 1273) C [.int (xs (i + 1))] hM m_c_X7_toll m_m_L_240 m_i_X7_toll m_s_X7_toll m_n_X7 ⟨by decide +kernel, by decide +kernel, by decide +kernel⟩ ⟨Nat.le_of_ble_eq_true rfl, Nat.le_of_ble_eq_true rfl⟩ ⟨rfl, rfl⟩ ⟨Nat.le_trans (Nat.add_le_add_left (Nat.le_of_ble_eq_true rfl) _) hc.1, Nat.le_trans (Nat.add_le_add_left (Nat.le_of_ble_eq_true rfl) _) hc.2⟩ (hP.2.1 9 (by decide) (by decide)) rfl rfl rfl rfl (Nat.le_of_ble_eq_true rfl) rfl dL_law_1273 ?_
  exact X_tailI (pc := 1276) C hP h7 h0 ⟨Nat.le_trans (Nat.add_le_add_left (Nat.le_of_ble_eq_true rfl) _) hc.1, Nat.le_trans (Nat.add_le_add_left (Nat.le_of_ble_eq_true rfl) _) hc.2⟩ dL_law_1276 dL_law_1278 dL_law_1279 dL_law_1282 dL_law_1284 dL_law_1289 dL_law_1291 dL_law_1294 dL_law_1295 dL_law_1296 dL_law_1297 dL_law_1299 dL_law_1300 dL_law_1301 dL_law_1306 (by decide) (XW.widen (Nat.add_le_add_left (Nat.le_of_ble_eq_true rfl) _) (Nat.add_le_add_left (Nat.le_of_ble_eq_true rfl) _) (kk _ hR1))

set_option maxRecDepth 100000 in
set_option maxHeartbeats 4000000 in
theorem k_27 (hl0 : l.stackTraces = false) (C : XC p s m args meth c P A 9 RL cL_law ret) (hP : xAll P) (hX : SC s A b L xs) (hi : i + 6 ≤ L) (hR : RV σ) (hc : cells + 8 ≤ room_1.cells ∧ slots + 64 ≤ room_1.slots) (kk : ∀ σ1, RV σ1 → XW p l e room_1 s m args below meth c P A 9 (cells + 8) (slots + 64) Q σ1 2900 (lvL P b i) []) : XW p l e room_1 s m args below meth c P A 9 cells slots Q σ 1309 (lvL P b i) [] := by
  refine X_aload_n (pc := 1309) C 1 dL_law_1309 rfl rfl ?_
  refine X_arg (pc := 1310) C hX hi 1 (by decide) (by decide) rfl rfl dL_law_1310 dL_law_1311 dL_law_1313 dL_law_1314 dL_law_1315 ?_
  refine X_aload_n (pc := 1316) C 3 dL_law_1316 rfl rfl ?_
  refine X_callSH (n := 3) (pc := 1317) C [.ref (P.2.2.1 (.inr 0)), .int (xs (i + 1)), .ref (P.2.2.1 (.inr 19))] (p_lineOf l hl0 P hP σ hR (xs (i + 1))) m_h_L_lineOf m_m_L_241 m_t_L_lineOf m_n_L ⟨by decide +kernel, by decide +kernel, by decide +kernel⟩ ⟨Nat.le_of_ble_eq_true rfl, Nat.le_of_ble_eq_true rfl⟩ ⟨Nat.le_trans (Nat.add_le_add_left (Nat.le_of_ble_eq_true rfl) _) hc.1, Nat.le_trans (Nat.add_le_add_left (Nat.le_of_ble_eq_true rfl) _) hc.2⟩ rfl (Nat.le_of_ble_eq_true rfl) rfl dL_law_1317 (fun v9 σ1 hp => ?_)
  obtain ⟨k, v, τ1, rfl, hM, hR1, h7, h0, hB⟩ := hp
  show XW p l e room_1 s m args below meth c P A 9 _ _ Q σ1 1320 (lvL P b i) [.int k]
  refine X_istore (pc := 1320) (lv1 := [(0, .ref b), (1, .ref (P.2.2.1 (.inr 0))), (2, .ref (P.2.2.1 (.inr 9))), (3, .ref (P.2.2.1 (.inr 19))), (4, .int (nI i)), (5, .int k)]) C dL_law_1320 (by decide) rfl ?_
  refine X_aload_n (pc := 1322) C 2 dL_law_1322 rfl rfl ?_
  refine X_arg (pc := 1323) C hX hi 1 (by decide) (by decide) rfl rfl dL_law_1323 dL_law_1324 dL_law_1326 dL_law_1327 dL_law_1328 ?_
  refine X_vI (i9 := .inr 9) (ci := 7) (n := 1) (pc := 1329) C [.int (xs (i + 1))] hM m_c_X7_lineOf m_m_L_243 m_i_X7_lineOf m_s_X7_lineOf m_n_X7 ⟨by decide +kernel, by decide +kernel, by decide +kernel⟩ ⟨Nat.le_of_ble_eq_true rfl, Nat.le_of_ble_eq_true rfl⟩ ⟨rfl, rfl⟩ ⟨Nat.le_trans (Nat.add_le_add_left (Nat.le_of_ble_eq_true rfl) _) hc.1, Nat.le_trans (Nat.add_le_add_left (Nat.le_of_ble_eq_true rfl) _) hc.2⟩ (hP.2.1 9 (by decide) (by decide)) rfl rfl rfl rfl (Nat.le_of_ble_eq_true rfl) rfl dL_law_1329 ?_
  exact X_tailI (pc := 1332) C hP h7 h0 ⟨Nat.le_trans (Nat.add_le_add_left (Nat.le_of_ble_eq_true rfl) _) hc.1, Nat.le_trans (Nat.add_le_add_left (Nat.le_of_ble_eq_true rfl) _) hc.2⟩ dL_law_1332 dL_law_1334 dL_law_1335 dL_law_1338 dL_law_1340 dL_law_1345 dL_law_1347 dL_law_1350 dL_law_1351 dL_law_1352 dL_law_1353 dL_law_1355 dL_law_1356 dL_law_1357 dL_law_1362 (by decide) (XW.widen (Nat.add_le_add_left (Nat.le_of_ble_eq_true rfl) _) (Nat.add_le_add_left (Nat.le_of_ble_eq_true rfl) _) (kk _ hR1))

set_option maxRecDepth 100000 in
set_option maxHeartbeats 4000000 in
theorem k_28 (hl0 : l.stackTraces = false) (C : XC p s m args meth c P A 9 RL cL_law ret) (hP : xAll P) (hX : SC s A b L xs) (hi : i + 6 ≤ L) (hR : RV σ) (hc : cells + 8 ≤ room_1.cells ∧ slots + 64 ≤ room_1.slots) (kk : ∀ σ1, RV σ1 → XW p l e room_1 s m args below meth c P A 9 (cells + 8) (slots + 64) Q σ1 2900 (lvL P b i) []) : XW p l e room_1 s m args below meth c P A 9 cells slots Q σ 1365 (lvL P b i) [] := by
  refine X_aload_n (pc := 1365) C 1 dL_law_1365 rfl rfl ?_
  refine X_arg (pc := 1366) C hX hi 1 (by decide) (by decide) rfl rfl dL_law_1366 dL_law_1367 dL_law_1369 dL_law_1370 dL_law_1371 ?_
  refine X_aload_n (pc := 1372) C 3 dL_law_1372 rfl rfl ?_
  refine X_callSH (n := 3) (pc := 1373) C [.ref (P.2.2.1 (.inr 0)), .int (xs (i + 1)), .ref (P.2.2.1 (.inr 19))] (p_curiosity l hl0 P hP σ hR (xs (i + 1))) m_h_L_curiosity m_m_L_244 m_t_L_curiosity m_n_L ⟨by decide +kernel, by decide +kernel, by decide +kernel⟩ ⟨Nat.le_of_ble_eq_true rfl, Nat.le_of_ble_eq_true rfl⟩ ⟨Nat.le_trans (Nat.add_le_add_left (Nat.le_of_ble_eq_true rfl) _) hc.1, Nat.le_trans (Nat.add_le_add_left (Nat.le_of_ble_eq_true rfl) _) hc.2⟩ rfl (Nat.le_of_ble_eq_true rfl) rfl dL_law_1373 (fun v9 σ1 hp => ?_)
  obtain ⟨k, v, τ1, rfl, hM, hR1, h7, h0, hB⟩ := hp
  show XW p l e room_1 s m args below meth c P A 9 _ _ Q σ1 1376 (lvL P b i) [.int k]
  refine X_istore (pc := 1376) (lv1 := [(0, .ref b), (1, .ref (P.2.2.1 (.inr 0))), (2, .ref (P.2.2.1 (.inr 9))), (3, .ref (P.2.2.1 (.inr 19))), (4, .int (nI i)), (5, .int k)]) C dL_law_1376 (by decide) rfl ?_
  refine X_aload_n (pc := 1378) C 2 dL_law_1378 rfl rfl ?_
  refine X_arg (pc := 1379) C hX hi 1 (by decide) (by decide) rfl rfl dL_law_1379 dL_law_1380 dL_law_1382 dL_law_1383 dL_law_1384 ?_
  refine X_vI (i9 := .inr 9) (ci := 7) (n := 1) (pc := 1385) C [.int (xs (i + 1))] hM m_c_X7_curiosity m_m_L_246 m_i_X7_curiosity m_s_X7_curiosity m_n_X7 ⟨by decide +kernel, by decide +kernel, by decide +kernel⟩ ⟨Nat.le_of_ble_eq_true rfl, Nat.le_of_ble_eq_true rfl⟩ ⟨rfl, rfl⟩ ⟨Nat.le_trans (Nat.add_le_add_left (Nat.le_of_ble_eq_true rfl) _) hc.1, Nat.le_trans (Nat.add_le_add_left (Nat.le_of_ble_eq_true rfl) _) hc.2⟩ (hP.2.1 9 (by decide) (by decide)) rfl rfl rfl rfl (Nat.le_of_ble_eq_true rfl) rfl dL_law_1385 ?_
  exact X_tailI (pc := 1388) C hP h7 h0 ⟨Nat.le_trans (Nat.add_le_add_left (Nat.le_of_ble_eq_true rfl) _) hc.1, Nat.le_trans (Nat.add_le_add_left (Nat.le_of_ble_eq_true rfl) _) hc.2⟩ dL_law_1388 dL_law_1390 dL_law_1391 dL_law_1394 dL_law_1396 dL_law_1401 dL_law_1403 dL_law_1406 dL_law_1407 dL_law_1408 dL_law_1409 dL_law_1411 dL_law_1412 dL_law_1413 dL_law_1418 (by decide) (XW.widen (Nat.add_le_add_left (Nat.le_of_ble_eq_true rfl) _) (Nat.add_le_add_left (Nat.le_of_ble_eq_true rfl) _) (kk _ hR1))

set_option maxRecDepth 100000 in
set_option maxHeartbeats 4000000 in
theorem k_29 (hl0 : l.stackTraces = false) (C : XC p s m args meth c P A 9 RL cL_law ret) (hP : xAll P) (hX : SC s A b L xs) (hi : i + 6 ≤ L) (hR : RV σ) (hc : cells + 8 ≤ room_1.cells ∧ slots + 64 ≤ room_1.slots) (kk : ∀ σ1, RV σ1 → XW p l e room_1 s m args below meth c P A 9 (cells + 8) (slots + 64) Q σ1 2900 (lvL P b i) []) : XW p l e room_1 s m args below meth c P A 9 cells slots Q σ 1421 (lvL P b i) [] := by
  refine X_aload_n (pc := 1421) C 1 dL_law_1421 rfl rfl ?_
  refine X_arg (pc := 1422) C hX hi 1 (by decide) (by decide) rfl rfl dL_law_1422 dL_law_1423 dL_law_1425 dL_law_1426 dL_law_1427 ?_
  refine X_aload_n (pc := 1428) C 3 dL_law_1428 rfl rfl ?_
  refine X_callSH (n := 3) (pc := 1429) C [.ref (P.2.2.1 (.inr 0)), .int (xs (i + 1)), .ref (P.2.2.1 (.inr 19))] (p_bill l hl0 P hP σ hR (xs (i + 1))) m_h_L_bill m_m_L_247 m_t_L_bill m_n_L ⟨by decide +kernel, by decide +kernel, by decide +kernel⟩ ⟨Nat.le_of_ble_eq_true rfl, Nat.le_of_ble_eq_true rfl⟩ ⟨Nat.le_trans (Nat.add_le_add_left (Nat.le_of_ble_eq_true rfl) _) hc.1, Nat.le_trans (Nat.add_le_add_left (Nat.le_of_ble_eq_true rfl) _) hc.2⟩ rfl (Nat.le_of_ble_eq_true rfl) rfl dL_law_1429 (fun v9 σ1 hp => ?_)
  obtain ⟨k, v, τ1, rfl, hM, hR1, h7, h0, hB⟩ := hp
  show XW p l e room_1 s m args below meth c P A 9 _ _ Q σ1 1432 (lvL P b i) [.int k]
  refine X_istore (pc := 1432) (lv1 := [(0, .ref b), (1, .ref (P.2.2.1 (.inr 0))), (2, .ref (P.2.2.1 (.inr 9))), (3, .ref (P.2.2.1 (.inr 19))), (4, .int (nI i)), (5, .int k)]) C dL_law_1432 (by decide) rfl ?_
  refine X_aload_n (pc := 1434) C 2 dL_law_1434 rfl rfl ?_
  refine X_arg (pc := 1435) C hX hi 1 (by decide) (by decide) rfl rfl dL_law_1435 dL_law_1436 dL_law_1438 dL_law_1439 dL_law_1440 ?_
  refine X_vI (i9 := .inr 9) (ci := 7) (n := 1) (pc := 1441) C [.int (xs (i + 1))] hM m_c_X7_bill m_m_L_249 m_i_X7_bill m_s_X7_bill m_n_X7 ⟨by decide +kernel, by decide +kernel, by decide +kernel⟩ ⟨Nat.le_of_ble_eq_true rfl, Nat.le_of_ble_eq_true rfl⟩ ⟨rfl, rfl⟩ ⟨Nat.le_trans (Nat.add_le_add_left (Nat.le_of_ble_eq_true rfl) _) hc.1, Nat.le_trans (Nat.add_le_add_left (Nat.le_of_ble_eq_true rfl) _) hc.2⟩ (hP.2.1 9 (by decide) (by decide)) rfl rfl rfl rfl (Nat.le_of_ble_eq_true rfl) rfl dL_law_1441 ?_
  exact X_tailI (pc := 1444) C hP h7 h0 ⟨Nat.le_trans (Nat.add_le_add_left (Nat.le_of_ble_eq_true rfl) _) hc.1, Nat.le_trans (Nat.add_le_add_left (Nat.le_of_ble_eq_true rfl) _) hc.2⟩ dL_law_1444 dL_law_1446 dL_law_1447 dL_law_1450 dL_law_1452 dL_law_1457 dL_law_1459 dL_law_1462 dL_law_1463 dL_law_1464 dL_law_1465 dL_law_1467 dL_law_1468 dL_law_1469 dL_law_1474 (by decide) (XW.widen (Nat.add_le_add_left (Nat.le_of_ble_eq_true rfl) _) (Nat.add_le_add_left (Nat.le_of_ble_eq_true rfl) _) (kk _ hR1))

set_option maxRecDepth 100000 in
set_option maxHeartbeats 4000000 in
theorem k_30 (hl0 : l.stackTraces = false) (C : XC p s m args meth c P A 9 RL cL_law ret) (hP : xAll P) (hX : SC s A b L xs) (hi : i + 6 ≤ L) (hR : RV σ) (hc : cells + 8 ≤ room_1.cells ∧ slots + 64 ≤ room_1.slots) (kk : ∀ σ1, RV σ1 → XW p l e room_1 s m args below meth c P A 9 (cells + 8) (slots + 64) Q σ1 2900 (lvL P b i) []) : XW p l e room_1 s m args below meth c P A 9 cells slots Q σ 1477 (lvL P b i) [] := by
  refine X_aload_n (pc := 1477) C 1 dL_law_1477 rfl rfl ?_
  refine X_arg (pc := 1478) C hX hi 1 (by decide) (by decide) rfl rfl dL_law_1478 dL_law_1479 dL_law_1481 dL_law_1482 dL_law_1483 ?_
  refine X_aload_n (pc := 1484) C 3 dL_law_1484 rfl rfl ?_
  refine X_callSH (n := 3) (pc := 1485) C [.ref (P.2.2.1 (.inr 0)), .int (xs (i + 1)), .ref (P.2.2.1 (.inr 19))] (p_ringCount l hl0 P hP σ hR (xs (i + 1))) m_h_L_ringCount m_m_L_250 m_t_L_ringCount m_n_L ⟨by decide +kernel, by decide +kernel, by decide +kernel⟩ ⟨Nat.le_of_ble_eq_true rfl, Nat.le_of_ble_eq_true rfl⟩ ⟨Nat.le_trans (Nat.add_le_add_left (Nat.le_of_ble_eq_true rfl) _) hc.1, Nat.le_trans (Nat.add_le_add_left (Nat.le_of_ble_eq_true rfl) _) hc.2⟩ rfl (Nat.le_of_ble_eq_true rfl) rfl dL_law_1485 (fun v9 σ1 hp => ?_)
  obtain ⟨k, v, τ1, rfl, hM, hR1, h7, h0, hB⟩ := hp
  show XW p l e room_1 s m args below meth c P A 9 _ _ Q σ1 1488 (lvL P b i) [.int k]
  refine X_istore (pc := 1488) (lv1 := [(0, .ref b), (1, .ref (P.2.2.1 (.inr 0))), (2, .ref (P.2.2.1 (.inr 9))), (3, .ref (P.2.2.1 (.inr 19))), (4, .int (nI i)), (5, .int k)]) C dL_law_1488 (by decide) rfl ?_
  refine X_aload_n (pc := 1490) C 2 dL_law_1490 rfl rfl ?_
  refine X_arg (pc := 1491) C hX hi 1 (by decide) (by decide) rfl rfl dL_law_1491 dL_law_1492 dL_law_1494 dL_law_1495 dL_law_1496 ?_
  refine X_vI (i9 := .inr 9) (ci := 7) (n := 1) (pc := 1497) C [.int (xs (i + 1))] hM m_c_X7_ringCount m_m_L_252 m_i_X7_ringCount m_s_X7_ringCount m_n_X7 ⟨by decide +kernel, by decide +kernel, by decide +kernel⟩ ⟨Nat.le_of_ble_eq_true rfl, Nat.le_of_ble_eq_true rfl⟩ ⟨rfl, rfl⟩ ⟨Nat.le_trans (Nat.add_le_add_left (Nat.le_of_ble_eq_true rfl) _) hc.1, Nat.le_trans (Nat.add_le_add_left (Nat.le_of_ble_eq_true rfl) _) hc.2⟩ (hP.2.1 9 (by decide) (by decide)) rfl rfl rfl rfl (Nat.le_of_ble_eq_true rfl) rfl dL_law_1497 ?_
  exact X_tailI (pc := 1500) C hP h7 h0 ⟨Nat.le_trans (Nat.add_le_add_left (Nat.le_of_ble_eq_true rfl) _) hc.1, Nat.le_trans (Nat.add_le_add_left (Nat.le_of_ble_eq_true rfl) _) hc.2⟩ dL_law_1500 dL_law_1502 dL_law_1503 dL_law_1506 dL_law_1508 dL_law_1513 dL_law_1515 dL_law_1518 dL_law_1519 dL_law_1520 dL_law_1521 dL_law_1523 dL_law_1524 dL_law_1525 dL_law_1530 (by decide) (XW.widen (Nat.add_le_add_left (Nat.le_of_ble_eq_true rfl) _) (Nat.add_le_add_left (Nat.le_of_ble_eq_true rfl) _) (kk _ hR1))

set_option maxRecDepth 100000 in
set_option maxHeartbeats 4000000 in
theorem k_31 (hl0 : l.stackTraces = false) (C : XC p s m args meth c P A 9 RL cL_law ret) (hP : xAll P) (hX : SC s A b L xs) (hi : i + 6 ≤ L) (hR : RV σ) (hc : cells + 8 ≤ room_1.cells ∧ slots + 64 ≤ room_1.slots) (kk : ∀ σ1, RV σ1 → XW p l e room_1 s m args below meth c P A 9 (cells + 8) (slots + 64) Q σ1 2900 (lvL P b i) []) : XW p l e room_1 s m args below meth c P A 9 cells slots Q σ 1533 (lvL P b i) [] := by
  refine X_aload_n (pc := 1533) C 1 dL_law_1533 rfl rfl ?_
  refine X_arg (pc := 1534) C hX hi 1 (by decide) (by decide) rfl rfl dL_law_1534 dL_law_1535 dL_law_1537 dL_law_1538 dL_law_1539 ?_
  refine X_aload_n (pc := 1540) C 3 dL_law_1540 rfl rfl ?_
  refine X_callSH (n := 3) (pc := 1541) C [.ref (P.2.2.1 (.inr 0)), .int (xs (i + 1)), .ref (P.2.2.1 (.inr 19))] (p_ringSeconds l hl0 P hP σ hR (xs (i + 1))) m_h_L_ringSeconds m_m_L_253 m_t_L_ringSeconds m_n_L ⟨by decide +kernel, by decide +kernel, by decide +kernel⟩ ⟨Nat.le_of_ble_eq_true rfl, Nat.le_of_ble_eq_true rfl⟩ ⟨Nat.le_trans (Nat.add_le_add_left (Nat.le_of_ble_eq_true rfl) _) hc.1, Nat.le_trans (Nat.add_le_add_left (Nat.le_of_ble_eq_true rfl) _) hc.2⟩ rfl (Nat.le_of_ble_eq_true rfl) rfl dL_law_1541 (fun v9 σ1 hp => ?_)
  obtain ⟨k, v, τ1, rfl, hM, hR1, h7, h0, hB⟩ := hp
  show XW p l e room_1 s m args below meth c P A 9 _ _ Q σ1 1544 (lvL P b i) [.int k]
  refine X_istore (pc := 1544) (lv1 := [(0, .ref b), (1, .ref (P.2.2.1 (.inr 0))), (2, .ref (P.2.2.1 (.inr 9))), (3, .ref (P.2.2.1 (.inr 19))), (4, .int (nI i)), (5, .int k)]) C dL_law_1544 (by decide) rfl ?_
  refine X_aload_n (pc := 1546) C 2 dL_law_1546 rfl rfl ?_
  refine X_arg (pc := 1547) C hX hi 1 (by decide) (by decide) rfl rfl dL_law_1547 dL_law_1548 dL_law_1550 dL_law_1551 dL_law_1552 ?_
  refine X_vI (i9 := .inr 9) (ci := 7) (n := 1) (pc := 1553) C [.int (xs (i + 1))] hM m_c_X7_ringSeconds m_m_L_255 m_i_X7_ringSeconds m_s_X7_ringSeconds m_n_X7 ⟨by decide +kernel, by decide +kernel, by decide +kernel⟩ ⟨Nat.le_of_ble_eq_true rfl, Nat.le_of_ble_eq_true rfl⟩ ⟨rfl, rfl⟩ ⟨Nat.le_trans (Nat.add_le_add_left (Nat.le_of_ble_eq_true rfl) _) hc.1, Nat.le_trans (Nat.add_le_add_left (Nat.le_of_ble_eq_true rfl) _) hc.2⟩ (hP.2.1 9 (by decide) (by decide)) rfl rfl rfl rfl (Nat.le_of_ble_eq_true rfl) rfl dL_law_1553 ?_
  exact X_tailI (pc := 1556) C hP h7 h0 ⟨Nat.le_trans (Nat.add_le_add_left (Nat.le_of_ble_eq_true rfl) _) hc.1, Nat.le_trans (Nat.add_le_add_left (Nat.le_of_ble_eq_true rfl) _) hc.2⟩ dL_law_1556 dL_law_1558 dL_law_1559 dL_law_1562 dL_law_1564 dL_law_1569 dL_law_1571 dL_law_1574 dL_law_1575 dL_law_1576 dL_law_1577 dL_law_1579 dL_law_1580 dL_law_1581 dL_law_1586 (by decide) (XW.widen (Nat.add_le_add_left (Nat.le_of_ble_eq_true rfl) _) (Nat.add_le_add_left (Nat.le_of_ble_eq_true rfl) _) (kk _ hR1))

set_option maxRecDepth 100000 in
set_option maxHeartbeats 4000000 in
theorem k_32 (hl0 : l.stackTraces = false) (C : XC p s m args meth c P A 9 RL cL_law ret) (hP : xAll P) (hX : SC s A b L xs) (hi : i + 6 ≤ L) (hR : RV σ) (hc : cells + 8 ≤ room_1.cells ∧ slots + 64 ≤ room_1.slots) (kk : ∀ σ1, RV σ1 → XW p l e room_1 s m args below meth c P A 9 (cells + 8) (slots + 64) Q σ1 2900 (lvL P b i) []) : XW p l e room_1 s m args below meth c P A 9 cells slots Q σ 1589 (lvL P b i) [] := by
  refine X_aload_n (pc := 1589) C 1 dL_law_1589 rfl rfl ?_
  refine X_arg (pc := 1590) C hX hi 1 (by decide) (by decide) rfl rfl dL_law_1590 dL_law_1591 dL_law_1593 dL_law_1594 dL_law_1595 ?_
  refine X_aload_n (pc := 1596) C 3 dL_law_1596 rfl rfl ?_
  refine X_callSH (n := 3) (pc := 1597) C [.ref (P.2.2.1 (.inr 0)), .int (xs (i + 1)), .ref (P.2.2.1 (.inr 19))] (p_secretsKnown l hl0 P hP σ hR (xs (i + 1))) m_h_L_secretsKnown m_m_L_256 m_t_L_secretsKnown m_n_L ⟨by decide +kernel, by decide +kernel, by decide +kernel⟩ ⟨Nat.le_of_ble_eq_true rfl, Nat.le_of_ble_eq_true rfl⟩ ⟨Nat.le_trans (Nat.add_le_add_left (Nat.le_of_ble_eq_true rfl) _) hc.1, Nat.le_trans (Nat.add_le_add_left (Nat.le_of_ble_eq_true rfl) _) hc.2⟩ rfl (Nat.le_of_ble_eq_true rfl) rfl dL_law_1597 (fun v9 σ1 hp => ?_)
  obtain ⟨k, v, τ1, rfl, hM, hR1, h7, h0, hB⟩ := hp
  show XW p l e room_1 s m args below meth c P A 9 _ _ Q σ1 1600 (lvL P b i) [.int k]
  refine X_istore (pc := 1600) (lv1 := [(0, .ref b), (1, .ref (P.2.2.1 (.inr 0))), (2, .ref (P.2.2.1 (.inr 9))), (3, .ref (P.2.2.1 (.inr 19))), (4, .int (nI i)), (5, .int k)]) C dL_law_1600 (by decide) rfl ?_
  refine X_aload_n (pc := 1602) C 2 dL_law_1602 rfl rfl ?_
  refine X_arg (pc := 1603) C hX hi 1 (by decide) (by decide) rfl rfl dL_law_1603 dL_law_1604 dL_law_1606 dL_law_1607 dL_law_1608 ?_
  refine X_vI (i9 := .inr 9) (ci := 7) (n := 1) (pc := 1609) C [.int (xs (i + 1))] hM m_c_X7_secretsKnown m_m_L_258 m_i_X7_secretsKnown m_s_X7_secretsKnown m_n_X7 ⟨by decide +kernel, by decide +kernel, by decide +kernel⟩ ⟨Nat.le_of_ble_eq_true rfl, Nat.le_of_ble_eq_true rfl⟩ ⟨rfl, rfl⟩ ⟨Nat.le_trans (Nat.add_le_add_left (Nat.le_of_ble_eq_true rfl) _) hc.1, Nat.le_trans (Nat.add_le_add_left (Nat.le_of_ble_eq_true rfl) _) hc.2⟩ (hP.2.1 9 (by decide) (by decide)) rfl rfl rfl rfl (Nat.le_of_ble_eq_true rfl) rfl dL_law_1609 ?_
  exact X_tailI (pc := 1612) C hP h7 h0 ⟨Nat.le_trans (Nat.add_le_add_left (Nat.le_of_ble_eq_true rfl) _) hc.1, Nat.le_trans (Nat.add_le_add_left (Nat.le_of_ble_eq_true rfl) _) hc.2⟩ dL_law_1612 dL_law_1614 dL_law_1615 dL_law_1618 dL_law_1620 dL_law_1625 dL_law_1627 dL_law_1630 dL_law_1631 dL_law_1632 dL_law_1633 dL_law_1635 dL_law_1636 dL_law_1637 dL_law_1642 (by decide) (XW.widen (Nat.add_le_add_left (Nat.le_of_ble_eq_true rfl) _) (Nat.add_le_add_left (Nat.le_of_ble_eq_true rfl) _) (kk _ hR1))

set_option maxRecDepth 100000 in
set_option maxHeartbeats 4000000 in
theorem k_33 (hl0 : l.stackTraces = false) (C : XC p s m args meth c P A 9 RL cL_law ret) (hP : xAll P) (hX : SC s A b L xs) (hi : i + 6 ≤ L) (hR : RV σ) (hc : cells + 8 ≤ room_1.cells ∧ slots + 64 ≤ room_1.slots) (kk : ∀ σ1, RV σ1 → XW p l e room_1 s m args below meth c P A 9 (cells + 8) (slots + 64) Q σ1 2900 (lvL P b i) []) : XW p l e room_1 s m args below meth c P A 9 cells slots Q σ 1645 (lvL P b i) [] := by
  refine X_aload_n (pc := 1645) C 1 dL_law_1645 rfl rfl ?_
  refine X_arg (pc := 1646) C hX hi 1 (by decide) (by decide) rfl rfl dL_law_1646 dL_law_1647 dL_law_1649 dL_law_1650 dL_law_1651 ?_
  refine X_aload_n (pc := 1652) C 3 dL_law_1652 rfl rfl ?_
  refine X_callSH (n := 3) (pc := 1653) C [.ref (P.2.2.1 (.inr 0)), .int (xs (i + 1)), .ref (P.2.2.1 (.inr 19))] (p_neighbours l hl0 P hP σ hR (xs (i + 1))) m_h_L_neighbours m_m_L_259 m_t_L_neighbours m_n_L ⟨by decide +kernel, by decide +kernel, by decide +kernel⟩ ⟨Nat.le_of_ble_eq_true rfl, Nat.le_of_ble_eq_true rfl⟩ ⟨Nat.le_trans (Nat.add_le_add_left (Nat.le_of_ble_eq_true rfl) _) hc.1, Nat.le_trans (Nat.add_le_add_left (Nat.le_of_ble_eq_true rfl) _) hc.2⟩ rfl (Nat.le_of_ble_eq_true rfl) rfl dL_law_1653 (fun v9 σ1 hp => ?_)
  obtain ⟨k, v, τ1, rfl, hM, hR1, h7, h0, hB⟩ := hp
  show XW p l e room_1 s m args below meth c P A 9 _ _ Q σ1 1656 (lvL P b i) [.int k]
  refine X_istore (pc := 1656) (lv1 := [(0, .ref b), (1, .ref (P.2.2.1 (.inr 0))), (2, .ref (P.2.2.1 (.inr 9))), (3, .ref (P.2.2.1 (.inr 19))), (4, .int (nI i)), (5, .int k)]) C dL_law_1656 (by decide) rfl ?_
  refine X_aload_n (pc := 1658) C 2 dL_law_1658 rfl rfl ?_
  refine X_arg (pc := 1659) C hX hi 1 (by decide) (by decide) rfl rfl dL_law_1659 dL_law_1660 dL_law_1662 dL_law_1663 dL_law_1664 ?_
  refine X_vI (i9 := .inr 9) (ci := 7) (n := 1) (pc := 1665) C [.int (xs (i + 1))] hM m_c_X7_neighbours m_m_L_261 m_i_X7_neighbours m_s_X7_neighbours m_n_X7 ⟨by decide +kernel, by decide +kernel, by decide +kernel⟩ ⟨Nat.le_of_ble_eq_true rfl, Nat.le_of_ble_eq_true rfl⟩ ⟨rfl, rfl⟩ ⟨Nat.le_trans (Nat.add_le_add_left (Nat.le_of_ble_eq_true rfl) _) hc.1, Nat.le_trans (Nat.add_le_add_left (Nat.le_of_ble_eq_true rfl) _) hc.2⟩ (hP.2.1 9 (by decide) (by decide)) rfl rfl rfl rfl (Nat.le_of_ble_eq_true rfl) rfl dL_law_1665 ?_
  exact X_tailI (pc := 1668) C hP h7 h0 ⟨Nat.le_trans (Nat.add_le_add_left (Nat.le_of_ble_eq_true rfl) _) hc.1, Nat.le_trans (Nat.add_le_add_left (Nat.le_of_ble_eq_true rfl) _) hc.2⟩ dL_law_1668 dL_law_1670 dL_law_1671 dL_law_1674 dL_law_1676 dL_law_1681 dL_law_1683 dL_law_1686 dL_law_1687 dL_law_1688 dL_law_1689 dL_law_1691 dL_law_1692 dL_law_1693 dL_law_1698 (by decide) (XW.widen (Nat.add_le_add_left (Nat.le_of_ble_eq_true rfl) _) (Nat.add_le_add_left (Nat.le_of_ble_eq_true rfl) _) (kk _ hR1))

set_option maxRecDepth 100000 in
set_option maxHeartbeats 4000000 in
theorem k_34 (hl0 : l.stackTraces = false) (C : XC p s m args meth c P A 9 RL cL_law ret) (hP : xAll P) (hX : SC s A b L xs) (hi : i + 6 ≤ L) (hR : RV σ) (hc : cells + 8 ≤ room_1.cells ∧ slots + 64 ≤ room_1.slots) (kk : ∀ σ1, RV σ1 → XW p l e room_1 s m args below meth c P A 9 (cells + 8) (slots + 64) Q σ1 2900 (lvL P b i) []) : XW p l e room_1 s m args below meth c P A 9 cells slots Q σ 1701 (lvL P b i) [] := by
  refine X_aload_n (pc := 1701) C 1 dL_law_1701 rfl rfl ?_
  refine X_arg (pc := 1702) C hX hi 1 (by decide) (by decide) rfl rfl dL_law_1702 dL_law_1703 dL_law_1705 dL_law_1706 dL_law_1707 ?_
  refine X_arg (pc := 1708) C hX hi 2 (by decide) (by decide) rfl rfl dL_law_1708 dL_law_1709 dL_law_1711 dL_law_1712 dL_law_1713 ?_
  refine X_aload_n (pc := 1714) C 3 dL_law_1714 rfl rfl ?_
  refine X_callSH (n := 4) (pc := 1715) C [.ref (P.2.2.1 (.inr 0)), .int (xs (i + 1)), .int (xs (i + 2)), .ref (P.2.2.1 (.inr 19))] (p_nameByte l hl0 P hP σ hR (xs (i + 1)) (xs (i + 2))) m_h_L_nameByte m_m_L_262 m_t_L_nameByte m_n_L ⟨by decide +kernel, by decide +kernel, by decide +kernel⟩ ⟨Nat.le_of_ble_eq_true rfl, Nat.le_of_ble_eq_true rfl⟩ ⟨Nat.le_trans (Nat.add_le_add_left (Nat.le_of_ble_eq_true rfl) _) hc.1, Nat.le_trans (Nat.add_le_add_left (Nat.le_of_ble_eq_true rfl) _) hc.2⟩ rfl (Nat.le_of_ble_eq_true rfl) rfl dL_law_1715 (fun v9 σ1 hp => ?_)
  obtain ⟨k, v, τ1, rfl, hM, hR1, h7, h0, hB⟩ := hp
  show XW p l e room_1 s m args below meth c P A 9 _ _ Q σ1 1718 (lvL P b i) [.int k]
  refine X_istore (pc := 1718) (lv1 := [(0, .ref b), (1, .ref (P.2.2.1 (.inr 0))), (2, .ref (P.2.2.1 (.inr 9))), (3, .ref (P.2.2.1 (.inr 19))), (4, .int (nI i)), (5, .int k)]) C dL_law_1718 (by decide) rfl ?_
  refine X_aload_n (pc := 1720) C 2 dL_law_1720 rfl rfl ?_
  refine X_arg (pc := 1721) C hX hi 1 (by decide) (by decide) rfl rfl dL_law_1721 dL_law_1722 dL_law_1724 dL_law_1725 dL_law_1726 ?_
  refine X_arg (pc := 1727) C hX hi 2 (by decide) (by decide) rfl rfl dL_law_1727 dL_law_1728 dL_law_1730 dL_law_1731 dL_law_1732 ?_
  refine X_vI (i9 := .inr 9) (ci := 7) (n := 2) (pc := 1733) C [.int (xs (i + 1)), .int (xs (i + 2))] hM m_c_X7_nameByte m_m_L_264 m_i_X7_nameByte m_s_X7_nameByte m_n_X7 ⟨by decide +kernel, by decide +kernel, by decide +kernel⟩ ⟨Nat.le_of_ble_eq_true rfl, Nat.le_of_ble_eq_true rfl⟩ ⟨rfl, rfl⟩ ⟨Nat.le_trans (Nat.add_le_add_left (Nat.le_of_ble_eq_true rfl) _) hc.1, Nat.le_trans (Nat.add_le_add_left (Nat.le_of_ble_eq_true rfl) _) hc.2⟩ (hP.2.1 9 (by decide) (by decide)) rfl rfl rfl rfl (Nat.le_of_ble_eq_true rfl) rfl dL_law_1733 ?_
  exact X_tailI (pc := 1736) C hP h7 h0 ⟨Nat.le_trans (Nat.add_le_add_left (Nat.le_of_ble_eq_true rfl) _) hc.1, Nat.le_trans (Nat.add_le_add_left (Nat.le_of_ble_eq_true rfl) _) hc.2⟩ dL_law_1736 dL_law_1738 dL_law_1739 dL_law_1742 dL_law_1744 dL_law_1749 dL_law_1751 dL_law_1754 dL_law_1755 dL_law_1756 dL_law_1757 dL_law_1759 dL_law_1760 dL_law_1761 dL_law_1766 (by decide) (XW.widen (Nat.add_le_add_left (Nat.le_of_ble_eq_true rfl) _) (Nat.add_le_add_left (Nat.le_of_ble_eq_true rfl) _) (kk _ hR1))

set_option maxRecDepth 100000 in
set_option maxHeartbeats 4000000 in
theorem k_35 (hl0 : l.stackTraces = false) (C : XC p s m args meth c P A 9 RL cL_law ret) (hP : xAll P) (hX : SC s A b L xs) (hi : i + 6 ≤ L) (hR : RV σ) (hc : cells + 8 ≤ room_1.cells ∧ slots + 64 ≤ room_1.slots) (kk : ∀ σ1, RV σ1 → XW p l e room_1 s m args below meth c P A 9 (cells + 8) (slots + 64) Q σ1 2900 (lvL P b i) []) : XW p l e room_1 s m args below meth c P A 9 cells slots Q σ 1769 (lvL P b i) [] := by
  refine X_aload_n (pc := 1769) C 1 dL_law_1769 rfl rfl ?_
  refine X_arg (pc := 1770) C hX hi 1 (by decide) (by decide) rfl rfl dL_law_1770 dL_law_1771 dL_law_1773 dL_law_1774 dL_law_1775 ?_
  refine X_arg (pc := 1776) C hX hi 2 (by decide) (by decide) rfl rfl dL_law_1776 dL_law_1777 dL_law_1779 dL_law_1780 dL_law_1781 ?_
  refine X_aload_n (pc := 1782) C 3 dL_law_1782 rfl rfl ?_
  refine X_callSH (n := 4) (pc := 1783) C [.ref (P.2.2.1 (.inr 0)), .int (xs (i + 1)), .int (xs (i + 2)), .ref (P.2.2.1 (.inr 19))] (p_whoAnswers l hl0 P hP σ hR (xs (i + 1)) (xs (i + 2))) m_h_L_whoAnswers m_m_L_265 m_t_L_whoAnswers m_n_L ⟨by decide +kernel, by decide +kernel, by decide +kernel⟩ ⟨Nat.le_of_ble_eq_true rfl, Nat.le_of_ble_eq_true rfl⟩ ⟨Nat.le_trans (Nat.add_le_add_left (Nat.le_of_ble_eq_true rfl) _) hc.1, Nat.le_trans (Nat.add_le_add_left (Nat.le_of_ble_eq_true rfl) _) hc.2⟩ rfl (Nat.le_of_ble_eq_true rfl) rfl dL_law_1783 (fun v9 σ1 hp => ?_)
  obtain ⟨k, v, τ1, rfl, hM, hR1, h7, h0, hB⟩ := hp
  show XW p l e room_1 s m args below meth c P A 9 _ _ Q σ1 1786 (lvL P b i) [.int k]
  refine X_istore (pc := 1786) (lv1 := [(0, .ref b), (1, .ref (P.2.2.1 (.inr 0))), (2, .ref (P.2.2.1 (.inr 9))), (3, .ref (P.2.2.1 (.inr 19))), (4, .int (nI i)), (5, .int k)]) C dL_law_1786 (by decide) rfl ?_
  refine X_aload_n (pc := 1788) C 2 dL_law_1788 rfl rfl ?_
  refine X_arg (pc := 1789) C hX hi 1 (by decide) (by decide) rfl rfl dL_law_1789 dL_law_1790 dL_law_1792 dL_law_1793 dL_law_1794 ?_
  refine X_arg (pc := 1795) C hX hi 2 (by decide) (by decide) rfl rfl dL_law_1795 dL_law_1796 dL_law_1798 dL_law_1799 dL_law_1800 ?_
  refine X_vI (i9 := .inr 9) (ci := 7) (n := 2) (pc := 1801) C [.int (xs (i + 1)), .int (xs (i + 2))] hM m_c_X7_whoAnswers m_m_L_267 m_i_X7_whoAnswers m_s_X7_whoAnswers m_n_X7 ⟨by decide +kernel, by decide +kernel, by decide +kernel⟩ ⟨Nat.le_of_ble_eq_true rfl, Nat.le_of_ble_eq_true rfl⟩ ⟨rfl, rfl⟩ ⟨Nat.le_trans (Nat.add_le_add_left (Nat.le_of_ble_eq_true rfl) _) hc.1, Nat.le_trans (Nat.add_le_add_left (Nat.le_of_ble_eq_true rfl) _) hc.2⟩ (hP.2.1 9 (by decide) (by decide)) rfl rfl rfl rfl (Nat.le_of_ble_eq_true rfl) rfl dL_law_1801 ?_
  exact X_tailI (pc := 1804) C hP h7 h0 ⟨Nat.le_trans (Nat.add_le_add_left (Nat.le_of_ble_eq_true rfl) _) hc.1, Nat.le_trans (Nat.add_le_add_left (Nat.le_of_ble_eq_true rfl) _) hc.2⟩ dL_law_1804 dL_law_1806 dL_law_1807 dL_law_1810 dL_law_1812 dL_law_1817 dL_law_1819 dL_law_1822 dL_law_1823 dL_law_1824 dL_law_1825 dL_law_1827 dL_law_1828 dL_law_1829 dL_law_1834 (by decide) (XW.widen (Nat.add_le_add_left (Nat.le_of_ble_eq_true rfl) _) (Nat.add_le_add_left (Nat.le_of_ble_eq_true rfl) _) (kk _ hR1))

set_option maxRecDepth 100000 in
set_option maxHeartbeats 4000000 in
theorem k_36 (hl0 : l.stackTraces = false) (C : XC p s m args meth c P A 9 RL cL_law ret) (hP : xAll P) (hX : SC s A b L xs) (hi : i + 6 ≤ L) (hR : RV σ) (hc : cells + 8 ≤ room_1.cells ∧ slots + 64 ≤ room_1.slots) (kk : ∀ σ1, RV σ1 → XW p l e room_1 s m args below meth c P A 9 (cells + 8) (slots + 64) Q σ1 2900 (lvL P b i) []) : XW p l e room_1 s m args below meth c P A 9 cells slots Q σ 1837 (lvL P b i) [] := by
  refine X_aload_n (pc := 1837) C 1 dL_law_1837 rfl rfl ?_
  refine X_arg (pc := 1838) C hX hi 1 (by decide) (by decide) rfl rfl dL_law_1838 dL_law_1839 dL_law_1841 dL_law_1842 dL_law_1843 ?_
  refine X_aload_n (pc := 1844) C 3 dL_law_1844 rfl rfl ?_
  refine X_callSH (n := 3) (pc := 1845) C [.ref (P.2.2.1 (.inr 0)), .int (xs (i + 1)), .ref (P.2.2.1 (.inr 19))] (p_knowers l hl0 P hP σ hR (xs (i + 1))) m_h_L_knowers m_m_L_268 m_t_L_knowers m_n_L ⟨by decide +kernel, by decide +kernel, by decide +kernel⟩ ⟨Nat.le_of_ble_eq_true rfl, Nat.le_of_ble_eq_true rfl⟩ ⟨Nat.le_trans (Nat.add_le_add_left (Nat.le_of_ble_eq_true rfl) _) hc.1, Nat.le_trans (Nat.add_le_add_left (Nat.le_of_ble_eq_true rfl) _) hc.2⟩ rfl (Nat.le_of_ble_eq_true rfl) rfl dL_law_1845 (fun v9 σ1 hp => ?_)
  obtain ⟨k, v, τ1, rfl, hM, hR1, h7, h0, hB⟩ := hp
  show XW p l e room_1 s m args below meth c P A 9 _ _ Q σ1 1848 (lvL P b i) [.int k]
  refine X_istore (pc := 1848) (lv1 := [(0, .ref b), (1, .ref (P.2.2.1 (.inr 0))), (2, .ref (P.2.2.1 (.inr 9))), (3, .ref (P.2.2.1 (.inr 19))), (4, .int (nI i)), (5, .int k)]) C dL_law_1848 (by decide) rfl ?_
  refine X_aload_n (pc := 1850) C 2 dL_law_1850 rfl rfl ?_
  refine X_arg (pc := 1851) C hX hi 1 (by decide) (by decide) rfl rfl dL_law_1851 dL_law_1852 dL_law_1854 dL_law_1855 dL_law_1856 ?_
  refine X_vI (i9 := .inr 9) (ci := 7) (n := 1) (pc := 1857) C [.int (xs (i + 1))] hM m_c_X7_knowers m_m_L_270 m_i_X7_knowers m_s_X7_knowers m_n_X7 ⟨by decide +kernel, by decide +kernel, by decide +kernel⟩ ⟨Nat.le_of_ble_eq_true rfl, Nat.le_of_ble_eq_true rfl⟩ ⟨rfl, rfl⟩ ⟨Nat.le_trans (Nat.add_le_add_left (Nat.le_of_ble_eq_true rfl) _) hc.1, Nat.le_trans (Nat.add_le_add_left (Nat.le_of_ble_eq_true rfl) _) hc.2⟩ (hP.2.1 9 (by decide) (by decide)) rfl rfl rfl rfl (Nat.le_of_ble_eq_true rfl) rfl dL_law_1857 ?_
  exact X_tailI (pc := 1860) C hP h7 h0 ⟨Nat.le_trans (Nat.add_le_add_left (Nat.le_of_ble_eq_true rfl) _) hc.1, Nat.le_trans (Nat.add_le_add_left (Nat.le_of_ble_eq_true rfl) _) hc.2⟩ dL_law_1860 dL_law_1862 dL_law_1863 dL_law_1866 dL_law_1868 dL_law_1873 dL_law_1875 dL_law_1878 dL_law_1879 dL_law_1880 dL_law_1881 dL_law_1883 dL_law_1884 dL_law_1885 dL_law_1890 (by decide) (XW.widen (Nat.add_le_add_left (Nat.le_of_ble_eq_true rfl) _) (Nat.add_le_add_left (Nat.le_of_ble_eq_true rfl) _) (kk _ hR1))

set_option maxRecDepth 100000 in
set_option maxHeartbeats 4000000 in
theorem k_37 (hl0 : l.stackTraces = false) (C : XC p s m args meth c P A 9 RL cL_law ret) (hP : xAll P) (hX : SC s A b L xs) (hi : i + 6 ≤ L) (hR : RV σ) (hc : cells + 8 ≤ room_1.cells ∧ slots + 64 ≤ room_1.slots) (kk : ∀ σ1, RV σ1 → XW p l e room_1 s m args below meth c P A 9 (cells + 8) (slots + 64) Q σ1 2900 (lvL P b i) []) : XW p l e room_1 s m args below meth c P A 9 cells slots Q σ 1893 (lvL P b i) [] := by
  obtain ⟨v, σ1, τ1, hC6, hM7, hR1⟩ := s_bestInformed l P hP σ hR
  refine X_aload_n (pc := 1893) C 1 dL_law_1893 rfl rfl ?_
  refine X_vI (i9 := .inr 0) (ci := 6) (n := 0) (pc := 1894) C [] hC6 m_c_X6_bestInformed m_m_L_271 m_i_X6_bestInformed m_s_X6_bestInformed m_n_X6 ⟨by decide +kernel, by decide +kernel, by decide +kernel⟩ ⟨Nat.le_of_ble_eq_true rfl, Nat.le_of_ble_eq_true rfl⟩ ⟨rfl, rfl⟩ ⟨Nat.le_trans (Nat.le_add_right _ _) hc.1, Nat.le_trans (Nat.le_add_right _ _) hc.2⟩ hP.n0 rfl rfl rfl rfl (Nat.le_of_ble_eq_true rfl) rfl dL_law_1894 ?_
  refine X_aload_n (pc := 1897) C 2 dL_law_1897 rfl rfl ?_
  refine X_vI (i9 := .inr 9) (ci := 7) (n := 0) (pc := 1898) C [] hM7 m_c_X7_bestInformed m_m_L_274 m_i_X7_bestInformed m_s_X7_bestInformed m_n_X7 ⟨by decide +kernel, by decide +kernel, by decide +kernel⟩ ⟨Nat.le_of_ble_eq_true rfl, Nat.le_of_ble_eq_true rfl⟩ ⟨rfl, rfl⟩ ⟨Nat.le_trans (Nat.le_add_right _ _) hc.1, Nat.le_trans (Nat.le_add_right _ _) hc.2⟩ (hP.2.1 9 (by decide) (by decide)) rfl rfl rfl rfl (Nat.le_of_ble_eq_true rfl) rfl dL_law_1898 ?_
  exact X_icmp_eq (pc := 1901) C 2900 dL_law_1901 (by decide) (fun _ => (XW.widen (Nat.le_add_right _ _) (Nat.le_add_right _ _) (kk _ hR1))) (fun q => absurd rfl q)

set_option maxRecDepth 100000 in
set_option maxHeartbeats 4000000 in
theorem k_38 (hl0 : l.stackTraces = false) (C : XC p s m args meth c P A 9 RL cL_law ret) (hP : xAll P) (hX : SC s A b L xs) (hi : i + 6 ≤ L) (hR : RV σ) (hc : cells + 8 ≤ room_1.cells ∧ slots + 64 ≤ room_1.slots) (kk : ∀ σ1, RV σ1 → XW p l e room_1 s m args below meth c P A 9 (cells + 8) (slots + 64) Q σ1 2900 (lvL P b i) []) : XW p l e room_1 s m args below meth c P A 9 cells slots Q σ 1906 (lvL P b i) [] := by
  refine X_aload_n (pc := 1906) C 1 dL_law_1906 rfl rfl ?_
  refine X_arg (pc := 1907) C hX hi 1 (by decide) (by decide) rfl rfl dL_law_1907 dL_law_1908 dL_law_1910 dL_law_1911 dL_law_1912 ?_
  refine X_aload_n (pc := 1913) C 3 dL_law_1913 rfl rfl ?_
  refine X_callSH (n := 3) (pc := 1914) C [.ref (P.2.2.1 (.inr 0)), .int (xs (i + 1)), .ref (P.2.2.1 (.inr 19))] (p_callState l hl0 P hP σ hR (xs (i + 1))) m_h_L_callState m_m_L_275 m_t_L_callState m_n_L ⟨by decide +kernel, by decide +kernel, by decide +kernel⟩ ⟨Nat.le_of_ble_eq_true rfl, Nat.le_of_ble_eq_true rfl⟩ ⟨Nat.le_trans (Nat.add_le_add_left (Nat.le_of_ble_eq_true rfl) _) hc.1, Nat.le_trans (Nat.add_le_add_left (Nat.le_of_ble_eq_true rfl) _) hc.2⟩ rfl (Nat.le_of_ble_eq_true rfl) rfl dL_law_1914 (fun v9 σ1 hp => ?_)
  obtain ⟨k, v, τ1, rfl, hM, hR1, h7, h0, hB⟩ := hp
  show XW p l e room_1 s m args below meth c P A 9 _ _ Q σ1 1917 (lvL P b i) [.int k]
  refine X_istore (pc := 1917) (lv1 := [(0, .ref b), (1, .ref (P.2.2.1 (.inr 0))), (2, .ref (P.2.2.1 (.inr 9))), (3, .ref (P.2.2.1 (.inr 19))), (4, .int (nI i)), (5, .int k)]) C dL_law_1917 (by decide) rfl ?_
  refine X_aload_n (pc := 1919) C 2 dL_law_1919 rfl rfl ?_
  refine X_arg (pc := 1920) C hX hi 1 (by decide) (by decide) rfl rfl dL_law_1920 dL_law_1921 dL_law_1923 dL_law_1924 dL_law_1925 ?_
  refine X_vI (i9 := .inr 9) (ci := 7) (n := 1) (pc := 1926) C [.int (xs (i + 1))] hM m_c_X7_callState m_m_L_277 m_i_X7_callState m_s_X7_callState m_n_X7 ⟨by decide +kernel, by decide +kernel, by decide +kernel⟩ ⟨Nat.le_of_ble_eq_true rfl, Nat.le_of_ble_eq_true rfl⟩ ⟨rfl, rfl⟩ ⟨Nat.le_trans (Nat.add_le_add_left (Nat.le_of_ble_eq_true rfl) _) hc.1, Nat.le_trans (Nat.add_le_add_left (Nat.le_of_ble_eq_true rfl) _) hc.2⟩ (hP.2.1 9 (by decide) (by decide)) rfl rfl rfl rfl (Nat.le_of_ble_eq_true rfl) rfl dL_law_1926 ?_
  exact X_tailI (pc := 1929) C hP h7 h0 ⟨Nat.le_trans (Nat.add_le_add_left (Nat.le_of_ble_eq_true rfl) _) hc.1, Nat.le_trans (Nat.add_le_add_left (Nat.le_of_ble_eq_true rfl) _) hc.2⟩ dL_law_1929 dL_law_1931 dL_law_1932 dL_law_1935 dL_law_1937 dL_law_1942 dL_law_1944 dL_law_1947 dL_law_1948 dL_law_1949 dL_law_1950 dL_law_1952 dL_law_1953 dL_law_1954 dL_law_1959 (by decide) (XW.widen (Nat.add_le_add_left (Nat.le_of_ble_eq_true rfl) _) (Nat.add_le_add_left (Nat.le_of_ble_eq_true rfl) _) (kk _ hR1))

set_option maxRecDepth 100000 in
set_option maxHeartbeats 4000000 in
theorem k_39 (hl0 : l.stackTraces = false) (C : XC p s m args meth c P A 9 RL cL_law ret) (hP : xAll P) (hX : SC s A b L xs) (hi : i + 6 ≤ L) (hR : RV σ) (hc : cells + 8 ≤ room_1.cells ∧ slots + 64 ≤ room_1.slots) (kk : ∀ σ1, RV σ1 → XW p l e room_1 s m args below meth c P A 9 (cells + 8) (slots + 64) Q σ1 2900 (lvL P b i) []) : XW p l e room_1 s m args below meth c P A 9 cells slots Q σ 1962 (lvL P b i) [] := by
  refine X_aload_n (pc := 1962) C 1 dL_law_1962 rfl rfl ?_
  refine X_arg (pc := 1963) C hX hi 1 (by decide) (by decide) rfl rfl dL_law_1963 dL_law_1964 dL_law_1966 dL_law_1967 dL_law_1968 ?_
  refine X_aload_n (pc := 1969) C 3 dL_law_1969 rfl rfl ?_
  refine X_callSH (n := 3) (pc := 1970) C [.ref (P.2.2.1 (.inr 0)), .int (xs (i + 1)), .ref (P.2.2.1 (.inr 19))] (p_callerOf l hl0 P hP σ hR (xs (i + 1))) m_h_L_callerOf m_m_L_278 m_t_L_callerOf m_n_L ⟨by decide +kernel, by decide +kernel, by decide +kernel⟩ ⟨Nat.le_of_ble_eq_true rfl, Nat.le_of_ble_eq_true rfl⟩ ⟨Nat.le_trans (Nat.add_le_add_left (Nat.le_of_ble_eq_true rfl) _) hc.1, Nat.le_trans (Nat.add_le_add_left (Nat.le_of_ble_eq_true rfl) _) hc.2⟩ rfl (Nat.le_of_ble_eq_true rfl) rfl dL_law_1970 (fun v9 σ1 hp => ?_)
  obtain ⟨k, v, τ1, rfl, hM, hR1, h7, h0, hB⟩ := hp
  show XW p l e room_1 s m args below meth c P A 9 _ _ Q σ1 1973 (lvL P b i) [.int k]
  refine X_istore (pc := 1973) (lv1 := [(0, .ref b), (1, .ref (P.2.2.1 (.inr 0))), (2, .ref (P.2.2.1 (.inr 9))), (3, .ref (P.2.2.1 (.inr 19))), (4, .int (nI i)), (5, .int k)]) C dL_law_1973 (by decide) rfl ?_
  refine X_aload_n (pc := 1975) C 2 dL_law_1975 rfl rfl ?_
  refine X_arg (pc := 1976) C hX hi 1 (by decide) (by decide) rfl rfl dL_law_1976 dL_law_1977 dL_law_1979 dL_law_1980 dL_law_1981 ?_
  refine X_vI (i9 := .inr 9) (ci := 7) (n := 1) (pc := 1982) C [.int (xs (i + 1))] hM m_c_X7_callerOf m_m_L_280 m_i_X7_callerOf m_s_X7_callerOf m_n_X7 ⟨by decide +kernel, by decide +kernel, by decide +kernel⟩ ⟨Nat.le_of_ble_eq_true rfl, Nat.le_of_ble_eq_true rfl⟩ ⟨rfl, rfl⟩ ⟨Nat.le_trans (Nat.add_le_add_left (Nat.le_of_ble_eq_true rfl) _) hc.1, Nat.le_trans (Nat.add_le_add_left (Nat.le_of_ble_eq_true rfl) _) hc.2⟩ (hP.2.1 9 (by decide) (by decide)) rfl rfl rfl rfl (Nat.le_of_ble_eq_true rfl) rfl dL_law_1982 ?_
  exact X_tailI (pc := 1985) C hP h7 h0 ⟨Nat.le_trans (Nat.add_le_add_left (Nat.le_of_ble_eq_true rfl) _) hc.1, Nat.le_trans (Nat.add_le_add_left (Nat.le_of_ble_eq_true rfl) _) hc.2⟩ dL_law_1985 dL_law_1987 dL_law_1988 dL_law_1991 dL_law_1993 dL_law_1998 dL_law_2000 dL_law_2003 dL_law_2004 dL_law_2005 dL_law_2006 dL_law_2008 dL_law_2009 dL_law_2010 dL_law_2015 (by decide) (XW.widen (Nat.add_le_add_left (Nat.le_of_ble_eq_true rfl) _) (Nat.add_le_add_left (Nat.le_of_ble_eq_true rfl) _) (kk _ hR1))

set_option maxRecDepth 100000 in
set_option maxHeartbeats 4000000 in
theorem k_40 (hl0 : l.stackTraces = false) (C : XC p s m args meth c P A 9 RL cL_law ret) (hP : xAll P) (hX : SC s A b L xs) (hi : i + 6 ≤ L) (hR : RV σ) (hc : cells + 8 ≤ room_1.cells ∧ slots + 64 ≤ room_1.slots) (kk : ∀ σ1, RV σ1 → XW p l e room_1 s m args below meth c P A 9 (cells + 8) (slots + 64) Q σ1 2900 (lvL P b i) []) : XW p l e room_1 s m args below meth c P A 9 cells slots Q σ 2018 (lvL P b i) [] := by
  refine X_aload_n (pc := 2018) C 1 dL_law_2018 rfl rfl ?_
  refine X_arg (pc := 2019) C hX hi 1 (by decide) (by decide) rfl rfl dL_law_2019 dL_law_2020 dL_law_2022 dL_law_2023 dL_law_2024 ?_
  refine X_aload_n (pc := 2025) C 3 dL_law_2025 rfl rfl ?_
  refine X_callSH (n := 3) (pc := 2026) C [.ref (P.2.2.1 (.inr 0)), .int (xs (i + 1)), .ref (P.2.2.1 (.inr 19))] (p_calledSubscriber l hl0 P hP σ hR (xs (i + 1))) m_h_L_calledSubscriber m_m_L_281 m_t_L_calledSubscriber m_n_L ⟨by decide +kernel, by decide +kernel, by decide +kernel⟩ ⟨Nat.le_of_ble_eq_true rfl, Nat.le_of_ble_eq_true rfl⟩ ⟨Nat.le_trans (Nat.add_le_add_left (Nat.le_of_ble_eq_true rfl) _) hc.1, Nat.le_trans (Nat.add_le_add_left (Nat.le_of_ble_eq_true rfl) _) hc.2⟩ rfl (Nat.le_of_ble_eq_true rfl) rfl dL_law_2026 (fun v9 σ1 hp => ?_)
  obtain ⟨k, v, τ1, rfl, hM, hR1, h7, h0, hB⟩ := hp
  show XW p l e room_1 s m args below meth c P A 9 _ _ Q σ1 2029 (lvL P b i) [.int k]
  refine X_istore (pc := 2029) (lv1 := [(0, .ref b), (1, .ref (P.2.2.1 (.inr 0))), (2, .ref (P.2.2.1 (.inr 9))), (3, .ref (P.2.2.1 (.inr 19))), (4, .int (nI i)), (5, .int k)]) C dL_law_2029 (by decide) rfl ?_
  refine X_aload_n (pc := 2031) C 2 dL_law_2031 rfl rfl ?_
  refine X_arg (pc := 2032) C hX hi 1 (by decide) (by decide) rfl rfl dL_law_2032 dL_law_2033 dL_law_2035 dL_law_2036 dL_law_2037 ?_
  refine X_vI (i9 := .inr 9) (ci := 7) (n := 1) (pc := 2038) C [.int (xs (i + 1))] hM m_c_X7_calledSubscriber m_m_L_283 m_i_X7_calledSubscriber m_s_X7_calledSubscriber m_n_X7 ⟨by decide +kernel, by decide +kernel, by decide +kernel⟩ ⟨Nat.le_of_ble_eq_true rfl, Nat.le_of_ble_eq_true rfl⟩ ⟨rfl, rfl⟩ ⟨Nat.le_trans (Nat.add_le_add_left (Nat.le_of_ble_eq_true rfl) _) hc.1, Nat.le_trans (Nat.add_le_add_left (Nat.le_of_ble_eq_true rfl) _) hc.2⟩ (hP.2.1 9 (by decide) (by decide)) rfl rfl rfl rfl (Nat.le_of_ble_eq_true rfl) rfl dL_law_2038 ?_
  exact X_tailI (pc := 2041) C hP h7 h0 ⟨Nat.le_trans (Nat.add_le_add_left (Nat.le_of_ble_eq_true rfl) _) hc.1, Nat.le_trans (Nat.add_le_add_left (Nat.le_of_ble_eq_true rfl) _) hc.2⟩ dL_law_2041 dL_law_2043 dL_law_2044 dL_law_2047 dL_law_2049 dL_law_2054 dL_law_2056 dL_law_2059 dL_law_2060 dL_law_2061 dL_law_2062 dL_law_2064 dL_law_2065 dL_law_2066 dL_law_2071 (by decide) (XW.widen (Nat.add_le_add_left (Nat.le_of_ble_eq_true rfl) _) (Nat.add_le_add_left (Nat.le_of_ble_eq_true rfl) _) (kk _ hR1))

set_option maxRecDepth 100000 in
set_option maxHeartbeats 4000000 in
theorem k_41 (hl0 : l.stackTraces = false) (C : XC p s m args meth c P A 9 RL cL_law ret) (hP : xAll P) (hX : SC s A b L xs) (hi : i + 6 ≤ L) (hR : RV σ) (hc : cells + 8 ≤ room_1.cells ∧ slots + 64 ≤ room_1.slots) (kk : ∀ σ1, RV σ1 → XW p l e room_1 s m args below meth c P A 9 (cells + 8) (slots + 64) Q σ1 2900 (lvL P b i) []) : XW p l e room_1 s m args below meth c P A 9 cells slots Q σ 2074 (lvL P b i) [] := by
  refine X_aload_n (pc := 2074) C 1 dL_law_2074 rfl rfl ?_
  refine X_arg (pc := 2075) C hX hi 1 (by decide) (by decide) rfl rfl dL_law_2075 dL_law_2076 dL_law_2078 dL_law_2079 dL_law_2080 ?_
  refine X_aload_n (pc := 2081) C 3 dL_law_2081 rfl rfl ?_
  refine X_callSH (n := 3) (pc := 2082) C [.ref (P.2.2.1 (.inr 0)), .int (xs (i + 1)), .ref (P.2.2.1 (.inr 19))] (p_calledTrunk l hl0 P hP σ hR (xs (i + 1))) m_h_L_calledTrunk m_m_L_284 m_t_L_calledTrunk m_n_L ⟨by decide +kernel, by decide +kernel, by decide +kernel⟩ ⟨Nat.le_of_ble_eq_true rfl, Nat.le_of_ble_eq_true rfl⟩ ⟨Nat.le_trans (Nat.add_le_add_left (Nat.le_of_ble_eq_true rfl) _) hc.1, Nat.le_trans (Nat.add_le_add_left (Nat.le_of_ble_eq_true rfl) _) hc.2⟩ rfl (Nat.le_of_ble_eq_true rfl) rfl dL_law_2082 (fun v9 σ1 hp => ?_)
  obtain ⟨k, v, τ1, rfl, hM, hR1, h7, h0, hB⟩ := hp
  show XW p l e room_1 s m args below meth c P A 9 _ _ Q σ1 2085 (lvL P b i) [.int k]
  refine X_istore (pc := 2085) (lv1 := [(0, .ref b), (1, .ref (P.2.2.1 (.inr 0))), (2, .ref (P.2.2.1 (.inr 9))), (3, .ref (P.2.2.1 (.inr 19))), (4, .int (nI i)), (5, .int k)]) C dL_law_2085 (by decide) rfl ?_
  refine X_aload_n (pc := 2087) C 2 dL_law_2087 rfl rfl ?_
  refine X_arg (pc := 2088) C hX hi 1 (by decide) (by decide) rfl rfl dL_law_2088 dL_law_2089 dL_law_2091 dL_law_2092 dL_law_2093 ?_
  refine X_vI (i9 := .inr 9) (ci := 7) (n := 1) (pc := 2094) C [.int (xs (i + 1))] hM m_c_X7_calledTrunk m_m_L_286 m_i_X7_calledTrunk m_s_X7_calledTrunk m_n_X7 ⟨by decide +kernel, by decide +kernel, by decide +kernel⟩ ⟨Nat.le_of_ble_eq_true rfl, Nat.le_of_ble_eq_true rfl⟩ ⟨rfl, rfl⟩ ⟨Nat.le_trans (Nat.add_le_add_left (Nat.le_of_ble_eq_true rfl) _) hc.1, Nat.le_trans (Nat.add_le_add_left (Nat.le_of_ble_eq_true rfl) _) hc.2⟩ (hP.2.1 9 (by decide) (by decide)) rfl rfl rfl rfl (Nat.le_of_ble_eq_true rfl) rfl dL_law_2094 ?_
  exact X_tailI (pc := 2097) C hP h7 h0 ⟨Nat.le_trans (Nat.add_le_add_left (Nat.le_of_ble_eq_true rfl) _) hc.1, Nat.le_trans (Nat.add_le_add_left (Nat.le_of_ble_eq_true rfl) _) hc.2⟩ dL_law_2097 dL_law_2099 dL_law_2100 dL_law_2103 dL_law_2105 dL_law_2110 dL_law_2112 dL_law_2115 dL_law_2116 dL_law_2117 dL_law_2118 dL_law_2120 dL_law_2121 dL_law_2122 dL_law_2127 (by decide) (XW.widen (Nat.add_le_add_left (Nat.le_of_ble_eq_true rfl) _) (Nat.add_le_add_left (Nat.le_of_ble_eq_true rfl) _) (kk _ hR1))

set_option maxRecDepth 100000 in
set_option maxHeartbeats 4000000 in
theorem k_42 (hl0 : l.stackTraces = false) (C : XC p s m args meth c P A 9 RL cL_law ret) (hP : xAll P) (hX : SC s A b L xs) (hi : i + 6 ≤ L) (hR : RV σ) (hc : cells + 8 ≤ room_1.cells ∧ slots + 64 ≤ room_1.slots) (kk : ∀ σ1, RV σ1 → XW p l e room_1 s m args below meth c P A 9 (cells + 8) (slots + 64) Q σ1 2900 (lvL P b i) []) : XW p l e room_1 s m args below meth c P A 9 cells slots Q σ 2130 (lvL P b i) [] := by
  refine X_aload_n (pc := 2130) C 1 dL_law_2130 rfl rfl ?_
  refine X_arg (pc := 2131) C hX hi 1 (by decide) (by decide) rfl rfl dL_law_2131 dL_law_2132 dL_law_2134 dL_law_2135 dL_law_2136 ?_
  refine X_aload_n (pc := 2137) C 3 dL_law_2137 rfl rfl ?_
  refine X_callSH (n := 3) (pc := 2138) C [.ref (P.2.2.1 (.inr 0)), .int (xs (i + 1)), .ref (P.2.2.1 (.inr 19))] (p_startTime l hl0 P hP σ hR (xs (i + 1))) m_h_L_startTime m_m_L_287 m_t_L_startTime m_n_L ⟨by decide +kernel, by decide +kernel, by decide +kernel⟩ ⟨Nat.le_of_ble_eq_true rfl, Nat.le_of_ble_eq_true rfl⟩ ⟨Nat.le_trans (Nat.add_le_add_left (Nat.le_of_ble_eq_true rfl) _) hc.1, Nat.le_trans (Nat.add_le_add_left (Nat.le_of_ble_eq_true rfl) _) hc.2⟩ rfl (Nat.le_of_ble_eq_true rfl) rfl dL_law_2138 (fun v9 σ1 hp => ?_)
  obtain ⟨k, v, τ1, rfl, hM, hR1, h7, h0, hB⟩ := hp
  show XW p l e room_1 s m args below meth c P A 9 _ _ Q σ1 2141 (lvL P b i) [.int k]
  refine X_istore (pc := 2141) (lv1 := [(0, .ref b), (1, .ref (P.2.2.1 (.inr 0))), (2, .ref (P.2.2.1 (.inr 9))), (3, .ref (P.2.2.1 (.inr 19))), (4, .int (nI i)), (5, .int k)]) C dL_law_2141 (by decide) rfl ?_
  refine X_aload_n (pc := 2143) C 2 dL_law_2143 rfl rfl ?_
  refine X_arg (pc := 2144) C hX hi 1 (by decide) (by decide) rfl rfl dL_law_2144 dL_law_2145 dL_law_2147 dL_law_2148 dL_law_2149 ?_
  refine X_vI (i9 := .inr 9) (ci := 7) (n := 1) (pc := 2150) C [.int (xs (i + 1))] hM m_c_X7_startTime m_m_L_289 m_i_X7_startTime m_s_X7_startTime m_n_X7 ⟨by decide +kernel, by decide +kernel, by decide +kernel⟩ ⟨Nat.le_of_ble_eq_true rfl, Nat.le_of_ble_eq_true rfl⟩ ⟨rfl, rfl⟩ ⟨Nat.le_trans (Nat.add_le_add_left (Nat.le_of_ble_eq_true rfl) _) hc.1, Nat.le_trans (Nat.add_le_add_left (Nat.le_of_ble_eq_true rfl) _) hc.2⟩ (hP.2.1 9 (by decide) (by decide)) rfl rfl rfl rfl (Nat.le_of_ble_eq_true rfl) rfl dL_law_2150 ?_
  exact X_tailI (pc := 2153) C hP h7 h0 ⟨Nat.le_trans (Nat.add_le_add_left (Nat.le_of_ble_eq_true rfl) _) hc.1, Nat.le_trans (Nat.add_le_add_left (Nat.le_of_ble_eq_true rfl) _) hc.2⟩ dL_law_2153 dL_law_2155 dL_law_2156 dL_law_2159 dL_law_2161 dL_law_2166 dL_law_2168 dL_law_2171 dL_law_2172 dL_law_2173 dL_law_2174 dL_law_2176 dL_law_2177 dL_law_2178 dL_law_2183 (by decide) (XW.widen (Nat.add_le_add_left (Nat.le_of_ble_eq_true rfl) _) (Nat.add_le_add_left (Nat.le_of_ble_eq_true rfl) _) (kk _ hR1))

set_option maxRecDepth 100000 in
set_option maxHeartbeats 4000000 in
theorem k_43 (hl0 : l.stackTraces = false) (C : XC p s m args meth c P A 9 RL cL_law ret) (hP : xAll P) (hX : SC s A b L xs) (hi : i + 6 ≤ L) (hR : RV σ) (hc : cells + 8 ≤ room_1.cells ∧ slots + 64 ≤ room_1.slots) (kk : ∀ σ1, RV σ1 → XW p l e room_1 s m args below meth c P A 9 (cells + 8) (slots + 64) Q σ1 2900 (lvL P b i) []) : XW p l e room_1 s m args below meth c P A 9 cells slots Q σ 2186 (lvL P b i) [] := by
  refine X_aload_n (pc := 2186) C 1 dL_law_2186 rfl rfl ?_
  refine X_arg (pc := 2187) C hX hi 1 (by decide) (by decide) rfl rfl dL_law_2187 dL_law_2188 dL_law_2190 dL_law_2191 dL_law_2192 ?_
  refine X_aload_n (pc := 2193) C 3 dL_law_2193 rfl rfl ?_
  refine X_callSH (n := 3) (pc := 2194) C [.ref (P.2.2.1 (.inr 0)), .int (xs (i + 1)), .ref (P.2.2.1 (.inr 19))] (p_endTime l hl0 P hP σ hR (xs (i + 1))) m_h_L_endTime m_m_L_290 m_t_L_endTime m_n_L ⟨by decide +kernel, by decide +kernel, by decide +kernel⟩ ⟨Nat.le_of_ble_eq_true rfl, Nat.le_of_ble_eq_true rfl⟩ ⟨Nat.le_trans (Nat.add_le_add_left (Nat.le_of_ble_eq_true rfl) _) hc.1, Nat.le_trans (Nat.add_le_add_left (Nat.le_of_ble_eq_true rfl) _) hc.2⟩ rfl (Nat.le_of_ble_eq_true rfl) rfl dL_law_2194 (fun v9 σ1 hp => ?_)
  obtain ⟨k, v, τ1, rfl, hM, hR1, h7, h0, hB⟩ := hp
  show XW p l e room_1 s m args below meth c P A 9 _ _ Q σ1 2197 (lvL P b i) [.int k]
  refine X_istore (pc := 2197) (lv1 := [(0, .ref b), (1, .ref (P.2.2.1 (.inr 0))), (2, .ref (P.2.2.1 (.inr 9))), (3, .ref (P.2.2.1 (.inr 19))), (4, .int (nI i)), (5, .int k)]) C dL_law_2197 (by decide) rfl ?_
  refine X_aload_n (pc := 2199) C 2 dL_law_2199 rfl rfl ?_
  refine X_arg (pc := 2200) C hX hi 1 (by decide) (by decide) rfl rfl dL_law_2200 dL_law_2201 dL_law_2203 dL_law_2204 dL_law_2205 ?_
  refine X_vI (i9 := .inr 9) (ci := 7) (n := 1) (pc := 2206) C [.int (xs (i + 1))] hM m_c_X7_endTime m_m_L_292 m_i_X7_endTime m_s_X7_endTime m_n_X7 ⟨by decide +kernel, by decide +kernel, by decide +kernel⟩ ⟨Nat.le_of_ble_eq_true rfl, Nat.le_of_ble_eq_true rfl⟩ ⟨rfl, rfl⟩ ⟨Nat.le_trans (Nat.add_le_add_left (Nat.le_of_ble_eq_true rfl) _) hc.1, Nat.le_trans (Nat.add_le_add_left (Nat.le_of_ble_eq_true rfl) _) hc.2⟩ (hP.2.1 9 (by decide) (by decide)) rfl rfl rfl rfl (Nat.le_of_ble_eq_true rfl) rfl dL_law_2206 ?_
  exact X_tailI (pc := 2209) C hP h7 h0 ⟨Nat.le_trans (Nat.add_le_add_left (Nat.le_of_ble_eq_true rfl) _) hc.1, Nat.le_trans (Nat.add_le_add_left (Nat.le_of_ble_eq_true rfl) _) hc.2⟩ dL_law_2209 dL_law_2211 dL_law_2212 dL_law_2215 dL_law_2217 dL_law_2222 dL_law_2224 dL_law_2227 dL_law_2228 dL_law_2229 dL_law_2230 dL_law_2232 dL_law_2233 dL_law_2234 dL_law_2239 (by decide) (XW.widen (Nat.add_le_add_left (Nat.le_of_ble_eq_true rfl) _) (Nat.add_le_add_left (Nat.le_of_ble_eq_true rfl) _) (kk _ hR1))

set_option maxRecDepth 100000 in
set_option maxHeartbeats 4000000 in
theorem k_44 (hl0 : l.stackTraces = false) (C : XC p s m args meth c P A 9 RL cL_law ret) (hP : xAll P) (hX : SC s A b L xs) (hi : i + 6 ≤ L) (hR : RV σ) (hc : cells + 8 ≤ room_1.cells ∧ slots + 64 ≤ room_1.slots) (kk : ∀ σ1, RV σ1 → XW p l e room_1 s m args below meth c P A 9 (cells + 8) (slots + 64) Q σ1 2900 (lvL P b i) []) : XW p l e room_1 s m args below meth c P A 9 cells slots Q σ 2242 (lvL P b i) [] := by
  refine X_aload_n (pc := 2242) C 1 dL_law_2242 rfl rfl ?_
  refine X_arg (pc := 2243) C hX hi 1 (by decide) (by decide) rfl rfl dL_law_2243 dL_law_2244 dL_law_2246 dL_law_2247 dL_law_2248 ?_
  refine X_aload_n (pc := 2249) C 3 dL_law_2249 rfl rfl ?_
  refine X_callSH (n := 3) (pc := 2250) C [.ref (P.2.2.1 (.inr 0)), .int (xs (i + 1)), .ref (P.2.2.1 (.inr 19))] (p_listeners l hl0 P hP σ hR (xs (i + 1))) m_h_L_listeners m_m_L_293 m_t_L_listeners m_n_L ⟨by decide +kernel, by decide +kernel, by decide +kernel⟩ ⟨Nat.le_of_ble_eq_true rfl, Nat.le_of_ble_eq_true rfl⟩ ⟨Nat.le_trans (Nat.add_le_add_left (Nat.le_of_ble_eq_true rfl) _) hc.1, Nat.le_trans (Nat.add_le_add_left (Nat.le_of_ble_eq_true rfl) _) hc.2⟩ rfl (Nat.le_of_ble_eq_true rfl) rfl dL_law_2250 (fun v9 σ1 hp => ?_)
  obtain ⟨k, v, τ1, rfl, hM, hR1, h7, h0, hB⟩ := hp
  show XW p l e room_1 s m args below meth c P A 9 _ _ Q σ1 2253 (lvL P b i) [.int k]
  refine X_istore (pc := 2253) (lv1 := [(0, .ref b), (1, .ref (P.2.2.1 (.inr 0))), (2, .ref (P.2.2.1 (.inr 9))), (3, .ref (P.2.2.1 (.inr 19))), (4, .int (nI i)), (5, .int k)]) C dL_law_2253 (by decide) rfl ?_
  refine X_aload_n (pc := 2255) C 2 dL_law_2255 rfl rfl ?_
  refine X_arg (pc := 2256) C hX hi 1 (by decide) (by decide) rfl rfl dL_law_2256 dL_law_2257 dL_law_2259 dL_law_2260 dL_law_2261 ?_
  refine X_vI (i9 := .inr 9) (ci := 7) (n := 1) (pc := 2262) C [.int (xs (i + 1))] hM m_c_X7_listeners m_m_L_295 m_i_X7_listeners m_s_X7_listeners m_n_X7 ⟨by decide +kernel, by decide +kernel, by decide +kernel⟩ ⟨Nat.le_of_ble_eq_true rfl, Nat.le_of_ble_eq_true rfl⟩ ⟨rfl, rfl⟩ ⟨Nat.le_trans (Nat.add_le_add_left (Nat.le_of_ble_eq_true rfl) _) hc.1, Nat.le_trans (Nat.add_le_add_left (Nat.le_of_ble_eq_true rfl) _) hc.2⟩ (hP.2.1 9 (by decide) (by decide)) rfl rfl rfl rfl (Nat.le_of_ble_eq_true rfl) rfl dL_law_2262 ?_
  exact X_tailI (pc := 2265) C hP h7 h0 ⟨Nat.le_trans (Nat.add_le_add_left (Nat.le_of_ble_eq_true rfl) _) hc.1, Nat.le_trans (Nat.add_le_add_left (Nat.le_of_ble_eq_true rfl) _) hc.2⟩ dL_law_2265 dL_law_2267 dL_law_2268 dL_law_2271 dL_law_2273 dL_law_2278 dL_law_2280 dL_law_2283 dL_law_2284 dL_law_2285 dL_law_2286 dL_law_2288 dL_law_2289 dL_law_2290 dL_law_2295 (by decide) (XW.widen (Nat.add_le_add_left (Nat.le_of_ble_eq_true rfl) _) (Nat.add_le_add_left (Nat.le_of_ble_eq_true rfl) _) (kk _ hR1))

set_option maxRecDepth 100000 in
set_option maxHeartbeats 4000000 in
theorem k_45 (hl0 : l.stackTraces = false) (C : XC p s m args meth c P A 9 RL cL_law ret) (hP : xAll P) (hX : SC s A b L xs) (hi : i + 6 ≤ L) (hR : RV σ) (hc : cells + 8 ≤ room_1.cells ∧ slots + 64 ≤ room_1.slots) (kk : ∀ σ1, RV σ1 → XW p l e room_1 s m args below meth c P A 9 (cells + 8) (slots + 64) Q σ1 2900 (lvL P b i) []) : XW p l e room_1 s m args below meth c P A 9 cells slots Q σ 2298 (lvL P b i) [] := by
  refine X_aload_n (pc := 2298) C 1 dL_law_2298 rfl rfl ?_
  refine X_arg (pc := 2299) C hX hi 1 (by decide) (by decide) rfl rfl dL_law_2299 dL_law_2300 dL_law_2302 dL_law_2303 dL_law_2304 ?_
  refine X_aload_n (pc := 2305) C 3 dL_law_2305 rfl rfl ?_
  refine X_callSH (n := 3) (pc := 2306) C [.ref (P.2.2.1 (.inr 0)), .int (xs (i + 1)), .ref (P.2.2.1 (.inr 19))] (p_volume l hl0 P hP σ hR (xs (i + 1))) m_h_L_volume m_m_L_296 m_t_L_volume m_n_L ⟨by decide +kernel, by decide +kernel, by decide +kernel⟩ ⟨Nat.le_of_ble_eq_true rfl, Nat.le_of_ble_eq_true rfl⟩ ⟨Nat.le_trans (Nat.add_le_add_left (Nat.le_of_ble_eq_true rfl) _) hc.1, Nat.le_trans (Nat.add_le_add_left (Nat.le_of_ble_eq_true rfl) _) hc.2⟩ rfl (Nat.le_of_ble_eq_true rfl) rfl dL_law_2306 (fun v9 σ1 hp => ?_)
  obtain ⟨k, v, τ1, rfl, hM, hR1, h7, h0, hB⟩ := hp
  show XW p l e room_1 s m args below meth c P A 9 _ _ Q σ1 2309 (lvL P b i) [.int k]
  refine X_istore (pc := 2309) (lv1 := [(0, .ref b), (1, .ref (P.2.2.1 (.inr 0))), (2, .ref (P.2.2.1 (.inr 9))), (3, .ref (P.2.2.1 (.inr 19))), (4, .int (nI i)), (5, .int k)]) C dL_law_2309 (by decide) rfl ?_
  refine X_aload_n (pc := 2311) C 2 dL_law_2311 rfl rfl ?_
  refine X_arg (pc := 2312) C hX hi 1 (by decide) (by decide) rfl rfl dL_law_2312 dL_law_2313 dL_law_2315 dL_law_2316 dL_law_2317 ?_
  refine X_vI (i9 := .inr 9) (ci := 7) (n := 1) (pc := 2318) C [.int (xs (i + 1))] hM m_c_X7_volume m_m_L_298 m_i_X7_volume m_s_X7_volume m_n_X7 ⟨by decide +kernel, by decide +kernel, by decide +kernel⟩ ⟨Nat.le_of_ble_eq_true rfl, Nat.le_of_ble_eq_true rfl⟩ ⟨rfl, rfl⟩ ⟨Nat.le_trans (Nat.add_le_add_left (Nat.le_of_ble_eq_true rfl) _) hc.1, Nat.le_trans (Nat.add_le_add_left (Nat.le_of_ble_eq_true rfl) _) hc.2⟩ (hP.2.1 9 (by decide) (by decide)) rfl rfl rfl rfl (Nat.le_of_ble_eq_true rfl) rfl dL_law_2318 ?_
  exact X_tailI (pc := 2321) C hP h7 h0 ⟨Nat.le_trans (Nat.add_le_add_left (Nat.le_of_ble_eq_true rfl) _) hc.1, Nat.le_trans (Nat.add_le_add_left (Nat.le_of_ble_eq_true rfl) _) hc.2⟩ dL_law_2321 dL_law_2323 dL_law_2324 dL_law_2327 dL_law_2329 dL_law_2334 dL_law_2336 dL_law_2339 dL_law_2340 dL_law_2341 dL_law_2342 dL_law_2344 dL_law_2345 dL_law_2346 dL_law_2351 (by decide) (XW.widen (Nat.add_le_add_left (Nat.le_of_ble_eq_true rfl) _) (Nat.add_le_add_left (Nat.le_of_ble_eq_true rfl) _) (kk _ hR1))

set_option maxRecDepth 100000 in
set_option maxHeartbeats 4000000 in
theorem k_46 (hl0 : l.stackTraces = false) (C : XC p s m args meth c P A 9 RL cL_law ret) (hP : xAll P) (hX : SC s A b L xs) (hi : i + 6 ≤ L) (hR : RV σ) (hc : cells + 8 ≤ room_1.cells ∧ slots + 64 ≤ room_1.slots) (kk : ∀ σ1, RV σ1 → XW p l e room_1 s m args below meth c P A 9 (cells + 8) (slots + 64) Q σ1 2900 (lvL P b i) []) : XW p l e room_1 s m args below meth c P A 9 cells slots Q σ 2354 (lvL P b i) [] := by
  refine X_aload_n (pc := 2354) C 1 dL_law_2354 rfl rfl ?_
  refine X_arg (pc := 2355) C hX hi 1 (by decide) (by decide) rfl rfl dL_law_2355 dL_law_2356 dL_law_2358 dL_law_2359 dL_law_2360 ?_
  refine X_aload_n (pc := 2361) C 3 dL_law_2361 rfl rfl ?_
  refine X_callSH (n := 3) (pc := 2362) C [.ref (P.2.2.1 (.inr 0)), .int (xs (i + 1)), .ref (P.2.2.1 (.inr 19))] (p_charge l hl0 P hP σ hR (xs (i + 1))) m_h_L_charge m_m_L_299 m_t_L_charge m_n_L ⟨by decide +kernel, by decide +kernel, by decide +kernel⟩ ⟨Nat.le_of_ble_eq_true rfl, Nat.le_of_ble_eq_true rfl⟩ ⟨Nat.le_trans (Nat.add_le_add_left (Nat.le_of_ble_eq_true rfl) _) hc.1, Nat.le_trans (Nat.add_le_add_left (Nat.le_of_ble_eq_true rfl) _) hc.2⟩ rfl (Nat.le_of_ble_eq_true rfl) rfl dL_law_2362 (fun v9 σ1 hp => ?_)
  obtain ⟨k, v, τ1, rfl, hM, hR1, h7, h0, hB⟩ := hp
  show XW p l e room_1 s m args below meth c P A 9 _ _ Q σ1 2365 (lvL P b i) [.int k]
  refine X_istore (pc := 2365) (lv1 := [(0, .ref b), (1, .ref (P.2.2.1 (.inr 0))), (2, .ref (P.2.2.1 (.inr 9))), (3, .ref (P.2.2.1 (.inr 19))), (4, .int (nI i)), (5, .int k)]) C dL_law_2365 (by decide) rfl ?_
  refine X_aload_n (pc := 2367) C 2 dL_law_2367 rfl rfl ?_
  refine X_arg (pc := 2368) C hX hi 1 (by decide) (by decide) rfl rfl dL_law_2368 dL_law_2369 dL_law_2371 dL_law_2372 dL_law_2373 ?_
  refine X_vI (i9 := .inr 9) (ci := 7) (n := 1) (pc := 2374) C [.int (xs (i + 1))] hM m_c_X7_charge m_m_L_301 m_i_X7_charge m_s_X7_charge m_n_X7 ⟨by decide +kernel, by decide +kernel, by decide +kernel⟩ ⟨Nat.le_of_ble_eq_true rfl, Nat.le_of_ble_eq_true rfl⟩ ⟨rfl, rfl⟩ ⟨Nat.le_trans (Nat.add_le_add_left (Nat.le_of_ble_eq_true rfl) _) hc.1, Nat.le_trans (Nat.add_le_add_left (Nat.le_of_ble_eq_true rfl) _) hc.2⟩ (hP.2.1 9 (by decide) (by decide)) rfl rfl rfl rfl (Nat.le_of_ble_eq_true rfl) rfl dL_law_2374 ?_
  exact X_tailI (pc := 2377) C hP h7 h0 ⟨Nat.le_trans (Nat.add_le_add_left (Nat.le_of_ble_eq_true rfl) _) hc.1, Nat.le_trans (Nat.add_le_add_left (Nat.le_of_ble_eq_true rfl) _) hc.2⟩ dL_law_2377 dL_law_2379 dL_law_2380 dL_law_2383 dL_law_2385 dL_law_2390 dL_law_2392 dL_law_2395 dL_law_2396 dL_law_2397 dL_law_2398 dL_law_2400 dL_law_2401 dL_law_2402 dL_law_2407 (by decide) (XW.widen (Nat.add_le_add_left (Nat.le_of_ble_eq_true rfl) _) (Nat.add_le_add_left (Nat.le_of_ble_eq_true rfl) _) (kk _ hR1))

set_option maxRecDepth 100000 in
set_option maxHeartbeats 4000000 in
theorem k_47 (hl0 : l.stackTraces = false) (C : XC p s m args meth c P A 9 RL cL_law ret) (hP : xAll P) (hX : SC s A b L xs) (hi : i + 6 ≤ L) (hR : RV σ) (hc : cells + 8 ≤ room_1.cells ∧ slots + 64 ≤ room_1.slots) (kk : ∀ σ1, RV σ1 → XW p l e room_1 s m args below meth c P A 9 (cells + 8) (slots + 64) Q σ1 2900 (lvL P b i) []) : XW p l e room_1 s m args below meth c P A 9 cells slots Q σ 2410 (lvL P b i) [] := by
  refine X_aload_n (pc := 2410) C 1 dL_law_2410 rfl rfl ?_
  refine X_arg (pc := 2411) C hX hi 1 (by decide) (by decide) rfl rfl dL_law_2411 dL_law_2412 dL_law_2414 dL_law_2415 dL_law_2416 ?_
  refine X_aload_n (pc := 2417) C 3 dL_law_2417 rfl rfl ?_
  refine X_callSH (n := 3) (pc := 2418) C [.ref (P.2.2.1 (.inr 0)), .int (xs (i + 1)), .ref (P.2.2.1 (.inr 19))] (p_obstacle l hl0 P hP σ hR (xs (i + 1))) m_h_L_obstacle m_m_L_302 m_t_L_obstacle m_n_L ⟨by decide +kernel, by decide +kernel, by decide +kernel⟩ ⟨Nat.le_of_ble_eq_true rfl, Nat.le_of_ble_eq_true rfl⟩ ⟨Nat.le_trans (Nat.add_le_add_left (Nat.le_of_ble_eq_true rfl) _) hc.1, Nat.le_trans (Nat.add_le_add_left (Nat.le_of_ble_eq_true rfl) _) hc.2⟩ rfl (Nat.le_of_ble_eq_true rfl) rfl dL_law_2418 (fun v9 σ1 hp => ?_)
  obtain ⟨k, v, τ1, rfl, hM, hR1, h7, h0, hB⟩ := hp
  show XW p l e room_1 s m args below meth c P A 9 _ _ Q σ1 2421 (lvL P b i) [.int k]
  refine X_istore (pc := 2421) (lv1 := [(0, .ref b), (1, .ref (P.2.2.1 (.inr 0))), (2, .ref (P.2.2.1 (.inr 9))), (3, .ref (P.2.2.1 (.inr 19))), (4, .int (nI i)), (5, .int k)]) C dL_law_2421 (by decide) rfl ?_
  refine X_aload_n (pc := 2423) C 2 dL_law_2423 rfl rfl ?_
  refine X_arg (pc := 2424) C hX hi 1 (by decide) (by decide) rfl rfl dL_law_2424 dL_law_2425 dL_law_2427 dL_law_2428 dL_law_2429 ?_
  refine X_vI (i9 := .inr 9) (ci := 7) (n := 1) (pc := 2430) C [.int (xs (i + 1))] hM m_c_X7_obstacle m_m_L_304 m_i_X7_obstacle m_s_X7_obstacle m_n_X7 ⟨by decide +kernel, by decide +kernel, by decide +kernel⟩ ⟨Nat.le_of_ble_eq_true rfl, Nat.le_of_ble_eq_true rfl⟩ ⟨rfl, rfl⟩ ⟨Nat.le_trans (Nat.add_le_add_left (Nat.le_of_ble_eq_true rfl) _) hc.1, Nat.le_trans (Nat.add_le_add_left (Nat.le_of_ble_eq_true rfl) _) hc.2⟩ (hP.2.1 9 (by decide) (by decide)) rfl rfl rfl rfl (Nat.le_of_ble_eq_true rfl) rfl dL_law_2430 ?_
  exact X_tailI (pc := 2433) C hP h7 h0 ⟨Nat.le_trans (Nat.add_le_add_left (Nat.le_of_ble_eq_true rfl) _) hc.1, Nat.le_trans (Nat.add_le_add_left (Nat.le_of_ble_eq_true rfl) _) hc.2⟩ dL_law_2433 dL_law_2435 dL_law_2436 dL_law_2439 dL_law_2441 dL_law_2446 dL_law_2448 dL_law_2451 dL_law_2452 dL_law_2453 dL_law_2454 dL_law_2456 dL_law_2457 dL_law_2458 dL_law_2463 (by decide) (XW.widen (Nat.add_le_add_left (Nat.le_of_ble_eq_true rfl) _) (Nat.add_le_add_left (Nat.le_of_ble_eq_true rfl) _) (kk _ hR1))

set_option maxRecDepth 100000 in
set_option maxHeartbeats 4000000 in
theorem k_48 (hl0 : l.stackTraces = false) (C : XC p s m args meth c P A 9 RL cL_law ret) (hP : xAll P) (hX : SC s A b L xs) (hi : i + 6 ≤ L) (hR : RV σ) (hc : cells + 8 ≤ room_1.cells ∧ slots + 64 ≤ room_1.slots) (kk : ∀ σ1, RV σ1 → XW p l e room_1 s m args below meth c P A 9 (cells + 8) (slots + 64) Q σ1 2900 (lvL P b i) []) : XW p l e room_1 s m args below meth c P A 9 cells slots Q σ 2466 (lvL P b i) [] := by
  refine X_aload_n (pc := 2466) C 1 dL_law_2466 rfl rfl ?_
  refine X_arg (pc := 2467) C hX hi 1 (by decide) (by decide) rfl rfl dL_law_2467 dL_law_2468 dL_law_2470 dL_law_2471 dL_law_2472 ?_
  refine X_aload_n (pc := 2473) C 3 dL_law_2473 rfl rfl ?_
  refine X_callSH (n := 3) (pc := 2474) C [.ref (P.2.2.1 (.inr 0)), .int (xs (i + 1)), .ref (P.2.2.1 (.inr 19))] (p_queuePlace l hl0 P hP σ hR (xs (i + 1))) m_h_L_queuePlace m_m_L_305 m_t_L_queuePlace m_n_L ⟨by decide +kernel, by decide +kernel, by decide +kernel⟩ ⟨Nat.le_of_ble_eq_true rfl, Nat.le_of_ble_eq_true rfl⟩ ⟨Nat.le_trans (Nat.add_le_add_left (Nat.le_of_ble_eq_true rfl) _) hc.1, Nat.le_trans (Nat.add_le_add_left (Nat.le_of_ble_eq_true rfl) _) hc.2⟩ rfl (Nat.le_of_ble_eq_true rfl) rfl dL_law_2474 (fun v9 σ1 hp => ?_)
  obtain ⟨k, v, τ1, rfl, hM, hR1, h7, h0, hB⟩ := hp
  show XW p l e room_1 s m args below meth c P A 9 _ _ Q σ1 2477 (lvL P b i) [.int k]
  refine X_istore (pc := 2477) (lv1 := [(0, .ref b), (1, .ref (P.2.2.1 (.inr 0))), (2, .ref (P.2.2.1 (.inr 9))), (3, .ref (P.2.2.1 (.inr 19))), (4, .int (nI i)), (5, .int k)]) C dL_law_2477 (by decide) rfl ?_
  refine X_aload_n (pc := 2479) C 2 dL_law_2479 rfl rfl ?_
  refine X_arg (pc := 2480) C hX hi 1 (by decide) (by decide) rfl rfl dL_law_2480 dL_law_2481 dL_law_2483 dL_law_2484 dL_law_2485 ?_
  refine X_vI (i9 := .inr 9) (ci := 7) (n := 1) (pc := 2486) C [.int (xs (i + 1))] hM m_c_X7_queuePlace m_m_L_307 m_i_X7_queuePlace m_s_X7_queuePlace m_n_X7 ⟨by decide +kernel, by decide +kernel, by decide +kernel⟩ ⟨Nat.le_of_ble_eq_true rfl, Nat.le_of_ble_eq_true rfl⟩ ⟨rfl, rfl⟩ ⟨Nat.le_trans (Nat.add_le_add_left (Nat.le_of_ble_eq_true rfl) _) hc.1, Nat.le_trans (Nat.add_le_add_left (Nat.le_of_ble_eq_true rfl) _) hc.2⟩ (hP.2.1 9 (by decide) (by decide)) rfl rfl rfl rfl (Nat.le_of_ble_eq_true rfl) rfl dL_law_2486 ?_
  exact X_tailI (pc := 2489) C hP h7 h0 ⟨Nat.le_trans (Nat.add_le_add_left (Nat.le_of_ble_eq_true rfl) _) hc.1, Nat.le_trans (Nat.add_le_add_left (Nat.le_of_ble_eq_true rfl) _) hc.2⟩ dL_law_2489 dL_law_2491 dL_law_2492 dL_law_2495 dL_law_2497 dL_law_2502 dL_law_2504 dL_law_2507 dL_law_2508 dL_law_2509 dL_law_2510 dL_law_2512 dL_law_2513 dL_law_2514 dL_law_2519 (by decide) (XW.widen (Nat.add_le_add_left (Nat.le_of_ble_eq_true rfl) _) (Nat.add_le_add_left (Nat.le_of_ble_eq_true rfl) _) (kk _ hR1))

set_option maxRecDepth 100000 in
set_option maxHeartbeats 4000000 in
theorem k_49 (hl0 : l.stackTraces = false) (C : XC p s m args meth c P A 9 RL cL_law ret) (hP : xAll P) (hX : SC s A b L xs) (hi : i + 6 ≤ L) (hR : RV σ) (hc : cells + 8 ≤ room_1.cells ∧ slots + 64 ≤ room_1.slots) (kk : ∀ σ1, RV σ1 → XW p l e room_1 s m args below meth c P A 9 (cells + 8) (slots + 64) Q σ1 2900 (lvL P b i) []) : XW p l e room_1 s m args below meth c P A 9 cells slots Q σ 2522 (lvL P b i) [] := by
  refine X_aload_n (pc := 2522) C 1 dL_law_2522 rfl rfl ?_
  refine X_arg (pc := 2523) C hX hi 1 (by decide) (by decide) rfl rfl dL_law_2523 dL_law_2524 dL_law_2526 dL_law_2527 dL_law_2528 ?_
  refine X_aload_n (pc := 2529) C 3 dL_law_2529 rfl rfl ?_
  refine X_callSH (n := 3) (pc := 2530) C [.ref (P.2.2.1 (.inr 0)), .int (xs (i + 1)), .ref (P.2.2.1 (.inr 19))] (p_isUrgent l hl0 P hP σ hR (xs (i + 1))) m_h_L_isUrgent m_m_L_308 m_t_L_isUrgent m_n_L ⟨by decide +kernel, by decide +kernel, by decide +kernel⟩ ⟨Nat.le_of_ble_eq_true rfl, Nat.le_of_ble_eq_true rfl⟩ ⟨Nat.le_trans (Nat.add_le_add_left (Nat.le_of_ble_eq_true rfl) _) hc.1, Nat.le_trans (Nat.add_le_add_left (Nat.le_of_ble_eq_true rfl) _) hc.2⟩ rfl (Nat.le_of_ble_eq_true rfl) rfl dL_law_2530 (fun v9 σ1 hp => ?_)
  obtain ⟨k, v, τ1, rfl, hM, hR1, h7, h0, hB⟩ := hp
  show XW p l e room_1 s m args below meth c P A 9 _ _ Q σ1 2533 (lvL P b i) [.int k]
  refine X_istore (pc := 2533) (lv1 := [(0, .ref b), (1, .ref (P.2.2.1 (.inr 0))), (2, .ref (P.2.2.1 (.inr 9))), (3, .ref (P.2.2.1 (.inr 19))), (4, .int (nI i)), (5, .int k)]) C dL_law_2533 (by decide) rfl ?_
  refine X_aload_n (pc := 2535) C 2 dL_law_2535 rfl rfl ?_
  refine X_arg (pc := 2536) C hX hi 1 (by decide) (by decide) rfl rfl dL_law_2536 dL_law_2537 dL_law_2539 dL_law_2540 dL_law_2541 ?_
  refine X_vI (i9 := .inr 9) (ci := 7) (n := 1) (pc := 2542) C [.int (xs (i + 1))] hM m_c_X7_isUrgent m_m_L_310 m_i_X7_isUrgent m_s_X7_isUrgent m_n_X7 ⟨by decide +kernel, by decide +kernel, by decide +kernel⟩ ⟨Nat.le_of_ble_eq_true rfl, Nat.le_of_ble_eq_true rfl⟩ ⟨rfl, rfl⟩ ⟨Nat.le_trans (Nat.add_le_add_left (Nat.le_of_ble_eq_true rfl) _) hc.1, Nat.le_trans (Nat.add_le_add_left (Nat.le_of_ble_eq_true rfl) _) hc.2⟩ (hP.2.1 9 (by decide) (by decide)) rfl rfl rfl rfl (Nat.le_of_ble_eq_true rfl) rfl dL_law_2542 ?_
  exact X_tailB (pc := 2545) C hP h7 h0 hB ⟨Nat.le_trans (Nat.add_le_add_left (Nat.le_of_ble_eq_true rfl) _) hc.1, Nat.le_trans (Nat.add_le_add_left (Nat.le_of_ble_eq_true rfl) _) hc.2⟩ dL_law_2545 dL_law_2547 dL_law_2548 dL_law_2551 dL_law_2553 dL_law_2558 dL_law_2560 dL_law_2563 dL_law_2564 dL_law_2565 dL_law_2566 dL_law_2568 dL_law_2571 dL_law_2572 dL_law_2575 dL_law_2576 dL_law_2577 dL_law_2582 (by decide) (XW.widen (Nat.add_le_add_left (Nat.le_of_ble_eq_true rfl) _) (Nat.add_le_add_left (Nat.le_of_ble_eq_true rfl) _) (kk _ hR1))

set_option maxRecDepth 100000 in
set_option maxHeartbeats 4000000 in
theorem k_50 (hl0 : l.stackTraces = false) (C : XC p s m args meth c P A 9 RL cL_law ret) (hP : xAll P) (hX : SC s A b L xs) (hi : i + 6 ≤ L) (hR : RV σ) (hc : cells + 8 ≤ room_1.cells ∧ slots + 64 ≤ room_1.slots) (kk : ∀ σ1, RV σ1 → XW p l e room_1 s m args below meth c P A 9 (cells + 8) (slots + 64) Q σ1 2900 (lvL P b i) []) : XW p l e room_1 s m args below meth c P A 9 cells slots Q σ 2585 (lvL P b i) [] := by
  refine X_aload_n (pc := 2585) C 1 dL_law_2585 rfl rfl ?_
  refine X_arg (pc := 2586) C hX hi 1 (by decide) (by decide) rfl rfl dL_law_2586 dL_law_2587 dL_law_2589 dL_law_2590 dL_law_2591 ?_
  refine X_arg (pc := 2592) C hX hi 2 (by decide) (by decide) rfl rfl dL_law_2592 dL_law_2593 dL_law_2595 dL_law_2596 dL_law_2597 ?_
  refine X_aload_n (pc := 2598) C 3 dL_law_2598 rfl rfl ?_
  refine X_callSH (n := 4) (pc := 2599) C [.ref (P.2.2.1 (.inr 0)), .int (xs (i + 1)), .int (xs (i + 2)), .ref (P.2.2.1 (.inr 19))] (p_listenersBetween l hl0 P hP σ hR (xs (i + 1)) (xs (i + 2))) m_h_L_listenersBetween m_m_L_311 m_t_L_listenersBetween m_n_L ⟨by decide +kernel, by decide +kernel, by decide +kernel⟩ ⟨Nat.le_of_ble_eq_true rfl, Nat.le_of_ble_eq_true rfl⟩ ⟨Nat.le_trans (Nat.add_le_add_left (Nat.le_of_ble_eq_true rfl) _) hc.1, Nat.le_trans (Nat.add_le_add_left (Nat.le_of_ble_eq_true rfl) _) hc.2⟩ rfl (Nat.le_of_ble_eq_true rfl) rfl dL_law_2599 (fun v9 σ1 hp => ?_)
  obtain ⟨k, v, τ1, rfl, hM, hR1, h7, h0, hB⟩ := hp
  show XW p l e room_1 s m args below meth c P A 9 _ _ Q σ1 2602 (lvL P b i) [.int k]
  refine X_istore (pc := 2602) (lv1 := [(0, .ref b), (1, .ref (P.2.2.1 (.inr 0))), (2, .ref (P.2.2.1 (.inr 9))), (3, .ref (P.2.2.1 (.inr 19))), (4, .int (nI i)), (5, .int k)]) C dL_law_2602 (by decide) rfl ?_
  refine X_aload_n (pc := 2604) C 2 dL_law_2604 rfl rfl ?_
  refine X_arg (pc := 2605) C hX hi 1 (by decide) (by decide) rfl rfl dL_law_2605 dL_law_2606 dL_law_2608 dL_law_2609 dL_law_2610 ?_
  refine X_arg (pc := 2611) C hX hi 2 (by decide) (by decide) rfl rfl dL_law_2611 dL_law_2612 dL_law_2614 dL_law_2615 dL_law_2616 ?_
  refine X_vI (i9 := .inr 9) (ci := 7) (n := 2) (pc := 2617) C [.int (xs (i + 1)), .int (xs (i + 2))] hM m_c_X7_listenersBetween m_m_L_313 m_i_X7_listenersBetween m_s_X7_listenersBetween m_n_X7 ⟨by decide +kernel, by decide +kernel, by decide +kernel⟩ ⟨Nat.le_of_ble_eq_true rfl, Nat.le_of_ble_eq_true rfl⟩ ⟨rfl, rfl⟩ ⟨Nat.le_trans (Nat.add_le_add_left (Nat.le_of_ble_eq_true rfl) _) hc.1, Nat.le_trans (Nat.add_le_add_left (Nat.le_of_ble_eq_true rfl) _) hc.2⟩ (hP.2.1 9 (by decide) (by decide)) rfl rfl rfl rfl (Nat.le_of_ble_eq_true rfl) rfl dL_law_2617 ?_
  exact X_tailI (pc := 2620) C hP h7 h0 ⟨Nat.le_trans (Nat.add_le_add_left (Nat.le_of_ble_eq_true rfl) _) hc.1, Nat.le_trans (Nat.add_le_add_left (Nat.le_of_ble_eq_true rfl) _) hc.2⟩ dL_law_2620 dL_law_2622 dL_law_2623 dL_law_2626 dL_law_2628 dL_law_2633 dL_law_2635 dL_law_2638 dL_law_2639 dL_law_2640 dL_law_2641 dL_law_2643 dL_law_2644 dL_law_2645 dL_law_2650 (by decide) (XW.widen (Nat.add_le_add_left (Nat.le_of_ble_eq_true rfl) _) (Nat.add_le_add_left (Nat.le_of_ble_eq_true rfl) _) (kk _ hR1))

set_option maxRecDepth 100000 in
set_option maxHeartbeats 4000000 in
theorem k_51 (hl0 : l.stackTraces = false) (C : XC p s m args meth c P A 9 RL cL_law ret) (hP : xAll P) (hX : SC s A b L xs) (hi : i + 6 ≤ L) (hR : RV σ) (hc : cells + 8 ≤ room_1.cells ∧ slots + 64 ≤ room_1.slots) (kk : ∀ σ1, RV σ1 → XW p l e room_1 s m args below meth c P A 9 (cells + 8) (slots + 64) Q σ1 2900 (lvL P b i) []) : XW p l e room_1 s m args below meth c P A 9 cells slots Q σ 2653 (lvL P b i) [] := by
  refine X_aload_n (pc := 2653) C 1 dL_law_2653 rfl rfl ?_
  refine X_arg (pc := 2654) C hX hi 1 (by decide) (by decide) rfl rfl dL_law_2654 dL_law_2655 dL_law_2657 dL_law_2658 dL_law_2659 ?_
  refine X_aload_n (pc := 2660) C 3 dL_law_2660 rfl rfl ?_
  refine X_callSH (n := 3) (pc := 2661) C [.ref (P.2.2.1 (.inr 0)), .int (xs (i + 1)), .ref (P.2.2.1 (.inr 19))] (p_startsIfEnded l hl0 P hP σ hR (xs (i + 1))) m_h_L_startsIfEnded m_m_L_314 m_t_L_startsIfEnded m_n_L ⟨by decide +kernel, by decide +kernel, by decide +kernel⟩ ⟨Nat.le_of_ble_eq_true rfl, Nat.le_of_ble_eq_true rfl⟩ ⟨Nat.le_trans (Nat.add_le_add_left (Nat.le_of_ble_eq_true rfl) _) hc.1, Nat.le_trans (Nat.add_le_add_left (Nat.le_of_ble_eq_true rfl) _) hc.2⟩ rfl (Nat.le_of_ble_eq_true rfl) rfl dL_law_2661 (fun v9 σ1 hp => ?_)
  obtain ⟨k, v, τ1, rfl, hM, hR1, h7, h0, hB⟩ := hp
  show XW p l e room_1 s m args below meth c P A 9 _ _ Q σ1 2664 (lvL P b i) [.int k]
  refine X_istore (pc := 2664) (lv1 := [(0, .ref b), (1, .ref (P.2.2.1 (.inr 0))), (2, .ref (P.2.2.1 (.inr 9))), (3, .ref (P.2.2.1 (.inr 19))), (4, .int (nI i)), (5, .int k)]) C dL_law_2664 (by decide) rfl ?_
  refine X_aload_n (pc := 2666) C 2 dL_law_2666 rfl rfl ?_
  refine X_arg (pc := 2667) C hX hi 1 (by decide) (by decide) rfl rfl dL_law_2667 dL_law_2668 dL_law_2670 dL_law_2671 dL_law_2672 ?_
  refine X_vI (i9 := .inr 9) (ci := 7) (n := 1) (pc := 2673) C [.int (xs (i + 1))] hM m_c_X7_startsIfEnded m_m_L_316 m_i_X7_startsIfEnded m_s_X7_startsIfEnded m_n_X7 ⟨by decide +kernel, by decide +kernel, by decide +kernel⟩ ⟨Nat.le_of_ble_eq_true rfl, Nat.le_of_ble_eq_true rfl⟩ ⟨rfl, rfl⟩ ⟨Nat.le_trans (Nat.add_le_add_left (Nat.le_of_ble_eq_true rfl) _) hc.1, Nat.le_trans (Nat.add_le_add_left (Nat.le_of_ble_eq_true rfl) _) hc.2⟩ (hP.2.1 9 (by decide) (by decide)) rfl rfl rfl rfl (Nat.le_of_ble_eq_true rfl) rfl dL_law_2673 ?_
  exact X_tailI (pc := 2676) C hP h7 h0 ⟨Nat.le_trans (Nat.add_le_add_left (Nat.le_of_ble_eq_true rfl) _) hc.1, Nat.le_trans (Nat.add_le_add_left (Nat.le_of_ble_eq_true rfl) _) hc.2⟩ dL_law_2676 dL_law_2678 dL_law_2679 dL_law_2682 dL_law_2684 dL_law_2689 dL_law_2691 dL_law_2694 dL_law_2695 dL_law_2696 dL_law_2697 dL_law_2699 dL_law_2700 dL_law_2701 dL_law_2706 (by decide) (XW.widen (Nat.add_le_add_left (Nat.le_of_ble_eq_true rfl) _) (Nat.add_le_add_left (Nat.le_of_ble_eq_true rfl) _) (kk _ hR1))

set_option maxRecDepth 100000 in
set_option maxHeartbeats 4000000 in
theorem k_52 (hl0 : l.stackTraces = false) (C : XC p s m args meth c P A 9 RL cL_law ret) (hP : xAll P) (hX : SC s A b L xs) (hi : i + 6 ≤ L) (hR : RV σ) (hc : cells + 8 ≤ room_1.cells ∧ slots + 64 ≤ room_1.slots) (kk : ∀ σ1, RV σ1 → XW p l e room_1 s m args below meth c P A 9 (cells + 8) (slots + 64) Q σ1 2900 (lvL P b i) []) : XW p l e room_1 s m args below meth c P A 9 cells slots Q σ 2709 (lvL P b i) [] := by
  refine X_aload_n (pc := 2709) C 1 dL_law_2709 rfl rfl ?_
  refine X_arg (pc := 2710) C hX hi 1 (by decide) (by decide) rfl rfl dL_law_2710 dL_law_2711 dL_law_2713 dL_law_2714 dL_law_2715 ?_
  refine X_aload_n (pc := 2716) C 3 dL_law_2716 rfl rfl ?_
  refine X_callSH (n := 3) (pc := 2717) C [.ref (P.2.2.1 (.inr 0)), .int (xs (i + 1)), .ref (P.2.2.1 (.inr 19))] (p_quietestCall l hl0 P hP σ hR (xs (i + 1))) m_h_L_quietestCall m_m_L_317 m_t_L_quietestCall m_n_L ⟨by decide +kernel, by decide +kernel, by decide +kernel⟩ ⟨Nat.le_of_ble_eq_true rfl, Nat.le_of_ble_eq_true rfl⟩ ⟨Nat.le_trans (Nat.add_le_add_left (Nat.le_of_ble_eq_true rfl) _) hc.1, Nat.le_trans (Nat.add_le_add_left (Nat.le_of_ble_eq_true rfl) _) hc.2⟩ rfl (Nat.le_of_ble_eq_true rfl) rfl dL_law_2717 (fun v9 σ1 hp => ?_)
  obtain ⟨k, v, τ1, rfl, hM, hR1, h7, h0, hB⟩ := hp
  show XW p l e room_1 s m args below meth c P A 9 _ _ Q σ1 2720 (lvL P b i) [.int k]
  refine X_istore (pc := 2720) (lv1 := [(0, .ref b), (1, .ref (P.2.2.1 (.inr 0))), (2, .ref (P.2.2.1 (.inr 9))), (3, .ref (P.2.2.1 (.inr 19))), (4, .int (nI i)), (5, .int k)]) C dL_law_2720 (by decide) rfl ?_
  refine X_aload_n (pc := 2722) C 2 dL_law_2722 rfl rfl ?_
  refine X_arg (pc := 2723) C hX hi 1 (by decide) (by decide) rfl rfl dL_law_2723 dL_law_2724 dL_law_2726 dL_law_2727 dL_law_2728 ?_
  refine X_vI (i9 := .inr 9) (ci := 7) (n := 1) (pc := 2729) C [.int (xs (i + 1))] hM m_c_X7_quietestCall m_m_L_319 m_i_X7_quietestCall m_s_X7_quietestCall m_n_X7 ⟨by decide +kernel, by decide +kernel, by decide +kernel⟩ ⟨Nat.le_of_ble_eq_true rfl, Nat.le_of_ble_eq_true rfl⟩ ⟨rfl, rfl⟩ ⟨Nat.le_trans (Nat.add_le_add_left (Nat.le_of_ble_eq_true rfl) _) hc.1, Nat.le_trans (Nat.add_le_add_left (Nat.le_of_ble_eq_true rfl) _) hc.2⟩ (hP.2.1 9 (by decide) (by decide)) rfl rfl rfl rfl (Nat.le_of_ble_eq_true rfl) rfl dL_law_2729 ?_
  exact X_tailI (pc := 2732) C hP h7 h0 ⟨Nat.le_trans (Nat.add_le_add_left (Nat.le_of_ble_eq_true rfl) _) hc.1, Nat.le_trans (Nat.add_le_add_left (Nat.le_of_ble_eq_true rfl) _) hc.2⟩ dL_law_2732 dL_law_2734 dL_law_2735 dL_law_2738 dL_law_2740 dL_law_2745 dL_law_2747 dL_law_2750 dL_law_2751 dL_law_2752 dL_law_2753 dL_law_2755 dL_law_2756 dL_law_2757 dL_law_2762 (by decide) (XW.widen (Nat.add_le_add_left (Nat.le_of_ble_eq_true rfl) _) (Nat.add_le_add_left (Nat.le_of_ble_eq_true rfl) _) (kk _ hR1))

set_option maxRecDepth 100000 in
set_option maxHeartbeats 4000000 in
theorem k_53 (hl0 : l.stackTraces = false) (C : XC p s m args meth c P A 9 RL cL_law ret) (hP : xAll P) (hX : SC s A b L xs) (hi : i + 6 ≤ L) (hR : RV σ) (hc : cells + 8 ≤ room_1.cells ∧ slots + 64 ≤ room_1.slots) (kk : ∀ σ1, RV σ1 → XW p l e room_1 s m args below meth c P A 9 (cells + 8) (slots + 64) Q σ1 2900 (lvL P b i) []) : XW p l e room_1 s m args below meth c P A 9 cells slots Q σ 2765 (lvL P b i) [] := by
  obtain ⟨v, σ1, τ1, hC6, hM7, hR1⟩ := s_inconsistencies l P hP σ hR
  refine X_aload_n (pc := 2765) C 1 dL_law_2765 rfl rfl ?_
  refine X_vI (i9 := .inr 0) (ci := 6) (n := 0) (pc := 2766) C [] hC6 m_c_X6_inconsistencies m_m_L_320 m_i_X6_inconsistencies m_s_X6_inconsistencies m_n_X6 ⟨by decide +kernel, by decide +kernel, by decide +kernel⟩ ⟨Nat.le_of_ble_eq_true rfl, Nat.le_of_ble_eq_true rfl⟩ ⟨rfl, rfl⟩ ⟨Nat.le_trans (Nat.le_add_right _ _) hc.1, Nat.le_trans (Nat.le_add_right _ _) hc.2⟩ hP.n0 rfl rfl rfl rfl (Nat.le_of_ble_eq_true rfl) rfl dL_law_2766 ?_
  refine X_aload_n (pc := 2769) C 2 dL_law_2769 rfl rfl ?_
  refine X_vI (i9 := .inr 9) (ci := 7) (n := 0) (pc := 2770) C [] hM7 m_c_X7_inconsistencies m_m_L_323 m_i_X7_inconsistencies m_s_X7_inconsistencies m_n_X7 ⟨by decide +kernel, by decide +kernel, by decide +kernel⟩ ⟨Nat.le_of_ble_eq_true rfl, Nat.le_of_ble_eq_true rfl⟩ ⟨rfl, rfl⟩ ⟨Nat.le_trans (Nat.le_add_right _ _) hc.1, Nat.le_trans (Nat.le_add_right _ _) hc.2⟩ (hP.2.1 9 (by decide) (by decide)) rfl rfl rfl rfl (Nat.le_of_ble_eq_true rfl) rfl dL_law_2770 ?_
  exact X_icmp_eq (pc := 2773) C 2900 dL_law_2773 (by decide) (fun _ => (XW.widen (Nat.le_add_right _ _) (Nat.le_add_right _ _) (kk _ hR1))) (fun q => absurd rfl q)

set_option maxRecDepth 100000 in
set_option maxHeartbeats 4000000 in
theorem k_56 (hl0 : l.stackTraces = false) (C : XC p s m args meth c P A 9 RL cL_law ret) (hP : xAll P) (hX : SC s A b L xs) (hi : i + 6 ≤ L) (hR : RV σ) (hc : cells + 8 ≤ room_1.cells ∧ slots + 64 ≤ room_1.slots) (kk : ∀ σ1, RV σ1 → XW p l e room_1 s m args below meth c P A 9 (cells + 8) (slots + 64) Q σ1 2900 (lvL P b i) []) : XW p l e room_1 s m args below meth c P A 9 cells slots Q σ 2862 (lvL P b i) [] := by
  obtain ⟨v, σ1, τ1, hC6, hM7, hR1⟩ := s_writeCalls l P hP σ hR
  refine X_aload_n (pc := 2862) C 1 dL_law_2862 rfl rfl ?_
  refine X_vI (i9 := .inr 0) (ci := 6) (n := 0) (pc := 2863) C [] hC6 m_c_X6_writeCalls m_m_L_334 m_i_X6_writeCalls m_s_X6_writeCalls m_n_X6 ⟨by decide +kernel, by decide +kernel, by decide +kernel⟩ ⟨Nat.le_of_ble_eq_true rfl, Nat.le_of_ble_eq_true rfl⟩ ⟨rfl, rfl⟩ ⟨Nat.le_trans (Nat.le_add_right _ _) hc.1, Nat.le_trans (Nat.le_add_right _ _) hc.2⟩ hP.n0 rfl rfl rfl rfl (Nat.le_of_ble_eq_true rfl) rfl dL_law_2863 ?_
  refine X_aload_n (pc := 2866) C 2 dL_law_2866 rfl rfl ?_
  refine X_vI (i9 := .inr 9) (ci := 7) (n := 0) (pc := 2867) C [] hM7 m_c_X7_writeCalls m_m_L_337 m_i_X7_writeCalls m_s_X7_writeCalls m_n_X7 ⟨by decide +kernel, by decide +kernel, by decide +kernel⟩ ⟨Nat.le_of_ble_eq_true rfl, Nat.le_of_ble_eq_true rfl⟩ ⟨rfl, rfl⟩ ⟨Nat.le_trans (Nat.le_add_right _ _) hc.1, Nat.le_trans (Nat.le_add_right _ _) hc.2⟩ (hP.2.1 9 (by decide) (by decide)) rfl rfl rfl rfl (Nat.le_of_ble_eq_true rfl) rfl dL_law_2867 ?_
  exact X_icmp_eq (pc := 2870) C 2900 dL_law_2870 (by decide) (fun _ => (XW.widen (Nat.le_add_right _ _) (Nat.le_add_right _ _) (kk _ hR1))) (fun q => absurd rfl q)

set_option maxRecDepth 100000 in
set_option maxHeartbeats 4000000 in
theorem k_57 (hl0 : l.stackTraces = false) (C : XC p s m args meth c P A 9 RL cL_law ret) (hP : xAll P) (hX : SC s A b L xs) (hi : i + 6 ≤ L) (hR : RV σ) (hc : cells + 8 ≤ room_1.cells ∧ slots + 64 ≤ room_1.slots) (kk : ∀ σ1, RV σ1 → XW p l e room_1 s m args below meth c P A 9 (cells + 8) (slots + 64) Q σ1 2900 (lvL P b i) []) : XW p l e room_1 s m args below meth c P A 9 cells slots Q σ 2875 (lvL P b i) [] := by
  obtain ⟨v, σ1, τ1, hC6, hM7, hR1⟩ := s_outputByte l P hP σ hR (xs (i + 1))
  refine X_aload_n (pc := 2875) C 1 dL_law_2875 rfl rfl ?_
  refine X_arg (pc := 2876) C hX hi 1 (by decide) (by decide) rfl rfl dL_law_2876 dL_law_2877 dL_law_2879 dL_law_2880 dL_law_2881 ?_
  refine X_vI (i9 := .inr 0) (ci := 6) (n := 1) (pc := 2882) C [.int (xs (i + 1))] hC6 m_c_X6_outputByte m_m_L_338 m_i_X6_outputByte m_s_X6_outputByte m_n_X6 ⟨by decide +kernel, by decide +kernel, by decide +kernel⟩ ⟨Nat.le_of_ble_eq_true rfl, Nat.le_of_ble_eq_true rfl⟩ ⟨rfl, rfl⟩ ⟨Nat.le_trans (Nat.le_add_right _ _) hc.1, Nat.le_trans (Nat.le_add_right _ _) hc.2⟩ hP.n0 rfl rfl rfl rfl (Nat.le_of_ble_eq_true rfl) rfl dL_law_2882 ?_
  refine X_aload_n (pc := 2885) C 2 dL_law_2885 rfl rfl ?_
  refine X_arg (pc := 2886) C hX hi 1 (by decide) (by decide) rfl rfl dL_law_2886 dL_law_2887 dL_law_2889 dL_law_2890 dL_law_2891 ?_
  refine X_vI (i9 := .inr 9) (ci := 7) (n := 1) (pc := 2892) C [.int (xs (i + 1))] hM7 m_c_X7_outputByte m_m_L_341 m_i_X7_outputByte m_s_X7_outputByte m_n_X7 ⟨by decide +kernel, by decide +kernel, by decide +kernel⟩ ⟨Nat.le_of_ble_eq_true rfl, Nat.le_of_ble_eq_true rfl⟩ ⟨rfl, rfl⟩ ⟨Nat.le_trans (Nat.le_add_right _ _) hc.1, Nat.le_trans (Nat.le_add_right _ _) hc.2⟩ (hP.2.1 9 (by decide) (by decide)) rfl rfl rfl rfl (Nat.le_of_ble_eq_true rfl) rfl dL_law_2892 ?_
  exact X_icmp_eq (pc := 2895) C 2900 dL_law_2895 (by decide) (fun _ => (XW.widen (Nat.le_add_right _ _) (Nat.le_add_right _ _) (kk _ hR1))) (fun q => absurd rfl q)

end XP75

/-! THE LAW'S BODY: the text is read, acts, and the last change undone -/
theorem min_ok : ∀ ch, ch < 9 → nI (mNx ch - 1) = (if nI (ch + 1) < 8 then nI (ch + 1) else 8) - 1 := by decide +kernel
section X97
variable {p : Program} {l : Launch} {e : Env}  {s : State} {m : MethodId} {args : Array Value} {below : List Frame} {meth : Method} {c : Code} {P : XP} {A : Nat → Prop} {nL cells slots : Nat} {Q : State → Prop} {cc : ByteArray} {ret : Option FieldType} {σ : XS} {pc : Nat} {lv : List (Nat × Value)} {st : List Value}
variable {S : Nat → Int32} {o ch T : Nat} {w : va_W} {a0 a1 b b0 ln : Nat} {t : List Int32} {f : Nat → Int32}
theorem b_undo (l : Launch) (hl0 : l.stackTraces = false) (P : XP) (hP : XA P) (σ : XS) (h : GV σ S o ch) (hn : 0 < ch) : XMH l yL_undo cL_undo 2 [(0, 4, 5, 21)] (rmL 1 rm_X6_undo) P [.ref (P.2.2.1 (.inr 0))] σ (fun w τ => w = some (.int (nI (ch - 1))) ∧ τ = uPop σ o ch) := by
  refine (c_L_undo l P σ hP.n0 (c_X6_undo l hl0 P σ hP.1 hP.2 h.b.bd o ch h.h h.z) (fun v9 τ q => ⟨_, q.2.1⟩) (fun E τ he => rq_e he.1)).mono (fun w τ q => ?_)
  exact LW_v (rq_t hn) rfl q
theorem X_sound (hl0 : l.stackTraces = false) (C : XC p s m args meth c (xPR P w) A nL RL cc ret) (hP : XA P) (hA : AV σ S T o ch) (hcl : cells + 3000 ≤ room_1.cells ∧ slots + 18000 ≤ room_1.slots) (hst : (st.map fun v => v.category).sum ≤ 8) (d : decode cc pc = .ok (.invokestatic 263, 3)) (kk : XW p l e room_1 s m args below meth c (xPR P w) A nL (cells + 3000) (slots + 18000) Q σ (pc + 3) lv (.int 1 :: st)) : XW p l e room_1 s m args below meth c (xPR P w) A nL cells slots Q σ pc lv (.ref (P.2.2.1 (.inr 0)) :: st) :=
  X_callS (n := 1) C [.ref _] (c_L_isSound l hl0 (xPR P w) (XA.pr hP) σ hA.1 hA.2.1 hA.2.2.1 hA.2.2.2) m_c_L_isSound m_m_L_263 m_t_L_isSound m_n_L ⟨by decide +kernel, by decide +kernel, by decide +kernel⟩ ⟨Nat.le_of_ble_eq_true rfl, Nat.le_of_ble_eq_true rfl⟩ hcl rfl hst rfl d (fun v9 σ9 h9 => by obtain ⟨rfl, rfl⟩ := h9; exact kk)
theorem X_acts (hl0 : l.stackTraces = false) (C : XC p s m args meth c (xPR P w) A nL RL cc ret) (hP : XA P) (hA : AV σ S T o ch) (hf : w[1]? = some (iC P a1 f)) (hT9 : T + 200 ≤ 900000) (hcl : cells + 100 ≤ room_1.cells ∧ slots + 600 ≤ room_1.slots) (hst : (st.map fun v => v.category).sum ≤ 8) (d : decode cc pc = .ok (.invokestatic 267, 3))
    (kk : ∀ (τ : XS) (w1 : va_W) (S1 : Nat → Int32) (T1 o1 ch1 : Nat) (f1 : Nat → Int32), w1[1]? = some (iC P a1 f1) → AV τ S1 T1 o1 ch1 → T1 ≤ T + 200 → XC p s m args meth c (xPR P w1) A nL RL cc ret → XW p l e room_1 s m args below meth c (xPR P w1) A nL (cells + 100) (slots + 600) Q τ (pc + 3) lv (.int 1 :: st)) : XW p l e room_1 s m args below meth c (xPR P w) A nL cells slots Q σ pc lv (.ref a1 :: .ref (P.2.2.1 (.inr 0)) :: st) :=
  X_callSB (n := 2) C [.ref _, .ref _] (c_L_acts l hl0 (xPR P w) (XA.pr hP) σ (i := 1) hA hf hT9) m_c_L_acts m_m_L_267 m_t_L_acts m_n_L ⟨by decide +kernel, by decide +kernel, by decide +kernel⟩ ⟨Nat.le_of_ble_eq_true rfl, Nat.le_of_ble_eq_true rfl⟩ hcl rfl hst rfl d (fun v9 τ w1 h9 C1 => by
    obtain ⟨rfl, S1, T1, o1, ch1, f1, rfl, h1, h2, -⟩ := h9
    exact kk τ _ S1 T1 o1 ch1 f1 (set_at hf) h1 h2 C1)

set_option maxRecDepth 100000 in
set_option maxHeartbeats 4000000 in
theorem W_end (hl0 : l.stackTraces = false) (hP : XA P) (hA : AV σ S T o ch) (hT : T ≤ 6000) (kx : ∀ (w : va_W) (σ : XS) (cells slots : Nat), cells ≤ 200000 → slots ≤ 2000000 → XC p s m args meth c (xPR P w) A 12 RL cL_law ret → XW p l e room_1 s m args below meth c (xPR P w) A 12 (cells) (slots) Q σ 22 [(0, .ref b0), (2, .int (nI 1))] []) (C : XC p s m args meth c (xPR P w) A 12 RL cL_law ret) : XW p l e room_1 s m args below meth c (xPR P w) A 12 (120000) (1200000) Q σ 318 [(0, .ref b0), (2, .int (nI 0)), (3, .ref a1), (4, .ref (P.2.2.1 (.inr 0)))] [] := by
  have hA0 := hA
  obtain ⟨hG, hp, hb, he⟩ := hA
  have hM := hG.b.x.i
  have u15 := hM.u15
  have h8 := hG.h.2.2.2
  obtain ⟨a, ha, hsa⟩ := sec_n (fun u hu => (hp.s hu).2) (mU S) (Nat.le_refl _)
  replace ha : a ≤ 225 := by omega
  have hA1 : AV (uClock (uPush σ o ch) 0 (nI 61)) (upd S 0 (S 0 + nI 61)) (T + 61) (oNx o ch) (mNx ch) := ⟨hG.wait, (PClk hG.b.x hp hb (by omega)).1, (PClk hG.b.x hp hb (by omega)).2, he.up (by omega) (by decide) (by decide)⟩
  have hm1 : 0 < mNx ch := by unfold mNx; split <;> omega
  have hG2 := hG.undo (τ := uClock (uPush σ o ch) 0 (nI 61)) (FS.xu (k := 0) (by decide) (by decide))
  have hA2 : AV (uPop (uClock (uPush σ o ch) 0 (nI 61)) (oNx o ch) (mNx ch)) S T (oNx o ch) (mNx ch - 1) := ⟨hG2, hp, hb, he⟩
  refine X_aload (pc := 318) C dL_law_318 rfl ?_
  refine X_fV (i := .inr 0) (ci := 6) (n := 0) (pc := 320) C [] (d_undoableChanges l _ (XA.pr hP) _ hG) m_c_X6_undoableChanges m_m_L_271 m_i_X6_undoableChanges m_s_X6_undoableChanges m_n_X6 ⟨by decide +kernel, by decide +kernel, by decide +kernel⟩ ⟨Nat.le_of_ble_eq_true rfl, Nat.le_of_ble_eq_true rfl⟩ ⟨rfl, rfl⟩ ⟨by show _ ≤ 600086; omega, by show _ ≤ 7301442; omega⟩ (XA.n0 (XA.pr hP)) rfl rfl rfl rfl (Nat.le_of_ble_eq_true rfl) rfl dL_law_320 ?_
  refine X_istore (pc := 323) (lv1 := [(0, _), (2, _), (3, _), (4, _), (8, _)]) C dL_law_323 (by decide) rfl ?_
  refine X_aload (pc := 325) C dL_law_325 rfl ?_
  refine X_fV (i := .inr 0) (ci := 6) (n := 0) (pc := 327) C [] (d_callCount l _ (XA.pr hP) _ hG) m_c_X6_callCount m_m_L_130 m_i_X6_callCount m_s_X6_callCount m_n_X6 ⟨by decide +kernel, by decide +kernel, by decide +kernel⟩ ⟨Nat.le_of_ble_eq_true rfl, Nat.le_of_ble_eq_true rfl⟩ ⟨rfl, rfl⟩ ⟨by show _ ≤ 600086; omega, by show _ ≤ 7301442; omega⟩ (XA.n0 (XA.pr hP)) rfl rfl rfl rfl (Nat.le_of_ble_eq_true rfl) rfl dL_law_327 ?_
  refine X_istore (pc := 330) (lv1 := [(0, _), (2, _), (3, _), (4, _), (8, _), (9, _)]) C dL_law_330 (by decide) rfl ?_
  refine X_aload (pc := 332) C dL_law_332 rfl ?_
  refine X_fV (i := .inr 0) (ci := 6) (n := 0) (pc := 334) C [] (d_clock l _ (XA.pr hP) _ hG) m_c_X6_clock m_m_L_152 m_i_X6_clock m_s_X6_clock m_n_X6 ⟨by decide +kernel, by decide +kernel, by decide +kernel⟩ ⟨Nat.le_of_ble_eq_true rfl, Nat.le_of_ble_eq_true rfl⟩ ⟨rfl, rfl⟩ ⟨by show _ ≤ 600086; omega, by show _ ≤ 7301442; omega⟩ (XA.n0 (XA.pr hP)) rfl rfl rfl rfl (Nat.le_of_ble_eq_true rfl) rfl dL_law_334 ?_
  refine X_istore (pc := 337) (lv1 := [(0, _), (2, _), (3, _), (4, _), (8, _), (9, _), (10, _)]) C dL_law_337 (by decide) rfl ?_
  refine X_aload (pc := 339) C dL_law_339 rfl ?_
  refine X_fV (i := .inr 0) (ci := 6) (n := 0) (pc := 341) C [] (d_gossipShare l _ (XA.pr hP) _ hG hp) m_c_X6_gossipShare m_m_L_196 m_i_X6_gossipShare m_s_X6_gossipShare m_n_X6 ⟨by decide +kernel, by decide +kernel, by decide +kernel⟩ ⟨Nat.le_of_ble_eq_true rfl, Nat.le_of_ble_eq_true rfl⟩ ⟨rfl, rfl⟩ ⟨by show _ ≤ 600086; omega, by show _ ≤ 7301442; omega⟩ (XA.n0 (XA.pr hP)) rfl rfl rfl rfl (Nat.le_of_ble_eq_true rfl) rfl dL_law_341 ?_
  refine X_fstore (lv1 := [(0, _), (2, _), (3, _), (4, _), (8, _), (9, _), (10, _), (11, _)]) (pc := 344) C dL_law_344 (by decide) rfl ?_
  refine X_aload (pc := 346) C dL_law_346 rfl ?_
  refine X_bipush (pc := 348) (v := nI 61) C dL_law_348 (by decide) ?_
  refine X_callSH (n := 2) (pc := 350) C [.ref _, .int _] (b_waitFor l hl0 _ (XA.pr hP) _ hG (T := T) hp.t (by decide) (by decide) (by omega)) m_h_L_waitFor m_m_L_221 m_t_L_waitFor m_n_L ⟨by decide +kernel, by decide +kernel, by decide +kernel⟩ ⟨Nat.le_of_ble_eq_true rfl, Nat.le_of_ble_eq_true rfl⟩ ⟨by show _ + 2 ≤ 600086; omega, by show _ + 12 ≤ 7301442; omega⟩ rfl (Nat.le_of_ble_eq_true rfl) rfl dL_law_350 (fun v9 τ hq => ?_)
  obtain ⟨rfl, rfl⟩ := hq
  refine XW.up (c1 := 120010) (s1 := 1200100) (by show _ + 2 ≤ _; omega) (by show _ + 12 ≤ _; omega) ?_
  refine X_iload (pc := 353) C dL_law_353 rfl ?_
  refine X_bipush (pc := 355) (v := nI 61) C dL_law_355 (by decide) ?_
  refine X_iadd (pc := 357) C dL_law_357 ?_
  refine X_icmp_ne (pc := 358) C 427 dL_law_358 (by decide) (fun h => absurd rfl h) (fun h => ?_)
  refine X_aload (pc := 361) C dL_law_361 rfl ?_
  refine X_sound hl0 (pc := 363) C hP hA1 ⟨by show _ ≤ 600086; omega, by show _ ≤ 7301442; omega⟩ (Nat.le_of_ble_eq_true rfl) dL_law_363 ?_
  refine X_if_eq (pc := 366) C 427 dL_law_366 (by decide) (fun h => absurd h (by decide)) (fun h => ?_)
  refine X_aload (pc := 369) C dL_law_369 rfl ?_
  refine X_callSH (n := 1) (pc := 371) C [.ref _] (b_undo l hl0 _ (XA.pr hP) _ hA1.1 hm1) m_h_L_undo m_m_L_274 m_t_L_undo m_n_L ⟨by decide +kernel, by decide +kernel, by decide +kernel⟩ ⟨Nat.le_of_ble_eq_true rfl, Nat.le_of_ble_eq_true rfl⟩ ⟨by show _ + 1 ≤ 600086; omega, by show _ + 6 ≤ 7301442; omega⟩ rfl (Nat.le_of_ble_eq_true rfl) rfl dL_law_371 (fun v9 τ hq => ?_)
  obtain ⟨rfl, rfl⟩ := hq
  refine XW.up (c1 := 130000) (s1 := 1300000) (by show _ + 1 ≤ _; omega) (by show _ + 6 ≤ _; omega) ?_
  refine X_bipush (pc := 374) (v := 8) C dL_law_374 (by decide) ?_
  refine X_iload (pc := 376) C dL_law_376 rfl ?_
  refine X_iconst (pc := 378) (v := 1) C dL_law_378 (by decide) ?_
  refine X_iadd (pc := 379) C dL_law_379 ?_
  rw [nI_1]
  refine X_mmin (pc := 380) C m_m_L_277 (Nat.le_of_ble_eq_true rfl) (Nat.le_of_ble_eq_true rfl) ⟨by show _ ≤ 600086; omega, by show _ ≤ 7301442; omega⟩ dL_law_380 ?_
  refine X_iconst (pc := 383) (v := 1) C dL_law_383 (by decide) ?_
  refine X_isub (pc := 384) C dL_law_384 ?_
  refine X_icmp_ne (pc := 385) C 427 dL_law_385 (by decide) (fun h => absurd (min_ok ch (by omega)) h) (fun h => ?_)
  refine X_aload (pc := 388) C dL_law_388 rfl ?_
  refine X_fV (i := .inr 0) (ci := 6) (n := 0) (pc := 390) C [] (d_clock l _ (XA.pr hP) _ hG2) m_c_X6_clock m_m_L_152 m_i_X6_clock m_s_X6_clock m_n_X6 ⟨by decide +kernel, by decide +kernel, by decide +kernel⟩ ⟨Nat.le_of_ble_eq_true rfl, Nat.le_of_ble_eq_true rfl⟩ ⟨rfl, rfl⟩ ⟨by show _ ≤ 600086; omega, by show _ ≤ 7301442; omega⟩ (XA.n0 (XA.pr hP)) rfl rfl rfl rfl (Nat.le_of_ble_eq_true rfl) rfl dL_law_390 ?_
  refine X_iload (pc := 393) C dL_law_393 rfl ?_
  refine X_icmp_ne (pc := 395) C 427 dL_law_395 (by decide) (fun h => absurd rfl h) (fun h => ?_)
  refine X_aload (pc := 398) C dL_law_398 rfl ?_
  refine X_fV (i := .inr 0) (ci := 6) (n := 0) (pc := 400) C [] (d_callCount l _ (XA.pr hP) _ hG2) m_c_X6_callCount m_m_L_130 m_i_X6_callCount m_s_X6_callCount m_n_X6 ⟨by decide +kernel, by decide +kernel, by decide +kernel⟩ ⟨Nat.le_of_ble_eq_true rfl, Nat.le_of_ble_eq_true rfl⟩ ⟨rfl, rfl⟩ ⟨by show _ ≤ 600086; omega, by show _ ≤ 7301442; omega⟩ (XA.n0 (XA.pr hP)) rfl rfl rfl rfl (Nat.le_of_ble_eq_true rfl) rfl dL_law_400 ?_
  refine X_iload (pc := 403) C dL_law_403 rfl ?_
  refine X_icmp_ne (pc := 405) C 427 dL_law_405 (by decide) (fun h => absurd rfl h) (fun h => ?_)
  refine X_aload (pc := 408) C dL_law_408 rfl ?_
  refine X_fV (i := .inr 0) (ci := 6) (n := 0) (pc := 410) C [] (d_gossipShare l _ (XA.pr hP) _ hG2 hp) m_c_X6_gossipShare m_m_L_196 m_i_X6_gossipShare m_s_X6_gossipShare m_n_X6 ⟨by decide +kernel, by decide +kernel, by decide +kernel⟩ ⟨Nat.le_of_ble_eq_true rfl, Nat.le_of_ble_eq_true rfl⟩ ⟨rfl, rfl⟩ ⟨by show _ ≤ 600086; omega, by show _ ≤ 7301442; omega⟩ (XA.n0 (XA.pr hP)) rfl rfl rfl rfl (Nat.le_of_ble_eq_true rfl) rfl dL_law_410 ?_
  refine X_fload (pc := 413) C dL_law_413 rfl ?_
  refine X_fcmp (pc := 415) C dL_law_415 ?_
  rw [hsa, (sh_ok hG.u1 hM.u15 ha).2]
  refine X_if_ne (pc := 416) C 427 dL_law_416 (by decide) (fun h => absurd rfl h) (fun h => ?_)
  refine X_aload (pc := 419) C dL_law_419 rfl ?_
  refine X_sound hl0 (pc := 421) C hP hA2 ⟨by show _ ≤ 600086; omega, by show _ ≤ 7301442; omega⟩ (Nat.le_of_ble_eq_true rfl) dL_law_421 ?_
  refine X_if_ne (pc := 424) C 429 dL_law_424 (by decide) (fun h => ?_) (fun h => absurd h (by decide))
  refine XW.less [0, 1] rfl ?_
  refine X_iincN (j := 0) (lv1 := [(0, _), (2, _)]) (pc := 429) C dL_law_429 rfl (by decide) (by decide) rfl ?_
  refine X_goto (pc := 432) C 22 dL_law_432 (by decide) ?_
  exact kx _ _ _ _ (by omega) (by omega) C

set_option maxRecDepth 100000 in
set_option maxHeartbeats 4000000 in
theorem W_steps (hl0 : l.stackTraces = false) (hP : XA P) (kx : ∀ (w : va_W) (σ : XS) (cells slots : Nat), cells ≤ 200000 → slots ≤ 2000000 → XC p s m args meth c (xPR P w) A 12 RL cL_law ret → XW p l e room_1 s m args below meth c (xPR P w) A 12 (cells) (slots) Q σ 22 [(0, .ref b0), (2, .int (nI 1))] []) : ∀ (n j : Nat), j + n = 30 → ∀ (w : va_W) (σ : XS) (S : Nat → Int32) (T o ch : Nat) (f : Nat → Int32), w[1]? = some (iC P a1 f) → AV σ S T o ch → T ≤ 200 * j → XC p s m args meth c (xPR P w) A 12 RL cL_law ret → XW p l e room_1 s m args below meth c (xPR P w) A 12 (20000 + 3200 * j) (500000 + 19000 * j) Q σ 277 [(0, .ref b0), (2, .int (nI 0)), (3, .ref a1), (4, .ref (P.2.2.1 (.inr 0))), (8, .int (nI j))] [] := by
  intro n
  induction n with
  | zero =>
    intro j hj w σ S T o ch f hf hA hT C
    obtain rfl : j = 30 := by omega
    refine X_iload (pc := 277) C dL_law_277 rfl ?_
    refine X_bipush (pc := 279) (v := nI 30) C dL_law_279 (by decide) ?_
    refine X_icmp_ge (pc := 281) C 318 dL_law_281 (by decide) (fun h => ?_) (fun h => absurd (Int32.le_refl _) h)
    exact XW.up (by omega) (by omega) (XW.less [0, 1, 2, 3] rfl (W_end hl0 hP hA (by omega) kx C))
  | succ n ih =>
    intro j hj w σ S T o ch f hf hA hT C
    refine X_iload (pc := 277) C dL_law_277 rfl ?_
    refine X_bipush (pc := 279) (v := nI 30) C dL_law_279 (by decide) ?_
    refine X_icmp_ge (pc := 281) C 318 dL_law_281 (by decide) (fun h => absurd h (nI_ge (by omega) (by decide))) (fun h => ?_)
    refine X_aload (pc := 284) C dL_law_284 rfl ?_
    refine X_aload_n (pc := 286) C 3 dL_law_286 rfl rfl ?_
    refine X_acts hl0 (pc := 287) C hP hA hf (by omega) ⟨by show _ ≤ 600086; omega, by show _ ≤ 7301442; omega⟩ (Nat.le_of_ble_eq_true rfl) dL_law_287 (fun τ w S1 T1 o1 ch1 f1 hf1 hA1 hT1 C => ?_)
    refine X_if_ne (pc := 290) C 295 dL_law_290 (by decide) (fun h => ?_) (fun h => absurd h (by decide))
    skip
    have m312 : XW p l e room_1 s m args below meth c (xPR P w) A 12 (20000 + 3200 * (j + 1)) (500000 + 19000 * (j + 1)) Q τ 312 [(0, .ref b0), (2, .int (nI 0)), (3, .ref a1), (4, .ref (P.2.2.1 (.inr 0))), (8, .int (nI j))] [] := by
      refine X_iincN (pc := 312) (lv1 := [(0, _), (2, _), (3, _), (4, _), (8, _)]) C dL_law_312 rfl (by decide) (by decide) rfl ?_
      refine X_goto (pc := 315) C 277 dL_law_315 (by decide) ?_
      exact ih (j + 1) (by omega) w τ S1 T1 o1 ch1 f1 hf1 hA1 (by omega) C
    refine X_iload (pc := 295) C dL_law_295 rfl ?_
    refine X_iconst (pc := 297) (v := 3) C dL_law_297 (by decide) ?_
    refine X_irem (pc := 298) C dL_law_298 (by decide) ?_
    refine X_if_ne (pc := 299) C 312 dL_law_299 (by decide) (fun h => XW.up (by omega) (by omega) m312) (fun h => ?_)
    refine X_aload (pc := 302) C dL_law_302 rfl ?_
    refine X_sound hl0 (pc := 304) C hP hA1 ⟨by show _ ≤ 600086; omega, by show _ ≤ 7301442; omega⟩ (Nat.le_of_ble_eq_true rfl) dL_law_304 ?_
    refine X_if_ne (pc := 307) C 312 dL_law_307 (by decide) (fun h => XW.up (by omega) (by omega) m312) (fun h => absurd h (by decide))

set_option maxRecDepth 100000 in
set_option maxHeartbeats 4000000 in
/-- the text was written, read: the world behind it -/
theorem W_load {us : List (Nat × Nat)} {tl : List Nat} {co : Nat} (hl0 : l.stackTraces = false) (hP : XA P) (hBd : Bd σ 0) (hTx : Tx σ 0) (hHi : Hi σ 0 0) (hz : ∀ b, b < 12 → xZ σ b) (h1 : 1 ≤ ln ∧ ln ≤ 4) (h2 : 1 ≤ co ∧ co ≤ 6) (h4 : tl.length ≤ 2) (hx : ∀ x ∈ tl, 1 ≤ x ∧ x ≤ 99) (hu1 : us ≠ []) (h12 : us.length ≤ 12) (hus : ∀ q ∈ us, q.1 < 12 ∧ q.1 / 3 < ln ∧ q.2 ≤ 9) (hpw : us.Pairwise (fun a b => a.1 < b.1)) (ht : t = brdT ln co ++ (tkT tl ++ usT us)) (hw : TB P w a0 a1 b t) (hok : okC t) (hlen : t.length ≤ 400) (kx : ∀ (w : va_W) (σ : XS) (cells slots : Nat), cells ≤ 200000 → slots ≤ 2000000 → XC p s m args meth c (xPR P w) A 12 RL cL_law ret → XW p l e room_1 s m args below meth c (xPR P w) A 12 (cells) (slots) Q σ 22 [(0, .ref b0), (2, .int (nI 1))] []) (C : XC p s m args meth c (xPR P w) A 12 RL cL_law ret) : XW p l e room_1 s m args below meth c (xPR P w) A 12 (2000) (400000) Q σ 241 [(0, .ref b0), (1, .ref a0), (2, .int (nI 0)), (3, .ref a1), (4, .ref (P.2.2.1 (.inr 0))), (5, .int (nI ln)), (6, .ref b), (7, .int (nI us.length))] [] := by
  obtain ⟨f, hf⟩ := hw.2.1
  have h3 := hw.2.2.1
  have hul : 1 ≤ us.length := by
    cases us with
    | nil => exact absurd rfl hu1
    | cons q us => show 1 ≤ us.length + 1; omega
  have huv : ∀ v, v < us.length → (usx us v).1 < 12 ∧ (usx us v).1 / 3 < ln := fun v hv => by
    have hm : usx us v ∈ us := by
      unfold usx
      rw [List.getD_eq_getElem?_getD, List.getElem?_eq_getElem hv]
      exact List.getElem_mem hv
    exact ⟨(hus _ hm).1, (hus _ hm).2.1⟩
  have AFT : ∀ σ1, Wr σ σ1 t t.length → ∀ w : va_W, ∃ σ2 : XS, XF l yX6_load cX6_load 2 (some .int) rm_X6_load (xPR P w) [.ref (P.2.2.1 (.inr 0))] σ1 (some (.int (nI us.length))) σ2 ∧ AV σ2 (rowS ln co tl us) 0 (oNx 0 0) (mNx 0) := by
    intro σ1 hWr w
    have hB1 : Bd σ1 0 := hBd.o (congrFun (hWr.1 (.inl (0, 1)) (by simp) (by simp)) 6) (congrFun (hWr.1 (.inl (0, 8)) (by simp) (by simp)) 10) (congrFun (hWr.1 (.inl (0, 0)) (by simp) (by simp)) 6)
    have hH1 : Hi σ1 0 0 := by unfold Hi; rw [hWr.1 (.inr 4) (by simp) (by simp)]; exact hHi
    have hz1 : ∀ b, b < 12 → xZ σ1 b := fun b hb => xZ_o (hz b hb) (hWr.1 _ (by simp) (by simp)) (hWr.1 _ (by simp) (by simp))
    have hT1 := hWr.tx hok.t (by omega)
    have hSf : Sf (σ1.1 (.inr 3)) t.length 0 (brdT ln co ++ (tkT tl ++ usT us)) := by
      rw [← ht]
      exact ⟨Nat.zero_add _, fun j hj => by rw [Nat.zero_add]; exact hWr.2.2.2 j hj⟩
    obtain ⟨τ, eR, hPB⟩ := G_load (σ := σ1) rfl (by omega) hSf ⟨h1.1, by omega⟩ h2 (by omega) hx hu1 h12 hus hpw
    refine ⟨uTake (uShort τ) 0 0, ?_, load_GV hz1 hH1 eR hPB ⟨h1.1, by omega⟩ h2 (by omega) hul h12 huv, (row_PS h12).1, (row_PS h12).2.1, (row_PS h12).2.2⟩
    have q := c_X6_load l (xPR P w) σ1 (XA.pr hP).1 (XA.pr hP).2 hB1 0 0 hH1 (hz1 0 (by decide)) (hz1 1 (by decide)) t.length hT1
    rw [eR] at q
    dsimp only at q
    rw [if_neg (by decide), if_neg (by decide), hPB.1.2.2.2.2.2.1] at q
    exact q
  refine X_aload (pc := 241) C dL_law_241 rfl ?_
  refine X_aload (pc := 243) C dL_law_243 rfl ?_
  obtain ⟨k, q, n, hk3, hs⟩ := hw.2.2.2
  refine X_callVP (n := 0) (pc := 245) C 2 [] (c_J4_toString l (xPR P w) σ 2 k b q _ n hs) m_c_J4_toString_0e30d m_m_L_252 m_i_J4_toString_0e30d m_s_J4_toString_0e30d m_n_J4 ⟨by decide +kernel, by decide +kernel, by decide +kernel⟩ ⟨Nat.le_of_ble_eq_true rfl, Nat.le_of_ble_eq_true rfl⟩ ⟨by show _ + 2 ≤ 600086; omega, by show _ + 2200 ≤ 7301442; omega⟩ hs.1 rfl rfl rfl (Nat.le_of_ble_eq_true rfl) rfl dL_law_245 (fun v9 w1 h9 C => ?_)
  obtain ⟨aS, i2, k2, q2, rfl, hstr, -, hkeep⟩ := h9
  refine XW.up (c1 := 2010) (s1 := 402300) (by show _ + 2 ≤ _; omega) (by show _ + 2200 ≤ _; omega) ?_
  refine X_callS (n := 2) (pc := 248) C [.ref _, .ref _] (c_L_write l hl0 (xPR P w1) (XA.pr hP) σ hBd hTx hstr hok.t (by omega)) m_c_L_write m_m_L_256 m_t_L_write m_n_L ⟨by decide +kernel, by decide +kernel, by decide +kernel⟩ ⟨Nat.le_of_ble_eq_true rfl, Nat.le_of_ble_eq_true rfl⟩ ⟨by show _ + 10 ≤ 600086; omega, by show _ + 60 ≤ 7301442; omega⟩ rfl (Nat.le_of_ble_eq_true rfl) rfl dL_law_248 (fun v9 σ1 h9 => ?_)
  obtain ⟨rfl, hWr⟩ := h9
  refine XW.up (c1 := 2100) (s1 := 402400) (by show _ + 10 ≤ _; omega) (by show _ + 60 ≤ _; omega) ?_
  obtain ⟨σ2, eL, hG⟩ := AFT σ1 hWr w1
  refine X_if_eq (pc := 251) C 272 dL_law_251 (by decide) (fun h => absurd h (by decide)) (fun h => ?_)
  refine X_aload (pc := 254) C dL_law_254 rfl ?_
  refine X_fV (i := .inr 0) (ci := 6) (n := 0) (pc := 256) C [] eL m_c_X6_load m_m_L_260 m_i_X6_load m_s_X6_load m_n_X6 ⟨by decide +kernel, by decide +kernel, by decide +kernel⟩ ⟨Nat.le_of_ble_eq_true rfl, Nat.le_of_ble_eq_true rfl⟩ ⟨rfl, rfl⟩ ⟨by show _ ≤ 600086; omega, by show _ ≤ 7301442; omega⟩ (XA.n0 (XA.pr hP)) rfl rfl rfl rfl (Nat.le_of_ble_eq_true rfl) rfl dL_law_256 ?_
  refine X_iload (pc := 259) C dL_law_259 rfl ?_
  refine X_icmp_ne (pc := 261) C 272 dL_law_261 (by decide) (fun h => absurd rfl h) (fun h => ?_)
  refine X_aload (pc := 264) C dL_law_264 rfl ?_
  refine X_sound hl0 (pc := 266) C hP hG ⟨by show _ ≤ 600086; omega, by show _ ≤ 7301442; omega⟩ (Nat.le_of_ble_eq_true rfl) dL_law_266 ?_
  refine X_if_ne (pc := 269) C 274 dL_law_269 (by decide) (fun h => ?_) (fun h => absurd h (by decide))
  skip
  refine X_iconst (pc := 274) (v := nI 0) C dL_law_274 (by decide) ?_
  refine X_istore (pc := 275) (lv1 := [(0, _), (1, _), (2, _), (3, _), (4, _), (5, _), (6, _), (7, _), (8, _)]) C dL_law_275 (by decide) rfl ?_
  refine XW.up (c1 := 20000 + 3200 * 0) (s1 := 500000 + 19000 * 0) (by omega) (by omega) ?_
  refine XW.less [0, 2, 3, 4, 8] rfl ?_
  exact W_steps hl0 hP kx 30 0 rfl w1 σ2 _ 0 _ _ f ((hkeep 1 (by show 1 < w.length; omega)).trans hf) hG (by omega) C
end X97

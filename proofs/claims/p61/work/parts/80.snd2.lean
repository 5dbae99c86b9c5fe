/-! isSound: the loops -/
section X80
variable {p : Program} {l : Launch} {e : Env} {R : Room} {s : State} {m : MethodId} {args : Array Value} {below : List Frame} {meth : Method} {c : Code} {P : XP} {A : Nat → Prop}  {Q : State → Prop} {cc : ByteArray} {ret : Option FieldType} {σ : XS} {pc : Nat} {lv : List (Nat × Value)} {st : List Value}
variable {S : Nat → Int32} {o ch : Nat} {k T cl u r1 r2 : Nat} {mo nu : Int32}

set_option maxRecDepth 100000 in
set_option maxHeartbeats 4000000 in
theorem sF (hl0 : l.stackTraces = false) (hP : XA P) (hG : GV σ S o ch) (hp : PS S T) (hb : PB S) (he : PE S T) (kx : ∀ f g : Nat → Int32, (∀ a, a < 6 → f a = nI (mLine S (nI a) (mK S))) → (∀ t, t < 4 → g t = nI (mTrk S (nI t) (mK S))) → XC p s m args meth c (xPR P (wS P r1 r2 f g)) A 17 RL cL_isSound (some .boolean) → XW p l e rm_L_isSound s m args below meth c (xPR P (wS P r1 r2 f g)) A 17 (2 + 32 * mK S) (6 * (2 + 32 * mK S)) Q σ 552 [(0, .ref (P.2.2.1 (.inr 0))), (1, .ref r1), (2, .ref r2), (3, .int (nI (mCords S (mK S)))), (4, .int (cSum (mDue S) (mK S))), (5, .int (nI (cCnt (fun c => sC S 4 c = 0) (mK S)))), (6, .int (nI (cCnt (fun c => sC S 4 c = 1) (mK S)))), (7, .int nu), (8, .int (nI (mK S)))] []) : ∀ (n cl : Nat), cl + n = mK S → ∀ f g : Nat → Int32, (∀ a, a < 6 → f a = nI (mLine S (nI a) cl)) → (∀ t, t < 4 → g t = nI (mTrk S (nI t) cl)) → XC p s m args meth c (xPR P (wS P r1 r2 f g)) A 17 RL cL_isSound (some .boolean) → XW p l e rm_L_isSound s m args below meth c (xPR P (wS P r1 r2 f g)) A 17 (2 + 32 * cl) (6 * (2 + 32 * cl)) Q σ 29 [(0, .ref (P.2.2.1 (.inr 0))), (1, .ref r1), (2, .ref r2), (3, .int (nI (mCords S cl))), (4, .int (cSum (mDue S) cl)), (5, .int (nI (cCnt (fun c => sC S 4 c = 0) cl))), (6, .int (nI (cCnt (fun c => sC S 4 c = 1) cl))), (7, .int nu), (8, .int (nI cl))] [] := by
  have hM := hG.b.x.i
  have k40 := hM.k40
  intro n
  induction n with
  | zero =>
    intro cl hcl f g hf hg C
    obtain rfl : cl = mK S := by omega
    refine X_iload (pc := 29) C dL_isSound_29 rfl ?_
    refine X_aload_n (pc := 31) C 0 dL_isSound_31 rfl rfl ?_
    refine X_fV (i := .inr 0) (ci := 6) (n := 0) (pc := 32) C [] (d_callCount l _ (XA.pr hP) σ hG) m_c_X6_callCount m_m_L_130 m_i_X6_callCount m_s_X6_callCount m_n_X6 ⟨by decide +kernel, by decide +kernel, by decide +kernel⟩ ⟨Nat.le_of_ble_eq_true rfl, Nat.le_of_ble_eq_true rfl⟩ ⟨rfl, rfl⟩ ⟨by show _ ≤ 3000; omega, by show _ ≤ 18000; omega⟩ (XA.pr hP).n0 rfl rfl rfl rfl (Nat.le_of_ble_eq_true rfl) rfl dL_isSound_32 ?_
    rw [hM.k]
    skip
    refine X_icmp_ge (pc := 35) C 552 dL_isSound_35 (by decide) (fun h => ?_) (fun h => absurd (Int32.le_refl _) h)
    exact XW.less [0, 1, 2, 3, 4, 5, 6, 7, 8] rfl (kx f g hf hg C)
  | succ n ih =>
    intro cl hc f g hf hg C
    have hcl : cl < mK S := by omega
    refine X_iload (pc := 29) C dL_isSound_29 rfl ?_
    refine X_aload_n (pc := 31) C 0 dL_isSound_31 rfl rfl ?_
    refine X_fV (i := .inr 0) (ci := 6) (n := 0) (pc := 32) C [] (d_callCount l _ (XA.pr hP) σ hG) m_c_X6_callCount m_m_L_130 m_i_X6_callCount m_s_X6_callCount m_n_X6 ⟨by decide +kernel, by decide +kernel, by decide +kernel⟩ ⟨Nat.le_of_ble_eq_true rfl, Nat.le_of_ble_eq_true rfl⟩ ⟨rfl, rfl⟩ ⟨by show _ ≤ 3000; omega, by show _ ≤ 18000; omega⟩ (XA.pr hP).n0 rfl rfl rfl rfl (Nat.le_of_ble_eq_true rfl) rfl dL_isSound_32 ?_
    rw [hM.k]
    skip
    refine X_icmp_ge (pc := 35) C 552 dL_isSound_35 (by decide) (fun h => absurd h (nI_ge hcl (n31 (by omega)))) (fun h => ?_)
    have hca := (hM.ca hcl).2
    have hu : cN (sC S 0 cl) < mU S := hM.cU hcl
    generalize cN (sC S 0 cl) = u at hca hu
    refine sA (P := xPR P (wS P r1 r2 f g)) hl0 C (XA.pr hP) hG hp hcl (by omega) ?_
    rw [hca]
    refine sB (P := xPR P (wS P r1 r2 f g)) hl0 C (XA.pr hP) hG hp hcl (by omega) ?_
    refine sCc (P := xPR P (wS P r1 r2 f g)) hl0 C (XA.pr hP) hG hp hcl (by omega) he ?_
    refine sD (P := xPR P (wS P r1 r2 f g)) hl0 C (XA.pr hP) hG hp hcl (by omega) hb hu hca ?_
    refine sE (P := P) hl0 C hP hG hp hcl (by omega) hu hca hf hg (fun f1 g1 hf1 hg1 C1 => ?_)
    refine X_iincN (pc := 546) (lv1 := [(0, _), (1, _), (2, _), (3, _), (4, _), (5, _), (6, _), (7, _), (8, _)]) C1 dL_isSound_546 rfl (by decide) (by decide) rfl ?_
    refine X_goto (pc := 549) C1 29 dL_isSound_549 (by decide) ?_
    exact XW.up (by omega) (by omega) (ih (cl + 1) (by omega) f1 g1 hf1 hg1 C1)

set_option maxRecDepth 100000 in
set_option maxHeartbeats 4000000 in
theorem sG {f g : Nat → Int32} {co wa ta : Int32} (hl0 : l.stackTraces = false) (hP : XA P) (hG : GV σ S o ch) (hp : PS S T) (C : XC p s m args meth c (xPR P (wS P r1 r2 f g)) A 17 RL cL_isSound (some .boolean)) (hf : ∀ a, a < 6 → f a = nI (mLine S (nI a) (mK S))) (hk : k + 10 ≤ 3000) (kx : XW p l e rm_L_isSound s m args below meth c (xPR P (wS P r1 r2 f g)) A 17 (k + mL S) (6 * (k + mL S)) Q σ 593 [(0, .ref (P.2.2.1 (.inr 0))), (1, .ref r1), (2, .ref r2), (3, .int co), (4, .int mo), (5, .int wa), (6, .int ta), (7, .int nu), (8, .int (nI (mL S)))] []) : ∀ (n j : Nat), j + n = mL S → XW p l e rm_L_isSound s m args below meth c (xPR P (wS P r1 r2 f g)) A 17 (k + j) (6 * (k + j)) Q σ 555 [(0, .ref (P.2.2.1 (.inr 0))), (1, .ref r1), (2, .ref r2), (3, .int co), (4, .int mo), (5, .int wa), (6, .int ta), (7, .int nu), (8, .int (nI j))] [] := by
  have hM := hG.b.x.i
  have hlim := hM.l6
  intro n
  induction n with
  | zero =>
    intro j hj0
    obtain rfl : j = mL S := by omega
    refine X_iload (pc := 555) C dL_isSound_555 rfl ?_
    refine X_aload_n (pc := 557) C 0 dL_isSound_557 rfl rfl ?_
    refine X_fV (i := .inr 0) (ci := 6) (n := 0) (pc := 558) C [] (d_lineCount l _ (XA.pr hP) σ hG) m_c_X6_lineCount m_m_L_173 m_i_X6_lineCount m_s_X6_lineCount m_n_X6 ⟨by decide +kernel, by decide +kernel, by decide +kernel⟩ ⟨Nat.le_of_ble_eq_true rfl, Nat.le_of_ble_eq_true rfl⟩ ⟨rfl, rfl⟩ ⟨by show _ ≤ 3000; omega, by show _ ≤ 18000; omega⟩ (XA.pr hP).n0 rfl rfl rfl rfl (Nat.le_of_ble_eq_true rfl) rfl dL_isSound_558 ?_
    rw [hM.l]
    skip
    refine X_icmp_ge (pc := 561) C 593 dL_isSound_561 (by decide) (fun h => kx) (fun h => absurd (Int32.le_refl _) h)
  | succ n ih =>
    intro j hj0
    have hj : j < mL S := by omega
    have hle := hp.l (a := j) (by omega)
    have hgt : ¬ 1 < f j := by
      rw [hf j (by omega)]
      exact nI_nlt (a := 1) hle (n31 (by omega))
    have heq : (if 0 < mLine S (nI j) (mK S) then (1 : Int32) else 0) = f j := by
      rw [hf j (by omega)]
      by_cases q : 0 < mLine S (nI j) (mK S)
      · rw [if_pos q, show mLine S (nI j) (mK S) = 1 by omega]; rfl
      · rw [if_neg q, show mLine S (nI j) (mK S) = 0 by omega]; rfl
    refine X_iload (pc := 555) C dL_isSound_555 rfl ?_
    refine X_aload_n (pc := 557) C 0 dL_isSound_557 rfl rfl ?_
    refine X_fV (i := .inr 0) (ci := 6) (n := 0) (pc := 558) C [] (d_lineCount l _ (XA.pr hP) σ hG) m_c_X6_lineCount m_m_L_173 m_i_X6_lineCount m_s_X6_lineCount m_n_X6 ⟨by decide +kernel, by decide +kernel, by decide +kernel⟩ ⟨Nat.le_of_ble_eq_true rfl, Nat.le_of_ble_eq_true rfl⟩ ⟨rfl, rfl⟩ ⟨by show _ ≤ 3000; omega, by show _ ≤ 18000; omega⟩ (XA.pr hP).n0 rfl rfl rfl rfl (Nat.le_of_ble_eq_true rfl) rfl dL_isSound_558 ?_
    rw [hM.l]
    skip
    refine X_icmp_ge (pc := 561) C 593 dL_isSound_561 (by decide) (fun h => absurd h (nI_ge hj (n31 (by omega)))) (fun h => ?_)
    refine X_aload_n (pc := 564) C 1 dL_isSound_564 rfl rfl ?_
    refine X_iload (pc := 565) C dL_isSound_565 rfl ?_
    refine X_lnL (pc := 567) C (j := j) (by omega) dL_isSound_567 ?_
    refine X_iconst (pc := 568) (v := 1) C dL_isSound_568 (by decide) ?_
    refine X_icmp_gt (pc := 569) C 585 dL_isSound_569 (by decide) (fun h => absurd h hgt) (fun h => ?_)
    refine X_aload_n (pc := 572) C 0 dL_isSound_572 rfl rfl ?_
    refine X_iload (pc := 573) C dL_isSound_573 rfl ?_
    refine X_ask (n := 2) (pc := 575) C [.ref _, .int _] (a_isLineBusy l hl0 _ (XA.pr hP) σ hG hj) ⟨rfl, rfl⟩ m_h_L_isLineBusy m_m_L_168 m_t_L_isLineBusy m_n_L ⟨by decide +kernel, by decide +kernel, by decide +kernel⟩ ⟨Nat.le_of_ble_eq_true rfl, Nat.le_of_ble_eq_true rfl⟩ ⟨by show _ ≤ 3000; omega, by show _ ≤ 18000; omega⟩ rfl (Nat.le_of_ble_eq_true rfl) rfl dL_isSound_575 ?_
    refine X_aload_n (pc := 578) C 1 dL_isSound_578 rfl rfl ?_
    refine X_iload (pc := 579) C dL_isSound_579 rfl ?_
    refine X_lnL (pc := 581) C (j := j) (by omega) dL_isSound_581 ?_
    refine X_icmp_eq (pc := 582) C 587 dL_isSound_582 (by decide) (fun h => ?_) (fun h => absurd heq h)
    first | refine X_iincN (pc := 587) (lv1 := [(0, _), (1, _), (2, _), (3, _), (4, _), (5, _), (6, _), (7, _), (8, _)]) C dL_isSound_587 rfl (by decide) (by decide) rfl ?_ | refine X_iinc (pc := 587) (kk := 1) (lv1 := [(0, _), (1, _), (2, _), (3, _), (4, _), (5, _), (6, _), (7, _), (8, _)]) C dL_isSound_587 rfl (by decide) (by decide) rfl ?_
    refine X_goto (pc := 590) C 555 dL_isSound_590 (by decide) ?_
    skip
    exact ih (j + 1) (by omega)

set_option maxRecDepth 100000 in
set_option maxHeartbeats 4000000 in
theorem sH {f g : Nat → Int32} {co wa ta : Int32} (hl0 : l.stackTraces = false) (hP : XA P) (hG : GV σ S o ch) (hp : PS S T) (C : XC p s m args meth c (xPR P (wS P r1 r2 f g)) A 17 RL cL_isSound (some .boolean)) (hf : ∀ t, t < 4 → g t = nI (mTrk S (nI t) (mK S))) (hk : k + 10 ≤ 3000) (kx : XW p l e rm_L_isSound s m args below meth c (xPR P (wS P r1 r2 f g)) A 17 (k + mT S) (6 * (k + mT S)) Q σ 634 [(0, .ref (P.2.2.1 (.inr 0))), (1, .ref r1), (2, .ref r2), (3, .int co), (4, .int mo), (5, .int wa), (6, .int ta), (7, .int nu), (8, .int (nI (mT S)))] []) : ∀ (n j : Nat), j + n = mT S → XW p l e rm_L_isSound s m args below meth c (xPR P (wS P r1 r2 f g)) A 17 (k + j) (6 * (k + j)) Q σ 596 [(0, .ref (P.2.2.1 (.inr 0))), (1, .ref r1), (2, .ref r2), (3, .int co), (4, .int mo), (5, .int wa), (6, .int ta), (7, .int nu), (8, .int (nI j))] [] := by
  have hM := hG.b.x.i
  have hlim := hM.t4
  intro n
  induction n with
  | zero =>
    intro j hj0
    obtain rfl : j = mT S := by omega
    refine X_iload (pc := 596) C dL_isSound_596 rfl ?_
    refine X_aload_n (pc := 598) C 0 dL_isSound_598 rfl rfl ?_
    refine X_fV (i := .inr 0) (ci := 6) (n := 0) (pc := 599) C [] (d_trunkCount l _ (XA.pr hP) σ hG) m_c_X6_trunkCount m_m_L_176 m_i_X6_trunkCount m_s_X6_trunkCount m_n_X6 ⟨by decide +kernel, by decide +kernel, by decide +kernel⟩ ⟨Nat.le_of_ble_eq_true rfl, Nat.le_of_ble_eq_true rfl⟩ ⟨rfl, rfl⟩ ⟨by show _ ≤ 3000; omega, by show _ ≤ 18000; omega⟩ (XA.pr hP).n0 rfl rfl rfl rfl (Nat.le_of_ble_eq_true rfl) rfl dL_isSound_599 ?_
    rw [hM.t]
    skip
    refine X_icmp_ge (pc := 602) C 634 dL_isSound_602 (by decide) (fun h => kx) (fun h => absurd (Int32.le_refl _) h)
  | succ n ih =>
    intro j hj0
    have hj : j < mT S := by omega
    have hle := hp.k (t := j) (by omega)
    have hgt : ¬ 1 < g j := by
      rw [hf j (by omega)]
      exact nI_nlt (a := 1) hle (n31 (by omega))
    have heq : (if 0 < mTrk S (nI j) (mK S) then (1 : Int32) else 0) = g j := by
      rw [hf j (by omega)]
      by_cases q : 0 < mTrk S (nI j) (mK S)
      · rw [if_pos q, show mTrk S (nI j) (mK S) = 1 by omega]; rfl
      · rw [if_neg q, show mTrk S (nI j) (mK S) = 0 by omega]; rfl
    refine X_iload (pc := 596) C dL_isSound_596 rfl ?_
    refine X_aload_n (pc := 598) C 0 dL_isSound_598 rfl rfl ?_
    refine X_fV (i := .inr 0) (ci := 6) (n := 0) (pc := 599) C [] (d_trunkCount l _ (XA.pr hP) σ hG) m_c_X6_trunkCount m_m_L_176 m_i_X6_trunkCount m_s_X6_trunkCount m_n_X6 ⟨by decide +kernel, by decide +kernel, by decide +kernel⟩ ⟨Nat.le_of_ble_eq_true rfl, Nat.le_of_ble_eq_true rfl⟩ ⟨rfl, rfl⟩ ⟨by show _ ≤ 3000; omega, by show _ ≤ 18000; omega⟩ (XA.pr hP).n0 rfl rfl rfl rfl (Nat.le_of_ble_eq_true rfl) rfl dL_isSound_599 ?_
    rw [hM.t]
    skip
    refine X_icmp_ge (pc := 602) C 634 dL_isSound_602 (by decide) (fun h => absurd h (nI_ge hj (n31 (by omega)))) (fun h => ?_)
    refine X_aload_n (pc := 605) C 2 dL_isSound_605 rfl rfl ?_
    refine X_iload (pc := 606) C dL_isSound_606 rfl ?_
    refine X_lnT (pc := 608) C (j := j) (by omega) dL_isSound_608 ?_
    refine X_iconst (pc := 609) (v := 1) C dL_isSound_609 (by decide) ?_
    refine X_icmp_gt (pc := 610) C 626 dL_isSound_610 (by decide) (fun h => absurd h hgt) (fun h => ?_)
    refine X_aload_n (pc := 613) C 0 dL_isSound_613 rfl rfl ?_
    refine X_iload (pc := 614) C dL_isSound_614 rfl ?_
    refine X_ask (n := 2) (pc := 616) C [.ref _, .int _] (a_isTrunkBusy l hl0 _ (XA.pr hP) σ hG hj) ⟨rfl, rfl⟩ m_h_L_isTrunkBusy m_m_L_179 m_t_L_isTrunkBusy m_n_L ⟨by decide +kernel, by decide +kernel, by decide +kernel⟩ ⟨Nat.le_of_ble_eq_true rfl, Nat.le_of_ble_eq_true rfl⟩ ⟨by show _ ≤ 3000; omega, by show _ ≤ 18000; omega⟩ rfl (Nat.le_of_ble_eq_true rfl) rfl dL_isSound_616 ?_
    refine X_aload_n (pc := 619) C 2 dL_isSound_619 rfl rfl ?_
    refine X_iload (pc := 620) C dL_isSound_620 rfl ?_
    refine X_lnT (pc := 622) C (j := j) (by omega) dL_isSound_622 ?_
    refine X_icmp_eq (pc := 623) C 628 dL_isSound_623 (by decide) (fun h => ?_) (fun h => absurd heq h)
    first | refine X_iincN (pc := 628) (lv1 := [(0, _), (1, _), (2, _), (3, _), (4, _), (5, _), (6, _), (7, _), (8, _)]) C dL_isSound_628 rfl (by decide) (by decide) rfl ?_ | refine X_iinc (pc := 628) (kk := 1) (lv1 := [(0, _), (1, _), (2, _), (3, _), (4, _), (5, _), (6, _), (7, _), (8, _)]) C dL_isSound_628 rfl (by decide) (by decide) rfl ?_
    refine X_goto (pc := 631) C 596 dL_isSound_631 (by decide) ?_
    skip
    exact ih (j + 1) (by omega)

set_option maxRecDepth 100000 in
set_option maxHeartbeats 4000000 in
theorem sI {co wa ta : Int32} (hl0 : l.stackTraces = false) (hP : XA P) (hG : GV σ S o ch) (hp : PS S T) (C : XC p s m args meth c P A 17 RL cL_isSound (some .boolean)) (hk : k + 120 ≤ 3000) (kx : XW p l e rm_L_isSound s m args below meth c P A 17 (k + 6 * mU S) (6 * (k + 6 * mU S)) Q σ 731 [(0, .ref (P.2.2.1 (.inr 0))), (3, .int co), (4, .int mo), (5, .int wa), (6, .int ta), (7, .int (nI (mU S))), (8, .int (cSum (fun u => sU S 3 u) (mU S))), (9, .int (cSum (fun u => xbc (sU S 4 u)) (mU S))), (10, .int (nI (mU S)))] []) : ∀ (n j : Nat), j + n = mU S → XW p l e rm_L_isSound s m args below meth c P A 17 (k + 6 * j) (6 * (k + 6 * j)) Q σ 643 [(0, .ref (P.2.2.1 (.inr 0))), (3, .int co), (4, .int mo), (5, .int wa), (6, .int ta), (7, .int (nI (mU S))), (8, .int (cSum (fun u => sU S 3 u) j)), (9, .int (cSum (fun u => xbc (sU S 4 u)) j)), (10, .int (nI j))] [] := by
  have hM := hG.b.x.i
  have u15 := hM.u15
  have hbe := mBest_le (fun u => xbc (sU S 4 u)) (mU S) hG.u1
  intro n
  induction n with
  | zero =>
    intro j hj0
    obtain rfl : j = mU S := by omega
    refine X_iload (pc := 643) C dL_isSound_643 rfl ?_
    refine X_iload (pc := 645) C dL_isSound_645 rfl ?_
    skip
    refine X_icmp_ge (pc := 647) C 731 dL_isSound_647 (by decide) (fun h => kx) (fun h => absurd (Int32.le_refl _) h)
  | succ n ih =>
    intro j hj0
    have hu : j < mU S := by omega
    have h1 : sU S 4 j >>> (nI j &&& 31) &&& 1 = 1 := by rw [zb_shr0 (by omega), if_pos (hp.s hu).1]
    have hkc := know_pos hu (hp.s hu).1
    have hkl := cCnt_le (fun w => bt (sU S 4 w) j = true) (mU S)
    have hkn : ¬ nI (cCnt (fun w => bt (sU S 4 w) j = true) (mU S)) < 1 := nI_nlt (a := _) (b := 1) hkc (n31 (by omega))
    have hmx : xbc (sU S 4 j) ≤ xbc (sU S 4 (mBest (fun u => xbc (sU S 4 u)) (mU S))) := best_max (f := fun u => xbc (sU S 4 u)) _ hG.u1 j hu
    refine X_iload (pc := 643) C dL_isSound_643 rfl ?_
    refine X_iload (pc := 645) C dL_isSound_645 rfl ?_
    skip
    refine X_icmp_ge (pc := 647) C 731 dL_isSound_647 (by decide) (fun h => absurd h (nI_ge hu (n31 (by omega)))) (fun h => ?_)
    refine X_iload (pc := 650) C dL_isSound_650 rfl ?_
    refine X_aload_n (pc := 652) C 0 dL_isSound_652 rfl rfl ?_
    refine X_iload (pc := 653) C dL_isSound_653 rfl ?_
    refine X_ask (n := 2) (pc := 655) C [.ref _, .int _] (a_bill l hl0 _ hP σ hG hu) ⟨rfl, rfl⟩ m_h_L_bill m_m_L_181 m_t_L_bill m_n_L ⟨by decide +kernel, by decide +kernel, by decide +kernel⟩ ⟨Nat.le_of_ble_eq_true rfl, Nat.le_of_ble_eq_true rfl⟩ ⟨by show _ ≤ 3000; omega, by show _ ≤ 18000; omega⟩ rfl (Nat.le_of_ble_eq_true rfl) rfl dL_isSound_655 ?_
    refine X_iadd (pc := 658) C dL_isSound_658 ?_
    refine X_istore (pc := 659) (lv1 := [(0, _), (3, _), (4, _), (5, _), (6, _), (7, _), (8, _), (9, _), (10, _)]) C dL_isSound_659 (by decide) rfl ?_
    refine X_iload (pc := 661) C dL_isSound_661 rfl ?_
    refine X_aload_n (pc := 663) C 0 dL_isSound_663 rfl rfl ?_
    refine X_iload (pc := 664) C dL_isSound_664 rfl ?_
    refine X_ask (n := 2) (pc := 666) C [.ref _, .int _] (a_secretsKnown l hl0 _ hP σ hG hu) ⟨rfl, rfl⟩ m_h_L_secretsKnown m_m_L_183 m_t_L_secretsKnown m_n_L ⟨by decide +kernel, by decide +kernel, by decide +kernel⟩ ⟨Nat.le_of_ble_eq_true rfl, Nat.le_of_ble_eq_true rfl⟩ ⟨by show _ ≤ 3000; omega, by show _ ≤ 18000; omega⟩ rfl (Nat.le_of_ble_eq_true rfl) rfl dL_isSound_666 ?_
    refine X_callSF (n := 1) (pc := 669) C [.int _] (onesN l _ σ (sU S 4 j) (ones_eq (hp.s hu).2)) m_c_L_ones m_m_L_147 m_t_L_ones m_n_L ⟨by decide +kernel, by decide +kernel, by decide +kernel⟩ ⟨Nat.le_of_ble_eq_true rfl, Nat.le_of_ble_eq_true rfl⟩ ⟨rfl, rfl⟩ ⟨by show _ ≤ 3000; omega, by show _ ≤ 18000; omega⟩ rfl (Nat.le_of_ble_eq_true rfl) rfl dL_isSound_669 ?_
    refine X_iadd (pc := 672) C dL_isSound_672 ?_
    refine X_istore (pc := 673) (lv1 := [(0, _), (3, _), (4, _), (5, _), (6, _), (7, _), (8, _), (9, _), (10, _)]) C dL_isSound_673 (by decide) rfl ?_
    refine X_aload_n (pc := 675) C 0 dL_isSound_675 rfl rfl ?_
    refine X_iload (pc := 676) C dL_isSound_676 rfl ?_
    refine X_ask (n := 2) (pc := 678) C [.ref _, .int _] (a_secretsKnown l hl0 _ hP σ hG hu) ⟨rfl, rfl⟩ m_h_L_secretsKnown m_m_L_183 m_t_L_secretsKnown m_n_L ⟨by decide +kernel, by decide +kernel, by decide +kernel⟩ ⟨Nat.le_of_ble_eq_true rfl, Nat.le_of_ble_eq_true rfl⟩ ⟨by show _ ≤ 3000; omega, by show _ ≤ 18000; omega⟩ rfl (Nat.le_of_ble_eq_true rfl) rfl dL_isSound_678 ?_
    refine X_iload (pc := 681) C dL_isSound_681 rfl ?_
    refine X_ishr (pc := 683) C dL_isSound_683 ?_
    refine X_iconst (pc := 684) (v := 1) C dL_isSound_684 (by decide) ?_
    refine X_iand (pc := 685) C dL_isSound_685 ?_
    refine X_iconst (pc := 686) (v := 1) C dL_isSound_686 (by decide) ?_
    refine X_icmp_ne (pc := 687) C 723 dL_isSound_687 (by decide) (fun h => absurd h1 h) (fun h => ?_)
    refine X_aload_n (pc := 690) C 0 dL_isSound_690 rfl rfl ?_
    refine X_iload (pc := 691) C dL_isSound_691 rfl ?_
    refine X_ask (n := 2) (pc := 693) C [.ref _, .int _] (a_knowers l hl0 _ hP σ hG hu) ⟨rfl, rfl⟩ m_h_L_knowers m_m_L_185 m_t_L_knowers m_n_L ⟨by decide +kernel, by decide +kernel, by decide +kernel⟩ ⟨Nat.le_of_ble_eq_true rfl, Nat.le_of_ble_eq_true rfl⟩ ⟨by show _ ≤ 3000; omega, by show _ ≤ 18000; omega⟩ rfl (Nat.le_of_ble_eq_true rfl) rfl dL_isSound_693 ?_
    refine X_iconst (pc := 696) (v := 1) C dL_isSound_696 (by decide) ?_
    refine X_icmp_lt (pc := 697) C 723 dL_isSound_697 (by decide) (fun h => absurd h hkn) (fun h => ?_)
    refine X_aload_n (pc := 700) C 0 dL_isSound_700 rfl rfl ?_
    refine X_iload (pc := 701) C dL_isSound_701 rfl ?_
    refine X_ask (n := 2) (pc := 703) C [.ref _, .int _] (a_secretsKnown l hl0 _ hP σ hG hu) ⟨rfl, rfl⟩ m_h_L_secretsKnown m_m_L_183 m_t_L_secretsKnown m_n_L ⟨by decide +kernel, by decide +kernel, by decide +kernel⟩ ⟨Nat.le_of_ble_eq_true rfl, Nat.le_of_ble_eq_true rfl⟩ ⟨by show _ ≤ 3000; omega, by show _ ≤ 18000; omega⟩ rfl (Nat.le_of_ble_eq_true rfl) rfl dL_isSound_703 ?_
    refine X_callSF (n := 1) (pc := 706) C [.int _] (onesN l _ σ (sU S 4 j) (ones_eq (hp.s hu).2)) m_c_L_ones m_m_L_147 m_t_L_ones m_n_L ⟨by decide +kernel, by decide +kernel, by decide +kernel⟩ ⟨Nat.le_of_ble_eq_true rfl, Nat.le_of_ble_eq_true rfl⟩ ⟨rfl, rfl⟩ ⟨by show _ ≤ 3000; omega, by show _ ≤ 18000; omega⟩ rfl (Nat.le_of_ble_eq_true rfl) rfl dL_isSound_706 ?_
    refine X_aload_n (pc := 709) C 0 dL_isSound_709 rfl rfl ?_
    refine X_aload_n (pc := 710) C 0 dL_isSound_710 rfl rfl ?_
    refine X_fV (i := .inr 0) (ci := 6) (n := 0) (pc := 711) C [] (d_bestInformed l _ hP σ hG) m_c_X6_bestInformed m_m_L_187 m_i_X6_bestInformed m_s_X6_bestInformed m_n_X6 ⟨by decide +kernel, by decide +kernel, by decide +kernel⟩ ⟨Nat.le_of_ble_eq_true rfl, Nat.le_of_ble_eq_true rfl⟩ ⟨rfl, rfl⟩ ⟨by show _ ≤ 3000; omega, by show _ ≤ 18000; omega⟩ hP.n0 rfl rfl rfl rfl (Nat.le_of_ble_eq_true rfl) rfl dL_isSound_711 ?_
    refine X_ask (n := 2) (pc := 714) C [.ref _, .int _] (a_secretsKnown l hl0 _ hP σ hG hbe) ⟨rfl, rfl⟩ m_h_L_secretsKnown m_m_L_183 m_t_L_secretsKnown m_n_L ⟨by decide +kernel, by decide +kernel, by decide +kernel⟩ ⟨Nat.le_of_ble_eq_true rfl, Nat.le_of_ble_eq_true rfl⟩ ⟨by show _ ≤ 3000; omega, by show _ ≤ 18000; omega⟩ rfl (Nat.le_of_ble_eq_true rfl) rfl dL_isSound_714 ?_
    refine X_callSF (n := 1) (pc := 717) C [.int _] (onesN l _ σ (sU S 4 (mBest (fun u => xbc (sU S 4 u)) (mU S))) (ones_eq (hp.s hbe).2)) m_c_L_ones m_m_L_147 m_t_L_ones m_n_L ⟨by decide +kernel, by decide +kernel, by decide +kernel⟩ ⟨Nat.le_of_ble_eq_true rfl, Nat.le_of_ble_eq_true rfl⟩ ⟨rfl, rfl⟩ ⟨by show _ ≤ 3000; omega, by show _ ≤ 18000; omega⟩ rfl (Nat.le_of_ble_eq_true rfl) rfl dL_isSound_717 ?_
    refine X_icmp_le (pc := 720) C 725 dL_isSound_720 (by decide) (fun h => ?_) (fun h => absurd hmx h)
    first | refine X_iincN (pc := 725) (lv1 := [(0, _), (3, _), (4, _), (5, _), (6, _), (7, _), (8, _), (9, _), (10, _)]) C dL_isSound_725 rfl (by decide) (by decide) rfl ?_ | refine X_iinc (pc := 725) (kk := 1) (lv1 := [(0, _), (3, _), (4, _), (5, _), (6, _), (7, _), (8, _), (9, _), (10, _)]) C dL_isSound_725 rfl (by decide) (by decide) rfl ?_
    refine X_goto (pc := 728) C 643 dL_isSound_728 (by decide) ?_
    skip
    exact XW.up (by omega) (by omega) (ih (j + 1) (by omega))

end X80
section X80b
variable {p : Program} {l : Launch} {e : Env} {R : Room} {s : State} {m : MethodId} {args : Array Value} {below : List Frame} {meth : Method} {c : Code} {P : XP} {A : Nat → Prop}  {Q : State → Prop} {cc : ByteArray} {ret : Option FieldType} {σ : XS} {pc : Nat} {lv : List (Nat × Value)} {st : List Value}
variable {S : Nat → Int32} {o ch : Nat} {T : Nat}
theorem XW.cP {nL cells slots : Nat} {P1 : XP} (h : P = P1) (k : XW p l e R s m args below meth c P1 A nL cells slots Q σ pc lv st) : XW p l e R s m args below meth c P A nL cells slots Q σ pc lv st := h ▸ k
theorem wS_mk {r1 r2 : Nat} : xPR (xPR P (xRaw P ++ [(r1, .inl (P.2.1 0, 6, .inl (fun _ => 0)))])) (xRaw (xPR P (xRaw P ++ [(r1, .inl (P.2.1 0, 6, .inl (fun _ => 0)))])) ++ [(r2, .inl (P.2.1 0, 4, .inl (fun _ => 0)))]) = xPR P (wS P r1 r2 (fun _ => 0) (fun _ => 0)) := congrArg (xPR P) (List.append_assoc _ _ _)
set_option maxRecDepth 100000 in
set_option maxHeartbeats 4000000 in
theorem d_gossipShare (l : Launch) (P : XP) (hP : XA P) (σ : XS) (h : GV σ S o ch) (hp : PS S T) : XF l yX6_gossipShare cX6_gossipShare 2 (some .float) rm_X6_gossipShare P [.ref (P.2.2.1 (.inr 0))] σ (some (.float (FP.fdiv (FP.i2f (cSum (fun u => xbc (sU S 4 u)) (mU S))) (FP.i2f (nI (mU S) * nI (mU S)))))) σ := by
  have hM := h.b.x.i
  have hB := h.b.bd
  have hb := hP.2
  have h0 := hP.1
  obtain ⟨a, ha, hsa⟩ := sec_n (fun u hu => (hp.s hu).2) (mU S) (Nat.le_refl _)
  have u15 := hM.u15
  refine XM.of (by decide +kernel) (Nat.le_of_ble_eq_true rfl) (fun p e s m args below meth c A C => ?_)
  replace C : XC p s m args meth c P A 2 RX6 cX6_gossipShare (some .float) := C
  refine XW.eq (lv' := [(0, _)]) rfl rfl rfl ?_
  have hb0 : xIn P 0 := hb 0 (by decide)
  have hnu := hB.2.1
  refine X_aload_n (pc := 0) C 0 dX6_gossipShare_0 rfl rfl ?_
  refine G_X6_12 (pc := 1) C (by assumption) dX6_gossipShare_1 ?_
  refine G_X6_98 (pc := 4) C (by assumption) dX6_gossipShare_4 ?_
  refine G_X6_102 (pc := 7) C (by assumption) dX6_gossipShare_7 ?_
  rw [hB.1]
  refine X_istore_n (pc := 10) (lv1 := [(0, _), (1, _)]) C 1 dX6_gossipShare_10 rfl (by decide) rfl ?_
  refine X_iload_n (pc := 11) C 1 dX6_gossipShare_11 rfl rfl ?_
  refine X_if_ne (pc := 12) C 17 dX6_gossipShare_12 (by decide) (fun h12 => ?_) (fun h12 => ?_)
  · refine X_aload_n (pc := 17) C 0 dX6_gossipShare_17 rfl rfl ?_
    refine G_X6_12 (pc := 18) C (by assumption) dX6_gossipShare_18 ?_
    refine G_X6_98 (pc := 21) C (by assumption) dX6_gossipShare_21 ?_
    refine K_X6_305 (pc := 24) C (by assumption) (c_X5_countSecretsKnown l P σ 0 (nuN σ 0) hb0 hB.2.1 hB.1) ⟨Nat.le_of_ble_eq_true rfl, Nat.le_of_ble_eq_true rfl⟩ ⟨rfl, rfl⟩ ⟨Nat.zero_le _, Nat.zero_le _⟩ (Nat.le_of_ble_eq_true rfl) dX6_gossipShare_24 ?_
    refine X_i2f (pc := 27) C dX6_gossipShare_27 ?_
    refine X_iload_n (pc := 28) C 1 dX6_gossipShare_28 rfl rfl ?_
    refine X_iload_n (pc := 29) C 1 dX6_gossipShare_29 rfl rfl ?_
    refine X_imul (pc := 30) C dX6_gossipShare_30 ?_
    refine X_i2f (pc := 31) C dX6_gossipShare_31 ?_
    rw [h.b.nu, q_gos h.b]
    refine X_fdivP (pc := 32) C dX6_gossipShare_32 (by rw [hsa]; exact (sh_ok h.u1 u15 (by omega)).1) ?_
    exact fun H locs ls hPt hS _ => W.widen (Nat.zero_le _) (Nat.zero_le _) (W.fret C.1 C.2.1 C.hr (fun t ht _ => ⟨⟨_, σ, rfl, ⟨rfl, rfl⟩, by rw [ht]; exact hPt⟩, hS.F ht⟩) hS.2.2 dX6_gossipShare_33 C.hlk)
  · have e9 := neq (a := nuN σ 0) (b := 0) h12
    rw [h.b.nu] at e9
    exact absurd h.u1 (by omega)
set_option maxRecDepth 100000 in
set_option maxHeartbeats 4000000 in
theorem c_L_isSound (l : Launch) (hl0 : l.stackTraces = false) (P : XP) (hP : XA P) (σ : XS) (hG : GV σ S o ch) (hp : PS S T) (hb : PB S) (he : PE S T) : XF l yL_isSound cL_isSound 17 (some .boolean) rm_L_isSound P [.ref (P.2.2.1 (.inr 0))] σ (some (.int 1)) σ := by
  refine XM.of (by decide +kernel) (Nat.le_of_ble_eq_true rfl) (fun p e s m args below meth c A C => ?_)
  replace C : XC p s m args meth c P A 17 RL cL_isSound (some .boolean) := C
  have C0 := C
  have hM := hG.b.x.i
  have k40 := hM.k40
  have u15 := hM.u15
  have l6 := hM.l6
  have t4 := hM.t4
  obtain ⟨a, ha, hsa⟩ := sec_n (fun u hu => (hp.s hu).2) (mU S) (Nat.le_refl _)
  replace ha : a ≤ 225 := by omega
  have hcd : ¬ S 2 < nI (mCords S (mK S)) := by
    have h6 := hG.b.x.c6
    have hcs := hG.b.x.cs
    rw [hG.b.x.c2]
    exact nI_nlt hcs (n31 (by omega))
  refine XW.eq (lv' := [(0, _)]) rfl rfl rfl ?_
  refine X_bipush (pc := 0) (v := 6) C dL_isSound_0 (by decide) ?_
  refine X_newI (n := 6) (pc := 2) C rfl (by decide) ⟨by show _ ≤ 3000; omega, by show _ ≤ 18000; omega⟩ dL_isSound_2 (fun r1 C => ?_)
  refine X_astore_n (pc := 4) (lv1 := [(0, _), (1, _)]) C 1 dL_isSound_4 rfl (by decide) rfl ?_
  refine X_iconst (pc := 5) (v := 4) C dL_isSound_5 (by decide) ?_
  refine X_newI (n := 4) (pc := 6) C rfl (by decide) ⟨by show _ ≤ 3000; omega, by show _ ≤ 18000; omega⟩ dL_isSound_6 (fun r2 C => ?_)
  refine XW.cP wS_mk ?_
  replace C : XC p s m args meth c (xPR P (wS P r1 r2 (fun _ => 0) (fun _ => 0))) A 17 RL cL_isSound (some .boolean) := (congrArg (fun z => XC p s m args meth c z A 17 RL cL_isSound (some .boolean)) wS_mk).mp C
  refine X_astore_n (pc := 8) (lv1 := [(0, _), (1, _), (2, _)]) C 2 dL_isSound_8 rfl (by decide) rfl ?_
  refine X_iconst (pc := 9) (v := 0) C dL_isSound_9 (by decide) ?_
  refine X_istore_n (pc := 10) (lv1 := [(0, _), (1, _), (2, _), (3, _)]) C 3 dL_isSound_10 rfl (by decide) rfl ?_
  refine X_iconst (pc := 11) (v := 0) C dL_isSound_11 (by decide) ?_
  refine X_istore (pc := 12) (lv1 := [(0, _), (1, _), (2, _), (3, _), (4, _)]) C dL_isSound_12 (by decide) rfl ?_
  refine X_iconst (pc := 14) (v := 0) C dL_isSound_14 (by decide) ?_
  refine X_istore (pc := 15) (lv1 := [(0, _), (1, _), (2, _), (3, _), (4, _), (5, _)]) C dL_isSound_15 (by decide) rfl ?_
  refine X_iconst (pc := 17) (v := 0) C dL_isSound_17 (by decide) ?_
  refine X_istore (pc := 18) (lv1 := [(0, _), (1, _), (2, _), (3, _), (4, _), (5, _), (6, _)]) C dL_isSound_18 (by decide) rfl ?_
  refine X_aload_n (pc := 20) C 0 dL_isSound_20 rfl rfl ?_
  refine X_fV (i := .inr 0) (ci := 6) (n := 0) (pc := 21) C [] (d_subscriberCount l _ (XA.pr hP) σ hG) m_c_X6_subscriberCount m_m_L_127 m_i_X6_subscriberCount m_s_X6_subscriberCount m_n_X6 ⟨by decide +kernel, by decide +kernel, by decide +kernel⟩ ⟨Nat.le_of_ble_eq_true rfl, Nat.le_of_ble_eq_true rfl⟩ ⟨rfl, rfl⟩ ⟨by show _ ≤ 3000; omega, by show _ ≤ 18000; omega⟩ (XA.pr hP).n0 rfl rfl rfl rfl (Nat.le_of_ble_eq_true rfl) rfl dL_isSound_21 ?_
  rw [hM.u]
  refine X_istore (pc := 24) (lv1 := [(0, _), (1, _), (2, _), (3, _), (4, _), (5, _), (6, _), (7, _)]) C dL_isSound_24 (by decide) rfl ?_
  refine X_iconst (pc := 26) (v := 0) C dL_isSound_26 (by decide) ?_
  refine X_istore (pc := 27) (lv1 := [(0, _), (1, _), (2, _), (3, _), (4, _), (5, _), (6, _), (7, _), (8, _)]) C dL_isSound_27 (by decide) rfl ?_
  skip
  refine XW.up (c1 := 2 + 32 * 0) (s1 := 6 * (2 + 32 * 0)) (by omega) (by omega) ?_
  refine sF (P := P) hl0 hP hG hp hb he (fun f g hf hg C => ?_) (mK S) 0 (Nat.zero_add _) (fun _ => 0) (fun _ => 0) (fun a _ => rfl) (fun t _ => rfl) C
  refine X_iconst (pc := 552) (v := 0) C dL_isSound_552 (by decide) ?_
  refine X_istore (pc := 553) (lv1 := [(0, _), (1, _), (2, _), (3, _), (4, _), (5, _), (6, _), (7, _), (8, _)]) C dL_isSound_553 (by decide) rfl ?_
  refine sG (k := 2 + 32 * mK S) hl0 hP hG hp C hf (by omega) ?_ (mL S) 0 (Nat.zero_add _)
  refine X_iconst (pc := 593) (v := 0) C dL_isSound_593 (by decide) ?_
  refine X_istore (pc := 594) (lv1 := [(0, _), (1, _), (2, _), (3, _), (4, _), (5, _), (6, _), (7, _), (8, _)]) C dL_isSound_594 (by decide) rfl ?_
  refine sH (k := 2 + 32 * mK S + mL S) hl0 hP hG hp C hg (by omega) ?_ (mT S) 0 (Nat.zero_add _)
  refine X_drop (w := xRaw P) ?_
  replace C := C0
  refine XW.less [0, 3, 4, 5, 6, 7] rfl ?_
  refine X_iconst (pc := 634) (v := 0) C dL_isSound_634 (by decide) ?_
  refine X_istore (pc := 635) (lv1 := [(0, _), (3, _), (4, _), (5, _), (6, _), (7, _), (8, _)]) C dL_isSound_635 (by decide) rfl ?_
  refine X_iconst (pc := 637) (v := 0) C dL_isSound_637 (by decide) ?_
  refine X_istore (pc := 638) (lv1 := [(0, _), (3, _), (4, _), (5, _), (6, _), (7, _), (8, _), (9, _)]) C dL_isSound_638 (by decide) rfl ?_
  refine X_iconst (pc := 640) (v := 0) C dL_isSound_640 (by decide) ?_
  refine X_istore (pc := 641) (lv1 := [(0, _), (3, _), (4, _), (5, _), (6, _), (7, _), (8, _), (9, _), (10, _)]) C dL_isSound_641 (by decide) rfl ?_
  refine sI (k := 2 + 32 * mK S + mL S + mT S) hl0 hP hG hp C (by omega) ?_ (mU S) 0 (Nat.zero_add _)
  refine X_iload (pc := 731) C dL_isSound_731 rfl ?_
  refine X_iload (pc := 733) C dL_isSound_733 rfl ?_
  refine X_icmp_ne (pc := 735) C 806 dL_isSound_735 (by decide) (fun h => absurd hp.b h) (fun h => ?_)
  refine X_aload_n (pc := 738) C 0 dL_isSound_738 rfl rfl ?_
  refine X_fV (i := .inr 0) (ci := 6) (n := 0) (pc := 739) C [] (d_freeCords l _ hP σ hG) m_c_X6_freeCords m_m_L_170 m_i_X6_freeCords m_s_X6_freeCords m_n_X6 ⟨by decide +kernel, by decide +kernel, by decide +kernel⟩ ⟨Nat.le_of_ble_eq_true rfl, Nat.le_of_ble_eq_true rfl⟩ ⟨rfl, rfl⟩ ⟨by show _ ≤ 3000; omega, by show _ ≤ 18000; omega⟩ hP.n0 rfl rfl rfl rfl (Nat.le_of_ble_eq_true rfl) rfl dL_isSound_739 ?_
  refine X_aload_n (pc := 742) C 0 dL_isSound_742 rfl rfl ?_
  refine X_fV (i := .inr 0) (ci := 6) (n := 0) (pc := 743) C [] (d_cordCount l _ hP σ hG) m_c_X6_cordCount m_m_L_190 m_i_X6_cordCount m_s_X6_cordCount m_n_X6 ⟨by decide +kernel, by decide +kernel, by decide +kernel⟩ ⟨Nat.le_of_ble_eq_true rfl, Nat.le_of_ble_eq_true rfl⟩ ⟨rfl, rfl⟩ ⟨by show _ ≤ 3000; omega, by show _ ≤ 18000; omega⟩ hP.n0 rfl rfl rfl rfl (Nat.le_of_ble_eq_true rfl) rfl dL_isSound_743 ?_
  refine X_iload_n (pc := 746) C 3 dL_isSound_746 rfl rfl ?_
  refine X_isub (pc := 747) C dL_isSound_747 ?_
  refine X_icmp_ne (pc := 748) C 806 dL_isSound_748 (by decide) (fun h => absurd rfl h) (fun h => ?_)
  refine X_iload_n (pc := 751) C 3 dL_isSound_751 rfl rfl ?_
  refine X_aload_n (pc := 752) C 0 dL_isSound_752 rfl rfl ?_
  refine X_fV (i := .inr 0) (ci := 6) (n := 0) (pc := 753) C [] (d_cordCount l _ hP σ hG) m_c_X6_cordCount m_m_L_190 m_i_X6_cordCount m_s_X6_cordCount m_n_X6 ⟨by decide +kernel, by decide +kernel, by decide +kernel⟩ ⟨Nat.le_of_ble_eq_true rfl, Nat.le_of_ble_eq_true rfl⟩ ⟨rfl, rfl⟩ ⟨by show _ ≤ 3000; omega, by show _ ≤ 18000; omega⟩ hP.n0 rfl rfl rfl rfl (Nat.le_of_ble_eq_true rfl) rfl dL_isSound_753 ?_
  refine X_icmp_gt (pc := 756) C 806 dL_isSound_756 (by decide) (fun h => absurd h hcd) (fun h => ?_)
  refine X_iload (pc := 759) C dL_isSound_759 rfl ?_
  refine X_aload_n (pc := 761) C 0 dL_isSound_761 rfl rfl ?_
  refine X_fV (i := .inr 0) (ci := 6) (n := 0) (pc := 762) C [] (d_waitingCalls l _ hP σ hG) m_c_X6_waitingCalls m_m_L_163 m_i_X6_waitingCalls m_s_X6_waitingCalls m_n_X6 ⟨by decide +kernel, by decide +kernel, by decide +kernel⟩ ⟨Nat.le_of_ble_eq_true rfl, Nat.le_of_ble_eq_true rfl⟩ ⟨rfl, rfl⟩ ⟨by show _ ≤ 3000; omega, by show _ ≤ 18000; omega⟩ hP.n0 rfl rfl rfl rfl (Nat.le_of_ble_eq_true rfl) rfl dL_isSound_762 ?_
  refine X_icmp_ne (pc := 765) C 806 dL_isSound_765 (by decide) (fun h => absurd rfl h) (fun h => ?_)
  refine X_iload (pc := 768) C dL_isSound_768 rfl ?_
  refine X_aload_n (pc := 770) C 0 dL_isSound_770 rfl rfl ?_
  refine X_fV (i := .inr 0) (ci := 6) (n := 0) (pc := 771) C [] (d_talkingCalls l _ hP σ hG) m_c_X6_talkingCalls m_m_L_193 m_i_X6_talkingCalls m_s_X6_talkingCalls m_n_X6 ⟨by decide +kernel, by decide +kernel, by decide +kernel⟩ ⟨Nat.le_of_ble_eq_true rfl, Nat.le_of_ble_eq_true rfl⟩ ⟨rfl, rfl⟩ ⟨by show _ ≤ 3000; omega, by show _ ≤ 18000; omega⟩ hP.n0 rfl rfl rfl rfl (Nat.le_of_ble_eq_true rfl) rfl dL_isSound_771 ?_
  refine X_icmp_ne (pc := 774) C 806 dL_isSound_774 (by decide) (fun h => absurd rfl h) (fun h => ?_)
  refine X_aload_n (pc := 777) C 0 dL_isSound_777 rfl rfl ?_
  refine X_fV (i := .inr 0) (ci := 6) (n := 0) (pc := 778) C [] (d_gossipShare l _ hP σ hG hp) m_c_X6_gossipShare m_m_L_196 m_i_X6_gossipShare m_s_X6_gossipShare m_n_X6 ⟨by decide +kernel, by decide +kernel, by decide +kernel⟩ ⟨Nat.le_of_ble_eq_true rfl, Nat.le_of_ble_eq_true rfl⟩ ⟨rfl, rfl⟩ ⟨by show _ ≤ 3000; omega, by show _ ≤ 18000; omega⟩ hP.n0 rfl rfl rfl rfl (Nat.le_of_ble_eq_true rfl) rfl dL_isSound_778 ?_
  refine X_iload (pc := 781) C dL_isSound_781 rfl ?_
  refine X_i2f (pc := 783) C dL_isSound_783 ?_
  refine X_iload (pc := 784) C dL_isSound_784 rfl ?_
  refine X_iload (pc := 786) C dL_isSound_786 rfl ?_
  refine X_imul (pc := 788) C dL_isSound_788 ?_
  refine X_i2f (pc := 789) C dL_isSound_789 ?_
  rw [hsa]
  refine X_fdivP (pc := 790) C dL_isSound_790 (sh_ok hG.u1 hM.u15 ha).1 ?_
  refine X_fcmp (pc := 791) C dL_isSound_791 ?_
  rw [(sh_ok hG.u1 hM.u15 ha).2]
  refine X_if_ne (pc := 792) C 806 dL_isSound_792 (by decide) (fun h => absurd rfl h) (fun h => ?_)
  refine X_aload_n (pc := 795) C 0 dL_isSound_795 rfl rfl ?_
  refine X_fV (i := .inr 0) (ci := 6) (n := 0) (pc := 796) C [] (d_inconsistencies l _ hP σ hG hp) m_c_X6_inconsistencies m_m_L_200 m_i_X6_inconsistencies m_s_X6_inconsistencies m_n_X6 ⟨by decide +kernel, by decide +kernel, by decide +kernel⟩ ⟨Nat.le_of_ble_eq_true rfl, Nat.le_of_ble_eq_true rfl⟩ ⟨rfl, rfl⟩ ⟨by show _ ≤ 3000; omega, by show _ ≤ 18000; omega⟩ hP.n0 rfl rfl rfl rfl (Nat.le_of_ble_eq_true rfl) rfl dL_isSound_796 ?_
  refine X_if_ne (pc := 799) C 806 dL_isSound_799 (by decide) (fun h => absurd rfl h) (fun h => ?_)
  skip
  refine X_iconst (pc := 802) (v := 1) C dL_isSound_802 (by decide) ?_
  refine X_goto (pc := 803) C 807 dL_isSound_803 (by decide) ?_
  exact X_zret (pc := 807) C (by show _ ≤ 3000; omega) (by show _ ≤ 18000; omega) rfl dL_isSound_807 ⟨rfl, rfl⟩
end X80b


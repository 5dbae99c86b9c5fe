/-! THE REFERENCE: averages, the list of calls -/
theorem upd_same {f : Nat → Int32} {k : Nat} {v : Int32} (h : f k = v) : upd f k v = f := by
  funext n
  by_cases g : n = k
  · subst g; simp [upd, h]
  · simp [upd, g]
def mOut : XS → Nat → List Int32 → XS
  | τ, _, [] => τ
  | τ, w, v :: L => mOut (xu τ (.inr 17) w v) (w + 1) L
theorem mOut_app : ∀ (A B : List Int32) (τ : XS) (w : Nat), mOut τ w (A ++ B) = mOut (mOut τ w A) (w + A.length) B
  | [], B, τ, w => rfl
  | v :: A, B, τ, w => by
    rw [List.cons_append, mOut, mOut, mOut_app A B, List.length_cons, show w + 1 + A.length = w + (A.length + 1) by omega]
def mNmL (S : Nat → Int32) (u : Nat) : Nat → Nat → List Int32
  | 0, _ => []
  | k + 1, i => sU S (6 + i) u :: mNmL S u k (i + 1)
theorem mNmL_len (S : Nat → Int32) (u : Nat) : ∀ k i, (mNmL S u k i).length = k
  | 0, _ => rfl
  | k + 1, i => by rw [mNmL, List.length_cons, mNmL_len S u k]
abbrev mNm (S : Nat → Int32) (x : Int32) : List Int32 := mNmL S (cN x) (cN (sU S 5 (cN x))) 0
/-- what call c is written as, behind w bytes -/
def mcL (S : Nat → Int32) (c w : Nat) : List Int32 :=
  (if w = 0 then [] else [32]) ++ (mNm S (sC S 0 c) ++ ([if sC S 4 c = 1 then 45 else 63] ++ (if sC S 2 c = -1 then mNm S (sC S 1 c) else [48 + sC S 2 c])))
def mwL (S : Nat → Int32) : Nat → Nat → Nat → List Int32
  | 0, _, _ => []
  | k + 1, c, w => if 2 ≤ sC S 4 c then mwL S k (c + 1) w else mcL S c w ++ mwL S k (c + 1) (w + (mcL S c w).length)
theorem mNm_le {S : Nat → Int32} {x : Int32} (hN : MN S) (hx : xok x (mU S)) (hu : mU S ≤ 15) : (mNm S x).length ≤ 6 := by
  rw [mNmL_len]
  have := (xok_c (hN _ (xok_c hx).1)).1
  omega
theorem mcL_le {S : Nat → Int32} {c w : Nat} (hM : MI S) (hN : MN S) (hc : c < mK S) : (mcL S c w).length ≤ 14 := by
  have h1 := mNm_le hN (hM.c hc).1 hM.u15
  have h2 : (if sC S 2 c = -1 then mNm S (sC S 1 c) else [48 + sC S 2 c]).length ≤ 6 := by
    by_cases g : sC S 2 c = -1
    · rw [if_pos g]
      rcases (hM.c hc).2 with ⟨-, q⟩ | ⟨-, q⟩
      · exact mNm_le hN q hM.u15
      · rw [g] at q; exact absurd q xok_m1
    · rw [if_neg g]; exact (show (1 : Nat) ≤ 6 by decide)
  have h3 : (if w = 0 then ([] : List Int32) else [32]).length ≤ 1 := by split <;> decide
  unfold mcL
  simp only [List.length_append, List.length_cons, List.length_nil]
  omega
section XP35
variable {p : Program} {l : Launch} {e : Env} {R : Room} {s : State} {m : MethodId} {args : Array Value} {below : List Frame} {meth : Method} {c : Code} {P : XP} {A : Nat → Prop} {nL cells slots : Nat} {Q : State → Prop} {cc : ByteArray} {ret : Option FieldType} {σ : XS} {pc : Nat} {lv : List (Nat × Value)} {st : List Value}
set_option maxRecDepth 100000 in
set_option maxHeartbeats 4000000 in
theorem L_X7_meanVolume (C : XC p s m args meth c P A 4 RX7 cX7_meanVolume (some .double)) {τ : XS} {S F L : Nat → Int32} (h1 : xI1 P) (hM : MI S) (kx : XW p l e rm_X7_meanVolume s m args below meth c P A 4 0 0 Q (mW τ S F L) 53 [(0, .ref (P.2.2.1 (.inr 9))), (1, .int (cMean (fun c => sC S 5 c) (fun c => sC S 8 c) (mK S)).1), (2, .int (nI (cMean (fun c => sC S 5 c) (fun c => sC S 8 c) (mK S)).2)), (3, .int (nI (mK S)))] []) : ∀ (k i : Nat), i + k = mK S → XW p l e rm_X7_meanVolume s m args below meth c P A 4 0 0 Q (mW τ S F L) 11 [(0, .ref (P.2.2.1 (.inr 9))), (1, .int (cMean (fun c => sC S 5 c) (fun c => sC S 8 c) (i)).1), (2, .int (nI (cMean (fun c => sC S 5 c) (fun c => sC S 8 c) (i)).2)), (3, .int (nI (i)))] [] := by
  have hbd := hM.k40
  intro k
  induction k with
  | zero =>
    intro i hi
    have e9 : i = mK S := by omega
    subst e9
    refine X_iload_n (pc := 11) C 3 dX7_meanVolume_11 rfl rfl ?_
    refine X_aload_n (pc := 12) C 0 dX7_meanVolume_12 rfl rfl ?_
    refine G_X7_9 (pc := 13) C (by assumption) dX7_meanVolume_13 ?_
    refine X_iconst (pc := 16) (v := 5) C dX7_meanVolume_16 (by decide) ?_
    refine X_ialdN (j := 5) (pc := 17) C (by first | exact h1 _ (by decide) (by decide)) rfl (by omega) (by decide) dX7_meanVolume_17 ?_
    rw [mW_10]
    rw [hM.k]
    refine X_icmp_ge (pc := 18) C 53 dX7_meanVolume_18 (by decide) (fun h18 => ?_) (fun h18 => ?_)
    · skip
      exact kx
    · exact absurd (nI_le (Nat.le_refl _) (n31 (by omega))) h18
  | succ k ih =>
    intro i hi
    have hlt : i < mK S := by omega
    refine X_iload_n (pc := 11) C 3 dX7_meanVolume_11 rfl rfl ?_
    refine X_aload_n (pc := 12) C 0 dX7_meanVolume_12 rfl rfl ?_
    refine G_X7_9 (pc := 13) C (by assumption) dX7_meanVolume_13 ?_
    refine X_iconst (pc := 16) (v := 5) C dX7_meanVolume_16 (by decide) ?_
    refine X_ialdN (j := 5) (pc := 17) C (by first | exact h1 _ (by decide) (by decide)) rfl (by omega) (by decide) dX7_meanVolume_17 ?_
    rw [mW_10]
    rw [hM.k]
    refine X_icmp_ge (pc := 18) C 53 dX7_meanVolume_18 (by decide) (fun h18 => ?_) (fun h18 => ?_)
    · exact absurd (nle h18) (by omega)
    · skip
      refine X_aload_n (pc := 21) C 0 dX7_meanVolume_21 rfl rfl ?_
      refine X_iload_n (pc := 22) C 3 dX7_meanVolume_22 rfl rfl ?_
      refine X_iconst (pc := 23) (v := 5) C dX7_meanVolume_23 (by decide) ?_
      refine K_X7_88 (pc := 24) C (by assumption) (c_X7_ofCall l P _ _ _ _ h1 i 5 (by omega) (by decide) _ 5 rfl rfl) ⟨Nat.le_of_ble_eq_true rfl, Nat.le_of_ble_eq_true rfl⟩ ⟨rfl, rfl⟩ ⟨Nat.zero_le _, Nat.zero_le _⟩ (Nat.le_of_ble_eq_true rfl) dX7_meanVolume_24 ?_
      refine X_iconst (pc := 27) (v := (-1)) C dX7_meanVolume_27 (by decide) ?_
      refine X_icmp_ne (pc := 28) C 34 dX7_meanVolume_28 (by decide) (fun h28 => ?_) (fun h28 => ?_)
      · skip
        refine X_iload_n (pc := 34) C 1 dX7_meanVolume_34 rfl rfl ?_
        refine X_aload_n (pc := 35) C 0 dX7_meanVolume_35 rfl rfl ?_
        refine X_iload_n (pc := 36) C 3 dX7_meanVolume_36 rfl rfl ?_
        refine X_bipush (pc := 37) (v := 8) C dX7_meanVolume_37 (by decide) ?_
        refine K_X7_88 (pc := 39) C (by assumption) (c_X7_ofCall l P _ _ _ _ h1 i 8 (by omega) (by decide) _ 8 rfl rfl) ⟨Nat.le_of_ble_eq_true rfl, Nat.le_of_ble_eq_true rfl⟩ ⟨rfl, rfl⟩ ⟨Nat.zero_le _, Nat.zero_le _⟩ (Nat.le_of_ble_eq_true rfl) dX7_meanVolume_39 ?_
        refine X_iadd (pc := 42) C dX7_meanVolume_42 ?_
        refine X_istore_n (pc := 43) (lv1 := [(0, _), (1, _), (2, _), (3, _)]) C 1 dX7_meanVolume_43 rfl (by decide) rfl ?_
        first | refine X_iincN (pc := 44) (lv1 := [(0, _), (1, _), (2, _), (3, _)]) C dX7_meanVolume_44 rfl (by decide) (by decide) rfl ?_ | refine X_iinc (pc := 44) (kk := 1) (lv1 := [(0, _), (1, _), (2, _), (3, _)]) C dX7_meanVolume_44 rfl (by decide) (by decide) rfl ?_
        first | refine X_iincN (pc := 47) (lv1 := [(0, _), (1, _), (2, _), (3, _)]) C dX7_meanVolume_47 rfl (by decide) (by decide) rfl ?_ | refine X_iinc (pc := 47) (kk := 1) (lv1 := [(0, _), (1, _), (2, _), (3, _)]) C dX7_meanVolume_47 rfl (by decide) (by decide) rfl ?_
        refine X_goto (pc := 50) C 11 dX7_meanVolume_50 (by decide) ?_
        exact XW.less (lv' := [(0, _), (1, _), (2, _), (3, _)]) [0, 1, 2, 3] rfl (XW.eq rfl (by first | rw [show (cMean (fun c => sC S 5 c) (fun c => sC S 8 c) (i + 1)) = (cMean (fun c => sC S 5 c) (fun c => sC S 8 c) (i)) from if_pos h28] | rw [show (cMean (fun c => sC S 5 c) (fun c => sC S 8 c) (i + 1)) = ((cMean (fun c => sC S 5 c) (fun c => sC S 8 c) (i)).1 + sC S 8 i, (cMean (fun c => sC S 5 c) (fun c => sC S 8 c) (i)).2 + 1) from if_neg h28]) rfl (ih (i + 1) (by omega)))
      · skip
        refine X_goto (pc := 31) C 47 dX7_meanVolume_31 (by decide) ?_
        first | refine X_iincN (pc := 47) (lv1 := [(0, _), (1, _), (2, _), (3, _)]) C dX7_meanVolume_47 rfl (by decide) (by decide) rfl ?_ | refine X_iinc (pc := 47) (kk := 1) (lv1 := [(0, _), (1, _), (2, _), (3, _)]) C dX7_meanVolume_47 rfl (by decide) (by decide) rfl ?_
        refine X_goto (pc := 50) C 11 dX7_meanVolume_50 (by decide) ?_
        exact XW.less (lv' := [(0, _), (1, _), (2, _), (3, _)]) [0, 1, 2, 3] rfl (XW.eq rfl (by first | rw [show (cMean (fun c => sC S 5 c) (fun c => sC S 8 c) (i + 1)) = (cMean (fun c => sC S 5 c) (fun c => sC S 8 c) (i)) from if_pos h28] | rw [show (cMean (fun c => sC S 5 c) (fun c => sC S 8 c) (i + 1)) = ((cMean (fun c => sC S 5 c) (fun c => sC S 8 c) (i)).1 + sC S 8 i, (cMean (fun c => sC S 5 c) (fun c => sC S 8 c) (i)).2 + 1) from if_neg h28]) rfl (ih (i + 1) (by omega)))

set_option maxRecDepth 100000 in
set_option maxHeartbeats 4000000 in
theorem c_X7_meanVolume (l : Launch) (P : XP) (τ : XS) (S F L : Nat → Int32) (h1 : xI1 P) (hM : MI S) : XMD l yX7_meanVolume cX7_meanVolume 4 (some .double) rm_X7_meanVolume P [.ref (P.2.2.1 (.inr 9))] (mW τ S F L) (fun v9 τ9 => τ9 = mW τ S (upd F 7 0) L ∧ ∃ r, v9 = some (.double r) ∧ isMean (cMean (fun c => sC S 5 c) (fun c => sC S 8 c) (mK S)) r) := by
  refine XMD.of (by decide +kernel) (Nat.le_of_ble_eq_true rfl) (fun p e s m args below meth c A C hd0 => ?_)
  replace C : XC p (s.setDrawn s.drawn) m args meth c P A 4 RX7 cX7_meanVolume (some .double) := C
  refine XW.eq (lv' := [(0, _)]) rfl rfl rfl ?_
  have hle := cMean_le (fun c => sC S 5 c) (fun c => sC S 8 c) (mK S)
  have hnc := hM.k40
  refine X_aload_n (pc := 0) C 0 dX7_meanVolume_0 rfl rfl ?_
  refine X_iconst (pc := 1) (v := 0) C dX7_meanVolume_1 (by decide) ?_
  refine U_X7_67 (pc := 2) C (by assumption) dX7_meanVolume_2 ?_
  rw [mW_u9]
  refine X_iconst (pc := 5) (v := 0) C dX7_meanVolume_5 (by decide) ?_
  refine X_istore_n (pc := 6) (lv1 := [(0, _), (1, _)]) C 1 dX7_meanVolume_6 rfl (by decide) rfl ?_
  refine X_iconst (pc := 7) (v := 0) C dX7_meanVolume_7 (by decide) ?_
  refine X_istore_n (pc := 8) (lv1 := [(0, _), (1, _), (2, _)]) C 2 dX7_meanVolume_8 rfl (by decide) rfl ?_
  refine X_iconst (pc := 9) (v := 0) C dX7_meanVolume_9 (by decide) ?_
  refine X_istore_n (pc := 10) (lv1 := [(0, _), (1, _), (2, _), (3, _)]) C 3 dX7_meanVolume_10 rfl (by decide) rfl ?_
  refine L_X7_meanVolume C h1 hM ?_ (mK S) 0 (Nat.zero_add _)
  refine X_iload_n (pc := 53) C 2 dX7_meanVolume_53 rfl rfl ?_
  refine X_if_ne (pc := 54) C 61 dX7_meanVolume_54 (by decide) (fun h64 => ?_) (fun h64 => ?_)
  · refine X_iload_n (pc := 61) C 1 dX7_meanVolume_61 rfl rfl ?_
    refine X_i2d (pc := 62) C dX7_meanVolume_62 ?_
    refine X_iload_n (pc := 63) C 2 dX7_meanVolume_63 rfl rfl ?_
    refine X_i2d (pc := 64) C dX7_meanVolume_64 ?_
    refine X_ddiv (pc := 65) hd0 C dX7_meanVolume_65 (fun r d1 hal hd1 => ?_)
    exact X_dretD (pc := 66) hd1 (C.drawn d1) (Nat.zero_le _) (Nat.zero_le _) dX7_meanVolume_66 ⟨rfl, r, rfl, by rw [isMean, if_neg (fun z => h64 (by rw [z]; rfl))]; exact hal⟩
  · refine X_dconst0 (pc := 57) C dX7_meanVolume_57 ?_
    refine X_goto (pc := 58) C 66 dX7_meanVolume_58 (by decide) ?_
    exact X_dretD (pc := 66) hd0 C (Nat.zero_le _) (Nat.zero_le _) dX7_meanVolume_66 ⟨rfl, _, rfl, by rw [isMean, if_pos (neq (a := _) (b := 0) h64)]⟩

set_option maxRecDepth 100000 in
set_option maxHeartbeats 4000000 in
theorem L_X7_gossipShare (C : XC p s m args meth c P A 3 RX7 cX7_gossipShare (some .float)) {τ : XS} {S F L : Nat → Int32} (h1 : xI1 P) (hM : MI S) (kx : XW p l e rm_X7_gossipShare s m args below meth c P A 3 0 0 Q (mW τ S F L) 33 [(0, .ref (P.2.2.1 (.inr 9))), (1, .int (cSum (fun u => xbc (sU S 4 u)) (mU S))), (2, .int (nI (mU S)))] []) : ∀ (k i : Nat), i + k = mU S → XW p l e rm_X7_gossipShare s m args below meth c P A 3 0 0 Q (mW τ S F L) 9 [(0, .ref (P.2.2.1 (.inr 9))), (1, .int (cSum (fun u => xbc (sU S 4 u)) (i))), (2, .int (nI (i)))] [] := by
  have hbd := hM.u15
  intro k
  induction k with
  | zero =>
    intro i hi
    have e9 : i = mU S := by omega
    subst e9
    refine X_iload_n (pc := 9) C 2 dX7_gossipShare_9 rfl rfl ?_
    refine X_aload_n (pc := 10) C 0 dX7_gossipShare_10 rfl rfl ?_
    refine G_X7_9 (pc := 11) C (by assumption) dX7_gossipShare_11 ?_
    refine X_iconst (pc := 14) (v := 4) C dX7_gossipShare_14 (by decide) ?_
    refine X_ialdN (j := 4) (pc := 15) C (by first | exact h1 _ (by decide) (by decide)) rfl (by omega) (by decide) dX7_gossipShare_15 ?_
    rw [mW_10]
    rw [hM.u]
    refine X_icmp_ge (pc := 16) C 33 dX7_gossipShare_16 (by decide) (fun h16 => ?_) (fun h16 => ?_)
    · skip
      exact kx
    · exact absurd (nI_le (Nat.le_refl _) (n31 (by omega))) h16
  | succ k ih =>
    intro i hi
    have hlt : i < mU S := by omega
    refine X_iload_n (pc := 9) C 2 dX7_gossipShare_9 rfl rfl ?_
    refine X_aload_n (pc := 10) C 0 dX7_gossipShare_10 rfl rfl ?_
    refine G_X7_9 (pc := 11) C (by assumption) dX7_gossipShare_11 ?_
    refine X_iconst (pc := 14) (v := 4) C dX7_gossipShare_14 (by decide) ?_
    refine X_ialdN (j := 4) (pc := 15) C (by first | exact h1 _ (by decide) (by decide)) rfl (by omega) (by decide) dX7_gossipShare_15 ?_
    rw [mW_10]
    rw [hM.u]
    refine X_icmp_ge (pc := 16) C 33 dX7_gossipShare_16 (by decide) (fun h16 => ?_) (fun h16 => ?_)
    · exact absurd (nle h16) (by omega)
    · skip
      refine X_iload_n (pc := 19) C 1 dX7_gossipShare_19 rfl rfl ?_
      refine X_aload_n (pc := 20) C 0 dX7_gossipShare_20 rfl rfl ?_
      refine X_iload_n (pc := 21) C 2 dX7_gossipShare_21 rfl rfl ?_
      refine K_X7_309 (pc := 22) C (by assumption) (c_X7_known l P _ _ _ _ h1 i (by omega)) ⟨Nat.le_of_ble_eq_true rfl, Nat.le_of_ble_eq_true rfl⟩ ⟨rfl, rfl⟩ ⟨Nat.zero_le _, Nat.zero_le _⟩ (Nat.le_of_ble_eq_true rfl) dX7_gossipShare_22 ?_
      refine X_iadd (pc := 25) C dX7_gossipShare_25 ?_
      refine X_istore_n (pc := 26) (lv1 := [(0, _), (1, _), (2, _)]) C 1 dX7_gossipShare_26 rfl (by decide) rfl ?_
      first | refine X_iincN (pc := 27) (lv1 := [(0, _), (1, _), (2, _)]) C dX7_gossipShare_27 rfl (by decide) (by decide) rfl ?_ | refine X_iinc (pc := 27) (kk := 1) (lv1 := [(0, _), (1, _), (2, _)]) C dX7_gossipShare_27 rfl (by decide) (by decide) rfl ?_
      refine X_goto (pc := 30) C 9 dX7_gossipShare_30 (by decide) ?_
      exact XW.less (lv' := [(0, _), (1, _), (2, _)]) [0, 1, 2] rfl (ih (i + 1) (by omega))

set_option maxRecDepth 100000 in
set_option maxHeartbeats 4000000 in
theorem c_X7_gossipShare (l : Launch) (P : XP) (τ : XS) (S F L : Nat → Int32) (h1 : xI1 P) (hM : MI S) : XMD l yX7_gossipShare cX7_gossipShare 3 (some .float) rm_X7_gossipShare P [.ref (P.2.2.1 (.inr 9))] (mW τ S F L) (fun v9 τ9 => τ9 = mW τ S (upd F 7 0) L ∧ ∃ r, v9 = some (.float r) ∧ alike32 r (FP.fdiv (FP.i2f (cSum (fun u => xbc (sU S 4 u)) (mU S))) (FP.i2f (nI (mU S) * nI (mU S)))) = true) := by
  refine XMD.of (by decide +kernel) (Nat.le_of_ble_eq_true rfl) (fun p e s m args below meth c A C hd0 => ?_)
  replace C : XC p (s.setDrawn s.drawn) m args meth c P A 3 RX7 cX7_gossipShare (some .float) := C
  refine XW.eq (lv' := [(0, _)]) rfl rfl rfl ?_
  refine X_aload_n (pc := 0) C 0 dX7_gossipShare_0 rfl rfl ?_
  refine X_iconst (pc := 1) (v := 0) C dX7_gossipShare_1 (by decide) ?_
  refine U_X7_67 (pc := 2) C (by assumption) dX7_gossipShare_2 ?_
  rw [mW_u9]
  refine X_iconst (pc := 5) (v := 0) C dX7_gossipShare_5 (by decide) ?_
  refine X_istore_n (pc := 6) (lv1 := [(0, _), (1, _)]) C 1 dX7_gossipShare_6 rfl (by decide) rfl ?_
  refine X_iconst (pc := 7) (v := 0) C dX7_gossipShare_7 (by decide) ?_
  refine X_istore_n (pc := 8) (lv1 := [(0, _), (1, _), (2, _)]) C 2 dX7_gossipShare_8 rfl (by decide) rfl ?_
  refine L_X7_gossipShare C h1 hM ?_ (mU S) 0 (Nat.zero_add _)
  refine X_iload_n (pc := 33) C 1 dX7_gossipShare_33 rfl rfl ?_
  refine X_i2f (pc := 34) C dX7_gossipShare_34 ?_
  refine X_aload_n (pc := 35) C 0 dX7_gossipShare_35 rfl rfl ?_
  refine G_X7_9 (pc := 36) C (by assumption) dX7_gossipShare_36 ?_
  refine X_iconst (pc := 39) (v := 4) C dX7_gossipShare_39 (by decide) ?_
  refine X_ialdN (j := 4) (pc := 40) C (by first | exact h1 _ (by decide) (by decide)) rfl (by omega) (by decide) dX7_gossipShare_40 ?_
  rw [mW_10]
  rw [hM.u]
  refine X_aload_n (pc := 41) C 0 dX7_gossipShare_41 rfl rfl ?_
  refine G_X7_9 (pc := 42) C (by assumption) dX7_gossipShare_42 ?_
  refine X_iconst (pc := 45) (v := 4) C dX7_gossipShare_45 (by decide) ?_
  refine X_ialdN (j := 4) (pc := 46) C (by first | exact h1 _ (by decide) (by decide)) rfl (by omega) (by decide) dX7_gossipShare_46 ?_
  rw [mW_10]
  rw [hM.u]
  refine X_imul (pc := 47) C dX7_gossipShare_47 ?_
  skip
  refine X_i2f (pc := 48) C dX7_gossipShare_48 ?_
  refine X_fdiv (pc := 49) hd0 C dX7_gossipShare_49 (fun r d1 hal hd1 => ?_)
  exact X_fretD (pc := 50) hd1 (C.drawn d1) (Nat.zero_le _) (Nat.zero_le _) dX7_gossipShare_50 ⟨rfl, r, rfl, hal⟩

set_option maxRecDepth 100000 in
set_option maxHeartbeats 4000000 in
theorem c_X7_out (l : Launch) (P : XP) (τ : XS) (S F L : Nat → Int32) (h1 : xI1 P) (w : Nat) (hw : w < 700) (ho : F 11 = nI w) (v : Int32) : XF l yX7_out cX7_out 2 none rm_X7_out P [.ref (P.2.2.1 (.inr 9)), .int v] (mW τ S F L) (none) (mW (mOut τ w [v]) S (upd F 11 (nI (w + 1))) L) := by
  refine XM.of (by decide +kernel) (Nat.le_of_ble_eq_true rfl) (fun p e s m args below meth c A C => ?_)
  replace C : XC p s m args meth c P A 2 RX7 cX7_out none := C
  refine XW.eq (lv' := [(0, _), (1, _)]) rfl rfl rfl ?_
  refine X_aload_n (pc := 0) C 0 dX7_out_0 rfl rfl ?_
  refine G_X7_32 (pc := 1) C (by assumption) dX7_out_1 ?_
  refine X_aload_n (pc := 4) C 0 dX7_out_4 rfl rfl ?_
  refine G_X7_324 (pc := 5) C (by assumption) dX7_out_5 ?_
  rw [mW_9]
  rw [ho]
  refine X_iload_n (pc := 8) C 1 dX7_out_8 rfl rfl ?_
  refine X_iastN (pc := 9) C (by first | exact h1 _ (by decide) (by decide)) rfl (by omega) (by decide) dX7_out_9 ?_
  rw [mW_uo (j := .inr 17) (by decide) (by decide) (by decide)]
  refine X_aload_n (pc := 10) C 0 dX7_out_10 rfl rfl ?_
  refine X_dup (pc := 11) C dX7_out_11 rfl ?_
  refine G_X7_324 (pc := 12) C (by assumption) dX7_out_12 ?_
  rw [mW_9]
  rw [ho]
  refine X_iconst (pc := 15) (v := 1) C dX7_out_15 (by decide) ?_
  refine X_iadd (pc := 16) C dX7_out_16 ?_
  rw [nI_1]
  refine U_X7_324 (pc := 17) C (by assumption) dX7_out_17 ?_
  rw [mW_u9]
  exact X_vret (pc := 20) C (Nat.zero_le _) (Nat.zero_le _) dX7_out_20 ⟨rfl, rfl⟩

set_option maxRecDepth 100000 in
set_option maxHeartbeats 4000000 in
theorem L_X7_outName (C : XC p s m args meth c P A 3 RX7 cX7_outName none) {S L : Nat → Int32} (h1 : xI1 P) {x : Int32} {u n : Nat} (hu : u < 15) (hx : x = nI u) (hn : n ≤ 6) (hl : sU S 5 u = nI n) : ∀ (k i w : Nat) (τ : XS) (F : Nat → Int32), i + k = n → w + k ≤ 700 → F 11 = nI w → (XW p l e rm_X7_outName s m args below meth c P A 3 0 0 Q (mW (mOut τ w (mNmL S u k i)) S (upd F 11 (nI (w + k))) L) 31 [(0, .ref (P.2.2.1 (.inr 9))), (1, .int x), (2, .int (nI (n)))] []) → XW p l e rm_X7_outName s m args below meth c P A 3 0 0 Q (mW τ S F L) 2 [(0, .ref (P.2.2.1 (.inr 9))), (1, .int x), (2, .int (nI (i)))] [] := by
  intro k
  induction k with
  | zero =>
    intro i w τ F hi hw ho kx
    obtain rfl : i = n := by omega
    rw [Nat.add_zero, upd_same ho] at kx
    refine X_iload_n (pc := 2) C 2 dX7_outName_2 rfl rfl ?_
    refine X_aload_n (pc := 3) C 0 dX7_outName_3 rfl rfl ?_
    refine X_iload_n (pc := 4) C 1 dX7_outName_4 rfl rfl ?_
    refine X_iconst (pc := 5) (v := 5) C dX7_outName_5 (by decide) ?_
    refine K_X7_92 (pc := 6) C (by assumption) (c_X7_ofUser l P _ _ _ _ h1 u 5 hu (by decide) _ 5 hx rfl) ⟨Nat.le_of_ble_eq_true rfl, Nat.le_of_ble_eq_true rfl⟩ ⟨rfl, rfl⟩ ⟨Nat.zero_le _, Nat.zero_le _⟩ (Nat.le_of_ble_eq_true rfl) dX7_outName_6 ?_
    rw [hl]
    refine X_icmp_ge (pc := 9) C 31 dX7_outName_9 (by decide) (fun h9 => ?_) (fun h9 => ?_)
    · skip
      exact kx
    · exact absurd (nI_le (Nat.le_refl _) (n31 (by omega))) h9
  | succ k ih =>
    intro i w τ F hi hw ho kx
    have hlt : i < n := by omega
    refine X_iload_n (pc := 2) C 2 dX7_outName_2 rfl rfl ?_
    refine X_aload_n (pc := 3) C 0 dX7_outName_3 rfl rfl ?_
    refine X_iload_n (pc := 4) C 1 dX7_outName_4 rfl rfl ?_
    refine X_iconst (pc := 5) (v := 5) C dX7_outName_5 (by decide) ?_
    refine K_X7_92 (pc := 6) C (by assumption) (c_X7_ofUser l P _ _ _ _ h1 u 5 hu (by decide) _ 5 hx rfl) ⟨Nat.le_of_ble_eq_true rfl, Nat.le_of_ble_eq_true rfl⟩ ⟨rfl, rfl⟩ ⟨Nat.zero_le _, Nat.zero_le _⟩ (Nat.le_of_ble_eq_true rfl) dX7_outName_6 ?_
    rw [hl]
    refine X_icmp_ge (pc := 9) C 31 dX7_outName_9 (by decide) (fun h9 => ?_) (fun h9 => ?_)
    · exact absurd (nle h9) (by omega)
    · skip
      refine X_aload_n (pc := 12) C 0 dX7_outName_12 rfl rfl ?_
      refine X_aload_n (pc := 13) C 0 dX7_outName_13 rfl rfl ?_
      refine X_iload_n (pc := 14) C 1 dX7_outName_14 rfl rfl ?_
      refine X_bipush (pc := 15) (v := 6) C dX7_outName_15 (by decide) ?_
      refine X_iload_n (pc := 17) C 2 dX7_outName_17 rfl rfl ?_
      refine X_iadd (pc := 18) C dX7_outName_18 ?_
      rw [tix2]
      refine K_X7_92 (pc := 19) C (by assumption) (c_X7_ofUser l P _ _ _ _ h1 u (6 + i) hu (by omega) _ _ hx rfl) ⟨Nat.le_of_ble_eq_true rfl, Nat.le_of_ble_eq_true rfl⟩ ⟨rfl, rfl⟩ ⟨Nat.zero_le _, Nat.zero_le _⟩ (Nat.le_of_ble_eq_true rfl) dX7_outName_19 ?_
      refine K_X7_327 (pc := 22) C (by assumption) (c_X7_out l P _ _ _ _ h1 w (by omega) ho _) ⟨Nat.le_of_ble_eq_true rfl, Nat.le_of_ble_eq_true rfl⟩ ⟨rfl, rfl⟩ ⟨Nat.zero_le _, Nat.zero_le _⟩ (Nat.le_of_ble_eq_true rfl) dX7_outName_22 ?_
      first | refine X_iincN (pc := 25) (lv1 := [(0, _), (1, _), (2, _)]) C dX7_outName_25 rfl (by decide) (by decide) rfl ?_ | refine X_iinc (pc := 25) (kk := 1) (lv1 := [(0, _), (1, _), (2, _)]) C dX7_outName_25 rfl (by decide) (by decide) rfl ?_
      refine X_goto (pc := 28) C 2 dX7_outName_28 (by decide) ?_
      exact ih (i + 1) (w + 1) _ _ (by omega) (by omega) upd_at (XW.eq (by rw [upd_upd, show w + 1 + k = w + (k + 1) by omega]; rfl) rfl rfl kx)

set_option maxRecDepth 100000 in
set_option maxHeartbeats 4000000 in
theorem c_X7_outName (l : Launch) (P : XP) (τ : XS) (S F L : Nat → Int32) (h1 : xI1 P) (hM : MI S) (hN : MN S) (x : Int32) (hx : xok x (mU S)) (w : Nat) (hw : w + 6 ≤ 700) (ho : F 11 = nI w) : XF l yX7_outName cX7_outName 3 none rm_X7_outName P [.ref (P.2.2.1 (.inr 9)), .int x] (mW τ S F L) (none) (mW (mOut τ w (mNm S x)) S (upd F 11 (nI (w + (mNm S x).length))) L) := by
  refine XM.of (by decide +kernel) (Nat.le_of_ble_eq_true rfl) (fun p e s m args below meth c A C => ?_)
  replace C : XC p s m args meth c P A 3 RX7 cX7_outName none := C
  refine XW.eq (lv' := [(0, _), (1, _)]) rfl rfl rfl ?_
  have h15 := hM.u15
  have gx := xok_c hx
  have gn := xok_c (hN _ gx.1)
  rw [mNmL_len]
  refine X_iconst (pc := 0) (v := 0) C dX7_outName_0 (by decide) ?_
  refine X_istore_n (pc := 1) (lv1 := [(0, _), (1, _), (2, _)]) C 2 dX7_outName_1 rfl (by decide) rfl ?_
  refine L_X7_outName C h1 (u := cN x) (n := cN (sU S 5 (cN x))) (by omega) gx.2 (by omega) gn.2 (cN (sU S 5 (cN x))) 0 w τ F (by omega) (by omega) ho ?_
  exact X_vret (pc := 31) C (Nat.zero_le _) (Nat.zero_le _) dX7_outName_31 ⟨rfl, rfl⟩

set_option maxRecDepth 100000 in
set_option maxHeartbeats 4000000 in
theorem L_X7_writeCalls (C : XC p s m args meth c P A 2 RX7 cX7_writeCalls (some .int)) {S L : Nat → Int32} (h1 : xI1 P) (hM : MI S) (hN : MN S) : ∀ (k i w : Nat) (τ : XS) (F : Nat → Int32), i + k = mK S → w + 14 * k ≤ 700 → F 11 = nI w → (XW p l e rm_X7_writeCalls s m args below meth c P A 2 0 0 Q (mW (mOut τ w (mwL S k i w)) S (upd F 11 (nI (w + (mwL S k i w).length))) L) 117 [(0, .ref (P.2.2.1 (.inr 9))), (1, .int (nI (mK S)))] []) → XW p l e rm_X7_writeCalls s m args below meth c P A 2 0 0 Q (mW τ S F L) 12 [(0, .ref (P.2.2.1 (.inr 9))), (1, .int (nI (i)))] [] := by
  have hbd := hM.k40
  have hu15 := hM.u15
  intro k
  induction k with
  | zero =>
    intro i w τ F hi hw ho kx
    have e9 : i = mK S := by omega
    subst e9
    have kx9 := XW.eq (σ := mW τ S F L) (by rw [mwL, List.length_nil, Nat.add_zero, upd_same ho]; rfl) rfl rfl kx
    refine X_iload_n (pc := 12) C 1 dX7_writeCalls_12 rfl rfl ?_
    refine X_aload_n (pc := 13) C 0 dX7_writeCalls_13 rfl rfl ?_
    refine G_X7_9 (pc := 14) C (by assumption) dX7_writeCalls_14 ?_
    refine X_iconst (pc := 17) (v := 5) C dX7_writeCalls_17 (by decide) ?_
    refine X_ialdN (j := 5) (pc := 18) C (by first | exact h1 _ (by decide) (by decide)) rfl (by omega) (by decide) dX7_writeCalls_18 ?_
    rw [mW_10]
    rw [hM.k]
    refine X_icmp_ge (pc := 19) C 117 dX7_writeCalls_19 (by decide) (fun h19 => ?_) (fun h19 => ?_)
    · skip
      exact kx9
    · exact absurd (nI_le (Nat.le_refl _) (n31 (by omega))) h19
  | succ k ih =>
    intro i w τ F hi hw ho kx
    have hlt : i < mK S := by omega
    have hcl := mcL_le (w := w) hM hN hlt
    have hna := mNm_le hN (hM.c hlt).1 hM.u15
    have kc : ¬ 2 ≤ sC S 4 i → XW p l e rm_X7_writeCalls s m args below meth c P A 2 0 0 Q (mW (mOut τ w (mcL S i w)) S (upd F 11 (nI (w + (mcL S i w).length))) L) 111 [(0, .ref (P.2.2.1 (.inr 9))), (1, .int (nI (i)))] [] := fun g2 => by
      rw [mwL, if_neg g2, mOut_app, List.length_append, ← Nat.add_assoc] at kx
      refine X_iincN (pc := 111) (lv1 := [(0, _), (1, _)]) C dX7_writeCalls_111 rfl (by decide) (by decide) rfl ?_
      refine X_goto (pc := 114) C 12 dX7_writeCalls_114 (by decide) ?_
      exact ih (i + 1) (w + (mcL S i w).length) _ _ (by omega) (by omega) upd_at (XW.eq (by rw [upd_upd]) rfl rfl kx)
    have hot : sC S 2 i = -1 → xok (sC S 1 i) (mU S) := fun g => by
      rcases (hM.c hlt).2 with ⟨-, q⟩ | ⟨-, q⟩
      · exact q
      · rw [g] at q; exact absurd q xok_m1
    by_cases g0 : w = 0
    · skip
      refine X_iload_n (pc := 12) C 1 dX7_writeCalls_12 rfl rfl ?_
      refine X_aload_n (pc := 13) C 0 dX7_writeCalls_13 rfl rfl ?_
      refine G_X7_9 (pc := 14) C (by assumption) dX7_writeCalls_14 ?_
      refine X_iconst (pc := 17) (v := 5) C dX7_writeCalls_17 (by decide) ?_
      refine X_ialdN (j := 5) (pc := 18) C (by first | exact h1 _ (by decide) (by decide)) rfl (by omega) (by decide) dX7_writeCalls_18 ?_
      rw [mW_10]
      rw [hM.k]
      refine X_icmp_ge (pc := 19) C 117 dX7_writeCalls_19 (by decide) (fun h19 => ?_) (fun h19 => ?_)
      · exact absurd (nle h19) (by omega)
      · skip
        refine X_aload_n (pc := 22) C 0 dX7_writeCalls_22 rfl rfl ?_
        refine X_iload_n (pc := 23) C 1 dX7_writeCalls_23 rfl rfl ?_
        refine K_X7_247 (pc := 24) C (by assumption) (c_X7_isOver l P _ _ _ _ h1 i (by omega) _ rfl) ⟨Nat.le_of_ble_eq_true rfl, Nat.le_of_ble_eq_true rfl⟩ ⟨rfl, rfl⟩ ⟨Nat.zero_le _, Nat.zero_le _⟩ (Nat.le_of_ble_eq_true rfl) dX7_writeCalls_24 ?_
        refine X_if_eq (pc := 27) C 33 dX7_writeCalls_27 (by decide) (fun h27 => ?_) (fun h27 => ?_)
        · skip
          refine X_aload_n (pc := 33) C 0 dX7_writeCalls_33 rfl rfl ?_
          refine G_X7_324 (pc := 34) C (by assumption) dX7_writeCalls_34 ?_
          rw [mW_9]
          rw [ho]
          refine X_if_le (pc := 37) C 46 dX7_writeCalls_37 (by decide) (fun h37 => ?_) (fun h37 => ?_)
          · skip
            refine X_aload_n (pc := 46) C 0 dX7_writeCalls_46 rfl rfl ?_
            refine X_aload_n (pc := 47) C 0 dX7_writeCalls_47 rfl rfl ?_
            refine X_iload_n (pc := 48) C 1 dX7_writeCalls_48 rfl rfl ?_
            refine X_iconst (pc := 49) (v := 0) C dX7_writeCalls_49 (by decide) ?_
            refine K_X7_88 (pc := 50) C (by assumption) (c_X7_ofCall l P _ _ _ _ h1 i 0 (by omega) (by decide) _ 0 rfl rfl) ⟨Nat.le_of_ble_eq_true rfl, Nat.le_of_ble_eq_true rfl⟩ ⟨rfl, rfl⟩ ⟨Nat.zero_le _, Nat.zero_le _⟩ (Nat.le_of_ble_eq_true rfl) dX7_writeCalls_50 ?_
            refine K_X7_330 (pc := 53) C (by assumption) (c_X7_outName l P _ _ _ _ h1 hM hN _ (hM.c hlt).1 w (by omega) (by first | exact ho | exact upd_at)) ⟨Nat.le_of_ble_eq_true rfl, Nat.le_of_ble_eq_true rfl⟩ ⟨rfl, rfl⟩ ⟨Nat.zero_le _, Nat.zero_le _⟩ (Nat.le_of_ble_eq_true rfl) dX7_writeCalls_53 ?_
            refine X_aload_n (pc := 56) C 0 dX7_writeCalls_56 rfl rfl ?_
            refine X_aload_n (pc := 57) C 0 dX7_writeCalls_57 rfl rfl ?_
            refine X_iload_n (pc := 58) C 1 dX7_writeCalls_58 rfl rfl ?_
            refine K_X7_95 (pc := 59) C (by assumption) (c_X7_isTalking l P _ _ _ _ h1 i (by omega) _ rfl) ⟨Nat.le_of_ble_eq_true rfl, Nat.le_of_ble_eq_true rfl⟩ ⟨rfl, rfl⟩ ⟨Nat.zero_le _, Nat.zero_le _⟩ (Nat.le_of_ble_eq_true rfl) dX7_writeCalls_59 ?_
            refine X_if_eq (pc := 62) C 70 dX7_writeCalls_62 (by decide) (fun h62 => ?_) (fun h62 => ?_)
            · skip
              refine X_bipush (pc := 70) (v := 63) C dX7_writeCalls_70 (by decide) ?_
              refine K_X7_327 (pc := 72) C (by assumption) (c_X7_out l P _ _ _ _ h1 (w + (mNm S (sC S 0 i)).length) (by omega) upd_at _) ⟨Nat.le_of_ble_eq_true rfl, Nat.le_of_ble_eq_true rfl⟩ ⟨rfl, rfl⟩ ⟨Nat.zero_le _, Nat.zero_le _⟩ (Nat.le_of_ble_eq_true rfl) dX7_writeCalls_72 ?_
              refine X_aload_n (pc := 75) C 0 dX7_writeCalls_75 rfl rfl ?_
              refine X_iload_n (pc := 76) C 1 dX7_writeCalls_76 rfl rfl ?_
              refine X_iconst (pc := 77) (v := 2) C dX7_writeCalls_77 (by decide) ?_
              refine K_X7_88 (pc := 78) C (by assumption) (c_X7_ofCall l P _ _ _ _ h1 i 2 (by omega) (by decide) _ 2 rfl rfl) ⟨Nat.le_of_ble_eq_true rfl, Nat.le_of_ble_eq_true rfl⟩ ⟨rfl, rfl⟩ ⟨Nat.zero_le _, Nat.zero_le _⟩ (Nat.le_of_ble_eq_true rfl) dX7_writeCalls_78 ?_
              refine X_iconst (pc := 81) (v := (-1)) C dX7_writeCalls_81 (by decide) ?_
              refine X_icmp_ne (pc := 82) C 98 dX7_writeCalls_82 (by decide) (fun h82 => ?_) (fun h82 => ?_)
              · skip
                refine X_aload_n (pc := 98) C 0 dX7_writeCalls_98 rfl rfl ?_
                refine X_bipush (pc := 99) (v := 48) C dX7_writeCalls_99 (by decide) ?_
                refine X_aload_n (pc := 101) C 0 dX7_writeCalls_101 rfl rfl ?_
                refine X_iload_n (pc := 102) C 1 dX7_writeCalls_102 rfl rfl ?_
                refine X_iconst (pc := 103) (v := 2) C dX7_writeCalls_103 (by decide) ?_
                refine K_X7_88 (pc := 104) C (by assumption) (c_X7_ofCall l P _ _ _ _ h1 i 2 (by omega) (by decide) _ 2 rfl rfl) ⟨Nat.le_of_ble_eq_true rfl, Nat.le_of_ble_eq_true rfl⟩ ⟨rfl, rfl⟩ ⟨Nat.zero_le _, Nat.zero_le _⟩ (Nat.le_of_ble_eq_true rfl) dX7_writeCalls_104 ?_
                refine X_iadd (pc := 107) C dX7_writeCalls_107 ?_
                refine K_X7_327 (pc := 108) C (by assumption) (c_X7_out l P _ _ _ _ h1 (w + (mNm S (sC S 0 i)).length + 1) (by omega) upd_at _) ⟨Nat.le_of_ble_eq_true rfl, Nat.le_of_ble_eq_true rfl⟩ ⟨rfl, rfl⟩ ⟨Nat.zero_le _, Nat.zero_le _⟩ (Nat.le_of_ble_eq_true rfl) dX7_writeCalls_108 ?_
                first
                  | (have g28 := bz1 h27
                     rw [mwL, if_pos g28] at kx
                     refine X_iincN (pc := 111) (lv1 := [(0, _), (1, _)]) C dX7_writeCalls_111 rfl (by decide) (by decide) rfl ?_
                     refine X_goto (pc := 114) C 12 dX7_writeCalls_114 (by decide) ?_
                     exact ih (i + 1) w _ _ (by omega) (by omega) ho kx)
                  | exact XW.eq (by first | (rw [mcL, if_pos g0, if_pos (bz1 h62), if_pos h82]; simp only [mOut_app, upd_upd, List.length_append, List.length_cons, List.length_nil, List.nil_append, Nat.zero_add, ← Nat.add_assoc]) | (rw [mcL, if_pos g0, if_pos (bz1 h62), if_neg h82]; simp only [mOut_app, upd_upd, List.length_append, List.length_cons, List.length_nil, List.nil_append, Nat.zero_add, ← Nat.add_assoc]) | (rw [mcL, if_pos g0, if_neg (bz0 h62), if_pos h82]; simp only [mOut_app, upd_upd, List.length_append, List.length_cons, List.length_nil, List.nil_append, Nat.zero_add, ← Nat.add_assoc]) | (rw [mcL, if_pos g0, if_neg (bz0 h62), if_neg h82]; simp only [mOut_app, upd_upd, List.length_append, List.length_cons, List.length_nil, List.nil_append, Nat.zero_add, ← Nat.add_assoc])) rfl rfl (kc (bz0 h27))
              · skip
                refine X_aload_n (pc := 85) C 0 dX7_writeCalls_85 rfl rfl ?_
                refine X_aload_n (pc := 86) C 0 dX7_writeCalls_86 rfl rfl ?_
                refine X_iload_n (pc := 87) C 1 dX7_writeCalls_87 rfl rfl ?_
                refine X_iconst (pc := 88) (v := 1) C dX7_writeCalls_88 (by decide) ?_
                refine K_X7_88 (pc := 89) C (by assumption) (c_X7_ofCall l P _ _ _ _ h1 i 1 (by omega) (by decide) _ 1 rfl rfl) ⟨Nat.le_of_ble_eq_true rfl, Nat.le_of_ble_eq_true rfl⟩ ⟨rfl, rfl⟩ ⟨Nat.zero_le _, Nat.zero_le _⟩ (Nat.le_of_ble_eq_true rfl) dX7_writeCalls_89 ?_
                refine K_X7_330 (pc := 92) C (by assumption) (c_X7_outName l P _ _ _ _ h1 hM hN _ (hot h82) (w + (mNm S (sC S 0 i)).length + 1) (by omega) upd_at) ⟨Nat.le_of_ble_eq_true rfl, Nat.le_of_ble_eq_true rfl⟩ ⟨rfl, rfl⟩ ⟨Nat.zero_le _, Nat.zero_le _⟩ (Nat.le_of_ble_eq_true rfl) dX7_writeCalls_92 ?_
                refine X_goto (pc := 95) C 111 dX7_writeCalls_95 (by decide) ?_
                first
                  | (have g28 := bz1 h27
                     rw [mwL, if_pos g28] at kx
                     refine X_iincN (pc := 111) (lv1 := [(0, _), (1, _)]) C dX7_writeCalls_111 rfl (by decide) (by decide) rfl ?_
                     refine X_goto (pc := 114) C 12 dX7_writeCalls_114 (by decide) ?_
                     exact ih (i + 1) w _ _ (by omega) (by omega) ho kx)
                  | exact XW.eq (by first | (rw [mcL, if_pos g0, if_pos (bz1 h62), if_pos h82]; simp only [mOut_app, upd_upd, List.length_append, List.length_cons, List.length_nil, List.nil_append, Nat.zero_add, ← Nat.add_assoc]) | (rw [mcL, if_pos g0, if_pos (bz1 h62), if_neg h82]; simp only [mOut_app, upd_upd, List.length_append, List.length_cons, List.length_nil, List.nil_append, Nat.zero_add, ← Nat.add_assoc]) | (rw [mcL, if_pos g0, if_neg (bz0 h62), if_pos h82]; simp only [mOut_app, upd_upd, List.length_append, List.length_cons, List.length_nil, List.nil_append, Nat.zero_add, ← Nat.add_assoc]) | (rw [mcL, if_pos g0, if_neg (bz0 h62), if_neg h82]; simp only [mOut_app, upd_upd, List.length_append, List.length_cons, List.length_nil, List.nil_append, Nat.zero_add, ← Nat.add_assoc])) rfl rfl (kc (bz0 h27))
            · skip
              refine X_bipush (pc := 65) (v := 45) C dX7_writeCalls_65 (by decide) ?_
              refine X_goto (pc := 67) C 72 dX7_writeCalls_67 (by decide) ?_
              refine K_X7_327 (pc := 72) C (by assumption) (c_X7_out l P _ _ _ _ h1 (w + (mNm S (sC S 0 i)).length) (by omega) upd_at _) ⟨Nat.le_of_ble_eq_true rfl, Nat.le_of_ble_eq_true rfl⟩ ⟨rfl, rfl⟩ ⟨Nat.zero_le _, Nat.zero_le _⟩ (Nat.le_of_ble_eq_true rfl) dX7_writeCalls_72 ?_
              refine X_aload_n (pc := 75) C 0 dX7_writeCalls_75 rfl rfl ?_
              refine X_iload_n (pc := 76) C 1 dX7_writeCalls_76 rfl rfl ?_
              refine X_iconst (pc := 77) (v := 2) C dX7_writeCalls_77 (by decide) ?_
              refine K_X7_88 (pc := 78) C (by assumption) (c_X7_ofCall l P _ _ _ _ h1 i 2 (by omega) (by decide) _ 2 rfl rfl) ⟨Nat.le_of_ble_eq_true rfl, Nat.le_of_ble_eq_true rfl⟩ ⟨rfl, rfl⟩ ⟨Nat.zero_le _, Nat.zero_le _⟩ (Nat.le_of_ble_eq_true rfl) dX7_writeCalls_78 ?_
              refine X_iconst (pc := 81) (v := (-1)) C dX7_writeCalls_81 (by decide) ?_
              refine X_icmp_ne (pc := 82) C 98 dX7_writeCalls_82 (by decide) (fun h82 => ?_) (fun h82 => ?_)
              · skip
                refine X_aload_n (pc := 98) C 0 dX7_writeCalls_98 rfl rfl ?_
                refine X_bipush (pc := 99) (v := 48) C dX7_writeCalls_99 (by decide) ?_
                refine X_aload_n (pc := 101) C 0 dX7_writeCalls_101 rfl rfl ?_
                refine X_iload_n (pc := 102) C 1 dX7_writeCalls_102 rfl rfl ?_
                refine X_iconst (pc := 103) (v := 2) C dX7_writeCalls_103 (by decide) ?_
                refine K_X7_88 (pc := 104) C (by assumption) (c_X7_ofCall l P _ _ _ _ h1 i 2 (by omega) (by decide) _ 2 rfl rfl) ⟨Nat.le_of_ble_eq_true rfl, Nat.le_of_ble_eq_true rfl⟩ ⟨rfl, rfl⟩ ⟨Nat.zero_le _, Nat.zero_le _⟩ (Nat.le_of_ble_eq_true rfl) dX7_writeCalls_104 ?_
                refine X_iadd (pc := 107) C dX7_writeCalls_107 ?_
                refine K_X7_327 (pc := 108) C (by assumption) (c_X7_out l P _ _ _ _ h1 (w + (mNm S (sC S 0 i)).length + 1) (by omega) upd_at _) ⟨Nat.le_of_ble_eq_true rfl, Nat.le_of_ble_eq_true rfl⟩ ⟨rfl, rfl⟩ ⟨Nat.zero_le _, Nat.zero_le _⟩ (Nat.le_of_ble_eq_true rfl) dX7_writeCalls_108 ?_
                first
                  | (have g28 := bz1 h27
                     rw [mwL, if_pos g28] at kx
                     refine X_iincN (pc := 111) (lv1 := [(0, _), (1, _)]) C dX7_writeCalls_111 rfl (by decide) (by decide) rfl ?_
                     refine X_goto (pc := 114) C 12 dX7_writeCalls_114 (by decide) ?_
                     exact ih (i + 1) w _ _ (by omega) (by omega) ho kx)
                  | exact XW.eq (by first | (rw [mcL, if_pos g0, if_pos (bz1 h62), if_pos h82]; simp only [mOut_app, upd_upd, List.length_append, List.length_cons, List.length_nil, List.nil_append, Nat.zero_add, ← Nat.add_assoc]) | (rw [mcL, if_pos g0, if_pos (bz1 h62), if_neg h82]; simp only [mOut_app, upd_upd, List.length_append, List.length_cons, List.length_nil, List.nil_append, Nat.zero_add, ← Nat.add_assoc]) | (rw [mcL, if_pos g0, if_neg (bz0 h62), if_pos h82]; simp only [mOut_app, upd_upd, List.length_append, List.length_cons, List.length_nil, List.nil_append, Nat.zero_add, ← Nat.add_assoc]) | (rw [mcL, if_pos g0, if_neg (bz0 h62), if_neg h82]; simp only [mOut_app, upd_upd, List.length_append, List.length_cons, List.length_nil, List.nil_append, Nat.zero_add, ← Nat.add_assoc])) rfl rfl (kc (bz0 h27))
              · skip
                refine X_aload_n (pc := 85) C 0 dX7_writeCalls_85 rfl rfl ?_
                refine X_aload_n (pc := 86) C 0 dX7_writeCalls_86 rfl rfl ?_
                refine X_iload_n (pc := 87) C 1 dX7_writeCalls_87 rfl rfl ?_
                refine X_iconst (pc := 88) (v := 1) C dX7_writeCalls_88 (by decide) ?_
                refine K_X7_88 (pc := 89) C (by assumption) (c_X7_ofCall l P _ _ _ _ h1 i 1 (by omega) (by decide) _ 1 rfl rfl) ⟨Nat.le_of_ble_eq_true rfl, Nat.le_of_ble_eq_true rfl⟩ ⟨rfl, rfl⟩ ⟨Nat.zero_le _, Nat.zero_le _⟩ (Nat.le_of_ble_eq_true rfl) dX7_writeCalls_89 ?_
                refine K_X7_330 (pc := 92) C (by assumption) (c_X7_outName l P _ _ _ _ h1 hM hN _ (hot h82) (w + (mNm S (sC S 0 i)).length + 1) (by omega) upd_at) ⟨Nat.le_of_ble_eq_true rfl, Nat.le_of_ble_eq_true rfl⟩ ⟨rfl, rfl⟩ ⟨Nat.zero_le _, Nat.zero_le _⟩ (Nat.le_of_ble_eq_true rfl) dX7_writeCalls_92 ?_
                refine X_goto (pc := 95) C 111 dX7_writeCalls_95 (by decide) ?_
                first
                  | (have g28 := bz1 h27
                     rw [mwL, if_pos g28] at kx
                     refine X_iincN (pc := 111) (lv1 := [(0, _), (1, _)]) C dX7_writeCalls_111 rfl (by decide) (by decide) rfl ?_
                     refine X_goto (pc := 114) C 12 dX7_writeCalls_114 (by decide) ?_
                     exact ih (i + 1) w _ _ (by omega) (by omega) ho kx)
                  | exact XW.eq (by first | (rw [mcL, if_pos g0, if_pos (bz1 h62), if_pos h82]; simp only [mOut_app, upd_upd, List.length_append, List.length_cons, List.length_nil, List.nil_append, Nat.zero_add, ← Nat.add_assoc]) | (rw [mcL, if_pos g0, if_pos (bz1 h62), if_neg h82]; simp only [mOut_app, upd_upd, List.length_append, List.length_cons, List.length_nil, List.nil_append, Nat.zero_add, ← Nat.add_assoc]) | (rw [mcL, if_pos g0, if_neg (bz0 h62), if_pos h82]; simp only [mOut_app, upd_upd, List.length_append, List.length_cons, List.length_nil, List.nil_append, Nat.zero_add, ← Nat.add_assoc]) | (rw [mcL, if_pos g0, if_neg (bz0 h62), if_neg h82]; simp only [mOut_app, upd_upd, List.length_append, List.length_cons, List.length_nil, List.nil_append, Nat.zero_add, ← Nat.add_assoc])) rfl rfl (kc (bz0 h27))
          · exact absurd (show nI w ≤ 0 from by rw [g0]; decide) h37
        · skip
          refine X_goto (pc := 30) C 111 dX7_writeCalls_30 (by decide) ?_
          first
            | (have g28 := bz1 h27
               rw [mwL, if_pos g28] at kx
               refine X_iincN (pc := 111) (lv1 := [(0, _), (1, _)]) C dX7_writeCalls_111 rfl (by decide) (by decide) rfl ?_
               refine X_goto (pc := 114) C 12 dX7_writeCalls_114 (by decide) ?_
               exact ih (i + 1) w _ _ (by omega) (by omega) ho kx)
            | exact XW.eq (by first | (rw [mcL, if_pos g0, if_pos (bz1 h62), if_pos h82]; simp only [mOut_app, upd_upd, List.length_append, List.length_cons, List.length_nil, List.nil_append, Nat.zero_add, ← Nat.add_assoc]) | (rw [mcL, if_pos g0, if_pos (bz1 h62), if_neg h82]; simp only [mOut_app, upd_upd, List.length_append, List.length_cons, List.length_nil, List.nil_append, Nat.zero_add, ← Nat.add_assoc]) | (rw [mcL, if_pos g0, if_neg (bz0 h62), if_pos h82]; simp only [mOut_app, upd_upd, List.length_append, List.length_cons, List.length_nil, List.nil_append, Nat.zero_add, ← Nat.add_assoc]) | (rw [mcL, if_pos g0, if_neg (bz0 h62), if_neg h82]; simp only [mOut_app, upd_upd, List.length_append, List.length_cons, List.length_nil, List.nil_append, Nat.zero_add, ← Nat.add_assoc])) rfl rfl (kc (bz0 h27))
    · skip
      refine X_iload_n (pc := 12) C 1 dX7_writeCalls_12 rfl rfl ?_
      refine X_aload_n (pc := 13) C 0 dX7_writeCalls_13 rfl rfl ?_
      refine G_X7_9 (pc := 14) C (by assumption) dX7_writeCalls_14 ?_
      refine X_iconst (pc := 17) (v := 5) C dX7_writeCalls_17 (by decide) ?_
      refine X_ialdN (j := 5) (pc := 18) C (by first | exact h1 _ (by decide) (by decide)) rfl (by omega) (by decide) dX7_writeCalls_18 ?_
      rw [mW_10]
      rw [hM.k]
      refine X_icmp_ge (pc := 19) C 117 dX7_writeCalls_19 (by decide) (fun h19 => ?_) (fun h19 => ?_)
      · exact absurd (nle h19) (by omega)
      · skip
        refine X_aload_n (pc := 22) C 0 dX7_writeCalls_22 rfl rfl ?_
        refine X_iload_n (pc := 23) C 1 dX7_writeCalls_23 rfl rfl ?_
        refine K_X7_247 (pc := 24) C (by assumption) (c_X7_isOver l P _ _ _ _ h1 i (by omega) _ rfl) ⟨Nat.le_of_ble_eq_true rfl, Nat.le_of_ble_eq_true rfl⟩ ⟨rfl, rfl⟩ ⟨Nat.zero_le _, Nat.zero_le _⟩ (Nat.le_of_ble_eq_true rfl) dX7_writeCalls_24 ?_
        refine X_if_eq (pc := 27) C 33 dX7_writeCalls_27 (by decide) (fun h27 => ?_) (fun h27 => ?_)
        · skip
          refine X_aload_n (pc := 33) C 0 dX7_writeCalls_33 rfl rfl ?_
          refine G_X7_324 (pc := 34) C (by assumption) dX7_writeCalls_34 ?_
          rw [mW_9]
          rw [ho]
          refine X_if_le (pc := 37) C 46 dX7_writeCalls_37 (by decide) (fun h37 => ?_) (fun h37 => ?_)
          · exact absurd h37 (nI_nle (by omega) (n31 (by omega)))
          · skip
            refine X_aload_n (pc := 40) C 0 dX7_writeCalls_40 rfl rfl ?_
            refine X_bipush (pc := 41) (v := 32) C dX7_writeCalls_41 (by decide) ?_
            refine K_X7_327 (pc := 43) C (by assumption) (c_X7_out l P _ _ _ _ h1 w (by omega) ho _) ⟨Nat.le_of_ble_eq_true rfl, Nat.le_of_ble_eq_true rfl⟩ ⟨rfl, rfl⟩ ⟨Nat.zero_le _, Nat.zero_le _⟩ (Nat.le_of_ble_eq_true rfl) dX7_writeCalls_43 ?_
            refine X_aload_n (pc := 46) C 0 dX7_writeCalls_46 rfl rfl ?_
            refine X_aload_n (pc := 47) C 0 dX7_writeCalls_47 rfl rfl ?_
            refine X_iload_n (pc := 48) C 1 dX7_writeCalls_48 rfl rfl ?_
            refine X_iconst (pc := 49) (v := 0) C dX7_writeCalls_49 (by decide) ?_
            refine K_X7_88 (pc := 50) C (by assumption) (c_X7_ofCall l P _ _ _ _ h1 i 0 (by omega) (by decide) _ 0 rfl rfl) ⟨Nat.le_of_ble_eq_true rfl, Nat.le_of_ble_eq_true rfl⟩ ⟨rfl, rfl⟩ ⟨Nat.zero_le _, Nat.zero_le _⟩ (Nat.le_of_ble_eq_true rfl) dX7_writeCalls_50 ?_
            refine K_X7_330 (pc := 53) C (by assumption) (c_X7_outName l P _ _ _ _ h1 hM hN _ (hM.c hlt).1 (w + 1) (by omega) (by first | exact ho | exact upd_at)) ⟨Nat.le_of_ble_eq_true rfl, Nat.le_of_ble_eq_true rfl⟩ ⟨rfl, rfl⟩ ⟨Nat.zero_le _, Nat.zero_le _⟩ (Nat.le_of_ble_eq_true rfl) dX7_writeCalls_53 ?_
            refine X_aload_n (pc := 56) C 0 dX7_writeCalls_56 rfl rfl ?_
            refine X_aload_n (pc := 57) C 0 dX7_writeCalls_57 rfl rfl ?_
            refine X_iload_n (pc := 58) C 1 dX7_writeCalls_58 rfl rfl ?_
            refine K_X7_95 (pc := 59) C (by assumption) (c_X7_isTalking l P _ _ _ _ h1 i (by omega) _ rfl) ⟨Nat.le_of_ble_eq_true rfl, Nat.le_of_ble_eq_true rfl⟩ ⟨rfl, rfl⟩ ⟨Nat.zero_le _, Nat.zero_le _⟩ (Nat.le_of_ble_eq_true rfl) dX7_writeCalls_59 ?_
            refine X_if_eq (pc := 62) C 70 dX7_writeCalls_62 (by decide) (fun h62 => ?_) (fun h62 => ?_)
            · skip
              refine X_bipush (pc := 70) (v := 63) C dX7_writeCalls_70 (by decide) ?_
              refine K_X7_327 (pc := 72) C (by assumption) (c_X7_out l P _ _ _ _ h1 ((w + 1) + (mNm S (sC S 0 i)).length) (by omega) upd_at _) ⟨Nat.le_of_ble_eq_true rfl, Nat.le_of_ble_eq_true rfl⟩ ⟨rfl, rfl⟩ ⟨Nat.zero_le _, Nat.zero_le _⟩ (Nat.le_of_ble_eq_true rfl) dX7_writeCalls_72 ?_
              refine X_aload_n (pc := 75) C 0 dX7_writeCalls_75 rfl rfl ?_
              refine X_iload_n (pc := 76) C 1 dX7_writeCalls_76 rfl rfl ?_
              refine X_iconst (pc := 77) (v := 2) C dX7_writeCalls_77 (by decide) ?_
              refine K_X7_88 (pc := 78) C (by assumption) (c_X7_ofCall l P _ _ _ _ h1 i 2 (by omega) (by decide) _ 2 rfl rfl) ⟨Nat.le_of_ble_eq_true rfl, Nat.le_of_ble_eq_true rfl⟩ ⟨rfl, rfl⟩ ⟨Nat.zero_le _, Nat.zero_le _⟩ (Nat.le_of_ble_eq_true rfl) dX7_writeCalls_78 ?_
              refine X_iconst (pc := 81) (v := (-1)) C dX7_writeCalls_81 (by decide) ?_
              refine X_icmp_ne (pc := 82) C 98 dX7_writeCalls_82 (by decide) (fun h82 => ?_) (fun h82 => ?_)
              · skip
                refine X_aload_n (pc := 98) C 0 dX7_writeCalls_98 rfl rfl ?_
                refine X_bipush (pc := 99) (v := 48) C dX7_writeCalls_99 (by decide) ?_
                refine X_aload_n (pc := 101) C 0 dX7_writeCalls_101 rfl rfl ?_
                refine X_iload_n (pc := 102) C 1 dX7_writeCalls_102 rfl rfl ?_
                refine X_iconst (pc := 103) (v := 2) C dX7_writeCalls_103 (by decide) ?_
                refine K_X7_88 (pc := 104) C (by assumption) (c_X7_ofCall l P _ _ _ _ h1 i 2 (by omega) (by decide) _ 2 rfl rfl) ⟨Nat.le_of_ble_eq_true rfl, Nat.le_of_ble_eq_true rfl⟩ ⟨rfl, rfl⟩ ⟨Nat.zero_le _, Nat.zero_le _⟩ (Nat.le_of_ble_eq_true rfl) dX7_writeCalls_104 ?_
                refine X_iadd (pc := 107) C dX7_writeCalls_107 ?_
                refine K_X7_327 (pc := 108) C (by assumption) (c_X7_out l P _ _ _ _ h1 ((w + 1) + (mNm S (sC S 0 i)).length + 1) (by omega) upd_at _) ⟨Nat.le_of_ble_eq_true rfl, Nat.le_of_ble_eq_true rfl⟩ ⟨rfl, rfl⟩ ⟨Nat.zero_le _, Nat.zero_le _⟩ (Nat.le_of_ble_eq_true rfl) dX7_writeCalls_108 ?_
                first
                  | (have g28 := bz1 h27
                     rw [mwL, if_pos g28] at kx
                     refine X_iincN (pc := 111) (lv1 := [(0, _), (1, _)]) C dX7_writeCalls_111 rfl (by decide) (by decide) rfl ?_
                     refine X_goto (pc := 114) C 12 dX7_writeCalls_114 (by decide) ?_
                     exact ih (i + 1) w _ _ (by omega) (by omega) ho kx)
                  | exact XW.eq (by first | (rw [mcL, if_neg g0, if_pos (bz1 h62), if_pos h82]; simp only [mOut_app, upd_upd, List.length_append, List.length_cons, List.length_nil, List.nil_append, Nat.zero_add, ← Nat.add_assoc]) | (rw [mcL, if_neg g0, if_pos (bz1 h62), if_neg h82]; simp only [mOut_app, upd_upd, List.length_append, List.length_cons, List.length_nil, List.nil_append, Nat.zero_add, ← Nat.add_assoc]) | (rw [mcL, if_neg g0, if_neg (bz0 h62), if_pos h82]; simp only [mOut_app, upd_upd, List.length_append, List.length_cons, List.length_nil, List.nil_append, Nat.zero_add, ← Nat.add_assoc]) | (rw [mcL, if_neg g0, if_neg (bz0 h62), if_neg h82]; simp only [mOut_app, upd_upd, List.length_append, List.length_cons, List.length_nil, List.nil_append, Nat.zero_add, ← Nat.add_assoc])) rfl rfl (kc (bz0 h27))
              · skip
                refine X_aload_n (pc := 85) C 0 dX7_writeCalls_85 rfl rfl ?_
                refine X_aload_n (pc := 86) C 0 dX7_writeCalls_86 rfl rfl ?_
                refine X_iload_n (pc := 87) C 1 dX7_writeCalls_87 rfl rfl ?_
                refine X_iconst (pc := 88) (v := 1) C dX7_writeCalls_88 (by decide) ?_
                refine K_X7_88 (pc := 89) C (by assumption) (c_X7_ofCall l P _ _ _ _ h1 i 1 (by omega) (by decide) _ 1 rfl rfl) ⟨Nat.le_of_ble_eq_true rfl, Nat.le_of_ble_eq_true rfl⟩ ⟨rfl, rfl⟩ ⟨Nat.zero_le _, Nat.zero_le _⟩ (Nat.le_of_ble_eq_true rfl) dX7_writeCalls_89 ?_
                refine K_X7_330 (pc := 92) C (by assumption) (c_X7_outName l P _ _ _ _ h1 hM hN _ (hot h82) ((w + 1) + (mNm S (sC S 0 i)).length + 1) (by omega) upd_at) ⟨Nat.le_of_ble_eq_true rfl, Nat.le_of_ble_eq_true rfl⟩ ⟨rfl, rfl⟩ ⟨Nat.zero_le _, Nat.zero_le _⟩ (Nat.le_of_ble_eq_true rfl) dX7_writeCalls_92 ?_
                refine X_goto (pc := 95) C 111 dX7_writeCalls_95 (by decide) ?_
                first
                  | (have g28 := bz1 h27
                     rw [mwL, if_pos g28] at kx
                     refine X_iincN (pc := 111) (lv1 := [(0, _), (1, _)]) C dX7_writeCalls_111 rfl (by decide) (by decide) rfl ?_
                     refine X_goto (pc := 114) C 12 dX7_writeCalls_114 (by decide) ?_
                     exact ih (i + 1) w _ _ (by omega) (by omega) ho kx)
                  | exact XW.eq (by first | (rw [mcL, if_neg g0, if_pos (bz1 h62), if_pos h82]; simp only [mOut_app, upd_upd, List.length_append, List.length_cons, List.length_nil, List.nil_append, Nat.zero_add, ← Nat.add_assoc]) | (rw [mcL, if_neg g0, if_pos (bz1 h62), if_neg h82]; simp only [mOut_app, upd_upd, List.length_append, List.length_cons, List.length_nil, List.nil_append, Nat.zero_add, ← Nat.add_assoc]) | (rw [mcL, if_neg g0, if_neg (bz0 h62), if_pos h82]; simp only [mOut_app, upd_upd, List.length_append, List.length_cons, List.length_nil, List.nil_append, Nat.zero_add, ← Nat.add_assoc]) | (rw [mcL, if_neg g0, if_neg (bz0 h62), if_neg h82]; simp only [mOut_app, upd_upd, List.length_append, List.length_cons, List.length_nil, List.nil_append, Nat.zero_add, ← Nat.add_assoc])) rfl rfl (kc (bz0 h27))
            · skip
              refine X_bipush (pc := 65) (v := 45) C dX7_writeCalls_65 (by decide) ?_
              refine X_goto (pc := 67) C 72 dX7_writeCalls_67 (by decide) ?_
              refine K_X7_327 (pc := 72) C (by assumption) (c_X7_out l P _ _ _ _ h1 ((w + 1) + (mNm S (sC S 0 i)).length) (by omega) upd_at _) ⟨Nat.le_of_ble_eq_true rfl, Nat.le_of_ble_eq_true rfl⟩ ⟨rfl, rfl⟩ ⟨Nat.zero_le _, Nat.zero_le _⟩ (Nat.le_of_ble_eq_true rfl) dX7_writeCalls_72 ?_
              refine X_aload_n (pc := 75) C 0 dX7_writeCalls_75 rfl rfl ?_
              refine X_iload_n (pc := 76) C 1 dX7_writeCalls_76 rfl rfl ?_
              refine X_iconst (pc := 77) (v := 2) C dX7_writeCalls_77 (by decide) ?_
              refine K_X7_88 (pc := 78) C (by assumption) (c_X7_ofCall l P _ _ _ _ h1 i 2 (by omega) (by decide) _ 2 rfl rfl) ⟨Nat.le_of_ble_eq_true rfl, Nat.le_of_ble_eq_true rfl⟩ ⟨rfl, rfl⟩ ⟨Nat.zero_le _, Nat.zero_le _⟩ (Nat.le_of_ble_eq_true rfl) dX7_writeCalls_78 ?_
              refine X_iconst (pc := 81) (v := (-1)) C dX7_writeCalls_81 (by decide) ?_
              refine X_icmp_ne (pc := 82) C 98 dX7_writeCalls_82 (by decide) (fun h82 => ?_) (fun h82 => ?_)
              · skip
                refine X_aload_n (pc := 98) C 0 dX7_writeCalls_98 rfl rfl ?_
                refine X_bipush (pc := 99) (v := 48) C dX7_writeCalls_99 (by decide) ?_
                refine X_aload_n (pc := 101) C 0 dX7_writeCalls_101 rfl rfl ?_
                refine X_iload_n (pc := 102) C 1 dX7_writeCalls_102 rfl rfl ?_
                refine X_iconst (pc := 103) (v := 2) C dX7_writeCalls_103 (by decide) ?_
                refine K_X7_88 (pc := 104) C (by assumption) (c_X7_ofCall l P _ _ _ _ h1 i 2 (by omega) (by decide) _ 2 rfl rfl) ⟨Nat.le_of_ble_eq_true rfl, Nat.le_of_ble_eq_true rfl⟩ ⟨rfl, rfl⟩ ⟨Nat.zero_le _, Nat.zero_le _⟩ (Nat.le_of_ble_eq_true rfl) dX7_writeCalls_104 ?_
                refine X_iadd (pc := 107) C dX7_writeCalls_107 ?_
                refine K_X7_327 (pc := 108) C (by assumption) (c_X7_out l P _ _ _ _ h1 ((w + 1) + (mNm S (sC S 0 i)).length + 1) (by omega) upd_at _) ⟨Nat.le_of_ble_eq_true rfl, Nat.le_of_ble_eq_true rfl⟩ ⟨rfl, rfl⟩ ⟨Nat.zero_le _, Nat.zero_le _⟩ (Nat.le_of_ble_eq_true rfl) dX7_writeCalls_108 ?_
                first
                  | (have g28 := bz1 h27
                     rw [mwL, if_pos g28] at kx
                     refine X_iincN (pc := 111) (lv1 := [(0, _), (1, _)]) C dX7_writeCalls_111 rfl (by decide) (by decide) rfl ?_
                     refine X_goto (pc := 114) C 12 dX7_writeCalls_114 (by decide) ?_
                     exact ih (i + 1) w _ _ (by omega) (by omega) ho kx)
                  | exact XW.eq (by first | (rw [mcL, if_neg g0, if_pos (bz1 h62), if_pos h82]; simp only [mOut_app, upd_upd, List.length_append, List.length_cons, List.length_nil, List.nil_append, Nat.zero_add, ← Nat.add_assoc]) | (rw [mcL, if_neg g0, if_pos (bz1 h62), if_neg h82]; simp only [mOut_app, upd_upd, List.length_append, List.length_cons, List.length_nil, List.nil_append, Nat.zero_add, ← Nat.add_assoc]) | (rw [mcL, if_neg g0, if_neg (bz0 h62), if_pos h82]; simp only [mOut_app, upd_upd, List.length_append, List.length_cons, List.length_nil, List.nil_append, Nat.zero_add, ← Nat.add_assoc]) | (rw [mcL, if_neg g0, if_neg (bz0 h62), if_neg h82]; simp only [mOut_app, upd_upd, List.length_append, List.length_cons, List.length_nil, List.nil_append, Nat.zero_add, ← Nat.add_assoc])) rfl rfl (kc (bz0 h27))
              · skip
                refine X_aload_n (pc := 85) C 0 dX7_writeCalls_85 rfl rfl ?_
                refine X_aload_n (pc := 86) C 0 dX7_writeCalls_86 rfl rfl ?_
                refine X_iload_n (pc := 87) C 1 dX7_writeCalls_87 rfl rfl ?_
                refine X_iconst (pc := 88) (v := 1) C dX7_writeCalls_88 (by decide) ?_
                refine K_X7_88 (pc := 89) C (by assumption) (c_X7_ofCall l P _ _ _ _ h1 i 1 (by omega) (by decide) _ 1 rfl rfl) ⟨Nat.le_of_ble_eq_true rfl, Nat.le_of_ble_eq_true rfl⟩ ⟨rfl, rfl⟩ ⟨Nat.zero_le _, Nat.zero_le _⟩ (Nat.le_of_ble_eq_true rfl) dX7_writeCalls_89 ?_
                refine K_X7_330 (pc := 92) C (by assumption) (c_X7_outName l P _ _ _ _ h1 hM hN _ (hot h82) ((w + 1) + (mNm S (sC S 0 i)).length + 1) (by omega) upd_at) ⟨Nat.le_of_ble_eq_true rfl, Nat.le_of_ble_eq_true rfl⟩ ⟨rfl, rfl⟩ ⟨Nat.zero_le _, Nat.zero_le _⟩ (Nat.le_of_ble_eq_true rfl) dX7_writeCalls_92 ?_
                refine X_goto (pc := 95) C 111 dX7_writeCalls_95 (by decide) ?_
                first
                  | (have g28 := bz1 h27
                     rw [mwL, if_pos g28] at kx
                     refine X_iincN (pc := 111) (lv1 := [(0, _), (1, _)]) C dX7_writeCalls_111 rfl (by decide) (by decide) rfl ?_
                     refine X_goto (pc := 114) C 12 dX7_writeCalls_114 (by decide) ?_
                     exact ih (i + 1) w _ _ (by omega) (by omega) ho kx)
                  | exact XW.eq (by first | (rw [mcL, if_neg g0, if_pos (bz1 h62), if_pos h82]; simp only [mOut_app, upd_upd, List.length_append, List.length_cons, List.length_nil, List.nil_append, Nat.zero_add, ← Nat.add_assoc]) | (rw [mcL, if_neg g0, if_pos (bz1 h62), if_neg h82]; simp only [mOut_app, upd_upd, List.length_append, List.length_cons, List.length_nil, List.nil_append, Nat.zero_add, ← Nat.add_assoc]) | (rw [mcL, if_neg g0, if_neg (bz0 h62), if_pos h82]; simp only [mOut_app, upd_upd, List.length_append, List.length_cons, List.length_nil, List.nil_append, Nat.zero_add, ← Nat.add_assoc]) | (rw [mcL, if_neg g0, if_neg (bz0 h62), if_neg h82]; simp only [mOut_app, upd_upd, List.length_append, List.length_cons, List.length_nil, List.nil_append, Nat.zero_add, ← Nat.add_assoc])) rfl rfl (kc (bz0 h27))
        · skip
          refine X_goto (pc := 30) C 111 dX7_writeCalls_30 (by decide) ?_
          first
            | (have g28 := bz1 h27
               rw [mwL, if_pos g28] at kx
               refine X_iincN (pc := 111) (lv1 := [(0, _), (1, _)]) C dX7_writeCalls_111 rfl (by decide) (by decide) rfl ?_
               refine X_goto (pc := 114) C 12 dX7_writeCalls_114 (by decide) ?_
               exact ih (i + 1) w _ _ (by omega) (by omega) ho kx)
            | exact XW.eq (by first | (rw [mcL, if_neg g0, if_pos (bz1 h62), if_pos h82]; simp only [mOut_app, upd_upd, List.length_append, List.length_cons, List.length_nil, List.nil_append, Nat.zero_add, ← Nat.add_assoc]) | (rw [mcL, if_neg g0, if_pos (bz1 h62), if_neg h82]; simp only [mOut_app, upd_upd, List.length_append, List.length_cons, List.length_nil, List.nil_append, Nat.zero_add, ← Nat.add_assoc]) | (rw [mcL, if_neg g0, if_neg (bz0 h62), if_pos h82]; simp only [mOut_app, upd_upd, List.length_append, List.length_cons, List.length_nil, List.nil_append, Nat.zero_add, ← Nat.add_assoc]) | (rw [mcL, if_neg g0, if_neg (bz0 h62), if_neg h82]; simp only [mOut_app, upd_upd, List.length_append, List.length_cons, List.length_nil, List.nil_append, Nat.zero_add, ← Nat.add_assoc])) rfl rfl (kc (bz0 h27))

set_option maxRecDepth 100000 in
set_option maxHeartbeats 4000000 in
theorem c_X7_writeCalls (l : Launch) (P : XP) (τ : XS) (S F L : Nat → Int32) (h1 : xI1 P) (hM : MI S) (hN : MN S) : XF l yX7_writeCalls cX7_writeCalls 2 (some .int) rm_X7_writeCalls P [.ref (P.2.2.1 (.inr 9))] (mW τ S F L) (some (.int (nI (mwL S (mK S) 0 0).length))) (mW (mOut τ 0 (mwL S (mK S) 0 0)) S (upd (upd F 7 0) 11 (nI (mwL S (mK S) 0 0).length)) L) := by
  refine XM.of (by decide +kernel) (Nat.le_of_ble_eq_true rfl) (fun p e s m args below meth c A C => ?_)
  replace C : XC p s m args meth c P A 2 RX7 cX7_writeCalls (some .int) := C
  refine XW.eq (lv' := [(0, _)]) rfl rfl rfl ?_
  have hbd := hM.k40
  refine X_aload_n (pc := 0) C 0 dX7_writeCalls_0 rfl rfl ?_
  refine X_iconst (pc := 1) (v := 0) C dX7_writeCalls_1 (by decide) ?_
  refine U_X7_67 (pc := 2) C (by assumption) dX7_writeCalls_2 ?_
  rw [mW_u9]
  refine X_aload_n (pc := 5) C 0 dX7_writeCalls_5 rfl rfl ?_
  refine X_iconst (pc := 6) (v := 0) C dX7_writeCalls_6 (by decide) ?_
  refine U_X7_324 (pc := 7) C (by assumption) dX7_writeCalls_7 ?_
  rw [mW_u9]
  refine X_iconst (pc := 10) (v := 0) C dX7_writeCalls_10 (by decide) ?_
  refine X_istore_n (pc := 11) (lv1 := [(0, _), (1, _)]) C 1 dX7_writeCalls_11 rfl (by decide) rfl ?_
  refine L_X7_writeCalls C h1 hM hN (mK S) 0 0 τ _ (by omega) (by omega) upd_at ?_
  rw [upd_upd, Nat.zero_add]
  refine X_aload_n (pc := 117) C 0 dX7_writeCalls_117 rfl rfl ?_
  refine G_X7_324 (pc := 118) C (by assumption) dX7_writeCalls_118 ?_
  rw [mW_9]
  rw [upd_at]
  exact X_iret (pc := 121) C (Nat.zero_le _) (Nat.zero_le _) dX7_writeCalls_121 ⟨rfl, rfl⟩

set_option maxRecDepth 100000 in
set_option maxHeartbeats 4000000 in
theorem c_X7_outputByte (l : Launch) (P : XP) (τ : XS) (S F L : Nat → Int32) (h1 : xI1 P) (w : Nat) (hw : w ≤ 700) (ho : F 11 = nI w) (x : Int32) : XF l yX7_outputByte cX7_outputByte 2 (some .int) rm_X7_outputByte P [.ref (P.2.2.1 (.inr 9)), .int x] (mW τ S F L) (some (.int (if xok x w then τ.1 (.inr 17) (cN x) else -1))) (mW τ S (upd F 7 0) L) := by
  refine XM.of (by decide +kernel) (Nat.le_of_ble_eq_true rfl) (fun p e s m args below meth c A C => ?_)
  replace C : XC p s m args meth c P A 2 RX7 cX7_outputByte (some .int) := C
  refine XW.eq (lv' := [(0, _), (1, _)]) rfl rfl rfl ?_
  refine X_aload_n (pc := 0) C 0 dX7_outputByte_0 rfl rfl ?_
  refine X_iconst (pc := 1) (v := 0) C dX7_outputByte_1 (by decide) ?_
  refine U_X7_67 (pc := 2) C (by assumption) dX7_outputByte_2 ?_
  rw [mW_u9]
  refine X_iload_n (pc := 5) C 1 dX7_outputByte_5 rfl rfl ?_
  refine X_iconst (pc := 6) (v := 0) C dX7_outputByte_6 (by decide) ?_
  refine X_aload_n (pc := 7) C 0 dX7_outputByte_7 rfl rfl ?_
  refine G_X7_324 (pc := 8) C (by assumption) dX7_outputByte_8 ?_
  rw [mW_9]
  rw [upd_ne (by decide), ho]
  refine X_iconst (pc := 11) (v := 1) C dX7_outputByte_11 (by decide) ?_
  refine X_isub (pc := 12) C dX7_outputByte_12 ?_
  refine K_X7_80 (pc := 13) C (c_X7_isIn l P _ _ _ _) ⟨Nat.le_of_ble_eq_true rfl, Nat.le_of_ble_eq_true rfl⟩ ⟨rfl, rfl⟩ ⟨Nat.zero_le _, Nat.zero_le _⟩ (Nat.le_of_ble_eq_true rfl) dX7_outputByte_13 ?_
  rw [mIn_ok (by omega)]
  refine X_if_eq (pc := 16) C 28 dX7_outputByte_16 (by decide) (fun h16 => ?_) (fun h16 => ?_)
  · have g16 := bz0 h16
    refine X_iconst (pc := 28) (v := (-1)) C dX7_outputByte_28 (by decide) ?_
    exact X_iret (pc := 29) C (Nat.zero_le _) (Nat.zero_le _) dX7_outputByte_29 ⟨by rw [if_neg g16], rfl⟩
  · have g16 := bz1 h16
    obtain ⟨j, hj, rfl⟩ := xok_of g16
    refine X_aload_n (pc := 19) C 0 dX7_outputByte_19 rfl rfl ?_
    refine G_X7_32 (pc := 20) C (by assumption) dX7_outputByte_20 ?_
    refine X_iload_n (pc := 23) C 1 dX7_outputByte_23 rfl rfl ?_
    refine X_ialdN (pc := 24) C (by first | exact h1 _ (by decide) (by decide)) rfl (by omega) (by decide) dX7_outputByte_24 ?_
    rw [mW_o (i := .inr 17) (by decide) (by decide) (by decide)]
    refine X_goto (pc := 25) C 29 dX7_outputByte_25 (by decide) ?_
    exact X_iret (pc := 29) C (Nat.zero_le _) (Nat.zero_le _) dX7_outputByte_29 ⟨by rw [if_pos g16, cN, nI_clamp (n31 (by omega))], rfl⟩

end XP35

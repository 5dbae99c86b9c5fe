/-! THE FACE: the list of calls -/
def uOut (σ : XS) (w : Nat) (v : Int32) : XS := xu (xu σ (.inr 8) w v) (.inr 0) 6 (nI (w + 1))
def uPut : XS → Nat → List Int32 → XS
  | σ, _, [] => σ
  | σ, w, v :: L => uPut (uOut σ w v) (w + 1) L
theorem uPut_app : ∀ (L1 L2 : List Int32) (σ : XS) (w : Nat), uPut σ w (L1 ++ L2) = uPut (uPut σ w L1) (w + L1.length) L2
  | [], L2, σ, w => rfl
  | v :: L1, L2, σ, w => by
    rw [List.cons_append, uPut, uPut, uPut_app L1 L2, List.length_cons, show w + 1 + L1.length = w + (L1.length + 1) by omega]
theorem uOut_o {σ : XS} {w : Nat} {v : Int32} {i : XI} (h8 : i ≠ .inr 8) (h0 : i ≠ .inr 0) : (uOut σ w v).1 i = σ.1 i := by rw [uOut, xu_ne _ _ _ h0, xu_ne _ _ _ h8]
theorem uOut_w {σ : XS} {w : Nat} {v : Int32} : (uOut σ w v).1 (.inr 0) 6 = nI (w + 1) := xu_self _ _ _ _
/-- board 0 is as it was -/
def BO (σ τ : XS) : Prop := (∀ k, τ.1 (.inl (0, k)) = σ.1 (.inl (0, k))) ∧ τ.2 = σ.2
theorem BO.rfl {σ : XS} : BO σ σ := ⟨fun _ => _root_.rfl, _root_.rfl⟩
theorem BO.out {σ τ : XS} {w : Nat} {v : Int32} (h : BO σ τ) : BO σ (uOut τ w v) := ⟨fun k => by rw [uOut_o (by simp) (by simp)]; exact h.1 k, by rw [uOut, xu_l, xu_l]; exact h.2⟩
theorem BO.put {σ : XS} : ∀ (L : List Int32) (τ : XS) (w : Nat), BO σ τ → BO σ (uPut τ w L)
  | [], τ, w, h => h
  | v :: L, τ, w, h => BO.put L _ _ h.out
theorem uPut_w : ∀ (L : List Int32) (σ : XS) (w : Nat), σ.1 (.inr 0) 6 = nI w → (uPut σ w L).1 (.inr 0) 6 = nI (w + L.length)
  | [], σ, w, h => h
  | v :: L, σ, w, h => by
    rw [uPut, uPut_w L _ (w + 1) uOut_w, List.length_cons, show w + 1 + L.length = w + (L.length + 1) by omega]
/-- a name's letters -/
def nmL (x : Int64) : Nat → Nat → List Int32
  | 0, _ => []
  | k + 1, i => if xlet x i = 0 then nmL x k (i + 1) else xlet x i :: nmL x k (i + 1)
theorem nmL_le (x : Int64) : ∀ k i, (nmL x k i).length ≤ k
  | 0, i => Nat.le_refl _
  | k + 1, i => by
    unfold nmL
    have h := nmL_le x k (i + 1)
    by_cases g : xlet x i = 0
    · rw [if_pos g]; omega
    · rw [if_neg g, List.length_cons]; omega
def nmF (nf : Nat → Int64) (nu : Nat) (x : Int32) : Int64 := if xok x nu then nf x.toNatClampNeg else 0
/-- what call j is written as, behind w bytes -/
def cwL (nf : Nat → Int64) (st ca ot tr : Nat → Int32) (nu j w : Nat) : List Int32 :=
  (if w = 0 then [] else [32]) ++ (nmL (nmF nf nu (ca j)) 6 0 ++ ((if st j = 1 then 45 else 63) :: (if tr j = -1 then nmL (nmF nf nu (ot j)) 6 0 else [48 + tr j])))
theorem cwL_le {nf : Nat → Int64} {st ca ot tr : Nat → Int32} {nu j w : Nat} : (cwL nf st ca ot tr nu j w).length ≤ 14 := by
  unfold cwL
  have h1 := nmL_le (nmF nf nu (ca j)) 6 0
  have h2 := nmL_le (nmF nf nu (ot j)) 6 0
  have e1 : (if w = 0 then ([] : List Int32) else [32]).length ≤ 1 := by split <;> decide
  have e2 : (if tr j = -1 then nmL (nmF nf nu (ot j)) 6 0 else [48 + tr j]).length ≤ 6 := by
    split
    · exact h2
    · simp
  rw [List.length_append, List.length_append, List.length_cons]
  omega
def wcL (nf : Nat → Int64) (st ca ot tr : Nat → Int32) (nu : Nat) : Nat → Nat → Nat → List Int32
  | 0, _, _ => []
  | k + 1, j, w => if st j = 2 ∨ st j = 3 then wcL nf st ca ot tr nu k (j + 1) w else cwL nf st ca ot tr nu j w ++ wcL nf st ca ot tr nu k (j + 1) (w + (cwL nf st ca ot tr nu j w).length)
section XP24
variable {p : Program} {l : Launch} {e : Env} {R : Room} {s : State} {m : MethodId} {args : Array Value} {below : List Frame} {meth : Method} {c : Code} {P : XP} {A : Nat → Prop} {nL cells slots : Nat} {Q : State → Prop} {cc : ByteArray} {ret : Option FieldType} {σ : XS} {pc : Nat} {lv : List (Nat × Value)} {st : List Value}

set_option maxRecDepth 100000 in
set_option maxHeartbeats 4000000 in
theorem c_X6_writeByte (l : Launch) (P : XP) (σ : XS) (h0 : xI0 P) (w : Nat) (hw : w < 560) (ho : σ.1 (.inr 0) 6 = nI w) (v : Int32) : XF l yX6_writeByte cX6_writeByte 2 none rm_X6_writeByte P [.ref (P.2.2.1 (.inr 0)), .int v] σ (none) (uOut σ w v) := by
  refine XM.of (by decide +kernel) (Nat.le_of_ble_eq_true rfl) (fun p e s m args below meth c A C => ?_)
  replace C : XC p s m args meth c P A 2 RX6 cX6_writeByte none := C
  refine XW.eq (lv' := [(0, _), (1, _)]) rfl rfl rfl ?_
  refine X_aload_n (pc := 0) C 0 dX6_writeByte_0 rfl rfl ?_
  refine G_X6_308 (pc := 1) C (by assumption) dX6_writeByte_1 ?_
  rw [ho]
  refine X_sipush (pc := 4) (v := 560) C dX6_writeByte_4 (by decide) ?_
  refine X_icmp_ge (pc := 7) C 30 dX6_writeByte_7 (by decide) (fun h7 => ?_) (fun h7 => ?_)
  · exact absurd (nle (a := 560) (b := w) h7) (by omega)
  · skip
    refine X_aload_n (pc := 10) C 0 dX6_writeByte_10 rfl rfl ?_
    refine G_X6_38 (pc := 11) C (by assumption) dX6_writeByte_11 ?_
    refine X_aload_n (pc := 14) C 0 dX6_writeByte_14 rfl rfl ?_
    refine G_X6_308 (pc := 15) C (by assumption) dX6_writeByte_15 ?_
    rw [ho]
    refine X_iload_n (pc := 18) C 1 dX6_writeByte_18 rfl rfl ?_
    refine X_iastN (pc := 19) C (by first | exact h0 _ (by decide)) rfl (by omega) (by decide) dX6_writeByte_19 ?_
    refine X_aload_n (pc := 20) C 0 dX6_writeByte_20 rfl rfl ?_
    refine X_dup (pc := 21) C dX6_writeByte_21 rfl ?_
    refine G_X6_308 (pc := 22) C (by assumption) dX6_writeByte_22 ?_
    rw [xu_ne _ _ _ (by simp), ho]
    refine X_iconst (pc := 25) (v := 1) C dX6_writeByte_25 (by decide) ?_
    refine X_iadd (pc := 26) C dX6_writeByte_26 ?_
    rw [nI_1]
    refine U_X6_308 (pc := 27) C (by assumption) dX6_writeByte_27 ?_
    exact X_vret (pc := 30) C (Nat.zero_le _) (Nat.zero_le _) dX6_writeByte_30 ⟨rfl, rfl⟩

set_option maxRecDepth 100000 in
set_option maxHeartbeats 4000000 in
theorem L_X6_writeName {Post : Option Value → XS → Prop} {mc ms : Nat} (C : XC p s m args meth c P A 5 RX6 cX6_writeName none) (h0 : xI0 P) {x : Int64} : ∀ (k i : Nat) (τ : XS) (w : Nat), i + k = 6 → w + k ≤ 560 → τ.1 (.inr 0) 6 = nI w → Post none (uPut τ w (nmL x k i)) → XW p l e rm_X6_writeName s m args below meth c P A 5 0 0 (MQ below (XQ P A Post) args s mc ms A) τ 2 [(0, .ref (P.2.2.1 (.inr 0))), (1, .long x), (3, .int (nI i))] [] := by
  intro k
  induction k with
  | zero =>
    intro i τ w hi hw ho hp
    obtain rfl : i = 6 := by omega
    refine X_iload_n (pc := 2) C 3 dX6_writeName_2 rfl rfl ?_
    refine X_bipush (pc := 3) (v := 6) C dX6_writeName_3 (by decide) ?_
    refine X_icmp_ge (pc := 5) C 32 dX6_writeName_5 (by decide) (fun h5 => ?_) (fun h5 => ?_)
    · skip
      exact X_vret (pc := 32) C (Nat.zero_le _) (Nat.zero_le _) dX6_writeName_32 hp
    · exact absurd (by decide) h5
  | succ k ih =>
    intro i τ w hi hw ho hp
    rw [nmL] at hp
    refine X_iload_n (pc := 2) C 3 dX6_writeName_2 rfl rfl ?_
    refine X_bipush (pc := 3) (v := 6) C dX6_writeName_3 (by decide) ?_
    refine X_icmp_ge (pc := 5) C 32 dX6_writeName_5 (by decide) (fun h5 => ?_) (fun h5 => ?_)
    · exact absurd (nle (a := 6) (b := i) h5) (by omega)
    · skip
      refine X_lload_n (pc := 8) C 1 dX6_writeName_8 rfl rfl ?_
      refine X_iload_n (pc := 9) C 3 dX6_writeName_9 rfl rfl ?_
      refine K_X6_240 (pc := 10) C (c_X6_letterOf l P τ x (nI i)) ⟨Nat.le_of_ble_eq_true rfl, Nat.le_of_ble_eq_true rfl⟩ ⟨rfl, rfl⟩ ⟨Nat.zero_le _, Nat.zero_le _⟩ (Nat.le_of_ble_eq_true rfl) dX6_writeName_10 ?_
      rw [if_pos (xok_nI (show i < 6 by omega)), nI_clamp (n31 (by omega))]
      refine X_istore (pc := 13) (lv1 := [(0, _), (1, _), (3, _), (4, _)]) C dX6_writeName_13 (by decide) rfl ?_
      refine X_iload (pc := 15) C dX6_writeName_15 rfl ?_
      refine X_if_eq (pc := 17) C 26 dX6_writeName_17 (by decide) (fun h17 => ?_) (fun h17 => ?_)
      · skip
        refine X_iincN (pc := 26) (lv1 := [(0, _), (1, _), (3, _), (4, _)]) C dX6_writeName_26 rfl (by decide) (by decide) rfl ?_
        refine X_goto (pc := 29) C 2 dX6_writeName_29 (by decide) ?_
        refine XW.less [0, 1, 2] rfl ?_
        first
          | exact ih (i + 1) _ _ (by omega) (by omega) uOut_w (by rw [if_neg h17] at hp; exact hp)
          | exact ih (i + 1) _ _ (by omega) (by omega) ho (by rw [if_pos h17] at hp; exact hp)
      · skip
        refine X_aload_n (pc := 20) C 0 dX6_writeName_20 rfl rfl ?_
        refine X_iload (pc := 21) C dX6_writeName_21 rfl ?_
        refine K_X6_314 (pc := 23) C (by assumption) (c_X6_writeByte l P τ h0 w (by omega) ho (xlet x i)) ⟨Nat.le_of_ble_eq_true rfl, Nat.le_of_ble_eq_true rfl⟩ ⟨rfl, rfl⟩ ⟨Nat.zero_le _, Nat.zero_le _⟩ (Nat.le_of_ble_eq_true rfl) dX6_writeName_23 ?_
        refine X_iincN (pc := 26) (lv1 := [(0, _), (1, _), (3, _), (4, _)]) C dX6_writeName_26 rfl (by decide) (by decide) rfl ?_
        refine X_goto (pc := 29) C 2 dX6_writeName_29 (by decide) ?_
        refine XW.less [0, 1, 2] rfl ?_
        first
          | exact ih (i + 1) _ _ (by omega) (by omega) uOut_w (by rw [if_neg h17] at hp; exact hp)
          | exact ih (i + 1) _ _ (by omega) (by omega) ho (by rw [if_pos h17] at hp; exact hp)

set_option maxRecDepth 100000 in
set_option maxHeartbeats 4000000 in
theorem c_X6_writeName (l : Launch) (P : XP) (σ : XS) (h0 : xI0 P) (w : Nat) (hw : w + 6 ≤ 560) (ho : σ.1 (.inr 0) 6 = nI w) (x : Int64) : XF l yX6_writeName cX6_writeName 5 none rm_X6_writeName P [.ref (P.2.2.1 (.inr 0)), .long x] σ (none) (uPut σ w (nmL x 6 0)) := by
  refine XM.of (by decide +kernel) (Nat.le_of_ble_eq_true rfl) (fun p e s m args below meth c A C => ?_)
  replace C : XC p s m args meth c P A 5 RX6 cX6_writeName none := C
  refine XW.eq (lv' := [(0, _), (1, _)]) rfl rfl rfl ?_
  refine X_iconst (pc := 0) (v := 0) C dX6_writeName_0 (by decide) ?_
  refine X_istore_n (pc := 1) (lv1 := [(0, _), (1, _), (3, _)]) C 3 dX6_writeName_1 rfl (by decide) rfl ?_
  exact L_X6_writeName C h0 6 0 σ w rfl hw ho ⟨rfl, rfl⟩

set_option maxRecDepth 100000 in
set_option maxHeartbeats 4000000 in
theorem T4_X6_writeCall {Post : Option Value → XS → Prop} {mc ms : Nat} (C : XC p s m args meth c P A 2 RX6 cX6_writeCall none) (h0 : xI0 P) (hb0 : xIn P 0) {τ : XS} {nu j w : Nat} (hnu : nu ≤ 15) (hj : j < 40) (hB : BO σ τ) (hcu : σ.1 (.inl (0, 1)) 6 = nI nu) (ho : τ.1 (.inr 0) 6 = nI w) (hw : w + 6 ≤ 560) (hp : Post none (uPut τ w (if (σ.1 (.inl (0, 12))) j = -1 then nmL (nmF (σ.2 (.inl (0, 2))) nu ((σ.1 (.inl (0, 11))) j)) 6 0 else [48 + (σ.1 (.inl (0, 12))) j]))) : XW p l e rm_X6_writeCall s m args below meth c P A 2 0 0 (MQ below (XQ P A Post) args s mc ms A) τ 66 [(0, .ref (P.2.2.1 (.inr 0))), (1, .int (nI j))] [] := by
  refine X_aload_n (pc := 66) C 0 dX6_writeCall_66 rfl rfl ?_
  refine G_X6_12 (pc := 67) C (by assumption) dX6_writeCall_67 ?_
  refine G_X6_139 (pc := 70) C (by assumption) dX6_writeCall_70 ?_
  refine G_X6_263 (pc := 73) C (by assumption) dX6_writeCall_73 ?_
  refine X_iload_n (pc := 76) C 1 dX6_writeCall_76 rfl rfl ?_
  refine X_ialdN (pc := 77) C (by first | exact h0 _ (by decide) | exact hb0 _ (by decide)) rfl hj (by decide) dX6_writeCall_77 ?_
  rw [hB.1]
  refine X_iconst (pc := 78) (v := (-1)) C dX6_writeCall_78 (by decide) ?_
  refine X_icmp_ne (pc := 79) C 111 dX6_writeCall_79 (by decide) (fun h79 => ?_) (fun h79 => ?_)
  · skip
    refine X_aload_n (pc := 111) C 0 dX6_writeCall_111 rfl rfl ?_
    refine X_bipush (pc := 112) (v := 48) C dX6_writeCall_112 (by decide) ?_
    refine X_aload_n (pc := 114) C 0 dX6_writeCall_114 rfl rfl ?_
    refine G_X6_12 (pc := 115) C (by assumption) dX6_writeCall_115 ?_
    refine G_X6_139 (pc := 118) C (by assumption) dX6_writeCall_118 ?_
    refine G_X6_263 (pc := 121) C (by assumption) dX6_writeCall_121 ?_
    refine X_iload_n (pc := 124) C 1 dX6_writeCall_124 rfl rfl ?_
    refine X_ialdN (pc := 125) C (by first | exact h0 _ (by decide) | exact hb0 _ (by decide)) rfl hj (by decide) dX6_writeCall_125 ?_
    rw [hB.1]
    refine X_iadd (pc := 126) C dX6_writeCall_126 ?_
    refine K_X6_314 (pc := 127) C (by assumption) (c_X6_writeByte l P τ h0 w (by omega) ho (48 + (σ.1 (.inl (0, 12))) j)) ⟨Nat.le_of_ble_eq_true rfl, Nat.le_of_ble_eq_true rfl⟩ ⟨rfl, rfl⟩ ⟨Nat.zero_le _, Nat.zero_le _⟩ (Nat.le_of_ble_eq_true rfl) dX6_writeCall_127 ?_
    exact X_vret (pc := 130) C (Nat.zero_le _) (Nat.zero_le _) dX6_writeCall_130 (by first | (rw [if_pos h79] at hp; exact hp) | (rw [if_neg h79] at hp; exact hp))
  · skip
    refine X_aload_n (pc := 82) C 0 dX6_writeCall_82 rfl rfl ?_
    refine X_aload_n (pc := 83) C 0 dX6_writeCall_83 rfl rfl ?_
    refine G_X6_12 (pc := 84) C (by assumption) dX6_writeCall_84 ?_
    refine G_X6_98 (pc := 87) C (by assumption) dX6_writeCall_87 ?_
    refine X_aload_n (pc := 90) C 0 dX6_writeCall_90 rfl rfl ?_
    refine G_X6_12 (pc := 91) C (by assumption) dX6_writeCall_91 ?_
    refine G_X6_139 (pc := 94) C (by assumption) dX6_writeCall_94 ?_
    refine G_X6_260 (pc := 97) C (by assumption) dX6_writeCall_97 ?_
    refine X_iload_n (pc := 100) C 1 dX6_writeCall_100 rfl rfl ?_
    refine X_ialdN (pc := 101) C (by first | exact h0 _ (by decide) | exact hb0 _ (by decide)) rfl hj (by decide) dX6_writeCall_101 ?_
    rw [hB.1]
    refine K_X6_317 (pc := 102) C (by assumption) (by have h := c_X5_nameAt l P τ 0 nu hb0 hnu (by rw [hB.1]; exact hcu) ((σ.1 (.inl (0, 11))) j); rw [hB.2] at h; exact h) ⟨Nat.le_of_ble_eq_true rfl, Nat.le_of_ble_eq_true rfl⟩ ⟨rfl, rfl⟩ ⟨Nat.zero_le _, Nat.zero_le _⟩ (Nat.le_of_ble_eq_true rfl) dX6_writeCall_102 ?_
    change XW _ _ _ _ _ _ _ _ _ _ _ _ _ _ _ _ _ _ _ [.long (nmF (σ.2 (.inl (0, 2))) nu ((σ.1 (.inl (0, 11))) j)), _]
    refine K_X6_321 (pc := 105) C (by assumption) (c_X6_writeName l P τ h0 w hw ho (nmF (σ.2 (.inl (0, 2))) nu ((σ.1 (.inl (0, 11))) j))) ⟨Nat.le_of_ble_eq_true rfl, Nat.le_of_ble_eq_true rfl⟩ ⟨rfl, rfl⟩ ⟨Nat.zero_le _, Nat.zero_le _⟩ (Nat.le_of_ble_eq_true rfl) dX6_writeCall_105 ?_
    refine X_goto (pc := 108) C 130 dX6_writeCall_108 (by decide) ?_
    exact X_vret (pc := 130) C (Nat.zero_le _) (Nat.zero_le _) dX6_writeCall_130 (by first | (rw [if_pos h79] at hp; exact hp) | (rw [if_neg h79] at hp; exact hp))

set_option maxRecDepth 100000 in
set_option maxHeartbeats 4000000 in
theorem T3_X6_writeCall {Post : Option Value → XS → Prop} {mc ms : Nat} (C : XC p s m args meth c P A 2 RX6 cX6_writeCall none) (h0 : xI0 P) (hb0 : xIn P 0) {τ : XS} {nu j w : Nat} (hnu : nu ≤ 15) (hj : j < 40) (hB : BO σ τ) (hcu : σ.1 (.inl (0, 1)) 6 = nI nu) (ho : τ.1 (.inr 0) 6 = nI w) (hw : w + 7 ≤ 560) (hp : Post none (uPut τ w ((if (σ.1 (.inl (0, 9))) j = 1 then 45 else 63) :: (if (σ.1 (.inl (0, 12))) j = -1 then nmL (nmF (σ.2 (.inl (0, 2))) nu ((σ.1 (.inl (0, 11))) j)) 6 0 else [48 + (σ.1 (.inl (0, 12))) j])))) : XW p l e rm_X6_writeCall s m args below meth c P A 2 0 0 (MQ below (XQ P A Post) args s mc ms A) τ 39 [(0, .ref (P.2.2.1 (.inr 0))), (1, .int (nI j))] [] := by
  refine X_aload_n (pc := 39) C 0 dX6_writeCall_39 rfl rfl ?_
  refine X_aload_n (pc := 40) C 0 dX6_writeCall_40 rfl rfl ?_
  refine G_X6_12 (pc := 41) C (by assumption) dX6_writeCall_41 ?_
  refine G_X6_139 (pc := 44) C (by assumption) dX6_writeCall_44 ?_
  refine G_X6_254 (pc := 47) C (by assumption) dX6_writeCall_47 ?_
  refine X_iload_n (pc := 50) C 1 dX6_writeCall_50 rfl rfl ?_
  refine X_ialdN (pc := 51) C (by first | exact h0 _ (by decide) | exact hb0 _ (by decide)) rfl hj (by decide) dX6_writeCall_51 ?_
  rw [hB.1]
  refine X_iconst (pc := 52) (v := 1) C dX6_writeCall_52 (by decide) ?_
  refine X_icmp_ne (pc := 53) C 61 dX6_writeCall_53 (by decide) (fun h53 => ?_) (fun h53 => ?_)
  · skip
    refine X_bipush (pc := 61) (v := 63) C dX6_writeCall_61 (by decide) ?_
    refine K_X6_314 (pc := 63) C (by assumption) (c_X6_writeByte l P τ h0 w (by omega) ho _) ⟨Nat.le_of_ble_eq_true rfl, Nat.le_of_ble_eq_true rfl⟩ ⟨rfl, rfl⟩ ⟨Nat.zero_le _, Nat.zero_le _⟩ (Nat.le_of_ble_eq_true rfl) dX6_writeCall_63 ?_
    exact T4_X6_writeCall C h0 hb0 hnu hj hB.out hcu uOut_w (by omega) (by first | (rw [if_pos h53, uPut] at hp; exact hp) | (rw [if_neg h53, uPut] at hp; exact hp))
  · skip
    refine X_bipush (pc := 56) (v := 45) C dX6_writeCall_56 (by decide) ?_
    refine X_goto (pc := 58) C 63 dX6_writeCall_58 (by decide) ?_
    refine K_X6_314 (pc := 63) C (by assumption) (c_X6_writeByte l P τ h0 w (by omega) ho _) ⟨Nat.le_of_ble_eq_true rfl, Nat.le_of_ble_eq_true rfl⟩ ⟨rfl, rfl⟩ ⟨Nat.zero_le _, Nat.zero_le _⟩ (Nat.le_of_ble_eq_true rfl) dX6_writeCall_63 ?_
    exact T4_X6_writeCall C h0 hb0 hnu hj hB.out hcu uOut_w (by omega) (by first | (rw [if_pos h53, uPut] at hp; exact hp) | (rw [if_neg h53, uPut] at hp; exact hp))

set_option maxRecDepth 100000 in
set_option maxHeartbeats 4000000 in
theorem T2_X6_writeCall {Post : Option Value → XS → Prop} {mc ms : Nat} (C : XC p s m args meth c P A 2 RX6 cX6_writeCall none) (h0 : xI0 P) (hb0 : xIn P 0) {τ : XS} {nu j w : Nat} (hnu : nu ≤ 15) (hj : j < 40) (hB : BO σ τ) (hcu : σ.1 (.inl (0, 1)) 6 = nI nu) (ho : τ.1 (.inr 0) 6 = nI w) (hw : w + 13 ≤ 560) (hp : Post none (uPut τ w (nmL (nmF (σ.2 (.inl (0, 2))) nu ((σ.1 (.inl (0, 10))) j)) 6 0 ++ ((if (σ.1 (.inl (0, 9))) j = 1 then 45 else 63) :: (if (σ.1 (.inl (0, 12))) j = -1 then nmL (nmF (σ.2 (.inl (0, 2))) nu ((σ.1 (.inl (0, 11))) j)) 6 0 else [48 + (σ.1 (.inl (0, 12))) j]))))) : XW p l e rm_X6_writeCall s m args below meth c P A 2 0 0 (MQ below (XQ P A Post) args s mc ms A) τ 13 [(0, .ref (P.2.2.1 (.inr 0))), (1, .int (nI j))] [] := by
  refine X_aload_n (pc := 13) C 0 dX6_writeCall_13 rfl rfl ?_
  refine X_aload_n (pc := 14) C 0 dX6_writeCall_14 rfl rfl ?_
  refine G_X6_12 (pc := 15) C (by assumption) dX6_writeCall_15 ?_
  refine G_X6_98 (pc := 18) C (by assumption) dX6_writeCall_18 ?_
  refine X_aload_n (pc := 21) C 0 dX6_writeCall_21 rfl rfl ?_
  refine G_X6_12 (pc := 22) C (by assumption) dX6_writeCall_22 ?_
  refine G_X6_139 (pc := 25) C (by assumption) dX6_writeCall_25 ?_
  refine G_X6_257 (pc := 28) C (by assumption) dX6_writeCall_28 ?_
  refine X_iload_n (pc := 31) C 1 dX6_writeCall_31 rfl rfl ?_
  refine X_ialdN (pc := 32) C (by first | exact h0 _ (by decide) | exact hb0 _ (by decide)) rfl hj (by decide) dX6_writeCall_32 ?_
  rw [hB.1]
  refine K_X6_317 (pc := 33) C (by assumption) (by have h := c_X5_nameAt l P τ 0 nu hb0 hnu (by rw [hB.1]; exact hcu) ((σ.1 (.inl (0, 10))) j); rw [hB.2] at h; exact h) ⟨Nat.le_of_ble_eq_true rfl, Nat.le_of_ble_eq_true rfl⟩ ⟨rfl, rfl⟩ ⟨Nat.zero_le _, Nat.zero_le _⟩ (Nat.le_of_ble_eq_true rfl) dX6_writeCall_33 ?_
  change XW _ _ _ _ _ _ _ _ _ _ _ _ _ _ _ _ _ _ _ [.long (nmF (σ.2 (.inl (0, 2))) nu ((σ.1 (.inl (0, 10))) j)), _]
  refine K_X6_321 (pc := 36) C (by assumption) (c_X6_writeName l P τ h0 w (by omega) ho (nmF (σ.2 (.inl (0, 2))) nu ((σ.1 (.inl (0, 10))) j))) ⟨Nat.le_of_ble_eq_true rfl, Nat.le_of_ble_eq_true rfl⟩ ⟨rfl, rfl⟩ ⟨Nat.zero_le _, Nat.zero_le _⟩ (Nat.le_of_ble_eq_true rfl) dX6_writeCall_36 ?_
  have hle := nmL_le (nmF (σ.2 (.inl (0, 2))) nu ((σ.1 (.inl (0, 10))) j)) 6 0
  exact T3_X6_writeCall C h0 hb0 hnu hj (hB.put _ _ _) hcu (uPut_w _ _ _ ho) (by omega) (by rw [uPut_app] at hp; exact hp)

set_option maxRecDepth 100000 in
set_option maxHeartbeats 4000000 in
theorem c_X6_writeCall (l : Launch) (P : XP) (σ : XS) (σ0 : XS) (h0 : xI0 P) (hb0 : xIn P 0) (nu j w : Nat) (hnu : nu ≤ 15) (hj : j < 40) (hB : BO σ0 σ) (hcu : σ0.1 (.inl (0, 1)) 6 = nI nu) (ho : σ.1 (.inr 0) 6 = nI w) (hw : w + 14 ≤ 560) : XF l yX6_writeCall cX6_writeCall 2 none rm_X6_writeCall P [.ref (P.2.2.1 (.inr 0)), .int (nI j)] σ (none) (uPut σ w (cwL (σ0.2 (.inl (0, 2))) (σ0.1 (.inl (0, 9))) (σ0.1 (.inl (0, 10))) (σ0.1 (.inl (0, 11))) (σ0.1 (.inl (0, 12))) nu j w)) := by
  refine XM.of (by decide +kernel) (Nat.le_of_ble_eq_true rfl) (fun p e s m args below meth c A C => ?_)
  replace C : XC p s m args meth c P A 2 RX6 cX6_writeCall none := C
  refine XW.eq (lv' := [(0, _), (1, _)]) rfl rfl rfl ?_
  refine X_aload_n (pc := 0) C 0 dX6_writeCall_0 rfl rfl ?_
  refine G_X6_308 (pc := 1) C (by assumption) dX6_writeCall_1 ?_
  rw [ho]
  refine X_if_le (pc := 4) C 13 dX6_writeCall_4 (by decide) (fun h4 => ?_) (fun h4 => ?_)
  · obtain rfl : w = 0 := by have := nle (a := w) (b := 0) h4; omega
    first
      | exact T2_X6_writeCall C h0 hb0 hnu hj hB.out hcu uOut_w (by omega) (by rw [cwL, if_neg g4]; exact ⟨rfl, rfl⟩)
      | exact T2_X6_writeCall C h0 hb0 hnu hj hB hcu ho (by omega) (by rw [cwL, if_pos rfl]; exact ⟨rfl, rfl⟩)
  · have g4 : ¬ w = 0 := fun z => h4 (by rw [z]; exact Int32.le_refl _)
    refine X_aload_n (pc := 7) C 0 dX6_writeCall_7 rfl rfl ?_
    refine X_bipush (pc := 8) (v := 32) C dX6_writeCall_8 (by decide) ?_
    refine K_X6_314 (pc := 10) C (by assumption) (c_X6_writeByte l P σ h0 w (by omega) ho 32) ⟨Nat.le_of_ble_eq_true rfl, Nat.le_of_ble_eq_true rfl⟩ ⟨rfl, rfl⟩ ⟨Nat.zero_le _, Nat.zero_le _⟩ (Nat.le_of_ble_eq_true rfl) dX6_writeCall_10 ?_
    first
      | exact T2_X6_writeCall C h0 hb0 hnu hj hB.out hcu uOut_w (by omega) (by rw [cwL, if_neg g4]; exact ⟨rfl, rfl⟩)
      | exact T2_X6_writeCall C h0 hb0 hnu hj hB hcu ho (by omega) (by rw [cwL, if_pos rfl]; exact ⟨rfl, rfl⟩)

set_option maxRecDepth 100000 in
set_option maxHeartbeats 4000000 in
theorem L_X6_writeCalls {Post : Option Value → XS → Prop} {mc ms : Nat} (C : XC p s m args meth c P A 2 RX6 cX6_writeCalls (some .int)) (h0 : xI0 P) (hb0 : xIn P 0) {nu nc : Nat} (hnu : nu ≤ 15) (hcu : σ.1 (.inl (0, 1)) 6 = nI nu) (hnc : nc ≤ 40) (hcc : σ.1 (.inl (0, 8)) 10 = nI nc) : ∀ (k j : Nat) (τ : XS) (w : Nat), j + k = nc → w ≤ 14 * j → BO σ τ → τ.1 (.inr 0) 6 = nI w → Post (some (.int (nI (w + (wcL (σ.2 (.inl (0, 2))) (σ.1 (.inl (0, 9))) (σ.1 (.inl (0, 10))) (σ.1 (.inl (0, 11))) (σ.1 (.inl (0, 12))) nu k j w).length)))) (uPut τ w (wcL (σ.2 (.inl (0, 2))) (σ.1 (.inl (0, 9))) (σ.1 (.inl (0, 10))) (σ.1 (.inl (0, 11))) (σ.1 (.inl (0, 12))) nu k j w)) → XW p l e rm_X6_writeCalls s m args below meth c P A 2 0 0 (MQ below (XQ P A Post) args s mc ms A) τ 7 [(0, .ref (P.2.2.1 (.inr 0))), (1, .int (nI j))] [] := by
  intro k
  induction k with
  | zero =>
    intro j τ w hj hw hB ho hp
    obtain rfl : j = nc := by omega
    refine X_iload_n (pc := 7) C 1 dX6_writeCalls_7 rfl rfl ?_
    refine X_aload_n (pc := 8) C 0 dX6_writeCalls_8 rfl rfl ?_
    refine G_X6_12 (pc := 9) C (by assumption) dX6_writeCalls_9 ?_
    refine G_X6_139 (pc := 12) C (by assumption) dX6_writeCalls_12 ?_
    refine G_X6_194 (pc := 15) C (by assumption) dX6_writeCalls_15 ?_
    rw [hB.1, hcc]
    refine X_icmp_ge (pc := 18) C 46 dX6_writeCalls_18 (by decide) (fun h18 => ?_) (fun h18 => ?_)
    · skip
      refine X_aload_n (pc := 46) C 0 dX6_writeCalls_46 rfl rfl ?_
      refine G_X6_308 (pc := 47) C (by assumption) dX6_writeCalls_47 ?_
      rw [ho]
      exact X_iret (pc := 50) C (Nat.zero_le _) (Nat.zero_le _) dX6_writeCalls_50 hp
    · exact absurd (Int32.le_refl _) h18
  | succ k ih =>
    intro j τ w hj hw hB ho hp
    rw [wcL] at hp
    refine X_iload_n (pc := 7) C 1 dX6_writeCalls_7 rfl rfl ?_
    refine X_aload_n (pc := 8) C 0 dX6_writeCalls_8 rfl rfl ?_
    refine G_X6_12 (pc := 9) C (by assumption) dX6_writeCalls_9 ?_
    refine G_X6_139 (pc := 12) C (by assumption) dX6_writeCalls_12 ?_
    refine G_X6_194 (pc := 15) C (by assumption) dX6_writeCalls_15 ?_
    rw [hB.1, hcc]
    refine X_icmp_ge (pc := 18) C 46 dX6_writeCalls_18 (by decide) (fun h18 => ?_) (fun h18 => ?_)
    · exact absurd (nle (a := nc) (b := j) h18) (by omega)
    · skip
      refine X_aload_n (pc := 21) C 0 dX6_writeCalls_21 rfl rfl ?_
      refine G_X6_12 (pc := 22) C (by assumption) dX6_writeCalls_22 ?_
      refine G_X6_139 (pc := 25) C (by assumption) dX6_writeCalls_25 ?_
      refine X_iload_n (pc := 28) C 1 dX6_writeCalls_28 rfl rfl ?_
      refine K_X6_143 (pc := 29) C (by assumption) (c_X1_isOver l P τ 0 j hb0 (by omega)) ⟨Nat.le_of_ble_eq_true rfl, Nat.le_of_ble_eq_true rfl⟩ ⟨rfl, rfl⟩ ⟨Nat.zero_le _, Nat.zero_le _⟩ (Nat.le_of_ble_eq_true rfl) dX6_writeCalls_29 ?_
      rw [hB.1]
      refine X_if_ne (pc := 32) C 40 dX6_writeCalls_32 (by decide) (fun h32 => ?_) (fun h32 => ?_)
      · have g32 := bz1 h32
        rw [if_pos g32] at hp
        refine X_iincN (pc := 40) (lv1 := [(0, _), (1, _)]) C dX6_writeCalls_40 rfl (by decide) (by decide) rfl ?_
        refine X_goto (pc := 43) C 7 dX6_writeCalls_43 (by decide) ?_
        first
          | exact ih (j + 1) _ _ (by omega) (by omega) (hB.put _ _ _) (uPut_w _ _ _ ho) hp
          | exact ih (j + 1) _ _ (by omega) (by omega) hB ho hp
      · have g32 := bz0 h32
        rw [if_neg g32, uPut_app, List.length_append, ← Nat.add_assoc] at hp
        have hle : (cwL (σ.2 (.inl (0, 2))) (σ.1 (.inl (0, 9))) (σ.1 (.inl (0, 10))) (σ.1 (.inl (0, 11))) (σ.1 (.inl (0, 12))) nu j w).length ≤ 14 := cwL_le
        refine X_aload_n (pc := 35) C 0 dX6_writeCalls_35 rfl rfl ?_
        refine X_iload_n (pc := 36) C 1 dX6_writeCalls_36 rfl rfl ?_
        refine K_X6_311 (pc := 37) C (by assumption) (c_X6_writeCall l P τ σ h0 hb0 nu j w hnu (by omega) hB hcu ho (by omega)) ⟨Nat.le_of_ble_eq_true rfl, Nat.le_of_ble_eq_true rfl⟩ ⟨rfl, rfl⟩ ⟨Nat.zero_le _, Nat.zero_le _⟩ (Nat.le_of_ble_eq_true rfl) dX6_writeCalls_37 ?_
        refine X_iincN (pc := 40) (lv1 := [(0, _), (1, _)]) C dX6_writeCalls_40 rfl (by decide) (by decide) rfl ?_
        refine X_goto (pc := 43) C 7 dX6_writeCalls_43 (by decide) ?_
        first
          | exact ih (j + 1) _ _ (by omega) (by omega) (hB.put _ _ _) (uPut_w _ _ _ ho) hp
          | exact ih (j + 1) _ _ (by omega) (by omega) hB ho hp

set_option maxRecDepth 100000 in
set_option maxHeartbeats 4000000 in
theorem c_X6_writeCalls (l : Launch) (P : XP) (σ : XS) (h0 : xI0 P) (hb : ∀ b, b < 12 → xIn P b) (hB : Bd σ 0) : XF l yX6_writeCalls cX6_writeCalls 2 (some .int) rm_X6_writeCalls P [.ref (P.2.2.1 (.inr 0))] σ (some (.int (nI (wcL (σ.2 (.inl (0, 2))) (σ.1 (.inl (0, 9))) (σ.1 (.inl (0, 10))) (σ.1 (.inl (0, 11))) (σ.1 (.inl (0, 12))) (nuN σ 0) (ncN σ 0) 0 0).length))) (uPut (xu σ (.inr 0) 6 0) 0 (wcL (σ.2 (.inl (0, 2))) (σ.1 (.inl (0, 9))) (σ.1 (.inl (0, 10))) (σ.1 (.inl (0, 11))) (σ.1 (.inl (0, 12))) (nuN σ 0) (ncN σ 0) 0 0)) := by
  refine XM.of (by decide +kernel) (Nat.le_of_ble_eq_true rfl) (fun p e s m args below meth c A C => ?_)
  replace C : XC p s m args meth c P A 2 RX6 cX6_writeCalls (some .int) := C
  refine XW.eq (lv' := [(0, _)]) rfl rfl rfl ?_
  have hb0 : xIn P 0 := hb 0 (by decide)
  have hBO : BO σ (xu σ (.inr 0) 6 0) := ⟨fun k => xu_ne _ _ _ (by simp), rfl⟩
  refine X_aload_n (pc := 0) C 0 dX6_writeCalls_0 rfl rfl ?_
  refine X_iconst (pc := 1) (v := 0) C dX6_writeCalls_1 (by decide) ?_
  refine U_X6_308 (pc := 2) C (by assumption) dX6_writeCalls_2 ?_
  refine X_iconst (pc := 5) (v := 0) C dX6_writeCalls_5 (by decide) ?_
  refine X_istore_n (pc := 6) (lv1 := [(0, _), (1, _)]) C 1 dX6_writeCalls_6 rfl (by decide) rfl ?_
  refine L_X6_writeCalls (σ := σ) C h0 hb0 hB.2.1 hB.1 hB.2.2.2.1 hB.2.2.1 (ncN σ 0) 0 _ 0 (Nat.zero_add _) (Nat.zero_le _) hBO (xu_self _ _ _ _) ?_
  rw [Nat.zero_add]
  exact ⟨rfl, rfl⟩

end XP24

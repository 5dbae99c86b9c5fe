/-! LEAVES: Calls. What each answers, in terms of the arrays -/
/-- the or of what the first n talking calls use -/
def cBusy (st us : Nat → Int32) : Nat → Int32
  | 0 => 0
  | k + 1 => if st k = 1 then cBusy st us k ||| us k else cBusy st us k
/-- how many of the first n places hold v -/
def cCount (st : Nat → Int32) (v : Int32) : Nat → Nat
  | 0 => 0
  | k + 1 => if st k = v then cCount st v k + 1 else cCount st v k
/-- how many of the first n talking calls need a cord -/
def cCords (st cn : Nat → Int32) : Nat → Nat
  | 0 => 0
  | k + 1 => if st k = 1 ∧ ¬ cn k = 0 then cCords st cn k + 1 else cCords st cn k
theorem n31 {n : Nat} (h : n ≤ 1000000) : n < 2 ^ 31 := Nat.lt_of_le_of_lt h (by decide)
theorem nle {a b : Nat} (h : nI a ≤ nI b) (ha : a ≤ 1000000 := by omega) (hb : b ≤ 1000000 := by omega) : a ≤ b := (nI_leI (n31 ha) (n31 hb)).mp h
theorem nnle {a b : Nat} (h : ¬ nI a ≤ nI b) (ha : a ≤ 1000000 := by omega) (hb : b ≤ 1000000 := by omega) : b < a := Nat.lt_of_not_le (fun q => h ((nI_leI (n31 ha) (n31 hb)).mpr q))
theorem nlt {a b : Nat} (h : nI a < nI b) (ha : a ≤ 1000000 := by omega) (hb : b ≤ 1000000 := by omega) : a < b := (nI_ltI (n31 ha) (n31 hb)).mp h
theorem nnlt {a b : Nat} (h : ¬ nI a < nI b) (ha : a ≤ 1000000 := by omega) (hb : b ≤ 1000000 := by omega) : b ≤ a := Nat.le_of_not_lt (fun q => h ((nI_ltI (n31 ha) (n31 hb)).mpr q))
theorem neq {a b : Nat} (h : nI a = nI b) (ha : a ≤ 1000000 := by omega) (hb : b ≤ 1000000 := by omega) : a = b := (nI_eq (n31 ha) (n31 hb)).mp h
/-- x is an index below n -/
abbrev xok (x : Int32) (n : Nat) : Prop := 0 ≤ x.toInt ∧ x.toInt < (n : Int)
theorem xok_nI {j n : Nat} (h : j < n) (hn : n ≤ 1000000 := by omega) : xok (nI j) n := by
  unfold xok
  rw [nI_toInt (by omega)]
  omega
theorem xok_of {x : Int32} {n : Nat} (h : xok x n) (hn : n ≤ 1000000 := by omega) : ∃ j : Nat, j < n ∧ x = nI j := vp_in_of (vp_in_iff.mpr h) (by omega)
theorem xok_neg {x : Int32} {n : Nat} (h : x < 0) : ¬ xok x n := fun q => by
  have h1 : x.toInt < 0 := by simpa using Int32.lt_iff_toInt_lt.mp h
  have := q.1
  omega
theorem xok_big {x : Int32} {n : Nat} (h : nI n ≤ x) (hn : n ≤ 1000000 := by omega) : ¬ xok x n := fun q => by
  have h1 := Int32.le_iff_toInt_le.mp h
  rw [nI_toInt (by omega)] at h1
  have := q.2
  omega
theorem xok_yes {x : Int32} {n : Nat} (h : ¬ x < 0) (h2 : ¬ nI n ≤ x) (hn : n ≤ 1000000 := by omega) : xok x n := by
  have h1 : ¬ x.toInt < 0 := fun q => h (Int32.lt_iff_toInt_lt.mpr (by simpa using q))
  have h3 : ¬ (n : Int) ≤ x.toInt := fun q => h2 (Int32.le_iff_toInt_le.mpr (by rw [nI_toInt (by omega)]; exact q))
  unfold xok
  omega
section XP10
variable {p : Program} {l : Launch} {e : Env} {R : Room} {s : State} {m : MethodId} {args : Array Value} {below : List Frame} {meth : Method} {c : Code} {P : XP} {A : Nat → Prop} {nL cells slots : Nat} {Q : State → Prop} {cc : ByteArray} {ret : Option FieldType} {σ : XS} {pc : Nat} {lv : List (Nat × Value)} {st : List Value}
set_option maxRecDepth 100000 in
set_option maxHeartbeats 4000000 in
theorem c_X1_has (l : Launch) (P : XP) (σ : XS) (b n : Nat) (hb : xIn P b) (hn : n ≤ 40) (hc : σ.1 (.inl (b, 8)) 10 = nI n) (x : Int32) : XF l yX1_has cX1_has 2 (some .boolean) rm_X1_has P [.ref (P.2.2.1 (.inl (b, 8))), .int x] σ (some (.int (if xok x n then 1 else 0))) (σ) := by
  refine XM.of (by decide +kernel) (Nat.le_of_ble_eq_true rfl) (fun p e s m args below meth c A C => ?_)
  replace C : XC p s m args meth c P A 2 RX1 cX1_has (some .boolean) := C
  refine XW.eq (lv' := [(0, _), (1, _)]) rfl rfl rfl ?_
  refine X_iload_n (pc := 0) C 1 dX1_has_0 rfl rfl ?_
  refine X_if_lt (pc := 1) C 16 dX1_has_1 (by decide) (fun h1 => ?_) (fun h1 => ?_)
  · skip
    refine X_iconst (pc := 16) (v := 0) C dX1_has_16 (by decide) ?_
    exact X_zret (pc := 17) C (Nat.zero_le _) (Nat.zero_le _) (rfl) dX1_has_17 ⟨by rw [if_neg (xok_neg h1)], rfl⟩
  · skip
    refine X_iload_n (pc := 4) C 1 dX1_has_4 rfl rfl ?_
    refine X_aload_n (pc := 5) C 0 dX1_has_5 rfl rfl ?_
    refine G_X1_49 (pc := 6) C (by assumption) dX1_has_6 ?_
    rw [hc]
    refine X_icmp_ge (pc := 9) C 16 dX1_has_9 (by decide) (fun h9 => ?_) (fun h9 => ?_)
    · skip
      refine X_iconst (pc := 16) (v := 0) C dX1_has_16 (by decide) ?_
      exact X_zret (pc := 17) C (Nat.zero_le _) (Nat.zero_le _) (rfl) dX1_has_17 ⟨by rw [if_neg (xok_big h9)], rfl⟩
    · skip
      refine X_iconst (pc := 12) (v := 1) C dX1_has_12 (by decide) ?_
      refine X_goto (pc := 13) C 17 dX1_has_13 (by decide) ?_
      exact X_zret (pc := 17) C (Nat.zero_le _) (Nat.zero_le _) (rfl) dX1_has_17 ⟨by rw [if_pos (xok_yes h1 h9)], rfl⟩

set_option maxRecDepth 100000 in
set_option maxHeartbeats 4000000 in
theorem c_X1_isOver (l : Launch) (P : XP) (σ : XS) (b j : Nat) (hb : xIn P b) (hj : j < 40) : XF l yX1_isOver cX1_isOver 2 (some .boolean) rm_X1_isOver P [.ref (P.2.2.1 (.inl (b, 8))), .int (nI j)] σ (some (.int (if σ.1 (.inl (b, 9)) j = 2 ∨ σ.1 (.inl (b, 9)) j = 3 then 1 else 0))) (σ) := by
  refine XM.of (by decide +kernel) (Nat.le_of_ble_eq_true rfl) (fun p e s m args below meth c A C => ?_)
  replace C : XC p s m args meth c P A 2 RX1 cX1_isOver (some .boolean) := C
  refine XW.eq (lv' := [(0, _), (1, _)]) rfl rfl rfl ?_
  refine X_aload_n (pc := 0) C 0 dX1_isOver_0 rfl rfl ?_
  refine G_X1_9 (pc := 1) C (by assumption) dX1_isOver_1 ?_
  refine X_iload_n (pc := 4) C 1 dX1_isOver_4 rfl rfl ?_
  refine X_ialdN (pc := 5) C (by first | exact hb _ (by decide)) rfl (by omega) (by decide) dX1_isOver_5 ?_
  refine X_iconst (pc := 6) (v := 2) C dX1_isOver_6 (by decide) ?_
  refine X_icmp_eq (pc := 7) C 20 dX1_isOver_7 (by decide) (fun h7 => ?_) (fun h7 => ?_)
  · skip
    refine X_iconst (pc := 20) (v := 1) C dX1_isOver_20 (by decide) ?_
    refine X_goto (pc := 21) C 25 dX1_isOver_21 (by decide) ?_
    exact X_zret (pc := 25) C (Nat.zero_le _) (Nat.zero_le _) (rfl) dX1_isOver_25 ⟨by rw [if_pos (Or.inl h7)], rfl⟩
  · skip
    refine X_aload_n (pc := 10) C 0 dX1_isOver_10 rfl rfl ?_
    refine G_X1_9 (pc := 11) C (by assumption) dX1_isOver_11 ?_
    refine X_iload_n (pc := 14) C 1 dX1_isOver_14 rfl rfl ?_
    refine X_ialdN (pc := 15) C (by first | exact hb _ (by decide)) rfl (by omega) (by decide) dX1_isOver_15 ?_
    refine X_iconst (pc := 16) (v := 3) C dX1_isOver_16 (by decide) ?_
    refine X_icmp_ne (pc := 17) C 24 dX1_isOver_17 (by decide) (fun h17 => ?_) (fun h17 => ?_)
    · skip
      refine X_iconst (pc := 24) (v := 0) C dX1_isOver_24 (by decide) ?_
      exact X_zret (pc := 25) C (Nat.zero_le _) (Nat.zero_le _) (rfl) dX1_isOver_25 ⟨by rw [if_neg (fun q => q.elim h7 h17)], rfl⟩
    · skip
      refine X_iconst (pc := 20) (v := 1) C dX1_isOver_20 (by decide) ?_
      refine X_goto (pc := 21) C 25 dX1_isOver_21 (by decide) ?_
      exact X_zret (pc := 25) C (Nat.zero_le _) (Nat.zero_le _) (rfl) dX1_isOver_25 ⟨by rw [if_pos (Or.inr h17)], rfl⟩

set_option maxRecDepth 100000 in
set_option maxHeartbeats 4000000 in
theorem L_X1_findBusy (C : XC p s m args meth c P A 3 RX1 cX1_findBusy (some .int)) {b n : Nat} (hb : xIn P b) (hn : n ≤ 40) (hc : σ.1 (.inl (b, 8)) 10 = nI n) (kx : XW p l e rm_X1_findBusy s m args below meth c P A 3 0 0 Q σ 37 [(0, .ref (P.2.2.1 (.inl (b, 8)))), (1, .int (cBusy (σ.1 (.inl (b, 9))) (σ.1 (.inl (b, 14))) n)), (2, .int (nI n))] []) : ∀ (k i : Nat), i + k = n → XW p l e rm_X1_findBusy s m args below meth c P A 3 0 0 Q σ 4 [(0, .ref (P.2.2.1 (.inl (b, 8)))), (1, .int (cBusy (σ.1 (.inl (b, 9))) (σ.1 (.inl (b, 14))) i)), (2, .int (nI i))] [] := by
  intro k
  induction k with
  | zero =>
    intro i hi
    have e9 : i = n := by omega
    subst e9
    refine X_iload_n (pc := 4) C 2 dX1_findBusy_4 rfl rfl ?_
    refine X_aload_n (pc := 5) C 0 dX1_findBusy_5 rfl rfl ?_
    refine G_X1_49 (pc := 6) C (by assumption) dX1_findBusy_6 ?_
    rw [hc]
    refine X_icmp_ge (pc := 9) C 37 dX1_findBusy_9 (by decide) (fun h9 => ?_) (fun h9 => ?_)
    · skip
      exact kx
    · exact absurd (nI_le (Nat.le_refl _) (n31 (by omega))) h9
  | succ k ih =>
    intro i hi
    have hlt : i < n := by omega
    refine X_iload_n (pc := 4) C 2 dX1_findBusy_4 rfl rfl ?_
    refine X_aload_n (pc := 5) C 0 dX1_findBusy_5 rfl rfl ?_
    refine G_X1_49 (pc := 6) C (by assumption) dX1_findBusy_6 ?_
    rw [hc]
    refine X_icmp_ge (pc := 9) C 37 dX1_findBusy_9 (by decide) (fun h9 => ?_) (fun h9 => ?_)
    · exact absurd (nle h9) (by omega)
    · skip
      refine X_aload_n (pc := 12) C 0 dX1_findBusy_12 rfl rfl ?_
      refine G_X1_9 (pc := 13) C (by assumption) dX1_findBusy_13 ?_
      refine X_iload_n (pc := 16) C 2 dX1_findBusy_16 rfl rfl ?_
      refine X_ialdN (pc := 17) C (by first | exact hb _ (by decide)) rfl (by omega) (by decide) dX1_findBusy_17 ?_
      refine X_iconst (pc := 18) (v := 1) C dX1_findBusy_18 (by decide) ?_
      refine X_icmp_ne (pc := 19) C 31 dX1_findBusy_19 (by decide) (fun h19 => ?_) (fun h19 => ?_)
      · skip
        first | refine X_iincN (pc := 31) (lv1 := [(0, _), (1, _), (2, _)]) C dX1_findBusy_31 rfl (by decide) (by decide) rfl ?_ | refine X_iinc (pc := 31) (kk := 1) (lv1 := [(0, _), (1, _), (2, _)]) C dX1_findBusy_31 rfl (by decide) (by decide) rfl ?_
        refine X_goto (pc := 34) C 4 dX1_findBusy_34 (by decide) ?_
        exact XW.eq rfl (by simp [cBusy, h19]) rfl (ih (i + 1) (by omega))
      · skip
        refine X_iload_n (pc := 22) C 1 dX1_findBusy_22 rfl rfl ?_
        refine X_aload_n (pc := 23) C 0 dX1_findBusy_23 rfl rfl ?_
        refine G_X1_28 (pc := 24) C (by assumption) dX1_findBusy_24 ?_
        refine X_iload_n (pc := 27) C 2 dX1_findBusy_27 rfl rfl ?_
        refine X_ialdN (pc := 28) C (by first | exact hb _ (by decide)) rfl (by omega) (by decide) dX1_findBusy_28 ?_
        refine X_ior (pc := 29) C dX1_findBusy_29 ?_
        refine X_istore_n (pc := 30) (lv1 := [(0, _), (1, _), (2, _)]) C 1 dX1_findBusy_30 rfl (by decide) rfl ?_
        first | refine X_iincN (pc := 31) (lv1 := [(0, _), (1, _), (2, _)]) C dX1_findBusy_31 rfl (by decide) (by decide) rfl ?_ | refine X_iinc (pc := 31) (kk := 1) (lv1 := [(0, _), (1, _), (2, _)]) C dX1_findBusy_31 rfl (by decide) (by decide) rfl ?_
        refine X_goto (pc := 34) C 4 dX1_findBusy_34 (by decide) ?_
        exact XW.eq rfl (by simp [cBusy, h19]) rfl (ih (i + 1) (by omega))

set_option maxRecDepth 100000 in
set_option maxHeartbeats 4000000 in
theorem c_X1_findBusy (l : Launch) (P : XP) (σ : XS) (b n : Nat) (hb : xIn P b) (hn : n ≤ 40) (hc : σ.1 (.inl (b, 8)) 10 = nI n) : XF l yX1_findBusy cX1_findBusy 3 (some .int) rm_X1_findBusy P [.ref (P.2.2.1 (.inl (b, 8)))] σ (some (.int (cBusy (σ.1 (.inl (b, 9))) (σ.1 (.inl (b, 14))) n))) (σ) := by
  refine XM.of (by decide +kernel) (Nat.le_of_ble_eq_true rfl) (fun p e s m args below meth c A C => ?_)
  replace C : XC p s m args meth c P A 3 RX1 cX1_findBusy (some .int) := C
  refine XW.eq (lv' := [(0, _)]) rfl rfl rfl ?_
  refine X_iconst (pc := 0) (v := 0) C dX1_findBusy_0 (by decide) ?_
  refine X_istore_n (pc := 1) (lv1 := [(0, _), (1, _)]) C 1 dX1_findBusy_1 rfl (by decide) rfl ?_
  refine X_iconst (pc := 2) (v := 0) C dX1_findBusy_2 (by decide) ?_
  refine X_istore_n (pc := 3) (lv1 := [(0, _), (1, _), (2, _)]) C 2 dX1_findBusy_3 rfl (by decide) rfl ?_
  refine L_X1_findBusy C hb hn hc ?_ n 0 (by omega)
  refine X_iload_n (pc := 37) C 1 dX1_findBusy_37 rfl rfl ?_
  exact X_iret (pc := 38) C (Nat.zero_le _) (Nat.zero_le _) dX1_findBusy_38 ⟨rfl, rfl⟩

set_option maxRecDepth 100000 in
set_option maxHeartbeats 4000000 in
theorem L_X1_countIn (C : XC p s m args meth c P A 4 RX1 cX1_countIn (some .int)) {b n : Nat} (hb : xIn P b) (hn : n ≤ 40) (hc : σ.1 (.inl (b, 8)) 10 = nI n) {v : Int32} (kx : XW p l e rm_X1_countIn s m args below meth c P A 4 0 0 Q σ 31 [(0, .ref (P.2.2.1 (.inl (b, 8)))), (1, .int v), (2, .int (nI (cCount (σ.1 (.inl (b, 9))) v n))), (3, .int (nI n))] []) : ∀ (k i : Nat), i + k = n → XW p l e rm_X1_countIn s m args below meth c P A 4 0 0 Q σ 4 [(0, .ref (P.2.2.1 (.inl (b, 8)))), (1, .int v), (2, .int (nI (cCount (σ.1 (.inl (b, 9))) v i))), (3, .int (nI i))] [] := by
  intro k
  induction k with
  | zero =>
    intro i hi
    have e9 : i = n := by omega
    subst e9
    refine X_iload_n (pc := 4) C 3 dX1_countIn_4 rfl rfl ?_
    refine X_aload_n (pc := 5) C 0 dX1_countIn_5 rfl rfl ?_
    refine G_X1_49 (pc := 6) C (by assumption) dX1_countIn_6 ?_
    rw [hc]
    refine X_icmp_ge (pc := 9) C 31 dX1_countIn_9 (by decide) (fun h9 => ?_) (fun h9 => ?_)
    · skip
      exact kx
    · exact absurd (nI_le (Nat.le_refl _) (n31 (by omega))) h9
  | succ k ih =>
    intro i hi
    have hlt : i < n := by omega
    refine X_iload_n (pc := 4) C 3 dX1_countIn_4 rfl rfl ?_
    refine X_aload_n (pc := 5) C 0 dX1_countIn_5 rfl rfl ?_
    refine G_X1_49 (pc := 6) C (by assumption) dX1_countIn_6 ?_
    rw [hc]
    refine X_icmp_ge (pc := 9) C 31 dX1_countIn_9 (by decide) (fun h9 => ?_) (fun h9 => ?_)
    · exact absurd (nle h9) (by omega)
    · skip
      refine X_aload_n (pc := 12) C 0 dX1_countIn_12 rfl rfl ?_
      refine G_X1_9 (pc := 13) C (by assumption) dX1_countIn_13 ?_
      refine X_iload_n (pc := 16) C 3 dX1_countIn_16 rfl rfl ?_
      refine X_ialdN (pc := 17) C (by first | exact hb _ (by decide)) rfl (by omega) (by decide) dX1_countIn_17 ?_
      refine X_iload_n (pc := 18) C 1 dX1_countIn_18 rfl rfl ?_
      refine X_icmp_ne (pc := 19) C 25 dX1_countIn_19 (by decide) (fun h19 => ?_) (fun h19 => ?_)
      · skip
        first | refine X_iincN (pc := 25) (lv1 := [(0, _), (1, _), (2, _), (3, _)]) C dX1_countIn_25 rfl (by decide) (by decide) rfl ?_ | refine X_iinc (pc := 25) (kk := 1) (lv1 := [(0, _), (1, _), (2, _), (3, _)]) C dX1_countIn_25 rfl (by decide) (by decide) rfl ?_
        refine X_goto (pc := 28) C 4 dX1_countIn_28 (by decide) ?_
        exact XW.eq rfl (by simp [cCount, h19]) rfl (ih (i + 1) (by omega))
      · skip
        first | refine X_iincN (pc := 22) (lv1 := [(0, _), (1, _), (2, _), (3, _)]) C dX1_countIn_22 rfl (by decide) (by decide) rfl ?_ | refine X_iinc (pc := 22) (kk := 1) (lv1 := [(0, _), (1, _), (2, _), (3, _)]) C dX1_countIn_22 rfl (by decide) (by decide) rfl ?_
        first | refine X_iincN (pc := 25) (lv1 := [(0, _), (1, _), (2, _), (3, _)]) C dX1_countIn_25 rfl (by decide) (by decide) rfl ?_ | refine X_iinc (pc := 25) (kk := 1) (lv1 := [(0, _), (1, _), (2, _), (3, _)]) C dX1_countIn_25 rfl (by decide) (by decide) rfl ?_
        refine X_goto (pc := 28) C 4 dX1_countIn_28 (by decide) ?_
        exact XW.eq rfl (by simp [cCount, h19]) rfl (ih (i + 1) (by omega))

set_option maxRecDepth 100000 in
set_option maxHeartbeats 4000000 in
theorem c_X1_countIn (l : Launch) (P : XP) (σ : XS) (b n : Nat) (hb : xIn P b) (hn : n ≤ 40) (hc : σ.1 (.inl (b, 8)) 10 = nI n) (v : Int32) : XF l yX1_countIn cX1_countIn 4 (some .int) rm_X1_countIn P [.ref (P.2.2.1 (.inl (b, 8))), .int v] σ (some (.int (nI (cCount (σ.1 (.inl (b, 9))) v n)))) (σ) := by
  refine XM.of (by decide +kernel) (Nat.le_of_ble_eq_true rfl) (fun p e s m args below meth c A C => ?_)
  replace C : XC p s m args meth c P A 4 RX1 cX1_countIn (some .int) := C
  refine XW.eq (lv' := [(0, _), (1, _)]) rfl rfl rfl ?_
  refine X_iconst (pc := 0) (v := 0) C dX1_countIn_0 (by decide) ?_
  refine X_istore_n (pc := 1) (lv1 := [(0, _), (1, _), (2, _)]) C 2 dX1_countIn_1 rfl (by decide) rfl ?_
  refine X_iconst (pc := 2) (v := 0) C dX1_countIn_2 (by decide) ?_
  refine X_istore_n (pc := 3) (lv1 := [(0, _), (1, _), (2, _), (3, _)]) C 3 dX1_countIn_3 rfl (by decide) rfl ?_
  refine L_X1_countIn C hb hn hc ?_ n 0 (by omega)
  refine X_iload_n (pc := 31) C 2 dX1_countIn_31 rfl rfl ?_
  exact X_iret (pc := 32) C (Nat.zero_le _) (Nat.zero_le _) dX1_countIn_32 ⟨rfl, rfl⟩

set_option maxRecDepth 100000 in
set_option maxHeartbeats 4000000 in
theorem L_X1_countCords (C : XC p s m args meth c P A 3 RX1 cX1_countCords (some .int)) {b n : Nat} (hb : xIn P b) (hn : n ≤ 40) (hc : σ.1 (.inl (b, 8)) 10 = nI n) (kx : XW p l e rm_X1_countCords s m args below meth c P A 3 0 0 Q σ 40 [(0, .ref (P.2.2.1 (.inl (b, 8)))), (1, .int (nI (cCords (σ.1 (.inl (b, 9))) (σ.1 (.inl (b, 15))) n))), (2, .int (nI n))] []) : ∀ (k i : Nat), i + k = n → XW p l e rm_X1_countCords s m args below meth c P A 3 0 0 Q σ 4 [(0, .ref (P.2.2.1 (.inl (b, 8)))), (1, .int (nI (cCords (σ.1 (.inl (b, 9))) (σ.1 (.inl (b, 15))) i))), (2, .int (nI i))] [] := by
  intro k
  induction k with
  | zero =>
    intro i hi
    have e9 : i = n := by omega
    subst e9
    refine X_iload_n (pc := 4) C 2 dX1_countCords_4 rfl rfl ?_
    refine X_aload_n (pc := 5) C 0 dX1_countCords_5 rfl rfl ?_
    refine G_X1_49 (pc := 6) C (by assumption) dX1_countCords_6 ?_
    rw [hc]
    refine X_icmp_ge (pc := 9) C 40 dX1_countCords_9 (by decide) (fun h9 => ?_) (fun h9 => ?_)
    · skip
      exact kx
    · exact absurd (nI_le (Nat.le_refl _) (n31 (by omega))) h9
  | succ k ih =>
    intro i hi
    have hlt : i < n := by omega
    refine X_iload_n (pc := 4) C 2 dX1_countCords_4 rfl rfl ?_
    refine X_aload_n (pc := 5) C 0 dX1_countCords_5 rfl rfl ?_
    refine G_X1_49 (pc := 6) C (by assumption) dX1_countCords_6 ?_
    rw [hc]
    refine X_icmp_ge (pc := 9) C 40 dX1_countCords_9 (by decide) (fun h9 => ?_) (fun h9 => ?_)
    · exact absurd (nle h9) (by omega)
    · skip
      refine X_aload_n (pc := 12) C 0 dX1_countCords_12 rfl rfl ?_
      refine G_X1_9 (pc := 13) C (by assumption) dX1_countCords_13 ?_
      refine X_iload_n (pc := 16) C 2 dX1_countCords_16 rfl rfl ?_
      refine X_ialdN (pc := 17) C (by first | exact hb _ (by decide)) rfl (by omega) (by decide) dX1_countCords_17 ?_
      refine X_iconst (pc := 18) (v := 1) C dX1_countCords_18 (by decide) ?_
      refine X_icmp_ne (pc := 19) C 34 dX1_countCords_19 (by decide) (fun h19 => ?_) (fun h19 => ?_)
      · skip
        first | refine X_iincN (pc := 34) (lv1 := [(0, _), (1, _), (2, _)]) C dX1_countCords_34 rfl (by decide) (by decide) rfl ?_ | refine X_iinc (pc := 34) (kk := 1) (lv1 := [(0, _), (1, _), (2, _)]) C dX1_countCords_34 rfl (by decide) (by decide) rfl ?_
        refine X_goto (pc := 37) C 4 dX1_countCords_37 (by decide) ?_
        exact XW.eq rfl (by first | simp [cCords, h19, h28] | simp [cCords, h19]) rfl (ih (i + 1) (by omega))
      · skip
        refine X_aload_n (pc := 22) C 0 dX1_countCords_22 rfl rfl ?_
        refine G_X1_31 (pc := 23) C (by assumption) dX1_countCords_23 ?_
        refine X_iload_n (pc := 26) C 2 dX1_countCords_26 rfl rfl ?_
        refine X_zaldN (pc := 27) C (by first | exact hb _ (by decide)) rfl (by omega) (by decide) dX1_countCords_27 ?_
        refine X_if_eq (pc := 28) C 34 dX1_countCords_28 (by decide) (fun h28 => ?_) (fun h28 => ?_)
        · skip
          first | refine X_iincN (pc := 34) (lv1 := [(0, _), (1, _), (2, _)]) C dX1_countCords_34 rfl (by decide) (by decide) rfl ?_ | refine X_iinc (pc := 34) (kk := 1) (lv1 := [(0, _), (1, _), (2, _)]) C dX1_countCords_34 rfl (by decide) (by decide) rfl ?_
          refine X_goto (pc := 37) C 4 dX1_countCords_37 (by decide) ?_
          exact XW.eq rfl (by first | simp [cCords, h19, h28] | simp [cCords, h19]) rfl (ih (i + 1) (by omega))
        · skip
          first | refine X_iincN (pc := 31) (lv1 := [(0, _), (1, _), (2, _)]) C dX1_countCords_31 rfl (by decide) (by decide) rfl ?_ | refine X_iinc (pc := 31) (kk := 1) (lv1 := [(0, _), (1, _), (2, _)]) C dX1_countCords_31 rfl (by decide) (by decide) rfl ?_
          first | refine X_iincN (pc := 34) (lv1 := [(0, _), (1, _), (2, _)]) C dX1_countCords_34 rfl (by decide) (by decide) rfl ?_ | refine X_iinc (pc := 34) (kk := 1) (lv1 := [(0, _), (1, _), (2, _)]) C dX1_countCords_34 rfl (by decide) (by decide) rfl ?_
          refine X_goto (pc := 37) C 4 dX1_countCords_37 (by decide) ?_
          exact XW.eq rfl (by first | simp [cCords, h19, h28] | simp [cCords, h19]) rfl (ih (i + 1) (by omega))

set_option maxRecDepth 100000 in
set_option maxHeartbeats 4000000 in
theorem c_X1_countCords (l : Launch) (P : XP) (σ : XS) (b n : Nat) (hb : xIn P b) (hn : n ≤ 40) (hc : σ.1 (.inl (b, 8)) 10 = nI n) : XF l yX1_countCords cX1_countCords 3 (some .int) rm_X1_countCords P [.ref (P.2.2.1 (.inl (b, 8)))] σ (some (.int (nI (cCords (σ.1 (.inl (b, 9))) (σ.1 (.inl (b, 15))) n)))) (σ) := by
  refine XM.of (by decide +kernel) (Nat.le_of_ble_eq_true rfl) (fun p e s m args below meth c A C => ?_)
  replace C : XC p s m args meth c P A 3 RX1 cX1_countCords (some .int) := C
  refine XW.eq (lv' := [(0, _)]) rfl rfl rfl ?_
  refine X_iconst (pc := 0) (v := 0) C dX1_countCords_0 (by decide) ?_
  refine X_istore_n (pc := 1) (lv1 := [(0, _), (1, _)]) C 1 dX1_countCords_1 rfl (by decide) rfl ?_
  refine X_iconst (pc := 2) (v := 0) C dX1_countCords_2 (by decide) ?_
  refine X_istore_n (pc := 3) (lv1 := [(0, _), (1, _), (2, _)]) C 2 dX1_countCords_3 rfl (by decide) rfl ?_
  refine L_X1_countCords C hb hn hc ?_ n 0 (by omega)
  refine X_iload_n (pc := 40) C 1 dX1_countCords_40 rfl rfl ?_
  exact X_iret (pc := 41) C (Nat.zero_le _) (Nat.zero_le _) dX1_countCords_41 ⟨rfl, rfl⟩

/-- how many of the first n calls wait ahead of call j -/
def cPlace (st ur : Nat → Int32) (j : Nat) : Nat → Nat
  | 0 => 0
  | k + 1 => if st k = 0 ∧ (if ur k = ur j then k < j else ¬ ur k = 0) then cPlace st ur j k + 1 else cPlace st ur j k
theorem cPlace_n {st ur : Nat → Int32} {j k : Nat} (h : ¬ st k = 0) : cPlace st ur j (k + 1) = cPlace st ur j k := if_neg (fun q => h q.1)
theorem cPlace_y {st ur : Nat → Int32} {j k : Nat} (h : st k = 0) (h1 : ur k = ur j) (h2 : k < j) : cPlace st ur j (k + 1) = cPlace st ur j k + 1 := if_pos ⟨h, by rw [if_pos h1]; exact h2⟩
theorem cPlace_y2 {st ur : Nat → Int32} {j k : Nat} (h : st k = 0) (h1 : ¬ ur k = ur j) (h2 : ¬ ur k = 0) : cPlace st ur j (k + 1) = cPlace st ur j k + 1 := if_pos ⟨h, by rw [if_neg h1]; exact h2⟩
theorem cPlace_n2 {st ur : Nat → Int32} {j k : Nat} (h1 : ur k = ur j) (h2 : j ≤ k) : cPlace st ur j (k + 1) = cPlace st ur j k := if_neg (fun q => by have := q.2; rw [if_pos h1] at this; omega)
theorem cPlace_n3 {st ur : Nat → Int32} {j k : Nat} (h1 : ¬ ur k = ur j) (h2 : ur k = 0) : cPlace st ur j (k + 1) = cPlace st ur j k := if_neg (fun q => by have := q.2; rw [if_neg h1] at this; exact this h2)
set_option maxRecDepth 100000 in
set_option maxHeartbeats 4000000 in
theorem L_X1_placeInQueue (C : XC p s m args meth c P A 5 RX1 cX1_placeInQueue (some .int)) {b n : Nat} (hb : xIn P b) (hn : n ≤ 40) (hc : σ.1 (.inl (b, 8)) 10 = nI n) {j : Nat} (hj : j < 40) (kx : XW p l e rm_X1_placeInQueue s m args below meth c P A 5 0 0 Q σ 82 [(0, .ref (P.2.2.1 (.inl (b, 8)))), (1, .int (nI j)), (2, .int (nI (cPlace (σ.1 (.inl (b, 9))) (σ.1 (.inl (b, 13))) j n))), (3, .int (nI n))] []) : ∀ (k i : Nat), i + k = n → XW p l e rm_X1_placeInQueue s m args below meth c P A 5 0 0 Q σ 15 [(0, .ref (P.2.2.1 (.inl (b, 8)))), (1, .int (nI j)), (2, .int (nI (cPlace (σ.1 (.inl (b, 9))) (σ.1 (.inl (b, 13))) j i))), (3, .int (nI i))] [] := by
  intro k
  induction k with
  | zero =>
    intro i hi
    have e9 : i = n := by omega
    subst e9
    refine X_iload_n (pc := 15) C 3 dX1_placeInQueue_15 rfl rfl ?_
    refine X_aload_n (pc := 16) C 0 dX1_placeInQueue_16 rfl rfl ?_
    refine G_X1_49 (pc := 17) C (by assumption) dX1_placeInQueue_17 ?_
    rw [hc]
    refine X_icmp_ge (pc := 20) C 82 dX1_placeInQueue_20 (by decide) (fun h20 => ?_) (fun h20 => ?_)
    · skip
      exact kx
    · exact absurd (nI_le (Nat.le_refl _) (n31 (by omega))) h20
  | succ k ih =>
    intro i hi
    have hlt : i < n := by omega
    refine X_iload_n (pc := 15) C 3 dX1_placeInQueue_15 rfl rfl ?_
    refine X_aload_n (pc := 16) C 0 dX1_placeInQueue_16 rfl rfl ?_
    refine G_X1_49 (pc := 17) C (by assumption) dX1_placeInQueue_17 ?_
    rw [hc]
    refine X_icmp_ge (pc := 20) C 82 dX1_placeInQueue_20 (by decide) (fun h20 => ?_) (fun h20 => ?_)
    · exact absurd (nle h20) (by omega)
    · skip
      refine X_aload_n (pc := 23) C 0 dX1_placeInQueue_23 rfl rfl ?_
      refine G_X1_24 (pc := 24) C (by assumption) dX1_placeInQueue_24 ?_
      refine X_iload_n (pc := 27) C 3 dX1_placeInQueue_27 rfl rfl ?_
      refine X_zaldN (pc := 28) C (by first | exact hb _ (by decide)) rfl (by omega) (by decide) dX1_placeInQueue_28 ?_
      refine X_aload_n (pc := 29) C 0 dX1_placeInQueue_29 rfl rfl ?_
      refine G_X1_24 (pc := 30) C (by assumption) dX1_placeInQueue_30 ?_
      refine X_iload_n (pc := 33) C 1 dX1_placeInQueue_33 rfl rfl ?_
      refine X_zaldN (pc := 34) C (by first | exact hb _ (by decide)) rfl (by omega) (by decide) dX1_placeInQueue_34 ?_
      refine X_icmp_ne (pc := 35) C 51 dX1_placeInQueue_35 (by decide) (fun h35 => ?_) (fun h35 => ?_)
      · skip
        refine X_aload_n (pc := 51) C 0 dX1_placeInQueue_51 rfl rfl ?_
        refine G_X1_24 (pc := 52) C (by assumption) dX1_placeInQueue_52 ?_
        refine X_iload_n (pc := 55) C 3 dX1_placeInQueue_55 rfl rfl ?_
        refine X_zaldN (pc := 56) C (by first | exact hb _ (by decide)) rfl (by omega) (by decide) dX1_placeInQueue_56 ?_
        refine X_istore (pc := 57) (lv1 := [(0, _), (1, _), (2, _), (3, _), (4, _)]) C dX1_placeInQueue_57 (by decide) rfl ?_
        refine X_aload_n (pc := 59) C 0 dX1_placeInQueue_59 rfl rfl ?_
        refine G_X1_9 (pc := 60) C (by assumption) dX1_placeInQueue_60 ?_
        refine X_iload_n (pc := 63) C 3 dX1_placeInQueue_63 rfl rfl ?_
        refine X_ialdN (pc := 64) C (by first | exact hb _ (by decide)) rfl (by omega) (by decide) dX1_placeInQueue_64 ?_
        refine X_if_ne (pc := 65) C 76 dX1_placeInQueue_65 (by decide) (fun h65 => ?_) (fun h65 => ?_)
        · skip
          first | refine X_iincN (pc := 76) (lv1 := [(0, _), (1, _), (2, _), (3, _), (4, _)]) C dX1_placeInQueue_76 rfl (by decide) (by decide) rfl ?_ | refine X_iinc (pc := 76) (kk := 1) (lv1 := [(0, _), (1, _), (2, _), (3, _), (4, _)]) C dX1_placeInQueue_76 rfl (by decide) (by decide) rfl ?_
          refine X_goto (pc := 79) C 15 dX1_placeInQueue_79 (by decide) ?_
          exact XW.less (lv' := [(0, _), (1, _), (2, _), (3, _)]) [0, 1, 2, 3] rfl (XW.eq rfl (by first | rw [cPlace_n h65] | rw [cPlace_y h65 h35 g40] | rw [cPlace_y2 h65 h35 h70] | rw [cPlace_n2 h35 g40] | rw [cPlace_n3 h35 h70]) rfl (ih (i + 1) (by omega)))
        · skip
          refine X_iload (pc := 68) C dX1_placeInQueue_68 rfl ?_
          refine X_if_eq (pc := 70) C 76 dX1_placeInQueue_70 (by decide) (fun h70 => ?_) (fun h70 => ?_)
          · skip
            first | refine X_iincN (pc := 76) (lv1 := [(0, _), (1, _), (2, _), (3, _), (4, _)]) C dX1_placeInQueue_76 rfl (by decide) (by decide) rfl ?_ | refine X_iinc (pc := 76) (kk := 1) (lv1 := [(0, _), (1, _), (2, _), (3, _), (4, _)]) C dX1_placeInQueue_76 rfl (by decide) (by decide) rfl ?_
            refine X_goto (pc := 79) C 15 dX1_placeInQueue_79 (by decide) ?_
            exact XW.less (lv' := [(0, _), (1, _), (2, _), (3, _)]) [0, 1, 2, 3] rfl (XW.eq rfl (by first | rw [cPlace_n h65] | rw [cPlace_y h65 h35 g40] | rw [cPlace_y2 h65 h35 h70] | rw [cPlace_n2 h35 g40] | rw [cPlace_n3 h35 h70]) rfl (ih (i + 1) (by omega)))
          · skip
            first | refine X_iincN (pc := 73) (lv1 := [(0, _), (1, _), (2, _), (3, _), (4, _)]) C dX1_placeInQueue_73 rfl (by decide) (by decide) rfl ?_ | refine X_iinc (pc := 73) (kk := 1) (lv1 := [(0, _), (1, _), (2, _), (3, _), (4, _)]) C dX1_placeInQueue_73 rfl (by decide) (by decide) rfl ?_
            first | refine X_iincN (pc := 76) (lv1 := [(0, _), (1, _), (2, _), (3, _), (4, _)]) C dX1_placeInQueue_76 rfl (by decide) (by decide) rfl ?_ | refine X_iinc (pc := 76) (kk := 1) (lv1 := [(0, _), (1, _), (2, _), (3, _), (4, _)]) C dX1_placeInQueue_76 rfl (by decide) (by decide) rfl ?_
            refine X_goto (pc := 79) C 15 dX1_placeInQueue_79 (by decide) ?_
            exact XW.less (lv' := [(0, _), (1, _), (2, _), (3, _)]) [0, 1, 2, 3] rfl (XW.eq rfl (by first | rw [cPlace_n h65] | rw [cPlace_y h65 h35 g40] | rw [cPlace_y2 h65 h35 h70] | rw [cPlace_n2 h35 g40] | rw [cPlace_n3 h35 h70]) rfl (ih (i + 1) (by omega)))
      · skip
        refine X_iload_n (pc := 38) C 3 dX1_placeInQueue_38 rfl rfl ?_
        refine X_iload_n (pc := 39) C 1 dX1_placeInQueue_39 rfl rfl ?_
        refine X_icmp_ge (pc := 40) C 47 dX1_placeInQueue_40 (by decide) (fun h40 => ?_) (fun h40 => ?_)
        · have g40 := nle h40
          refine X_iconst (pc := 47) (v := 0) C dX1_placeInQueue_47 (by decide) ?_
          refine X_goto (pc := 48) C 57 dX1_placeInQueue_48 (by decide) ?_
          refine X_istore (pc := 57) (lv1 := [(0, _), (1, _), (2, _), (3, _), (4, _)]) C dX1_placeInQueue_57 (by decide) rfl ?_
          refine X_aload_n (pc := 59) C 0 dX1_placeInQueue_59 rfl rfl ?_
          refine G_X1_9 (pc := 60) C (by assumption) dX1_placeInQueue_60 ?_
          refine X_iload_n (pc := 63) C 3 dX1_placeInQueue_63 rfl rfl ?_
          refine X_ialdN (pc := 64) C (by first | exact hb _ (by decide)) rfl (by omega) (by decide) dX1_placeInQueue_64 ?_
          refine X_if_ne (pc := 65) C 76 dX1_placeInQueue_65 (by decide) (fun h65 => ?_) (fun h65 => ?_)
          · skip
            first | refine X_iincN (pc := 76) (lv1 := [(0, _), (1, _), (2, _), (3, _), (4, _)]) C dX1_placeInQueue_76 rfl (by decide) (by decide) rfl ?_ | refine X_iinc (pc := 76) (kk := 1) (lv1 := [(0, _), (1, _), (2, _), (3, _), (4, _)]) C dX1_placeInQueue_76 rfl (by decide) (by decide) rfl ?_
            refine X_goto (pc := 79) C 15 dX1_placeInQueue_79 (by decide) ?_
            exact XW.less (lv' := [(0, _), (1, _), (2, _), (3, _)]) [0, 1, 2, 3] rfl (XW.eq rfl (by first | rw [cPlace_n h65] | rw [cPlace_y h65 h35 g40] | rw [cPlace_y2 h65 h35 h70] | rw [cPlace_n2 h35 g40] | rw [cPlace_n3 h35 h70]) rfl (ih (i + 1) (by omega)))
          · skip
            refine X_iload (pc := 68) C dX1_placeInQueue_68 rfl ?_
            refine X_if_eq (pc := 70) C 76 dX1_placeInQueue_70 (by decide) (fun h70 => ?_) (fun h70 => ?_)
            · skip
              first | refine X_iincN (pc := 76) (lv1 := [(0, _), (1, _), (2, _), (3, _), (4, _)]) C dX1_placeInQueue_76 rfl (by decide) (by decide) rfl ?_ | refine X_iinc (pc := 76) (kk := 1) (lv1 := [(0, _), (1, _), (2, _), (3, _), (4, _)]) C dX1_placeInQueue_76 rfl (by decide) (by decide) rfl ?_
              refine X_goto (pc := 79) C 15 dX1_placeInQueue_79 (by decide) ?_
              exact XW.less (lv' := [(0, _), (1, _), (2, _), (3, _)]) [0, 1, 2, 3] rfl (XW.eq rfl (by first | rw [cPlace_n h65] | rw [cPlace_y h65 h35 g40] | rw [cPlace_y2 h65 h35 h70] | rw [cPlace_n2 h35 g40] | rw [cPlace_n3 h35 h70]) rfl (ih (i + 1) (by omega)))
            · exact absurd h70 (by decide)
        · have g40 := nnle h40
          refine X_iconst (pc := 43) (v := 1) C dX1_placeInQueue_43 (by decide) ?_
          refine X_goto (pc := 44) C 57 dX1_placeInQueue_44 (by decide) ?_
          refine X_istore (pc := 57) (lv1 := [(0, _), (1, _), (2, _), (3, _), (4, _)]) C dX1_placeInQueue_57 (by decide) rfl ?_
          refine X_aload_n (pc := 59) C 0 dX1_placeInQueue_59 rfl rfl ?_
          refine G_X1_9 (pc := 60) C (by assumption) dX1_placeInQueue_60 ?_
          refine X_iload_n (pc := 63) C 3 dX1_placeInQueue_63 rfl rfl ?_
          refine X_ialdN (pc := 64) C (by first | exact hb _ (by decide)) rfl (by omega) (by decide) dX1_placeInQueue_64 ?_
          refine X_if_ne (pc := 65) C 76 dX1_placeInQueue_65 (by decide) (fun h65 => ?_) (fun h65 => ?_)
          · skip
            first | refine X_iincN (pc := 76) (lv1 := [(0, _), (1, _), (2, _), (3, _), (4, _)]) C dX1_placeInQueue_76 rfl (by decide) (by decide) rfl ?_ | refine X_iinc (pc := 76) (kk := 1) (lv1 := [(0, _), (1, _), (2, _), (3, _), (4, _)]) C dX1_placeInQueue_76 rfl (by decide) (by decide) rfl ?_
            refine X_goto (pc := 79) C 15 dX1_placeInQueue_79 (by decide) ?_
            exact XW.less (lv' := [(0, _), (1, _), (2, _), (3, _)]) [0, 1, 2, 3] rfl (XW.eq rfl (by first | rw [cPlace_n h65] | rw [cPlace_y h65 h35 g40] | rw [cPlace_y2 h65 h35 h70] | rw [cPlace_n2 h35 g40] | rw [cPlace_n3 h35 h70]) rfl (ih (i + 1) (by omega)))
          · skip
            refine X_iload (pc := 68) C dX1_placeInQueue_68 rfl ?_
            refine X_if_eq (pc := 70) C 76 dX1_placeInQueue_70 (by decide) (fun h70 => ?_) (fun h70 => ?_)
            · exact absurd h70 (by decide)
            · skip
              first | refine X_iincN (pc := 73) (lv1 := [(0, _), (1, _), (2, _), (3, _), (4, _)]) C dX1_placeInQueue_73 rfl (by decide) (by decide) rfl ?_ | refine X_iinc (pc := 73) (kk := 1) (lv1 := [(0, _), (1, _), (2, _), (3, _), (4, _)]) C dX1_placeInQueue_73 rfl (by decide) (by decide) rfl ?_
              first | refine X_iincN (pc := 76) (lv1 := [(0, _), (1, _), (2, _), (3, _), (4, _)]) C dX1_placeInQueue_76 rfl (by decide) (by decide) rfl ?_ | refine X_iinc (pc := 76) (kk := 1) (lv1 := [(0, _), (1, _), (2, _), (3, _), (4, _)]) C dX1_placeInQueue_76 rfl (by decide) (by decide) rfl ?_
              refine X_goto (pc := 79) C 15 dX1_placeInQueue_79 (by decide) ?_
              exact XW.less (lv' := [(0, _), (1, _), (2, _), (3, _)]) [0, 1, 2, 3] rfl (XW.eq rfl (by first | rw [cPlace_n h65] | rw [cPlace_y h65 h35 g40] | rw [cPlace_y2 h65 h35 h70] | rw [cPlace_n2 h35 g40] | rw [cPlace_n3 h35 h70]) rfl (ih (i + 1) (by omega)))

set_option maxRecDepth 100000 in
set_option maxHeartbeats 4000000 in
theorem c_X1_placeInQueue (l : Launch) (P : XP) (σ : XS) (b n : Nat) (hb : xIn P b) (hn : n ≤ 40) (hc : σ.1 (.inl (b, 8)) 10 = nI n) (j : Nat) (hj : j < 40) : XF l yX1_placeInQueue cX1_placeInQueue 5 (some .int) rm_X1_placeInQueue P [.ref (P.2.2.1 (.inl (b, 8))), .int (nI j)] σ (some (.int (if σ.1 (.inl (b, 9)) j = 0 then nI (cPlace (σ.1 (.inl (b, 9))) (σ.1 (.inl (b, 13))) j n) else -1))) (σ) := by
  refine XM.of (by decide +kernel) (Nat.le_of_ble_eq_true rfl) (fun p e s m args below meth c A C => ?_)
  replace C : XC p s m args meth c P A 5 RX1 cX1_placeInQueue (some .int) := C
  refine XW.eq (lv' := [(0, _), (1, _)]) rfl rfl rfl ?_
  refine X_aload_n (pc := 0) C 0 dX1_placeInQueue_0 rfl rfl ?_
  refine G_X1_9 (pc := 1) C (by assumption) dX1_placeInQueue_1 ?_
  refine X_iload_n (pc := 4) C 1 dX1_placeInQueue_4 rfl rfl ?_
  refine X_ialdN (pc := 5) C (by first | exact hb _ (by decide)) rfl (by omega) (by decide) dX1_placeInQueue_5 ?_
  refine X_if_eq (pc := 6) C 11 dX1_placeInQueue_6 (by decide) (fun h6 => ?_) (fun h6 => ?_)
  · skip
    refine X_iconst (pc := 11) (v := 0) C dX1_placeInQueue_11 (by decide) ?_
    refine X_istore_n (pc := 12) (lv1 := [(0, _), (1, _), (2, _)]) C 2 dX1_placeInQueue_12 rfl (by decide) rfl ?_
    refine X_iconst (pc := 13) (v := 0) C dX1_placeInQueue_13 (by decide) ?_
    refine X_istore_n (pc := 14) (lv1 := [(0, _), (1, _), (2, _), (3, _)]) C 3 dX1_placeInQueue_14 rfl (by decide) rfl ?_
    refine L_X1_placeInQueue C hb hn hc hj ?_ n 0 (by omega)
    refine X_iload_n (pc := 82) C 2 dX1_placeInQueue_82 rfl rfl ?_
    exact X_iret (pc := 83) C (Nat.zero_le _) (Nat.zero_le _) dX1_placeInQueue_83 ⟨by rw [if_pos h6], rfl⟩
  · skip
    refine X_iconst (pc := 9) (v := (-1)) C dX1_placeInQueue_9 (by decide) ?_
    exact X_iret (pc := 10) C (Nat.zero_le _) (Nat.zero_le _) dX1_placeInQueue_10 ⟨by rw [if_neg h6], rfl⟩

/-- Integer.bitCount, as its rows have it -/
def xus (x y : Int32) : Int32 := (x.toUInt32 >>> (y.toUInt32 &&& Int32.toUInt32 31)).toInt32
def xbc1 (i : Int32) : Int32 := i - (xus i 1 &&& 1431655765)
def xbc2 (i : Int32) : Int32 := (i &&& 858993459) + (xus i 2 &&& 858993459)
def xbc3 (i : Int32) : Int32 := (i + xus i 4) &&& 252645135
def xbc4 (i : Int32) : Int32 := i + xus i 8
def xbc5 (i : Int32) : Int32 := i + xus i 16
def xbc (i : Int32) : Int32 := xbc5 (xbc4 (xbc3 (xbc2 (xbc1 i)))) &&& 63
theorem xbc_in (x : Int32) : ∃ j : Nat, j < 64 ∧ xbc x = nI j := pk_andE _ (m := 63) 6 (by decide)
/-- Integer.numberOfLeadingZeros -/
def xnz (x : Int32) : Int32 :=
  if 0 < x then
    let a : Int32 × Int32 := if x < 65536 then (31, x) else (31 + -16, xus x 16)
    let b : Int32 × Int32 := if a.2 < 256 then a else (a.1 + -8, xus a.2 8)
    let c : Int32 × Int32 := if b.2 < 16 then b else (b.1 + -4, xus b.2 4)
    let d : Int32 × Int32 := if c.2 < 4 then c else (c.1 + -2, xus c.2 2)
    d.1 - xus d.2 1
  else if x = 0 then 32 else 0
def xbit (x : Int32) : Int32 := if 0 ≤ x then (1 : Int32) <<< (x &&& 31) else 0
def xtb (x : Int32) : Int32 := if 0 ≤ x then (1 : Int32) <<< ((6 + x) &&& 31) else 0
/-- the volume when k listen -/
def xvol : Nat → Int32
  | 0 => 100
  | k + 1 => xvol k - (xvol k + 9) / 10
set_option maxRecDepth 100000 in
set_option maxHeartbeats 4000000 in
theorem c_J6_bitCount (l : Launch) (P : XP) (σ : XS) (x : Int32) : XF l yJ6_bitCount_0f7a4 cJ6_bitCount_0f7a4 1 (some .int) rm_J6_bitCount_0f7a4 P [.int x] σ (some (.int (xbc x))) (σ) := by
  refine XM.of (by decide +kernel) (Nat.le_of_ble_eq_true rfl) (fun p e s m args below meth c A C => ?_)
  replace C : XC p s m args meth c P A 1 RJ6 cJ6_bitCount_0f7a4 (some .int) := C
  refine XW.eq (lv' := [(0, _)]) rfl rfl rfl ?_
  refine X_iload_n (pc := 0) C 0 dJ6_bitCount_0f7a4_0 rfl rfl ?_
  refine X_iload_n (pc := 1) C 0 dJ6_bitCount_0f7a4_1 rfl rfl ?_
  refine X_iconst (pc := 2) (v := 1) C dJ6_bitCount_0f7a4_2 (by decide) ?_
  refine X_iushr (pc := 3) C dJ6_bitCount_0f7a4_3 ?_
  refine X_ldcw (pc := 4) C m_k_J6_265 dJ6_bitCount_0f7a4_4 ?_
  refine X_iand (pc := 7) C dJ6_bitCount_0f7a4_7 ?_
  refine X_isub (pc := 8) C dJ6_bitCount_0f7a4_8 ?_
  refine X_istore_n (pc := 9) (lv1 := [(0, _)]) C 0 dJ6_bitCount_0f7a4_9 rfl (by decide) rfl ?_
  refine X_iload_n (pc := 10) C 0 dJ6_bitCount_0f7a4_10 rfl rfl ?_
  refine X_ldcw (pc := 11) C m_k_J6_266 dJ6_bitCount_0f7a4_11 ?_
  refine X_iand (pc := 14) C dJ6_bitCount_0f7a4_14 ?_
  refine X_iload_n (pc := 15) C 0 dJ6_bitCount_0f7a4_15 rfl rfl ?_
  refine X_iconst (pc := 16) (v := 2) C dJ6_bitCount_0f7a4_16 (by decide) ?_
  refine X_iushr (pc := 17) C dJ6_bitCount_0f7a4_17 ?_
  refine X_ldcw (pc := 18) C m_k_J6_266 dJ6_bitCount_0f7a4_18 ?_
  refine X_iand (pc := 21) C dJ6_bitCount_0f7a4_21 ?_
  refine X_iadd (pc := 22) C dJ6_bitCount_0f7a4_22 ?_
  refine X_istore_n (pc := 23) (lv1 := [(0, _)]) C 0 dJ6_bitCount_0f7a4_23 rfl (by decide) rfl ?_
  refine X_iload_n (pc := 24) C 0 dJ6_bitCount_0f7a4_24 rfl rfl ?_
  refine X_iload_n (pc := 25) C 0 dJ6_bitCount_0f7a4_25 rfl rfl ?_
  refine X_iconst (pc := 26) (v := 4) C dJ6_bitCount_0f7a4_26 (by decide) ?_
  refine X_iushr (pc := 27) C dJ6_bitCount_0f7a4_27 ?_
  refine X_iadd (pc := 28) C dJ6_bitCount_0f7a4_28 ?_
  refine X_ldcw (pc := 29) C m_k_J6_267 dJ6_bitCount_0f7a4_29 ?_
  refine X_iand (pc := 32) C dJ6_bitCount_0f7a4_32 ?_
  refine X_istore_n (pc := 33) (lv1 := [(0, _)]) C 0 dJ6_bitCount_0f7a4_33 rfl (by decide) rfl ?_
  refine X_iload_n (pc := 34) C 0 dJ6_bitCount_0f7a4_34 rfl rfl ?_
  refine X_iload_n (pc := 35) C 0 dJ6_bitCount_0f7a4_35 rfl rfl ?_
  refine X_bipush (pc := 36) (v := 8) C dJ6_bitCount_0f7a4_36 (by decide) ?_
  refine X_iushr (pc := 38) C dJ6_bitCount_0f7a4_38 ?_
  refine X_iadd (pc := 39) C dJ6_bitCount_0f7a4_39 ?_
  refine X_istore_n (pc := 40) (lv1 := [(0, _)]) C 0 dJ6_bitCount_0f7a4_40 rfl (by decide) rfl ?_
  refine X_iload_n (pc := 41) C 0 dJ6_bitCount_0f7a4_41 rfl rfl ?_
  refine X_iload_n (pc := 42) C 0 dJ6_bitCount_0f7a4_42 rfl rfl ?_
  refine X_bipush (pc := 43) (v := 16) C dJ6_bitCount_0f7a4_43 (by decide) ?_
  refine X_iushr (pc := 45) C dJ6_bitCount_0f7a4_45 ?_
  refine X_iadd (pc := 46) C dJ6_bitCount_0f7a4_46 ?_
  refine X_istore_n (pc := 47) (lv1 := [(0, _)]) C 0 dJ6_bitCount_0f7a4_47 rfl (by decide) rfl ?_
  refine X_iload_n (pc := 48) C 0 dJ6_bitCount_0f7a4_48 rfl rfl ?_
  refine X_bipush (pc := 49) (v := 63) C dJ6_bitCount_0f7a4_49 (by decide) ?_
  refine X_iand (pc := 51) C dJ6_bitCount_0f7a4_51 ?_
  exact X_iret (pc := 52) C (Nat.zero_le _) (Nat.zero_le _) dJ6_bitCount_0f7a4_52 ⟨rfl, rfl⟩

set_option maxRecDepth 100000 in
set_option maxHeartbeats 4000000 in
theorem c_J6_numberOfLeadingZeros (l : Launch) (P : XP) (σ : XS) (x : Int32) : XF l yJ6_numberOfLeadingZeros_0f7a4 cJ6_numberOfLeadingZeros_0f7a4 2 (some .int) rm_J6_numberOfLeadingZeros_0f7a4 P [.int x] σ (some (.int (xnz x))) (σ) := by
  refine XM.of (by decide +kernel) (Nat.le_of_ble_eq_true rfl) (fun p e s m args below meth c A C => ?_)
  replace C : XC p s m args meth c P A 2 RJ6 cJ6_numberOfLeadingZeros_0f7a4 (some .int) := C
  refine XW.eq (lv' := [(0, _)]) rfl rfl rfl ?_
  refine X_iload_n (pc := 0) C 0 dJ6_numberOfLeadingZeros_0f7a4_0 rfl rfl ?_
  refine X_if_gt (pc := 1) C 15 dJ6_numberOfLeadingZeros_0f7a4_1 (by decide) (fun h1 => ?_) (fun h1 => ?_)
  · skip
    refine X_bipush (pc := 15) (v := 31) C dJ6_numberOfLeadingZeros_0f7a4_15 (by decide) ?_
    refine X_istore_n (pc := 17) (lv1 := [(0, _), (1, _)]) C 1 dJ6_numberOfLeadingZeros_0f7a4_17 rfl (by decide) rfl ?_
    refine X_iload_n (pc := 18) C 0 dJ6_numberOfLeadingZeros_0f7a4_18 rfl rfl ?_
    refine X_ldcw (pc := 19) C m_k_J6_264 dJ6_numberOfLeadingZeros_0f7a4_19 ?_
    refine X_icmp_lt (pc := 22) C 33 dJ6_numberOfLeadingZeros_0f7a4_22 (by decide) (fun h22 => ?_) (fun h22 => ?_)
    · skip
      refine X_iload_n (pc := 33) C 0 dJ6_numberOfLeadingZeros_0f7a4_33 rfl rfl ?_
      refine X_sipush (pc := 34) (v := 256) C dJ6_numberOfLeadingZeros_0f7a4_34 (by decide) ?_
      refine X_icmp_lt (pc := 37) C 48 dJ6_numberOfLeadingZeros_0f7a4_37 (by decide) (fun h37 => ?_) (fun h37 => ?_)
      · skip
        refine X_iload_n (pc := 48) C 0 dJ6_numberOfLeadingZeros_0f7a4_48 rfl rfl ?_
        refine X_bipush (pc := 49) (v := 16) C dJ6_numberOfLeadingZeros_0f7a4_49 (by decide) ?_
        refine X_icmp_lt (pc := 51) C 61 dJ6_numberOfLeadingZeros_0f7a4_51 (by decide) (fun h51 => ?_) (fun h51 => ?_)
        · skip
          refine X_iload_n (pc := 61) C 0 dJ6_numberOfLeadingZeros_0f7a4_61 rfl rfl ?_
          refine X_iconst (pc := 62) (v := 4) C dJ6_numberOfLeadingZeros_0f7a4_62 (by decide) ?_
          refine X_icmp_lt (pc := 63) C 73 dJ6_numberOfLeadingZeros_0f7a4_63 (by decide) (fun h63 => ?_) (fun h63 => ?_)
          · skip
            refine X_iload_n (pc := 73) C 1 dJ6_numberOfLeadingZeros_0f7a4_73 rfl rfl ?_
            refine X_iload_n (pc := 74) C 0 dJ6_numberOfLeadingZeros_0f7a4_74 rfl rfl ?_
            refine X_iconst (pc := 75) (v := 1) C dJ6_numberOfLeadingZeros_0f7a4_75 (by decide) ?_
            refine X_iushr (pc := 76) C dJ6_numberOfLeadingZeros_0f7a4_76 ?_
            refine X_isub (pc := 77) C dJ6_numberOfLeadingZeros_0f7a4_77 ?_
            exact X_iret (pc := 78) C (Nat.zero_le _) (Nat.zero_le _) dJ6_numberOfLeadingZeros_0f7a4_78 ⟨by first | (rw [xnz, if_neg h1, if_pos h5]; done) | (rw [xnz, if_neg h1, if_neg h5]; done) | simp only [xnz, xus, h1, h22, h37, h51, h63, if_true, if_false], rfl⟩
          · skip
            refine X_iinc (pc := 66) (kk := (-2)) (lv1 := [(0, _), (1, _)]) C dJ6_numberOfLeadingZeros_0f7a4_66 rfl (by decide) (by decide) rfl ?_
            refine X_iload_n (pc := 69) C 0 dJ6_numberOfLeadingZeros_0f7a4_69 rfl rfl ?_
            refine X_iconst (pc := 70) (v := 2) C dJ6_numberOfLeadingZeros_0f7a4_70 (by decide) ?_
            refine X_iushr (pc := 71) C dJ6_numberOfLeadingZeros_0f7a4_71 ?_
            refine X_istore_n (pc := 72) (lv1 := [(0, _), (1, _)]) C 0 dJ6_numberOfLeadingZeros_0f7a4_72 rfl (by decide) rfl ?_
            refine X_iload_n (pc := 73) C 1 dJ6_numberOfLeadingZeros_0f7a4_73 rfl rfl ?_
            refine X_iload_n (pc := 74) C 0 dJ6_numberOfLeadingZeros_0f7a4_74 rfl rfl ?_
            refine X_iconst (pc := 75) (v := 1) C dJ6_numberOfLeadingZeros_0f7a4_75 (by decide) ?_
            refine X_iushr (pc := 76) C dJ6_numberOfLeadingZeros_0f7a4_76 ?_
            refine X_isub (pc := 77) C dJ6_numberOfLeadingZeros_0f7a4_77 ?_
            exact X_iret (pc := 78) C (Nat.zero_le _) (Nat.zero_le _) dJ6_numberOfLeadingZeros_0f7a4_78 ⟨by first | (rw [xnz, if_neg h1, if_pos h5]; done) | (rw [xnz, if_neg h1, if_neg h5]; done) | simp only [xnz, xus, h1, h22, h37, h51, h63, if_true, if_false], rfl⟩
        · skip
          refine X_iinc (pc := 54) (kk := (-4)) (lv1 := [(0, _), (1, _)]) C dJ6_numberOfLeadingZeros_0f7a4_54 rfl (by decide) (by decide) rfl ?_
          refine X_iload_n (pc := 57) C 0 dJ6_numberOfLeadingZeros_0f7a4_57 rfl rfl ?_
          refine X_iconst (pc := 58) (v := 4) C dJ6_numberOfLeadingZeros_0f7a4_58 (by decide) ?_
          refine X_iushr (pc := 59) C dJ6_numberOfLeadingZeros_0f7a4_59 ?_
          refine X_istore_n (pc := 60) (lv1 := [(0, _), (1, _)]) C 0 dJ6_numberOfLeadingZeros_0f7a4_60 rfl (by decide) rfl ?_
          refine X_iload_n (pc := 61) C 0 dJ6_numberOfLeadingZeros_0f7a4_61 rfl rfl ?_
          refine X_iconst (pc := 62) (v := 4) C dJ6_numberOfLeadingZeros_0f7a4_62 (by decide) ?_
          refine X_icmp_lt (pc := 63) C 73 dJ6_numberOfLeadingZeros_0f7a4_63 (by decide) (fun h63 => ?_) (fun h63 => ?_)
          · skip
            refine X_iload_n (pc := 73) C 1 dJ6_numberOfLeadingZeros_0f7a4_73 rfl rfl ?_
            refine X_iload_n (pc := 74) C 0 dJ6_numberOfLeadingZeros_0f7a4_74 rfl rfl ?_
            refine X_iconst (pc := 75) (v := 1) C dJ6_numberOfLeadingZeros_0f7a4_75 (by decide) ?_
            refine X_iushr (pc := 76) C dJ6_numberOfLeadingZeros_0f7a4_76 ?_
            refine X_isub (pc := 77) C dJ6_numberOfLeadingZeros_0f7a4_77 ?_
            exact X_iret (pc := 78) C (Nat.zero_le _) (Nat.zero_le _) dJ6_numberOfLeadingZeros_0f7a4_78 ⟨by first | (rw [xnz, if_neg h1, if_pos h5]; done) | (rw [xnz, if_neg h1, if_neg h5]; done) | simp only [xnz, xus, h1, h22, h37, h51, h63, if_true, if_false], rfl⟩
          · skip
            refine X_iinc (pc := 66) (kk := (-2)) (lv1 := [(0, _), (1, _)]) C dJ6_numberOfLeadingZeros_0f7a4_66 rfl (by decide) (by decide) rfl ?_
            refine X_iload_n (pc := 69) C 0 dJ6_numberOfLeadingZeros_0f7a4_69 rfl rfl ?_
            refine X_iconst (pc := 70) (v := 2) C dJ6_numberOfLeadingZeros_0f7a4_70 (by decide) ?_
            refine X_iushr (pc := 71) C dJ6_numberOfLeadingZeros_0f7a4_71 ?_
            refine X_istore_n (pc := 72) (lv1 := [(0, _), (1, _)]) C 0 dJ6_numberOfLeadingZeros_0f7a4_72 rfl (by decide) rfl ?_
            refine X_iload_n (pc := 73) C 1 dJ6_numberOfLeadingZeros_0f7a4_73 rfl rfl ?_
            refine X_iload_n (pc := 74) C 0 dJ6_numberOfLeadingZeros_0f7a4_74 rfl rfl ?_
            refine X_iconst (pc := 75) (v := 1) C dJ6_numberOfLeadingZeros_0f7a4_75 (by decide) ?_
            refine X_iushr (pc := 76) C dJ6_numberOfLeadingZeros_0f7a4_76 ?_
            refine X_isub (pc := 77) C dJ6_numberOfLeadingZeros_0f7a4_77 ?_
            exact X_iret (pc := 78) C (Nat.zero_le _) (Nat.zero_le _) dJ6_numberOfLeadingZeros_0f7a4_78 ⟨by first | (rw [xnz, if_neg h1, if_pos h5]; done) | (rw [xnz, if_neg h1, if_neg h5]; done) | simp only [xnz, xus, h1, h22, h37, h51, h63, if_true, if_false], rfl⟩
      · skip
        refine X_iinc (pc := 40) (kk := (-8)) (lv1 := [(0, _), (1, _)]) C dJ6_numberOfLeadingZeros_0f7a4_40 rfl (by decide) (by decide) rfl ?_
        refine X_iload_n (pc := 43) C 0 dJ6_numberOfLeadingZeros_0f7a4_43 rfl rfl ?_
        refine X_bipush (pc := 44) (v := 8) C dJ6_numberOfLeadingZeros_0f7a4_44 (by decide) ?_
        refine X_iushr (pc := 46) C dJ6_numberOfLeadingZeros_0f7a4_46 ?_
        refine X_istore_n (pc := 47) (lv1 := [(0, _), (1, _)]) C 0 dJ6_numberOfLeadingZeros_0f7a4_47 rfl (by decide) rfl ?_
        refine X_iload_n (pc := 48) C 0 dJ6_numberOfLeadingZeros_0f7a4_48 rfl rfl ?_
        refine X_bipush (pc := 49) (v := 16) C dJ6_numberOfLeadingZeros_0f7a4_49 (by decide) ?_
        refine X_icmp_lt (pc := 51) C 61 dJ6_numberOfLeadingZeros_0f7a4_51 (by decide) (fun h51 => ?_) (fun h51 => ?_)
        · skip
          refine X_iload_n (pc := 61) C 0 dJ6_numberOfLeadingZeros_0f7a4_61 rfl rfl ?_
          refine X_iconst (pc := 62) (v := 4) C dJ6_numberOfLeadingZeros_0f7a4_62 (by decide) ?_
          refine X_icmp_lt (pc := 63) C 73 dJ6_numberOfLeadingZeros_0f7a4_63 (by decide) (fun h63 => ?_) (fun h63 => ?_)
          · skip
            refine X_iload_n (pc := 73) C 1 dJ6_numberOfLeadingZeros_0f7a4_73 rfl rfl ?_
            refine X_iload_n (pc := 74) C 0 dJ6_numberOfLeadingZeros_0f7a4_74 rfl rfl ?_
            refine X_iconst (pc := 75) (v := 1) C dJ6_numberOfLeadingZeros_0f7a4_75 (by decide) ?_
            refine X_iushr (pc := 76) C dJ6_numberOfLeadingZeros_0f7a4_76 ?_
            refine X_isub (pc := 77) C dJ6_numberOfLeadingZeros_0f7a4_77 ?_
            exact X_iret (pc := 78) C (Nat.zero_le _) (Nat.zero_le _) dJ6_numberOfLeadingZeros_0f7a4_78 ⟨by first | (rw [xnz, if_neg h1, if_pos h5]; done) | (rw [xnz, if_neg h1, if_neg h5]; done) | simp only [xnz, xus, h1, h22, h37, h51, h63, if_true, if_false], rfl⟩
          · skip
            refine X_iinc (pc := 66) (kk := (-2)) (lv1 := [(0, _), (1, _)]) C dJ6_numberOfLeadingZeros_0f7a4_66 rfl (by decide) (by decide) rfl ?_
            refine X_iload_n (pc := 69) C 0 dJ6_numberOfLeadingZeros_0f7a4_69 rfl rfl ?_
            refine X_iconst (pc := 70) (v := 2) C dJ6_numberOfLeadingZeros_0f7a4_70 (by decide) ?_
            refine X_iushr (pc := 71) C dJ6_numberOfLeadingZeros_0f7a4_71 ?_
            refine X_istore_n (pc := 72) (lv1 := [(0, _), (1, _)]) C 0 dJ6_numberOfLeadingZeros_0f7a4_72 rfl (by decide) rfl ?_
            refine X_iload_n (pc := 73) C 1 dJ6_numberOfLeadingZeros_0f7a4_73 rfl rfl ?_
            refine X_iload_n (pc := 74) C 0 dJ6_numberOfLeadingZeros_0f7a4_74 rfl rfl ?_
            refine X_iconst (pc := 75) (v := 1) C dJ6_numberOfLeadingZeros_0f7a4_75 (by decide) ?_
            refine X_iushr (pc := 76) C dJ6_numberOfLeadingZeros_0f7a4_76 ?_
            refine X_isub (pc := 77) C dJ6_numberOfLeadingZeros_0f7a4_77 ?_
            exact X_iret (pc := 78) C (Nat.zero_le _) (Nat.zero_le _) dJ6_numberOfLeadingZeros_0f7a4_78 ⟨by first | (rw [xnz, if_neg h1, if_pos h5]; done) | (rw [xnz, if_neg h1, if_neg h5]; done) | simp only [xnz, xus, h1, h22, h37, h51, h63, if_true, if_false], rfl⟩
        · skip
          refine X_iinc (pc := 54) (kk := (-4)) (lv1 := [(0, _), (1, _)]) C dJ6_numberOfLeadingZeros_0f7a4_54 rfl (by decide) (by decide) rfl ?_
          refine X_iload_n (pc := 57) C 0 dJ6_numberOfLeadingZeros_0f7a4_57 rfl rfl ?_
          refine X_iconst (pc := 58) (v := 4) C dJ6_numberOfLeadingZeros_0f7a4_58 (by decide) ?_
          refine X_iushr (pc := 59) C dJ6_numberOfLeadingZeros_0f7a4_59 ?_
          refine X_istore_n (pc := 60) (lv1 := [(0, _), (1, _)]) C 0 dJ6_numberOfLeadingZeros_0f7a4_60 rfl (by decide) rfl ?_
          refine X_iload_n (pc := 61) C 0 dJ6_numberOfLeadingZeros_0f7a4_61 rfl rfl ?_
          refine X_iconst (pc := 62) (v := 4) C dJ6_numberOfLeadingZeros_0f7a4_62 (by decide) ?_
          refine X_icmp_lt (pc := 63) C 73 dJ6_numberOfLeadingZeros_0f7a4_63 (by decide) (fun h63 => ?_) (fun h63 => ?_)
          · skip
            refine X_iload_n (pc := 73) C 1 dJ6_numberOfLeadingZeros_0f7a4_73 rfl rfl ?_
            refine X_iload_n (pc := 74) C 0 dJ6_numberOfLeadingZeros_0f7a4_74 rfl rfl ?_
            refine X_iconst (pc := 75) (v := 1) C dJ6_numberOfLeadingZeros_0f7a4_75 (by decide) ?_
            refine X_iushr (pc := 76) C dJ6_numberOfLeadingZeros_0f7a4_76 ?_
            refine X_isub (pc := 77) C dJ6_numberOfLeadingZeros_0f7a4_77 ?_
            exact X_iret (pc := 78) C (Nat.zero_le _) (Nat.zero_le _) dJ6_numberOfLeadingZeros_0f7a4_78 ⟨by first | (rw [xnz, if_neg h1, if_pos h5]; done) | (rw [xnz, if_neg h1, if_neg h5]; done) | simp only [xnz, xus, h1, h22, h37, h51, h63, if_true, if_false], rfl⟩
          · skip
            refine X_iinc (pc := 66) (kk := (-2)) (lv1 := [(0, _), (1, _)]) C dJ6_numberOfLeadingZeros_0f7a4_66 rfl (by decide) (by decide) rfl ?_
            refine X_iload_n (pc := 69) C 0 dJ6_numberOfLeadingZeros_0f7a4_69 rfl rfl ?_
            refine X_iconst (pc := 70) (v := 2) C dJ6_numberOfLeadingZeros_0f7a4_70 (by decide) ?_
            refine X_iushr (pc := 71) C dJ6_numberOfLeadingZeros_0f7a4_71 ?_
            refine X_istore_n (pc := 72) (lv1 := [(0, _), (1, _)]) C 0 dJ6_numberOfLeadingZeros_0f7a4_72 rfl (by decide) rfl ?_
            refine X_iload_n (pc := 73) C 1 dJ6_numberOfLeadingZeros_0f7a4_73 rfl rfl ?_
            refine X_iload_n (pc := 74) C 0 dJ6_numberOfLeadingZeros_0f7a4_74 rfl rfl ?_
            refine X_iconst (pc := 75) (v := 1) C dJ6_numberOfLeadingZeros_0f7a4_75 (by decide) ?_
            refine X_iushr (pc := 76) C dJ6_numberOfLeadingZeros_0f7a4_76 ?_
            refine X_isub (pc := 77) C dJ6_numberOfLeadingZeros_0f7a4_77 ?_
            exact X_iret (pc := 78) C (Nat.zero_le _) (Nat.zero_le _) dJ6_numberOfLeadingZeros_0f7a4_78 ⟨by first | (rw [xnz, if_neg h1, if_pos h5]; done) | (rw [xnz, if_neg h1, if_neg h5]; done) | simp only [xnz, xus, h1, h22, h37, h51, h63, if_true, if_false], rfl⟩
    · skip
      refine X_iinc (pc := 25) (kk := (-16)) (lv1 := [(0, _), (1, _)]) C dJ6_numberOfLeadingZeros_0f7a4_25 rfl (by decide) (by decide) rfl ?_
      refine X_iload_n (pc := 28) C 0 dJ6_numberOfLeadingZeros_0f7a4_28 rfl rfl ?_
      refine X_bipush (pc := 29) (v := 16) C dJ6_numberOfLeadingZeros_0f7a4_29 (by decide) ?_
      refine X_iushr (pc := 31) C dJ6_numberOfLeadingZeros_0f7a4_31 ?_
      refine X_istore_n (pc := 32) (lv1 := [(0, _), (1, _)]) C 0 dJ6_numberOfLeadingZeros_0f7a4_32 rfl (by decide) rfl ?_
      refine X_iload_n (pc := 33) C 0 dJ6_numberOfLeadingZeros_0f7a4_33 rfl rfl ?_
      refine X_sipush (pc := 34) (v := 256) C dJ6_numberOfLeadingZeros_0f7a4_34 (by decide) ?_
      refine X_icmp_lt (pc := 37) C 48 dJ6_numberOfLeadingZeros_0f7a4_37 (by decide) (fun h37 => ?_) (fun h37 => ?_)
      · skip
        refine X_iload_n (pc := 48) C 0 dJ6_numberOfLeadingZeros_0f7a4_48 rfl rfl ?_
        refine X_bipush (pc := 49) (v := 16) C dJ6_numberOfLeadingZeros_0f7a4_49 (by decide) ?_
        refine X_icmp_lt (pc := 51) C 61 dJ6_numberOfLeadingZeros_0f7a4_51 (by decide) (fun h51 => ?_) (fun h51 => ?_)
        · skip
          refine X_iload_n (pc := 61) C 0 dJ6_numberOfLeadingZeros_0f7a4_61 rfl rfl ?_
          refine X_iconst (pc := 62) (v := 4) C dJ6_numberOfLeadingZeros_0f7a4_62 (by decide) ?_
          refine X_icmp_lt (pc := 63) C 73 dJ6_numberOfLeadingZeros_0f7a4_63 (by decide) (fun h63 => ?_) (fun h63 => ?_)
          · skip
            refine X_iload_n (pc := 73) C 1 dJ6_numberOfLeadingZeros_0f7a4_73 rfl rfl ?_
            refine X_iload_n (pc := 74) C 0 dJ6_numberOfLeadingZeros_0f7a4_74 rfl rfl ?_
            refine X_iconst (pc := 75) (v := 1) C dJ6_numberOfLeadingZeros_0f7a4_75 (by decide) ?_
            refine X_iushr (pc := 76) C dJ6_numberOfLeadingZeros_0f7a4_76 ?_
            refine X_isub (pc := 77) C dJ6_numberOfLeadingZeros_0f7a4_77 ?_
            exact X_iret (pc := 78) C (Nat.zero_le _) (Nat.zero_le _) dJ6_numberOfLeadingZeros_0f7a4_78 ⟨by first | (rw [xnz, if_neg h1, if_pos h5]; done) | (rw [xnz, if_neg h1, if_neg h5]; done) | simp only [xnz, xus, h1, h22, h37, h51, h63, if_true, if_false], rfl⟩
          · skip
            refine X_iinc (pc := 66) (kk := (-2)) (lv1 := [(0, _), (1, _)]) C dJ6_numberOfLeadingZeros_0f7a4_66 rfl (by decide) (by decide) rfl ?_
            refine X_iload_n (pc := 69) C 0 dJ6_numberOfLeadingZeros_0f7a4_69 rfl rfl ?_
            refine X_iconst (pc := 70) (v := 2) C dJ6_numberOfLeadingZeros_0f7a4_70 (by decide) ?_
            refine X_iushr (pc := 71) C dJ6_numberOfLeadingZeros_0f7a4_71 ?_
            refine X_istore_n (pc := 72) (lv1 := [(0, _), (1, _)]) C 0 dJ6_numberOfLeadingZeros_0f7a4_72 rfl (by decide) rfl ?_
            refine X_iload_n (pc := 73) C 1 dJ6_numberOfLeadingZeros_0f7a4_73 rfl rfl ?_
            refine X_iload_n (pc := 74) C 0 dJ6_numberOfLeadingZeros_0f7a4_74 rfl rfl ?_
            refine X_iconst (pc := 75) (v := 1) C dJ6_numberOfLeadingZeros_0f7a4_75 (by decide) ?_
            refine X_iushr (pc := 76) C dJ6_numberOfLeadingZeros_0f7a4_76 ?_
            refine X_isub (pc := 77) C dJ6_numberOfLeadingZeros_0f7a4_77 ?_
            exact X_iret (pc := 78) C (Nat.zero_le _) (Nat.zero_le _) dJ6_numberOfLeadingZeros_0f7a4_78 ⟨by first | (rw [xnz, if_neg h1, if_pos h5]; done) | (rw [xnz, if_neg h1, if_neg h5]; done) | simp only [xnz, xus, h1, h22, h37, h51, h63, if_true, if_false], rfl⟩
        · skip
          refine X_iinc (pc := 54) (kk := (-4)) (lv1 := [(0, _), (1, _)]) C dJ6_numberOfLeadingZeros_0f7a4_54 rfl (by decide) (by decide) rfl ?_
          refine X_iload_n (pc := 57) C 0 dJ6_numberOfLeadingZeros_0f7a4_57 rfl rfl ?_
          refine X_iconst (pc := 58) (v := 4) C dJ6_numberOfLeadingZeros_0f7a4_58 (by decide) ?_
          refine X_iushr (pc := 59) C dJ6_numberOfLeadingZeros_0f7a4_59 ?_
          refine X_istore_n (pc := 60) (lv1 := [(0, _), (1, _)]) C 0 dJ6_numberOfLeadingZeros_0f7a4_60 rfl (by decide) rfl ?_
          refine X_iload_n (pc := 61) C 0 dJ6_numberOfLeadingZeros_0f7a4_61 rfl rfl ?_
          refine X_iconst (pc := 62) (v := 4) C dJ6_numberOfLeadingZeros_0f7a4_62 (by decide) ?_
          refine X_icmp_lt (pc := 63) C 73 dJ6_numberOfLeadingZeros_0f7a4_63 (by decide) (fun h63 => ?_) (fun h63 => ?_)
          · skip
            refine X_iload_n (pc := 73) C 1 dJ6_numberOfLeadingZeros_0f7a4_73 rfl rfl ?_
            refine X_iload_n (pc := 74) C 0 dJ6_numberOfLeadingZeros_0f7a4_74 rfl rfl ?_
            refine X_iconst (pc := 75) (v := 1) C dJ6_numberOfLeadingZeros_0f7a4_75 (by decide) ?_
            refine X_iushr (pc := 76) C dJ6_numberOfLeadingZeros_0f7a4_76 ?_
            refine X_isub (pc := 77) C dJ6_numberOfLeadingZeros_0f7a4_77 ?_
            exact X_iret (pc := 78) C (Nat.zero_le _) (Nat.zero_le _) dJ6_numberOfLeadingZeros_0f7a4_78 ⟨by first | (rw [xnz, if_neg h1, if_pos h5]; done) | (rw [xnz, if_neg h1, if_neg h5]; done) | simp only [xnz, xus, h1, h22, h37, h51, h63, if_true, if_false], rfl⟩
          · skip
            refine X_iinc (pc := 66) (kk := (-2)) (lv1 := [(0, _), (1, _)]) C dJ6_numberOfLeadingZeros_0f7a4_66 rfl (by decide) (by decide) rfl ?_
            refine X_iload_n (pc := 69) C 0 dJ6_numberOfLeadingZeros_0f7a4_69 rfl rfl ?_
            refine X_iconst (pc := 70) (v := 2) C dJ6_numberOfLeadingZeros_0f7a4_70 (by decide) ?_
            refine X_iushr (pc := 71) C dJ6_numberOfLeadingZeros_0f7a4_71 ?_
            refine X_istore_n (pc := 72) (lv1 := [(0, _), (1, _)]) C 0 dJ6_numberOfLeadingZeros_0f7a4_72 rfl (by decide) rfl ?_
            refine X_iload_n (pc := 73) C 1 dJ6_numberOfLeadingZeros_0f7a4_73 rfl rfl ?_
            refine X_iload_n (pc := 74) C 0 dJ6_numberOfLeadingZeros_0f7a4_74 rfl rfl ?_
            refine X_iconst (pc := 75) (v := 1) C dJ6_numberOfLeadingZeros_0f7a4_75 (by decide) ?_
            refine X_iushr (pc := 76) C dJ6_numberOfLeadingZeros_0f7a4_76 ?_
            refine X_isub (pc := 77) C dJ6_numberOfLeadingZeros_0f7a4_77 ?_
            exact X_iret (pc := 78) C (Nat.zero_le _) (Nat.zero_le _) dJ6_numberOfLeadingZeros_0f7a4_78 ⟨by first | (rw [xnz, if_neg h1, if_pos h5]; done) | (rw [xnz, if_neg h1, if_neg h5]; done) | simp only [xnz, xus, h1, h22, h37, h51, h63, if_true, if_false], rfl⟩
      · skip
        refine X_iinc (pc := 40) (kk := (-8)) (lv1 := [(0, _), (1, _)]) C dJ6_numberOfLeadingZeros_0f7a4_40 rfl (by decide) (by decide) rfl ?_
        refine X_iload_n (pc := 43) C 0 dJ6_numberOfLeadingZeros_0f7a4_43 rfl rfl ?_
        refine X_bipush (pc := 44) (v := 8) C dJ6_numberOfLeadingZeros_0f7a4_44 (by decide) ?_
        refine X_iushr (pc := 46) C dJ6_numberOfLeadingZeros_0f7a4_46 ?_
        refine X_istore_n (pc := 47) (lv1 := [(0, _), (1, _)]) C 0 dJ6_numberOfLeadingZeros_0f7a4_47 rfl (by decide) rfl ?_
        refine X_iload_n (pc := 48) C 0 dJ6_numberOfLeadingZeros_0f7a4_48 rfl rfl ?_
        refine X_bipush (pc := 49) (v := 16) C dJ6_numberOfLeadingZeros_0f7a4_49 (by decide) ?_
        refine X_icmp_lt (pc := 51) C 61 dJ6_numberOfLeadingZeros_0f7a4_51 (by decide) (fun h51 => ?_) (fun h51 => ?_)
        · skip
          refine X_iload_n (pc := 61) C 0 dJ6_numberOfLeadingZeros_0f7a4_61 rfl rfl ?_
          refine X_iconst (pc := 62) (v := 4) C dJ6_numberOfLeadingZeros_0f7a4_62 (by decide) ?_
          refine X_icmp_lt (pc := 63) C 73 dJ6_numberOfLeadingZeros_0f7a4_63 (by decide) (fun h63 => ?_) (fun h63 => ?_)
          · skip
            refine X_iload_n (pc := 73) C 1 dJ6_numberOfLeadingZeros_0f7a4_73 rfl rfl ?_
            refine X_iload_n (pc := 74) C 0 dJ6_numberOfLeadingZeros_0f7a4_74 rfl rfl ?_
            refine X_iconst (pc := 75) (v := 1) C dJ6_numberOfLeadingZeros_0f7a4_75 (by decide) ?_
            refine X_iushr (pc := 76) C dJ6_numberOfLeadingZeros_0f7a4_76 ?_
            refine X_isub (pc := 77) C dJ6_numberOfLeadingZeros_0f7a4_77 ?_
            exact X_iret (pc := 78) C (Nat.zero_le _) (Nat.zero_le _) dJ6_numberOfLeadingZeros_0f7a4_78 ⟨by first | (rw [xnz, if_neg h1, if_pos h5]; done) | (rw [xnz, if_neg h1, if_neg h5]; done) | simp only [xnz, xus, h1, h22, h37, h51, h63, if_true, if_false], rfl⟩
          · skip
            refine X_iinc (pc := 66) (kk := (-2)) (lv1 := [(0, _), (1, _)]) C dJ6_numberOfLeadingZeros_0f7a4_66 rfl (by decide) (by decide) rfl ?_
            refine X_iload_n (pc := 69) C 0 dJ6_numberOfLeadingZeros_0f7a4_69 rfl rfl ?_
            refine X_iconst (pc := 70) (v := 2) C dJ6_numberOfLeadingZeros_0f7a4_70 (by decide) ?_
            refine X_iushr (pc := 71) C dJ6_numberOfLeadingZeros_0f7a4_71 ?_
            refine X_istore_n (pc := 72) (lv1 := [(0, _), (1, _)]) C 0 dJ6_numberOfLeadingZeros_0f7a4_72 rfl (by decide) rfl ?_
            refine X_iload_n (pc := 73) C 1 dJ6_numberOfLeadingZeros_0f7a4_73 rfl rfl ?_
            refine X_iload_n (pc := 74) C 0 dJ6_numberOfLeadingZeros_0f7a4_74 rfl rfl ?_
            refine X_iconst (pc := 75) (v := 1) C dJ6_numberOfLeadingZeros_0f7a4_75 (by decide) ?_
            refine X_iushr (pc := 76) C dJ6_numberOfLeadingZeros_0f7a4_76 ?_
            refine X_isub (pc := 77) C dJ6_numberOfLeadingZeros_0f7a4_77 ?_
            exact X_iret (pc := 78) C (Nat.zero_le _) (Nat.zero_le _) dJ6_numberOfLeadingZeros_0f7a4_78 ⟨by first | (rw [xnz, if_neg h1, if_pos h5]; done) | (rw [xnz, if_neg h1, if_neg h5]; done) | simp only [xnz, xus, h1, h22, h37, h51, h63, if_true, if_false], rfl⟩
        · skip
          refine X_iinc (pc := 54) (kk := (-4)) (lv1 := [(0, _), (1, _)]) C dJ6_numberOfLeadingZeros_0f7a4_54 rfl (by decide) (by decide) rfl ?_
          refine X_iload_n (pc := 57) C 0 dJ6_numberOfLeadingZeros_0f7a4_57 rfl rfl ?_
          refine X_iconst (pc := 58) (v := 4) C dJ6_numberOfLeadingZeros_0f7a4_58 (by decide) ?_
          refine X_iushr (pc := 59) C dJ6_numberOfLeadingZeros_0f7a4_59 ?_
          refine X_istore_n (pc := 60) (lv1 := [(0, _), (1, _)]) C 0 dJ6_numberOfLeadingZeros_0f7a4_60 rfl (by decide) rfl ?_
          refine X_iload_n (pc := 61) C 0 dJ6_numberOfLeadingZeros_0f7a4_61 rfl rfl ?_
          refine X_iconst (pc := 62) (v := 4) C dJ6_numberOfLeadingZeros_0f7a4_62 (by decide) ?_
          refine X_icmp_lt (pc := 63) C 73 dJ6_numberOfLeadingZeros_0f7a4_63 (by decide) (fun h63 => ?_) (fun h63 => ?_)
          · skip
            refine X_iload_n (pc := 73) C 1 dJ6_numberOfLeadingZeros_0f7a4_73 rfl rfl ?_
            refine X_iload_n (pc := 74) C 0 dJ6_numberOfLeadingZeros_0f7a4_74 rfl rfl ?_
            refine X_iconst (pc := 75) (v := 1) C dJ6_numberOfLeadingZeros_0f7a4_75 (by decide) ?_
            refine X_iushr (pc := 76) C dJ6_numberOfLeadingZeros_0f7a4_76 ?_
            refine X_isub (pc := 77) C dJ6_numberOfLeadingZeros_0f7a4_77 ?_
            exact X_iret (pc := 78) C (Nat.zero_le _) (Nat.zero_le _) dJ6_numberOfLeadingZeros_0f7a4_78 ⟨by first | (rw [xnz, if_neg h1, if_pos h5]; done) | (rw [xnz, if_neg h1, if_neg h5]; done) | simp only [xnz, xus, h1, h22, h37, h51, h63, if_true, if_false], rfl⟩
          · skip
            refine X_iinc (pc := 66) (kk := (-2)) (lv1 := [(0, _), (1, _)]) C dJ6_numberOfLeadingZeros_0f7a4_66 rfl (by decide) (by decide) rfl ?_
            refine X_iload_n (pc := 69) C 0 dJ6_numberOfLeadingZeros_0f7a4_69 rfl rfl ?_
            refine X_iconst (pc := 70) (v := 2) C dJ6_numberOfLeadingZeros_0f7a4_70 (by decide) ?_
            refine X_iushr (pc := 71) C dJ6_numberOfLeadingZeros_0f7a4_71 ?_
            refine X_istore_n (pc := 72) (lv1 := [(0, _), (1, _)]) C 0 dJ6_numberOfLeadingZeros_0f7a4_72 rfl (by decide) rfl ?_
            refine X_iload_n (pc := 73) C 1 dJ6_numberOfLeadingZeros_0f7a4_73 rfl rfl ?_
            refine X_iload_n (pc := 74) C 0 dJ6_numberOfLeadingZeros_0f7a4_74 rfl rfl ?_
            refine X_iconst (pc := 75) (v := 1) C dJ6_numberOfLeadingZeros_0f7a4_75 (by decide) ?_
            refine X_iushr (pc := 76) C dJ6_numberOfLeadingZeros_0f7a4_76 ?_
            refine X_isub (pc := 77) C dJ6_numberOfLeadingZeros_0f7a4_77 ?_
            exact X_iret (pc := 78) C (Nat.zero_le _) (Nat.zero_le _) dJ6_numberOfLeadingZeros_0f7a4_78 ⟨by first | (rw [xnz, if_neg h1, if_pos h5]; done) | (rw [xnz, if_neg h1, if_neg h5]; done) | simp only [xnz, xus, h1, h22, h37, h51, h63, if_true, if_false], rfl⟩
  · skip
    refine X_iload_n (pc := 4) C 0 dJ6_numberOfLeadingZeros_0f7a4_4 rfl rfl ?_
    refine X_if_ne (pc := 5) C 13 dJ6_numberOfLeadingZeros_0f7a4_5 (by decide) (fun h5 => ?_) (fun h5 => ?_)
    · skip
      refine X_iconst (pc := 13) (v := 0) C dJ6_numberOfLeadingZeros_0f7a4_13 (by decide) ?_
      exact X_iret (pc := 14) C (Nat.zero_le _) (Nat.zero_le _) dJ6_numberOfLeadingZeros_0f7a4_14 ⟨by first | (rw [xnz, if_neg h1, if_pos h5]; done) | (rw [xnz, if_neg h1, if_neg h5]; done) | simp only [xnz, xus, h1, h22, h37, h51, h63, if_true, if_false], rfl⟩
    · skip
      refine X_bipush (pc := 8) (v := 32) C dJ6_numberOfLeadingZeros_0f7a4_8 (by decide) ?_
      refine X_goto (pc := 10) C 14 dJ6_numberOfLeadingZeros_0f7a4_10 (by decide) ?_
      exact X_iret (pc := 14) C (Nat.zero_le _) (Nat.zero_le _) dJ6_numberOfLeadingZeros_0f7a4_14 ⟨by first | (rw [xnz, if_neg h1, if_pos h5]; done) | (rw [xnz, if_neg h1, if_neg h5]; done) | simp only [xnz, xus, h1, h22, h37, h51, h63, if_true, if_false], rfl⟩

set_option maxRecDepth 100000 in
set_option maxHeartbeats 4000000 in
theorem c_X6_bit (l : Launch) (P : XP) (σ : XS) (x : Int32) : XF l yX6_bit cX6_bit 1 (some .int) rm_X6_bit P [.int x] σ (some (.int (xbit x))) (σ) := by
  refine XM.of (by decide +kernel) (Nat.le_of_ble_eq_true rfl) (fun p e s m args below meth c A C => ?_)
  replace C : XC p s m args meth c P A 1 RX6 cX6_bit (some .int) := C
  refine XW.eq (lv' := [(0, _)]) rfl rfl rfl ?_
  refine X_iload_n (pc := 0) C 0 dX6_bit_0 rfl rfl ?_
  refine X_if_ge (pc := 1) C 8 dX6_bit_1 (by decide) (fun h1 => ?_) (fun h1 => ?_)
  · skip
    refine X_iconst (pc := 8) (v := 1) C dX6_bit_8 (by decide) ?_
    refine X_iload_n (pc := 9) C 0 dX6_bit_9 rfl rfl ?_
    refine X_ishl (pc := 10) C dX6_bit_10 ?_
    exact X_iret (pc := 11) C (Nat.zero_le _) (Nat.zero_le _) dX6_bit_11 ⟨by rw [xbit, if_pos h1], rfl⟩
  · skip
    refine X_iconst (pc := 4) (v := 0) C dX6_bit_4 (by decide) ?_
    refine X_goto (pc := 5) C 11 dX6_bit_5 (by decide) ?_
    exact X_iret (pc := 11) C (Nat.zero_le _) (Nat.zero_le _) dX6_bit_11 ⟨by rw [xbit, if_neg h1], rfl⟩

set_option maxRecDepth 100000 in
set_option maxHeartbeats 4000000 in
theorem c_X6_trunkBit (l : Launch) (P : XP) (σ : XS) (x : Int32) : XF l yX6_trunkBit cX6_trunkBit 1 (some .int) rm_X6_trunkBit P [.int x] σ (some (.int (xtb x))) (σ) := by
  refine XM.of (by decide +kernel) (Nat.le_of_ble_eq_true rfl) (fun p e s m args below meth c A C => ?_)
  replace C : XC p s m args meth c P A 1 RX6 cX6_trunkBit (some .int) := C
  refine XW.eq (lv' := [(0, _)]) rfl rfl rfl ?_
  refine X_iload_n (pc := 0) C 0 dX6_trunkBit_0 rfl rfl ?_
  refine X_if_ge (pc := 1) C 8 dX6_trunkBit_1 (by decide) (fun h1 => ?_) (fun h1 => ?_)
  · skip
    refine X_iconst (pc := 8) (v := 1) C dX6_trunkBit_8 (by decide) ?_
    refine X_bipush (pc := 9) (v := 6) C dX6_trunkBit_9 (by decide) ?_
    refine X_iload_n (pc := 11) C 0 dX6_trunkBit_11 rfl rfl ?_
    refine X_iadd (pc := 12) C dX6_trunkBit_12 ?_
    refine X_ishl (pc := 13) C dX6_trunkBit_13 ?_
    exact X_iret (pc := 14) C (Nat.zero_le _) (Nat.zero_le _) dX6_trunkBit_14 ⟨by rw [xtb, if_pos h1], rfl⟩
  · skip
    refine X_iconst (pc := 4) (v := 0) C dX6_trunkBit_4 (by decide) ?_
    refine X_goto (pc := 5) C 14 dX6_trunkBit_5 (by decide) ?_
    exact X_iret (pc := 14) C (Nat.zero_le _) (Nat.zero_le _) dX6_trunkBit_14 ⟨by rw [xtb, if_neg h1], rfl⟩

set_option maxRecDepth 100000 in
set_option maxHeartbeats 4000000 in
theorem c_X6_ringsIn (l : Launch) (P : XP) (σ : XS) (x : Int32) : XF l yX6_ringsIn cX6_ringsIn 1 (some .int) rm_X6_ringsIn P [.int x] σ (some (.int (31 - xnz x))) (σ) := by
  refine XM.of (by decide +kernel) (Nat.le_of_ble_eq_true rfl) (fun p e s m args below meth c A C => ?_)
  replace C : XC p s m args meth c P A 1 RX6 cX6_ringsIn (some .int) := C
  refine XW.eq (lv' := [(0, _)]) rfl rfl rfl ?_
  refine X_bipush (pc := 0) (v := 31) C dX6_ringsIn_0 (by decide) ?_
  refine X_iload_n (pc := 2) C 0 dX6_ringsIn_2 rfl rfl ?_
  refine K_X6_346 (pc := 3) C (c_J6_numberOfLeadingZeros l P σ x) ⟨Nat.le_of_ble_eq_true rfl, Nat.le_of_ble_eq_true rfl⟩ ⟨rfl, rfl⟩ ⟨Nat.zero_le _, Nat.zero_le _⟩ (Nat.le_of_ble_eq_true rfl) dX6_ringsIn_3 ?_
  refine X_isub (pc := 6) C dX6_ringsIn_6 ?_
  exact X_iret (pc := 7) C (Nat.zero_le _) (Nat.zero_le _) dX6_ringsIn_7 ⟨rfl, rfl⟩

section XMATH
variable {own : String}
theorem X_mmax (C : XC p s m args meth c P A nL own cc ret) {idx : Nat} {x y : Int32} (hm : Cond.methodLink own idx yJ9_max_7cf53 ∈ xTB) (hfr : 1 ≤ R.frames) (hlo : (st.map fun v => v.category).sum + 13 ≤ R.locals) (hcl : cells ≤ R.cells ∧ slots ≤ R.slots) (d : decode cc pc = .ok (.invokestatic idx, 3)) (k : XW p l e R s m args below meth c P A nL cells slots Q σ (pc + 3) lv (.int (if x < y then y else x) :: st)) : XW p l e R s m args below meth c P A nL cells slots Q σ pc lv (.int y :: .int x :: st) := fun H locs ls hP hS hl => va_mmax C.1 C.2.1 (C.2.2.1.trans hl.1.symm) C.2.2.2.1 (C.hts _ hm) (C.hts _ m_t_J9_max_7cf53) (C.hts _ m_n_J9) (C.hts _ m_c_J9_max_7cf53) hfr hlo hcl.1 hcl.2 d (k H locs ls hP hS hl)
theorem X_mmin (C : XC p s m args meth c P A nL own cc ret) {idx : Nat} {x y : Int32} (hm : Cond.methodLink own idx yJ9_min_7cf53 ∈ xTB) (hfr : 1 ≤ R.frames) (hlo : (st.map fun v => v.category).sum + 13 ≤ R.locals) (hcl : cells ≤ R.cells ∧ slots ≤ R.slots) (d : decode cc pc = .ok (.invokestatic idx, 3)) (k : XW p l e R s m args below meth c P A nL cells slots Q σ (pc + 3) lv (.int (if y < x then y else x) :: st)) : XW p l e R s m args below meth c P A nL cells slots Q σ pc lv (.int y :: .int x :: st) := fun H locs ls hP hS hl => va_mmin C.1 C.2.1 (C.2.2.1.trans hl.1.symm) C.2.2.2.1 (C.hts _ hm) (C.hts _ m_t_J9_min_7cf53) (C.hts _ m_n_J9) (C.hts _ m_c_J9_min_7cf53) hfr hlo hcl.1 hcl.2 d (k H locs ls hP hS hl)
theorem X_mabs (C : XC p s m args meth c P A nL own cc ret) {idx : Nat} {x : Int32} (hm : Cond.methodLink own idx yJ9_abs_0f7a4 ∈ xTB) (hfr : 1 ≤ R.frames) (hlo : (st.map fun v => v.category).sum + 13 ≤ R.locals) (hcl : cells ≤ R.cells ∧ slots ≤ R.slots) (d : decode cc pc = .ok (.invokestatic idx, 3)) (k : XW p l e R s m args below meth c P A nL cells slots Q σ (pc + 3) lv (.int (if 0 ≤ x then x else 0 - x) :: st)) : XW p l e R s m args below meth c P A nL cells slots Q σ pc lv (.int x :: st) := fun H locs ls hP hS hl => va_mabs C.1 C.2.1 (C.2.2.1.trans hl.1.symm) C.2.2.2.1 (C.hts _ hm) (C.hts _ m_t_J9_abs_0f7a4) (C.hts _ m_n_J9) (C.hts _ m_c_J9_abs_0f7a4) hfr hlo hcl.1 hcl.2 d (k H locs ls hP hS hl)
end XMATH
set_option maxRecDepth 100000 in
set_option maxHeartbeats 4000000 in
theorem L_X6_volumeWith (C : XC p s m args meth c P A 3 RX6 cX6_volumeWith (some .int)) {x0 : Int32} {N : Nat} (hN : N ≤ 64) (kx : XW p l e rm_X6_volumeWith s m args below meth c P A 3 0 0 Q σ 28 [(0, .int x0), (1, .int (xvol N)), (2, .int (nI 0))] []) : ∀ (k i : Nat), i + k = N → XW p l e rm_X6_volumeWith s m args below meth c P A 3 0 0 Q σ 8 [(0, .int x0), (1, .int (xvol i)), (2, .int (nI k))] [] := by
  intro k
  induction k with
  | zero =>
    intro i hi
    have e9 : i = N := by omega
    subst e9
    refine X_iload_n (pc := 8) C 2 dX6_volumeWith_8 rfl rfl ?_
    refine X_if_le (pc := 9) C 28 dX6_volumeWith_9 (by decide) (fun h9 => ?_) (fun h9 => ?_)
    · skip
      exact kx
    · exact absurd (by decide) h9
  | succ k ih =>
    intro i hi
    refine X_iload_n (pc := 8) C 2 dX6_volumeWith_8 rfl rfl ?_
    refine X_if_le (pc := 9) C 28 dX6_volumeWith_9 (by decide) (fun h9 => ?_) (fun h9 => ?_)
    · exact absurd h9 (nI_nle (by omega) (n31 (by omega)))
    · skip
      refine X_iload_n (pc := 12) C 1 dX6_volumeWith_12 rfl rfl ?_
      refine X_iload_n (pc := 13) C 1 dX6_volumeWith_13 rfl rfl ?_
      refine X_bipush (pc := 14) (v := 9) C dX6_volumeWith_14 (by decide) ?_
      refine X_iadd (pc := 16) C dX6_volumeWith_16 ?_
      refine X_bipush (pc := 17) (v := 10) C dX6_volumeWith_17 (by decide) ?_
      refine X_idiv (pc := 19) C dX6_volumeWith_19 (by decide) ?_
      refine X_isub (pc := 20) C dX6_volumeWith_20 ?_
      refine X_istore_n (pc := 21) (lv1 := [(0, _), (1, _), (2, _)]) C 1 dX6_volumeWith_21 rfl (by decide) rfl ?_
      refine X_iinc (pc := 22) (kk := (-1)) (lv1 := [(0, _), (1, _), (2, _)]) C dX6_volumeWith_22 rfl (by decide) (by decide) rfl ?_
      refine X_goto (pc := 25) C 8 dX6_volumeWith_25 (by decide) ?_
      exact XW.eq rfl (by rw [pk_m1]; rfl) rfl (ih (i + 1) (by omega))

/-- the volume where the set x listens -/
def xvolW (x : Int32) : Int32 := xvol (xbc x).toNatClampNeg
set_option maxRecDepth 100000 in
set_option maxHeartbeats 4000000 in
theorem c_X6_volumeWith (l : Launch) (P : XP) (σ : XS) (x : Int32) : XF l yX6_volumeWith cX6_volumeWith 3 (some .int) rm_X6_volumeWith P [.int x] σ (some (.int (xvolW x))) (σ) := by
  refine XM.of (by decide +kernel) (Nat.le_of_ble_eq_true rfl) (fun p e s m args below meth c A C => ?_)
  replace C : XC p s m args meth c P A 3 RX6 cX6_volumeWith (some .int) := C
  refine XW.eq (lv' := [(0, _)]) rfl rfl rfl ?_
  refine X_bipush (pc := 0) (v := 100) C dX6_volumeWith_0 (by decide) ?_
  refine X_istore_n (pc := 2) (lv1 := [(0, _), (1, _)]) C 1 dX6_volumeWith_2 rfl (by decide) rfl ?_
  refine X_iload_n (pc := 3) C 0 dX6_volumeWith_3 rfl rfl ?_
  refine K_X6_225 (pc := 4) C (c_J6_bitCount l P σ x) ⟨Nat.le_of_ble_eq_true rfl, Nat.le_of_ble_eq_true rfl⟩ ⟨rfl, rfl⟩ ⟨Nat.zero_le _, Nat.zero_le _⟩ (Nat.le_of_ble_eq_true rfl) dX6_volumeWith_4 ?_
  refine X_istore_n (pc := 7) (lv1 := [(0, _), (1, _), (2, _)]) C 2 dX6_volumeWith_7 rfl (by decide) rfl ?_
  obtain ⟨N, hN, eN⟩ := xbc_in x
  rw [eN]
  refine L_X6_volumeWith C (N := N) (by omega) ?_ N 0 (by omega)
  refine X_iload_n (pc := 28) C 1 dX6_volumeWith_28 rfl rfl ?_
  exact X_iret (pc := 29) C (Nat.zero_le _) (Nat.zero_le _) dX6_volumeWith_29 ⟨by rw [xvolW, eN, nI_clamp (n31 (by omega))], rfl⟩

/-- letter k of a name -/
def xlet (x : Int64) (k : Nat) : Int32 := (x >>> ((nI (8 * k)).toInt64 &&& 63)).toInt32 &&& 255
/-- what more than one of the first n talking calls uses -/
def cShared (st us : Nat → Int32) : Nat → Int32
  | 0 => 0
  | k + 1 => if st k = 1 then cShared st us k ||| (cBusy st us k &&& us k) else cShared st us k
set_option maxRecDepth 100000 in
set_option maxHeartbeats 4000000 in
theorem L_X1_countShared (C : XC p s m args meth c P A 4 RX1 cX1_countShared (some .int)) {b n : Nat} (hb : xIn P b) (hn : n ≤ 40) (hc : σ.1 (.inl (b, 8)) 10 = nI n) (kx : XW p l e rm_X1_countShared s m args below meth c P A 4 0 0 Q σ 50 [(0, .ref (P.2.2.1 (.inl (b, 8)))), (1, .int (cBusy (σ.1 (.inl (b, 9))) (σ.1 (.inl (b, 14))) n)), (2, .int (cShared (σ.1 (.inl (b, 9))) (σ.1 (.inl (b, 14))) n)), (3, .int (nI n))] []) : ∀ (k i : Nat), i + k = n → XW p l e rm_X1_countShared s m args below meth c P A 4 0 0 Q σ 6 [(0, .ref (P.2.2.1 (.inl (b, 8)))), (1, .int (cBusy (σ.1 (.inl (b, 9))) (σ.1 (.inl (b, 14))) i)), (2, .int (cShared (σ.1 (.inl (b, 9))) (σ.1 (.inl (b, 14))) i)), (3, .int (nI i))] [] := by
  intro k
  induction k with
  | zero =>
    intro i hi
    have e9 : i = n := by omega
    subst e9
    refine X_iload_n (pc := 6) C 3 dX1_countShared_6 rfl rfl ?_
    refine X_aload_n (pc := 7) C 0 dX1_countShared_7 rfl rfl ?_
    refine G_X1_49 (pc := 8) C (by assumption) dX1_countShared_8 ?_
    rw [hc]
    refine X_icmp_ge (pc := 11) C 50 dX1_countShared_11 (by decide) (fun h11 => ?_) (fun h11 => ?_)
    · skip
      exact kx
    · exact absurd (nI_le (Nat.le_refl _) (n31 (by omega))) h11
  | succ k ih =>
    intro i hi
    have hlt : i < n := by omega
    refine X_iload_n (pc := 6) C 3 dX1_countShared_6 rfl rfl ?_
    refine X_aload_n (pc := 7) C 0 dX1_countShared_7 rfl rfl ?_
    refine G_X1_49 (pc := 8) C (by assumption) dX1_countShared_8 ?_
    rw [hc]
    refine X_icmp_ge (pc := 11) C 50 dX1_countShared_11 (by decide) (fun h11 => ?_) (fun h11 => ?_)
    · exact absurd (nle h11) (by omega)
    · skip
      refine X_aload_n (pc := 14) C 0 dX1_countShared_14 rfl rfl ?_
      refine G_X1_9 (pc := 15) C (by assumption) dX1_countShared_15 ?_
      refine X_iload_n (pc := 18) C 3 dX1_countShared_18 rfl rfl ?_
      refine X_ialdN (pc := 19) C (by first | exact hb _ (by decide)) rfl (by omega) (by decide) dX1_countShared_19 ?_
      refine X_iconst (pc := 20) (v := 1) C dX1_countShared_20 (by decide) ?_
      refine X_icmp_ne (pc := 21) C 44 dX1_countShared_21 (by decide) (fun h21 => ?_) (fun h21 => ?_)
      · skip
        first | refine X_iincN (pc := 44) (lv1 := [(0, _), (1, _), (2, _), (3, _)]) C dX1_countShared_44 rfl (by decide) (by decide) rfl ?_ | refine X_iinc (pc := 44) (kk := 1) (lv1 := [(0, _), (1, _), (2, _), (3, _)]) C dX1_countShared_44 rfl (by decide) (by decide) rfl ?_
        refine X_goto (pc := 47) C 6 dX1_countShared_47 (by decide) ?_
        exact XW.eq rfl (by simp [cBusy, cShared, h21]) rfl (ih (i + 1) (by omega))
      · skip
        refine X_iload_n (pc := 24) C 2 dX1_countShared_24 rfl rfl ?_
        refine X_iload_n (pc := 25) C 1 dX1_countShared_25 rfl rfl ?_
        refine X_aload_n (pc := 26) C 0 dX1_countShared_26 rfl rfl ?_
        refine G_X1_28 (pc := 27) C (by assumption) dX1_countShared_27 ?_
        refine X_iload_n (pc := 30) C 3 dX1_countShared_30 rfl rfl ?_
        refine X_ialdN (pc := 31) C (by first | exact hb _ (by decide)) rfl (by omega) (by decide) dX1_countShared_31 ?_
        refine X_iand (pc := 32) C dX1_countShared_32 ?_
        refine X_ior (pc := 33) C dX1_countShared_33 ?_
        refine X_istore_n (pc := 34) (lv1 := [(0, _), (1, _), (2, _), (3, _)]) C 2 dX1_countShared_34 rfl (by decide) rfl ?_
        refine X_iload_n (pc := 35) C 1 dX1_countShared_35 rfl rfl ?_
        refine X_aload_n (pc := 36) C 0 dX1_countShared_36 rfl rfl ?_
        refine G_X1_28 (pc := 37) C (by assumption) dX1_countShared_37 ?_
        refine X_iload_n (pc := 40) C 3 dX1_countShared_40 rfl rfl ?_
        refine X_ialdN (pc := 41) C (by first | exact hb _ (by decide)) rfl (by omega) (by decide) dX1_countShared_41 ?_
        refine X_ior (pc := 42) C dX1_countShared_42 ?_
        refine X_istore_n (pc := 43) (lv1 := [(0, _), (1, _), (2, _), (3, _)]) C 1 dX1_countShared_43 rfl (by decide) rfl ?_
        first | refine X_iincN (pc := 44) (lv1 := [(0, _), (1, _), (2, _), (3, _)]) C dX1_countShared_44 rfl (by decide) (by decide) rfl ?_ | refine X_iinc (pc := 44) (kk := 1) (lv1 := [(0, _), (1, _), (2, _), (3, _)]) C dX1_countShared_44 rfl (by decide) (by decide) rfl ?_
        refine X_goto (pc := 47) C 6 dX1_countShared_47 (by decide) ?_
        exact XW.eq rfl (by simp [cBusy, cShared, h21]) rfl (ih (i + 1) (by omega))

set_option maxRecDepth 100000 in
set_option maxHeartbeats 4000000 in
theorem c_X1_countShared (l : Launch) (P : XP) (σ : XS) (b n : Nat) (hb : xIn P b) (hn : n ≤ 40) (hc : σ.1 (.inl (b, 8)) 10 = nI n) : XF l yX1_countShared cX1_countShared 4 (some .int) rm_X1_countShared P [.ref (P.2.2.1 (.inl (b, 8)))] σ (some (.int (xbc (cShared (σ.1 (.inl (b, 9))) (σ.1 (.inl (b, 14))) n)))) (σ) := by
  refine XM.of (by decide +kernel) (Nat.le_of_ble_eq_true rfl) (fun p e s m args below meth c A C => ?_)
  replace C : XC p s m args meth c P A 4 RX1 cX1_countShared (some .int) := C
  refine XW.eq (lv' := [(0, _)]) rfl rfl rfl ?_
  refine X_iconst (pc := 0) (v := 0) C dX1_countShared_0 (by decide) ?_
  refine X_istore_n (pc := 1) (lv1 := [(0, _), (1, _)]) C 1 dX1_countShared_1 rfl (by decide) rfl ?_
  refine X_iconst (pc := 2) (v := 0) C dX1_countShared_2 (by decide) ?_
  refine X_istore_n (pc := 3) (lv1 := [(0, _), (1, _), (2, _)]) C 2 dX1_countShared_3 rfl (by decide) rfl ?_
  refine X_iconst (pc := 4) (v := 0) C dX1_countShared_4 (by decide) ?_
  refine X_istore_n (pc := 5) (lv1 := [(0, _), (1, _), (2, _), (3, _)]) C 3 dX1_countShared_5 rfl (by decide) rfl ?_
  refine L_X1_countShared C hb hn hc ?_ n 0 (by omega)
  refine X_iload_n (pc := 50) C 2 dX1_countShared_50 rfl rfl ?_
  refine K_X1_53 (pc := 51) C (c_J6_bitCount l P σ _) ⟨Nat.le_of_ble_eq_true rfl, Nat.le_of_ble_eq_true rfl⟩ ⟨rfl, rfl⟩ ⟨Nat.zero_le _, Nat.zero_le _⟩ (Nat.le_of_ble_eq_true rfl) dX1_countShared_51 ?_
  exact X_iret (pc := 54) C (Nat.zero_le _) (Nat.zero_le _) dX1_countShared_54 ⟨rfl, rfl⟩

end XP10

/-! Calls.add, Calls.copyFrom, Board -/
/-- a call more, waiting -/
def uCall (σ : XS) (b n : Nat) (ca ot tr ur us : Int32) : XS :=
  xu (xu (xu (xu (xu (xu (xu (xu (xu (xu (xu σ (.inl (b, 8)) 10 (nI (n + 1))) (.inl (b, 9)) n 0) (.inl (b, 10)) n ca) (.inl (b, 11)) n ot) (.inl (b, 12)) n tr) (.inl (b, 13)) n ur) (.inl (b, 14)) n us) (.inl (b, 15)) n (if xbc us ≤ 1 then 0 else 1)) (.inl (b, 16)) n (-1)) (.inl (b, 17)) n (-1)) (.inl (b, 18)) n 0
/-- all calls of board f laid into board b -/
def uCopyK (σ : XS) (b f k : Nat) : XS := xA σ (.inl (b, k)) (va_cpy (σ.1 (.inl (f, k))) (σ.1 (.inl (b, k))) 0 0 40)
def uCopyC (σ : XS) (b f : Nat) : XS :=
  let a := uCopyK (uCopyK (uCopyK (uCopyK (uCopyK (uCopyK (uCopyK (uCopyK (uCopyK (uCopyK σ b f 9) b f 10) b f 11) b f 12) b f 13) b f 14) b f 15) b f 16) b f 17) b f 18
  xu a (.inl (b, 8)) 10 (a.1 (.inl (f, 8)) 10)
/-- the booleans of board b are booleans -/
def xZ (σ : XS) (b : Nat) : Prop := ∀ k, k < 40 → fits .boolean (.int (σ.1 (.inl (b, 13)) k)) = true ∧ fits .boolean (.int (σ.1 (.inl (b, 15)) k)) = true
/-- board f laid into board b -/
def uCopyB (σ : XS) (b f : Nat) : XS :=
  let a := uCopyC (uCopyS σ b f) b f
  let a0 := xA a (.inl (b, 19)) (va_cpy (a.1 (.inl (f, 19))) (a.1 (.inl (b, 19))) 0 0 4)
  let a1 := xu a0 (.inl (b, 0)) 3 (a0.1 (.inl (f, 0)) 3)
  let a2 := xu a1 (.inl (b, 0)) 4 (a1.1 (.inl (f, 0)) 4)
  let a3 := xu a2 (.inl (b, 0)) 5 (a2.1 (.inl (f, 0)) 5)
  xu a3 (.inl (b, 0)) 6 (a3.1 (.inl (f, 0)) 6)
def uReset (σ : XS) (b : Nat) (li co : Int32) : XS := xu (xu (xu (xu (xu (xu σ (.inl (b, 1)) 6 0) (.inl (b, 8)) 10 0) (.inl (b, 0)) 3 0) (.inl (b, 0)) 4 li) (.inl (b, 0)) 5 co) (.inl (b, 0)) 6 0
def uTrunk (σ : XS) (b n : Nat) (to : Int32) : XS := xu (xu σ (.inl (b, 19)) n to) (.inl (b, 0)) 6 (nI (n + 1))
/-- why call j can't start -/
def xblk (σ : XS) (b nu nc j : Nat) : Int32 :=
  if cBusy (σ.1 (.inl (b, 9))) (σ.1 (.inl (b, 14))) nc &&& xline (σ.1 (.inl (b, 3))) nu (σ.1 (.inl (b, 10)) j) = 0 then
    if cBusy (σ.1 (.inl (b, 9))) (σ.1 (.inl (b, 14))) nc &&& σ.1 (.inl (b, 14)) j = 0 then
      if σ.1 (.inl (b, 15)) j = 0 then 0
      else if nI (cCords (σ.1 (.inl (b, 9))) (σ.1 (.inl (b, 15))) nc) < σ.1 (.inl (b, 0)) 5 then 0 else 3
    else 2
  else 1
def xtalk (σ : XS) (b j : Nat) : Int32 := xbit (σ.1 (.inl (b, 10)) j) ||| xbit (σ.1 (.inl (b, 11)) j)
def xheard (σ : XS) (b nu j : Nat) : Int32 := xears (σ.1 (.inl (b, 3))) (σ.1 (.inl (b, 5))) nu (σ.1 (.inl (b, 14)) j) (xtalk σ b j)
def uStart0 (σ : XS) (b nu j : Nat) : XS := xu (xu (xu σ (.inl (b, 9)) j 1) (.inl (b, 16)) j (σ.1 (.inl (b, 0)) 3)) (.inl (b, 18)) j (xheard σ b nu j)
/-- call j starts -/
def uStart (σ : XS) (b nu j : Nat) : XS := uTell (uStart0 σ b nu j) b (xtalk σ b j ||| xheard σ b nu j) (cTold ((uStart0 σ b nu j).1 (.inl (b, 7))) (xtalk σ b j) nu) nu
theorem uStart_o (σ : XS) (b nu j : Nat) {i : XI} (h7 : i ≠ .inl (b, 7)) (h9 : i ≠ .inl (b, 9)) (h16 : i ≠ .inl (b, 16)) (h18 : i ≠ .inl (b, 18)) : (uStart σ b nu j).1 i = σ.1 i := by
  unfold uStart
  rw [uTell_o _ _ _ _ h7]
  unfold uStart0
  rw [xu_ne _ _ _ h18, xu_ne _ _ _ h16, xu_ne _ _ _ h9]
theorem uStart_l (σ : XS) (b nu j : Nat) : (uStart σ b nu j).2 = σ.2 := by
  unfold uStart
  rw [uTell_l]
  rfl
/-- the first k calls are looked at: those of urgency u that can start start -/
def uWait (σ : XS) (b nu nc : Nat) (u : Int32) : Nat → XS × Nat
  | 0 => (σ, 0)
  | k + 1 => if (uWait σ b nu nc u k).1.1 (.inl (b, 9)) k = 0 ∧ (uWait σ b nu nc u k).1.1 (.inl (b, 13)) k = u ∧ xblk (uWait σ b nu nc u k).1 b nu nc k = 0 then (uStart (uWait σ b nu nc u k).1 b nu k, (uWait σ b nu nc u k).2 + 1) else uWait σ b nu nc u k
theorem uWait_y {σ : XS} {b nu nc k : Nat} {u : Int32} (h1 : (uWait σ b nu nc u k).1.1 (.inl (b, 9)) k = 0) (h2 : (uWait σ b nu nc u k).1.1 (.inl (b, 13)) k = u) (h3 : xblk (uWait σ b nu nc u k).1 b nu nc k = 0) : uWait σ b nu nc u (k + 1) = (uStart (uWait σ b nu nc u k).1 b nu k, (uWait σ b nu nc u k).2 + 1) := if_pos ⟨h1, h2, h3⟩
theorem uWait_n1 {σ : XS} {b nu nc k : Nat} {u : Int32} (h1 : ¬ (uWait σ b nu nc u k).1.1 (.inl (b, 9)) k = 0) : uWait σ b nu nc u (k + 1) = uWait σ b nu nc u k := if_neg (fun q => h1 q.1)
theorem uWait_n2 {σ : XS} {b nu nc k : Nat} {u : Int32} (h1 : ¬ (uWait σ b nu nc u k).1.1 (.inl (b, 13)) k = u) : uWait σ b nu nc u (k + 1) = uWait σ b nu nc u k := if_neg (fun q => h1 q.2.1)
theorem uWait_n3 {σ : XS} {b nu nc k : Nat} {u : Int32} (h1 : ¬ xblk (uWait σ b nu nc u k).1 b nu nc k = 0) : uWait σ b nu nc u (k + 1) = uWait σ b nu nc u k := if_neg (fun q => h1 q.2.2)
theorem uWait_o (σ : XS) (b nu nc : Nat) (u : Int32) {i : XI} (h7 : i ≠ .inl (b, 7)) (h9 : i ≠ .inl (b, 9)) (h16 : i ≠ .inl (b, 16)) (h18 : i ≠ .inl (b, 18)) : ∀ k, (uWait σ b nu nc u k).1.1 i = σ.1 i
  | 0 => rfl
  | k + 1 => by
    unfold uWait
    split
    · show (uStart _ b nu k).1 i = _
      rw [uStart_o _ _ _ _ h7 h9 h16 h18, uWait_o σ b nu nc u h7 h9 h16 h18 k]
    · exact uWait_o σ b nu nc u h7 h9 h16 h18 k
theorem uWait_l (σ : XS) (b nu nc : Nat) (u : Int32) : ∀ k, (uWait σ b nu nc u k).1.2 = σ.2
  | 0 => rfl
  | k + 1 => by
    unfold uWait
    split
    · show (uStart _ b nu k).2 = _
      rw [uStart_l, uWait_l σ b nu nc u k]
    · exact uWait_l σ b nu nc u k
/-- what call j costs -/
def xmax (x y : Int32) : Int32 := if x < y then y else x
def xchg (σ : XS) (b nt j : Nat) : Int32 :=
  if σ.1 (.inl (b, 9)) j = 0 then 0
  else if σ.1 (.inl (b, 9)) j = 3 then 0
  else if xok (σ.1 (.inl (b, 12)) j) nt then
    xmax 1 (((if σ.1 (.inl (b, 9)) j = 1 then σ.1 (.inl (b, 0)) 3 else σ.1 (.inl (b, 17)) j) - σ.1 (.inl (b, 16)) j + 59) / 60) * σ.1 (.inl (b, 19)) (σ.1 (.inl (b, 12)) j).toNatClampNeg
  else 5
def xabs (x : Int32) : Int32 := if 0 ≤ x then x else 0 - x
section XP12
variable {p : Program} {l : Launch} {e : Env} {R : Room} {s : State} {m : MethodId} {args : Array Value} {below : List Frame} {meth : Method} {c : Code} {P : XP} {A : Nat → Prop} {nL cells slots : Nat} {Q : State → Prop} {cc : ByteArray} {ret : Option FieldType} {σ : XS} {pc : Nat} {lv : List (Nat × Value)} {st : List Value}
set_option maxRecDepth 100000 in
set_option maxHeartbeats 4000000 in
theorem c_X1_add (l : Launch) (P : XP) (σ : XS) (b n : Nat) (hb : xIn P b) (hn : n ≤ 40) (hc : σ.1 (.inl (b, 8)) 10 = nI n) (ca ot tr ur us : Int32) (hur : vp_nar .boolean ur = ur) : XF l yX1_add cX1_add 7 (some .int) rm_X1_add P [.ref (P.2.2.1 (.inl (b, 8))), .int ca, .int ot, .int tr, .int ur, .int us] σ (some (.int (if n < 40 then nI n else -1))) (if n < 40 then uCall σ b n ca ot tr ur us else σ) := by
  refine XM.of (by decide +kernel) (Nat.le_of_ble_eq_true rfl) (fun p e s m args below meth c A C => ?_)
  replace C : XC p s m args meth c P A 7 RX1 cX1_add (some .int) := C
  refine XW.eq (lv' := [(0, _), (1, _), (2, _), (3, _), (4, _), (5, _)]) rfl rfl rfl ?_
  refine X_aload_n (pc := 0) C 0 dX1_add_0 rfl rfl ?_
  refine G_X1_49 (pc := 1) C (by assumption) dX1_add_1 ?_
  rw [hc]
  refine X_bipush (pc := 4) (v := 40) C dX1_add_4 (by decide) ?_
  refine X_icmp_lt (pc := 6) C 11 dX1_add_6 (by decide) (fun h6 => ?_) (fun h6 => ?_)
  · have g6 := nlt (a := n) (b := 40) h6
    refine X_aload_n (pc := 11) C 0 dX1_add_11 rfl rfl ?_
    refine G_X1_49 (pc := 12) C (by assumption) dX1_add_12 ?_
    rw [hc]
    refine X_istore (pc := 15) (lv1 := [(0, _), (1, _), (2, _), (3, _), (4, _), (5, _), (6, _)]) C dX1_add_15 (by decide) rfl ?_
    refine X_aload_n (pc := 17) C 0 dX1_add_17 rfl rfl ?_
    refine X_dup (pc := 18) C dX1_add_18 rfl ?_
    refine G_X1_49 (pc := 19) C (by assumption) dX1_add_19 ?_
    rw [hc]
    refine X_iconst (pc := 22) (v := 1) C dX1_add_22 (by decide) ?_
    refine X_iadd (pc := 23) C dX1_add_23 ?_
    rw [nI_1]
    refine U_X1_49 (pc := 24) C (by assumption) dX1_add_24 ?_
    refine X_aload_n (pc := 27) C 0 dX1_add_27 rfl rfl ?_
    refine G_X1_9 (pc := 28) C (by assumption) dX1_add_28 ?_
    refine X_iload (pc := 31) C dX1_add_31 rfl ?_
    refine X_iconst (pc := 33) (v := 0) C dX1_add_33 (by decide) ?_
    refine X_iastN (pc := 34) C (by first | exact hb _ (by decide)) rfl (by omega) (by decide) dX1_add_34 ?_
    refine X_aload_n (pc := 35) C 0 dX1_add_35 rfl rfl ?_
    refine G_X1_15 (pc := 36) C (by assumption) dX1_add_36 ?_
    refine X_iload (pc := 39) C dX1_add_39 rfl ?_
    refine X_iload_n (pc := 41) C 1 dX1_add_41 rfl rfl ?_
    refine X_iastN (pc := 42) C (by first | exact hb _ (by decide)) rfl (by omega) (by decide) dX1_add_42 ?_
    refine X_aload_n (pc := 43) C 0 dX1_add_43 rfl rfl ?_
    refine G_X1_18 (pc := 44) C (by assumption) dX1_add_44 ?_
    refine X_iload (pc := 47) C dX1_add_47 rfl ?_
    refine X_iload_n (pc := 49) C 2 dX1_add_49 rfl rfl ?_
    refine X_iastN (pc := 50) C (by first | exact hb _ (by decide)) rfl (by omega) (by decide) dX1_add_50 ?_
    refine X_aload_n (pc := 51) C 0 dX1_add_51 rfl rfl ?_
    refine G_X1_21 (pc := 52) C (by assumption) dX1_add_52 ?_
    refine X_iload (pc := 55) C dX1_add_55 rfl ?_
    refine X_iload_n (pc := 57) C 3 dX1_add_57 rfl rfl ?_
    refine X_iastN (pc := 58) C (by first | exact hb _ (by decide)) rfl (by omega) (by decide) dX1_add_58 ?_
    refine X_aload_n (pc := 59) C 0 dX1_add_59 rfl rfl ?_
    refine G_X1_24 (pc := 60) C (by assumption) dX1_add_60 ?_
    refine X_iload (pc := 63) C dX1_add_63 rfl ?_
    refine X_iload (pc := 65) C dX1_add_65 rfl ?_
    refine X_zastN (pc := 67) C (by first | exact hb _ (by decide)) rfl (by omega) (by decide) hur dX1_add_67 ?_
    refine X_aload_n (pc := 68) C 0 dX1_add_68 rfl rfl ?_
    refine G_X1_28 (pc := 69) C (by assumption) dX1_add_69 ?_
    refine X_iload (pc := 72) C dX1_add_72 rfl ?_
    refine X_iload (pc := 74) C dX1_add_74 rfl ?_
    refine X_iastN (pc := 76) C (by first | exact hb _ (by decide)) rfl (by omega) (by decide) dX1_add_76 ?_
    refine X_aload_n (pc := 77) C 0 dX1_add_77 rfl rfl ?_
    refine G_X1_31 (pc := 78) C (by assumption) dX1_add_78 ?_
    refine X_iload (pc := 81) C dX1_add_81 rfl ?_
    refine X_iload (pc := 83) C dX1_add_83 rfl ?_
    refine K_X1_53 (pc := 85) C (c_J6_bitCount l P _ us) ⟨Nat.le_of_ble_eq_true rfl, Nat.le_of_ble_eq_true rfl⟩ ⟨rfl, rfl⟩ ⟨Nat.zero_le _, Nat.zero_le _⟩ (Nat.le_of_ble_eq_true rfl) dX1_add_85 ?_
    refine X_iconst (pc := 88) (v := 1) C dX1_add_88 (by decide) ?_
    refine X_icmp_le (pc := 89) C 96 dX1_add_89 (by decide) (fun h89 => ?_) (fun h89 => ?_)
    · skip
      refine X_iconst (pc := 96) (v := 0) C dX1_add_96 (by decide) ?_
      refine X_zastN (pc := 97) C (by first | exact hb _ (by decide)) rfl (by omega) (by decide) (by decide) dX1_add_97 ?_
      refine X_aload_n (pc := 98) C 0 dX1_add_98 rfl rfl ?_
      refine G_X1_34 (pc := 99) C (by assumption) dX1_add_99 ?_
      refine X_iload (pc := 102) C dX1_add_102 rfl ?_
      refine X_iconst (pc := 104) (v := (-1)) C dX1_add_104 (by decide) ?_
      refine X_iastN (pc := 105) C (by first | exact hb _ (by decide)) rfl (by omega) (by decide) dX1_add_105 ?_
      refine X_aload_n (pc := 106) C 0 dX1_add_106 rfl rfl ?_
      refine G_X1_37 (pc := 107) C (by assumption) dX1_add_107 ?_
      refine X_iload (pc := 110) C dX1_add_110 rfl ?_
      refine X_iconst (pc := 112) (v := (-1)) C dX1_add_112 (by decide) ?_
      refine X_iastN (pc := 113) C (by first | exact hb _ (by decide)) rfl (by omega) (by decide) dX1_add_113 ?_
      refine X_aload_n (pc := 114) C 0 dX1_add_114 rfl rfl ?_
      refine G_X1_40 (pc := 115) C (by assumption) dX1_add_115 ?_
      refine X_iload (pc := 118) C dX1_add_118 rfl ?_
      refine X_iconst (pc := 120) (v := 0) C dX1_add_120 (by decide) ?_
      refine X_iastN (pc := 121) C (by first | exact hb _ (by decide)) rfl (by omega) (by decide) dX1_add_121 ?_
      refine X_iload (pc := 122) C dX1_add_122 rfl ?_
      exact X_iret (pc := 124) C (Nat.zero_le _) (Nat.zero_le _) dX1_add_124 ⟨by rw [if_pos g6], by rw [if_pos g6, uCall, if_pos h89]⟩
    · skip
      refine X_iconst (pc := 92) (v := 1) C dX1_add_92 (by decide) ?_
      refine X_goto (pc := 93) C 97 dX1_add_93 (by decide) ?_
      refine X_zastN (pc := 97) C (by first | exact hb _ (by decide)) rfl (by omega) (by decide) (by decide) dX1_add_97 ?_
      refine X_aload_n (pc := 98) C 0 dX1_add_98 rfl rfl ?_
      refine G_X1_34 (pc := 99) C (by assumption) dX1_add_99 ?_
      refine X_iload (pc := 102) C dX1_add_102 rfl ?_
      refine X_iconst (pc := 104) (v := (-1)) C dX1_add_104 (by decide) ?_
      refine X_iastN (pc := 105) C (by first | exact hb _ (by decide)) rfl (by omega) (by decide) dX1_add_105 ?_
      refine X_aload_n (pc := 106) C 0 dX1_add_106 rfl rfl ?_
      refine G_X1_37 (pc := 107) C (by assumption) dX1_add_107 ?_
      refine X_iload (pc := 110) C dX1_add_110 rfl ?_
      refine X_iconst (pc := 112) (v := (-1)) C dX1_add_112 (by decide) ?_
      refine X_iastN (pc := 113) C (by first | exact hb _ (by decide)) rfl (by omega) (by decide) dX1_add_113 ?_
      refine X_aload_n (pc := 114) C 0 dX1_add_114 rfl rfl ?_
      refine G_X1_40 (pc := 115) C (by assumption) dX1_add_115 ?_
      refine X_iload (pc := 118) C dX1_add_118 rfl ?_
      refine X_iconst (pc := 120) (v := 0) C dX1_add_120 (by decide) ?_
      refine X_iastN (pc := 121) C (by first | exact hb _ (by decide)) rfl (by omega) (by decide) dX1_add_121 ?_
      refine X_iload (pc := 122) C dX1_add_122 rfl ?_
      exact X_iret (pc := 124) C (Nat.zero_le _) (Nat.zero_le _) dX1_add_124 ⟨by rw [if_pos g6], by rw [if_pos g6, uCall, if_neg h89]⟩
  · have g6 := nnlt (a := n) (b := 40) h6
    refine X_iconst (pc := 9) (v := (-1)) C dX1_add_9 (by decide) ?_
    exact X_iret (pc := 10) C (Nat.zero_le _) (Nat.zero_le _) dX1_add_10 ⟨by rw [if_neg (by omega)], by rw [if_neg (by omega)]⟩

set_option maxRecDepth 100000 in
set_option maxHeartbeats 4000000 in
theorem c_X1_copyFrom (l : Launch) (P : XP) (σ : XS) (b f : Nat) (hb : xIn P b) (hf : xIn P f) (hz : xZ σ f) : XF l yX1_copyFrom cX1_copyFrom 2 none rm_X1_copyFrom P [.ref (P.2.2.1 (.inl (b, 8))), .ref (P.2.2.1 (.inl (f, 8)))] σ (none) (uCopyC σ b f) := by
  refine XM.of (by decide +kernel) (Nat.le_of_ble_eq_true rfl) (fun p e s m args below meth c A C => ?_)
  replace C : XC p s m args meth c P A 2 RX1 cX1_copyFrom none := C
  refine XW.eq (lv' := [(0, _), (1, _)]) rfl rfl rfl ?_
  refine X_aload_n (pc := 0) C 1 dX1_copyFrom_0 rfl rfl ?_
  refine G_X1_9 (pc := 1) C (by assumption) dX1_copyFrom_1 ?_
  refine X_iconst (pc := 4) (v := 0) C dX1_copyFrom_4 (by decide) ?_
  refine X_aload_n (pc := 5) C 0 dX1_copyFrom_5 rfl rfl ?_
  refine G_X1_9 (pc := 6) C (by assumption) dX1_copyFrom_6 ?_
  refine X_iconst (pc := 9) (v := 0) C dX1_copyFrom_9 (by decide) ?_
  refine X_bipush (pc := 10) (v := 40) C dX1_copyFrom_10 (by decide) ?_
  refine X_copyi (sp := 0) (dp := 0) (n := 40) (pc := 12) C (by first | exact hb _ (by decide) | exact hf _ (by decide)) (by first | exact hb _ (by decide) | exact hf _ (by decide)) rfl rfl m_m_X1_43 (by decide) (by decide) (by decide) (by decide) (Nat.le_of_ble_eq_true rfl) (Nat.le_of_ble_eq_true rfl) dX1_copyFrom_12 ?_
  refine X_aload_n (pc := 15) C 1 dX1_copyFrom_15 rfl rfl ?_
  refine G_X1_15 (pc := 16) C (by assumption) dX1_copyFrom_16 ?_
  refine X_iconst (pc := 19) (v := 0) C dX1_copyFrom_19 (by decide) ?_
  refine X_aload_n (pc := 20) C 0 dX1_copyFrom_20 rfl rfl ?_
  refine G_X1_15 (pc := 21) C (by assumption) dX1_copyFrom_21 ?_
  refine X_iconst (pc := 24) (v := 0) C dX1_copyFrom_24 (by decide) ?_
  refine X_bipush (pc := 25) (v := 40) C dX1_copyFrom_25 (by decide) ?_
  refine X_copyi (sp := 0) (dp := 0) (n := 40) (pc := 27) C (by first | exact hb _ (by decide) | exact hf _ (by decide)) (by first | exact hb _ (by decide) | exact hf _ (by decide)) rfl rfl m_m_X1_43 (by decide) (by decide) (by decide) (by decide) (Nat.le_of_ble_eq_true rfl) (Nat.le_of_ble_eq_true rfl) dX1_copyFrom_27 ?_
  refine X_aload_n (pc := 30) C 1 dX1_copyFrom_30 rfl rfl ?_
  refine G_X1_18 (pc := 31) C (by assumption) dX1_copyFrom_31 ?_
  refine X_iconst (pc := 34) (v := 0) C dX1_copyFrom_34 (by decide) ?_
  refine X_aload_n (pc := 35) C 0 dX1_copyFrom_35 rfl rfl ?_
  refine G_X1_18 (pc := 36) C (by assumption) dX1_copyFrom_36 ?_
  refine X_iconst (pc := 39) (v := 0) C dX1_copyFrom_39 (by decide) ?_
  refine X_bipush (pc := 40) (v := 40) C dX1_copyFrom_40 (by decide) ?_
  refine X_copyi (sp := 0) (dp := 0) (n := 40) (pc := 42) C (by first | exact hb _ (by decide) | exact hf _ (by decide)) (by first | exact hb _ (by decide) | exact hf _ (by decide)) rfl rfl m_m_X1_43 (by decide) (by decide) (by decide) (by decide) (Nat.le_of_ble_eq_true rfl) (Nat.le_of_ble_eq_true rfl) dX1_copyFrom_42 ?_
  refine X_aload_n (pc := 45) C 1 dX1_copyFrom_45 rfl rfl ?_
  refine G_X1_21 (pc := 46) C (by assumption) dX1_copyFrom_46 ?_
  refine X_iconst (pc := 49) (v := 0) C dX1_copyFrom_49 (by decide) ?_
  refine X_aload_n (pc := 50) C 0 dX1_copyFrom_50 rfl rfl ?_
  refine G_X1_21 (pc := 51) C (by assumption) dX1_copyFrom_51 ?_
  refine X_iconst (pc := 54) (v := 0) C dX1_copyFrom_54 (by decide) ?_
  refine X_bipush (pc := 55) (v := 40) C dX1_copyFrom_55 (by decide) ?_
  refine X_copyi (sp := 0) (dp := 0) (n := 40) (pc := 57) C (by first | exact hb _ (by decide) | exact hf _ (by decide)) (by first | exact hb _ (by decide) | exact hf _ (by decide)) rfl rfl m_m_X1_43 (by decide) (by decide) (by decide) (by decide) (Nat.le_of_ble_eq_true rfl) (Nat.le_of_ble_eq_true rfl) dX1_copyFrom_57 ?_
  refine X_aload_n (pc := 60) C 1 dX1_copyFrom_60 rfl rfl ?_
  refine G_X1_24 (pc := 61) C (by assumption) dX1_copyFrom_61 ?_
  refine X_iconst (pc := 64) (v := 0) C dX1_copyFrom_64 (by decide) ?_
  refine X_aload_n (pc := 65) C 0 dX1_copyFrom_65 rfl rfl ?_
  refine G_X1_24 (pc := 66) C (by assumption) dX1_copyFrom_66 ?_
  refine X_iconst (pc := 69) (v := 0) C dX1_copyFrom_69 (by decide) ?_
  refine X_bipush (pc := 70) (v := 40) C dX1_copyFrom_70 (by decide) ?_
  refine X_copyz (sp := 0) (dp := 0) (n := 40) (pc := 72) C (by first | exact hb _ (by decide) | exact hf _ (by decide)) (by first | exact hb _ (by decide) | exact hf _ (by decide)) rfl rfl m_m_X1_43 (by decide) (by decide) (by decide) (by decide) (fun k hk => by simpa [xA_ap] using (hz k hk).1) (Nat.le_of_ble_eq_true rfl) (Nat.le_of_ble_eq_true rfl) dX1_copyFrom_72 ?_
  refine X_aload_n (pc := 75) C 1 dX1_copyFrom_75 rfl rfl ?_
  refine G_X1_28 (pc := 76) C (by assumption) dX1_copyFrom_76 ?_
  refine X_iconst (pc := 79) (v := 0) C dX1_copyFrom_79 (by decide) ?_
  refine X_aload_n (pc := 80) C 0 dX1_copyFrom_80 rfl rfl ?_
  refine G_X1_28 (pc := 81) C (by assumption) dX1_copyFrom_81 ?_
  refine X_iconst (pc := 84) (v := 0) C dX1_copyFrom_84 (by decide) ?_
  refine X_bipush (pc := 85) (v := 40) C dX1_copyFrom_85 (by decide) ?_
  refine X_copyi (sp := 0) (dp := 0) (n := 40) (pc := 87) C (by first | exact hb _ (by decide) | exact hf _ (by decide)) (by first | exact hb _ (by decide) | exact hf _ (by decide)) rfl rfl m_m_X1_43 (by decide) (by decide) (by decide) (by decide) (Nat.le_of_ble_eq_true rfl) (Nat.le_of_ble_eq_true rfl) dX1_copyFrom_87 ?_
  refine X_aload_n (pc := 90) C 1 dX1_copyFrom_90 rfl rfl ?_
  refine G_X1_31 (pc := 91) C (by assumption) dX1_copyFrom_91 ?_
  refine X_iconst (pc := 94) (v := 0) C dX1_copyFrom_94 (by decide) ?_
  refine X_aload_n (pc := 95) C 0 dX1_copyFrom_95 rfl rfl ?_
  refine G_X1_31 (pc := 96) C (by assumption) dX1_copyFrom_96 ?_
  refine X_iconst (pc := 99) (v := 0) C dX1_copyFrom_99 (by decide) ?_
  refine X_bipush (pc := 100) (v := 40) C dX1_copyFrom_100 (by decide) ?_
  refine X_copyz (sp := 0) (dp := 0) (n := 40) (pc := 102) C (by first | exact hb _ (by decide) | exact hf _ (by decide)) (by first | exact hb _ (by decide) | exact hf _ (by decide)) rfl rfl m_m_X1_43 (by decide) (by decide) (by decide) (by decide) (fun k hk => by simpa [xA_ap] using (hz k hk).2) (Nat.le_of_ble_eq_true rfl) (Nat.le_of_ble_eq_true rfl) dX1_copyFrom_102 ?_
  refine X_aload_n (pc := 105) C 1 dX1_copyFrom_105 rfl rfl ?_
  refine G_X1_34 (pc := 106) C (by assumption) dX1_copyFrom_106 ?_
  refine X_iconst (pc := 109) (v := 0) C dX1_copyFrom_109 (by decide) ?_
  refine X_aload_n (pc := 110) C 0 dX1_copyFrom_110 rfl rfl ?_
  refine G_X1_34 (pc := 111) C (by assumption) dX1_copyFrom_111 ?_
  refine X_iconst (pc := 114) (v := 0) C dX1_copyFrom_114 (by decide) ?_
  refine X_bipush (pc := 115) (v := 40) C dX1_copyFrom_115 (by decide) ?_
  refine X_copyi (sp := 0) (dp := 0) (n := 40) (pc := 117) C (by first | exact hb _ (by decide) | exact hf _ (by decide)) (by first | exact hb _ (by decide) | exact hf _ (by decide)) rfl rfl m_m_X1_43 (by decide) (by decide) (by decide) (by decide) (Nat.le_of_ble_eq_true rfl) (Nat.le_of_ble_eq_true rfl) dX1_copyFrom_117 ?_
  refine X_aload_n (pc := 120) C 1 dX1_copyFrom_120 rfl rfl ?_
  refine G_X1_37 (pc := 121) C (by assumption) dX1_copyFrom_121 ?_
  refine X_iconst (pc := 124) (v := 0) C dX1_copyFrom_124 (by decide) ?_
  refine X_aload_n (pc := 125) C 0 dX1_copyFrom_125 rfl rfl ?_
  refine G_X1_37 (pc := 126) C (by assumption) dX1_copyFrom_126 ?_
  refine X_iconst (pc := 129) (v := 0) C dX1_copyFrom_129 (by decide) ?_
  refine X_bipush (pc := 130) (v := 40) C dX1_copyFrom_130 (by decide) ?_
  refine X_copyi (sp := 0) (dp := 0) (n := 40) (pc := 132) C (by first | exact hb _ (by decide) | exact hf _ (by decide)) (by first | exact hb _ (by decide) | exact hf _ (by decide)) rfl rfl m_m_X1_43 (by decide) (by decide) (by decide) (by decide) (Nat.le_of_ble_eq_true rfl) (Nat.le_of_ble_eq_true rfl) dX1_copyFrom_132 ?_
  refine X_aload_n (pc := 135) C 1 dX1_copyFrom_135 rfl rfl ?_
  refine G_X1_40 (pc := 136) C (by assumption) dX1_copyFrom_136 ?_
  refine X_iconst (pc := 139) (v := 0) C dX1_copyFrom_139 (by decide) ?_
  refine X_aload_n (pc := 140) C 0 dX1_copyFrom_140 rfl rfl ?_
  refine G_X1_40 (pc := 141) C (by assumption) dX1_copyFrom_141 ?_
  refine X_iconst (pc := 144) (v := 0) C dX1_copyFrom_144 (by decide) ?_
  refine X_bipush (pc := 145) (v := 40) C dX1_copyFrom_145 (by decide) ?_
  refine X_copyi (sp := 0) (dp := 0) (n := 40) (pc := 147) C (by first | exact hb _ (by decide) | exact hf _ (by decide)) (by first | exact hb _ (by decide) | exact hf _ (by decide)) rfl rfl m_m_X1_43 (by decide) (by decide) (by decide) (by decide) (Nat.le_of_ble_eq_true rfl) (Nat.le_of_ble_eq_true rfl) dX1_copyFrom_147 ?_
  refine X_aload_n (pc := 150) C 0 dX1_copyFrom_150 rfl rfl ?_
  refine X_aload_n (pc := 151) C 1 dX1_copyFrom_151 rfl rfl ?_
  refine G_X1_49 (pc := 152) C (by assumption) dX1_copyFrom_152 ?_
  refine U_X1_49 (pc := 155) C (by assumption) dX1_copyFrom_155 ?_
  exact X_vret (pc := 158) C (Nat.zero_le _) (Nat.zero_le _) dX1_copyFrom_158 ⟨rfl, rfl⟩

theorem xZ_S {σ : XS} {b f : Nat} (hz : xZ σ f) : xZ (uCopyS σ b f) f := fun k hk => by
  have h13 : (uCopyS σ b f).1 (.inl (f, 13)) = σ.1 (.inl (f, 13)) := by simp [uCopyS, xu_ne, xA_ne, xL_i]
  have h15 : (uCopyS σ b f).1 (.inl (f, 15)) = σ.1 (.inl (f, 15)) := by simp [uCopyS, xu_ne, xA_ne, xL_i]
  rw [h13, h15]
  exact hz k hk
set_option maxRecDepth 100000 in
set_option maxHeartbeats 4000000 in
theorem c_X0_copyFrom (l : Launch) (P : XP) (σ : XS) (b f : Nat) (hb : xIn P b) (hf : xIn P f) (hz : xZ σ f) : XF l yX0_copyFrom cX0_copyFrom 2 none rm_X0_copyFrom P [.ref (P.2.2.1 (.inl (b, 0))), .ref (P.2.2.1 (.inl (f, 0)))] σ (none) (uCopyB σ b f) := by
  refine XM.of (by decide +kernel) (Nat.le_of_ble_eq_true rfl) (fun p e s m args below meth c A C => ?_)
  replace C : XC p s m args meth c P A 2 RX0 cX0_copyFrom none := C
  refine XW.eq (lv' := [(0, _), (1, _)]) rfl rfl rfl ?_
  refine X_aload_n (pc := 0) C 0 dX0_copyFrom_0 rfl rfl ?_
  refine G_X0_12 (pc := 1) C (by assumption) dX0_copyFrom_1 ?_
  refine X_aload_n (pc := 4) C 1 dX0_copyFrom_4 rfl rfl ?_
  refine G_X0_12 (pc := 5) C (by assumption) dX0_copyFrom_5 ?_
  refine K_X0_29 (pc := 8) C (by assumption) (c_X5_copyFrom l P σ b f hb hf) ⟨Nat.le_of_ble_eq_true rfl, Nat.le_of_ble_eq_true rfl⟩ ⟨rfl, rfl⟩ ⟨Nat.zero_le _, Nat.zero_le _⟩ (Nat.le_of_ble_eq_true rfl) dX0_copyFrom_8 ?_
  refine X_aload_n (pc := 11) C 0 dX0_copyFrom_11 rfl rfl ?_
  refine G_X0_21 (pc := 12) C (by assumption) dX0_copyFrom_12 ?_
  refine X_aload_n (pc := 15) C 1 dX0_copyFrom_15 rfl rfl ?_
  refine G_X0_21 (pc := 16) C (by assumption) dX0_copyFrom_16 ?_
  refine K_X0_33 (pc := 19) C (by assumption) (c_X1_copyFrom l P _ b f hb hf (xZ_S hz)) ⟨Nat.le_of_ble_eq_true rfl, Nat.le_of_ble_eq_true rfl⟩ ⟨rfl, rfl⟩ ⟨Nat.zero_le _, Nat.zero_le _⟩ (Nat.le_of_ble_eq_true rfl) dX0_copyFrom_19 ?_
  refine X_aload_n (pc := 22) C 1 dX0_copyFrom_22 rfl rfl ?_
  refine G_X0_25 (pc := 23) C (by assumption) dX0_copyFrom_23 ?_
  refine X_iconst (pc := 26) (v := 0) C dX0_copyFrom_26 (by decide) ?_
  refine X_aload_n (pc := 27) C 0 dX0_copyFrom_27 rfl rfl ?_
  refine G_X0_25 (pc := 28) C (by assumption) dX0_copyFrom_28 ?_
  refine X_iconst (pc := 31) (v := 0) C dX0_copyFrom_31 (by decide) ?_
  refine X_iconst (pc := 32) (v := 4) C dX0_copyFrom_32 (by decide) ?_
  refine X_copyi (sp := 0) (dp := 0) (n := 4) (pc := 33) C (by first | exact hb _ (by decide) | exact hf _ (by decide)) (by first | exact hb _ (by decide) | exact hf _ (by decide)) rfl rfl m_m_X0_36 (by decide) (by decide) (by decide) (by decide) (Nat.le_of_ble_eq_true rfl) (Nat.le_of_ble_eq_true rfl) dX0_copyFrom_33 ?_
  refine X_aload_n (pc := 36) C 0 dX0_copyFrom_36 rfl rfl ?_
  refine X_aload_n (pc := 37) C 1 dX0_copyFrom_37 rfl rfl ?_
  refine G_X0_42 (pc := 38) C (by assumption) dX0_copyFrom_38 ?_
  refine U_X0_42 (pc := 41) C (by assumption) dX0_copyFrom_41 ?_
  refine X_aload_n (pc := 44) C 0 dX0_copyFrom_44 rfl rfl ?_
  refine X_aload_n (pc := 45) C 1 dX0_copyFrom_45 rfl rfl ?_
  refine G_X0_46 (pc := 46) C (by assumption) dX0_copyFrom_46 ?_
  refine U_X0_46 (pc := 49) C (by assumption) dX0_copyFrom_49 ?_
  refine X_aload_n (pc := 52) C 0 dX0_copyFrom_52 rfl rfl ?_
  refine X_aload_n (pc := 53) C 1 dX0_copyFrom_53 rfl rfl ?_
  refine G_X0_49 (pc := 54) C (by assumption) dX0_copyFrom_54 ?_
  refine U_X0_49 (pc := 57) C (by assumption) dX0_copyFrom_57 ?_
  refine X_aload_n (pc := 60) C 0 dX0_copyFrom_60 rfl rfl ?_
  refine X_aload_n (pc := 61) C 1 dX0_copyFrom_61 rfl rfl ?_
  refine G_X0_52 (pc := 62) C (by assumption) dX0_copyFrom_62 ?_
  refine U_X0_52 (pc := 65) C (by assumption) dX0_copyFrom_65 ?_
  exact X_vret (pc := 68) C (Nat.zero_le _) (Nat.zero_le _) dX0_copyFrom_68 ⟨rfl, rfl⟩

set_option maxRecDepth 100000 in
set_option maxHeartbeats 4000000 in
theorem c_X0_reset (l : Launch) (P : XP) (σ : XS) (b : Nat) (hb : xIn P b) (li co : Int32) : XF l yX0_reset cX0_reset 3 none rm_X0_reset P [.ref (P.2.2.1 (.inl (b, 0))), .int li, .int co] σ (none) (uReset σ b li co) := by
  refine XM.of (by decide +kernel) (Nat.le_of_ble_eq_true rfl) (fun p e s m args below meth c A C => ?_)
  replace C : XC p s m args meth c P A 3 RX0 cX0_reset none := C
  refine XW.eq (lv' := [(0, _), (1, _), (2, _)]) rfl rfl rfl ?_
  refine X_aload_n (pc := 0) C 0 dX0_reset_0 rfl rfl ?_
  refine G_X0_12 (pc := 1) C (by assumption) dX0_reset_1 ?_
  refine X_iconst (pc := 4) (v := 0) C dX0_reset_4 (by decide) ?_
  refine U_X0_55 (pc := 5) C (by assumption) dX0_reset_5 ?_
  refine X_aload_n (pc := 8) C 0 dX0_reset_8 rfl rfl ?_
  refine G_X0_21 (pc := 9) C (by assumption) dX0_reset_9 ?_
  refine X_iconst (pc := 12) (v := 0) C dX0_reset_12 (by decide) ?_
  refine U_X0_58 (pc := 13) C (by assumption) dX0_reset_13 ?_
  refine X_aload_n (pc := 16) C 0 dX0_reset_16 rfl rfl ?_
  refine X_iconst (pc := 17) (v := 0) C dX0_reset_17 (by decide) ?_
  refine U_X0_42 (pc := 18) C (by assumption) dX0_reset_18 ?_
  refine X_aload_n (pc := 21) C 0 dX0_reset_21 rfl rfl ?_
  refine X_iload_n (pc := 22) C 1 dX0_reset_22 rfl rfl ?_
  refine U_X0_46 (pc := 23) C (by assumption) dX0_reset_23 ?_
  refine X_aload_n (pc := 26) C 0 dX0_reset_26 rfl rfl ?_
  refine X_iload_n (pc := 27) C 2 dX0_reset_27 rfl rfl ?_
  refine U_X0_49 (pc := 28) C (by assumption) dX0_reset_28 ?_
  refine X_aload_n (pc := 31) C 0 dX0_reset_31 rfl rfl ?_
  refine X_iconst (pc := 32) (v := 0) C dX0_reset_32 (by decide) ?_
  refine U_X0_52 (pc := 33) C (by assumption) dX0_reset_33 ?_
  exact X_vret (pc := 36) C (Nat.zero_le _) (Nat.zero_le _) dX0_reset_36 ⟨rfl, rfl⟩

set_option maxRecDepth 100000 in
set_option maxHeartbeats 4000000 in
theorem c_X0_addTrunk (l : Launch) (P : XP) (σ : XS) (b nt : Nat) (hb : xIn P b) (hnt : nt ≤ 4) (hct : σ.1 (.inl (b, 0)) 6 = nI nt) (to : Int32) : XF l yX0_addTrunk cX0_addTrunk 2 none rm_X0_addTrunk P [.ref (P.2.2.1 (.inl (b, 0))), .int to] σ (none) (if nt < 4 then uTrunk σ b nt to else σ) := by
  refine XM.of (by decide +kernel) (Nat.le_of_ble_eq_true rfl) (fun p e s m args below meth c A C => ?_)
  replace C : XC p s m args meth c P A 2 RX0 cX0_addTrunk none := C
  refine XW.eq (lv' := [(0, _), (1, _)]) rfl rfl rfl ?_
  refine X_aload_n (pc := 0) C 0 dX0_addTrunk_0 rfl rfl ?_
  refine G_X0_52 (pc := 1) C (by assumption) dX0_addTrunk_1 ?_
  rw [hct]
  refine X_iconst (pc := 4) (v := 4) C dX0_addTrunk_4 (by decide) ?_
  refine X_icmp_ge (pc := 5) C 28 dX0_addTrunk_5 (by decide) (fun h5 => ?_) (fun h5 => ?_)
  · have g5 := nle (a := 4) (b := nt) h5
    exact X_vret (pc := 28) C (Nat.zero_le _) (Nat.zero_le _) dX0_addTrunk_28 ⟨rfl, by rw [if_neg (by omega)]⟩
  · have g5 := nnle (a := 4) (b := nt) h5
    refine X_aload_n (pc := 8) C 0 dX0_addTrunk_8 rfl rfl ?_
    refine G_X0_25 (pc := 9) C (by assumption) dX0_addTrunk_9 ?_
    refine X_aload_n (pc := 12) C 0 dX0_addTrunk_12 rfl rfl ?_
    refine G_X0_52 (pc := 13) C (by assumption) dX0_addTrunk_13 ?_
    rw [hct]
    refine X_iload_n (pc := 16) C 1 dX0_addTrunk_16 rfl rfl ?_
    refine X_iastN (pc := 17) C (by first | exact hb _ (by decide)) rfl (by omega) (by decide) dX0_addTrunk_17 ?_
    refine X_aload_n (pc := 18) C 0 dX0_addTrunk_18 rfl rfl ?_
    refine X_dup (pc := 19) C dX0_addTrunk_19 rfl ?_
    refine G_X0_52 (pc := 20) C (by assumption) dX0_addTrunk_20 ?_
    rw [show (xu σ (.inl (b, 19)) nt to).1 (.inl (b, 0)) 6 = nI nt from by simp [xu_ap, hct]]
    refine X_iconst (pc := 23) (v := 1) C dX0_addTrunk_23 (by decide) ?_
    refine X_iadd (pc := 24) C dX0_addTrunk_24 ?_
    rw [nI_1]
    refine U_X0_52 (pc := 25) C (by assumption) dX0_addTrunk_25 ?_
    exact X_vret (pc := 28) C (Nat.zero_le _) (Nat.zero_le _) dX0_addTrunk_28 ⟨rfl, by rw [if_pos g5]; rfl⟩

set_option maxRecDepth 100000 in
set_option maxHeartbeats 4000000 in
theorem c_X0_findBlocker (l : Launch) (P : XP) (σ : XS) (b nu nc : Nat) (hb : xIn P b) (hnu : nu ≤ 15) (hcu : σ.1 (.inl (b, 1)) 6 = nI nu) (hnc : nc ≤ 40) (hcc : σ.1 (.inl (b, 8)) 10 = nI nc) (j : Nat) (hj : j < 40) : XF l yX0_findBlocker cX0_findBlocker 3 (some .int) rm_X0_findBlocker P [.ref (P.2.2.1 (.inl (b, 0))), .int (nI j)] σ (some (.int (xblk σ b nu nc j))) (σ) := by
  refine XM.of (by decide +kernel) (Nat.le_of_ble_eq_true rfl) (fun p e s m args below meth c A C => ?_)
  replace C : XC p s m args meth c P A 3 RX0 cX0_findBlocker (some .int) := C
  refine XW.eq (lv' := [(0, _), (1, _)]) rfl rfl rfl ?_
  refine X_aload_n (pc := 0) C 0 dX0_findBlocker_0 rfl rfl ?_
  refine G_X0_21 (pc := 1) C (by assumption) dX0_findBlocker_1 ?_
  refine K_X0_123 (pc := 4) C (by assumption) (c_X1_findBusy l P _ b nc hb hnc hcc) ⟨Nat.le_of_ble_eq_true rfl, Nat.le_of_ble_eq_true rfl⟩ ⟨rfl, rfl⟩ ⟨Nat.zero_le _, Nat.zero_le _⟩ (Nat.le_of_ble_eq_true rfl) dX0_findBlocker_4 ?_
  refine X_istore_n (pc := 7) (lv1 := [(0, _), (1, _), (2, _)]) C 2 dX0_findBlocker_7 rfl (by decide) rfl ?_
  refine X_iload_n (pc := 8) C 2 dX0_findBlocker_8 rfl rfl ?_
  refine X_aload_n (pc := 9) C 0 dX0_findBlocker_9 rfl rfl ?_
  refine G_X0_12 (pc := 10) C (by assumption) dX0_findBlocker_10 ?_
  refine X_aload_n (pc := 13) C 0 dX0_findBlocker_13 rfl rfl ?_
  refine G_X0_21 (pc := 14) C (by assumption) dX0_findBlocker_14 ?_
  refine G_X0_83 (pc := 17) C (by assumption) dX0_findBlocker_17 ?_
  refine X_iload_n (pc := 20) C 1 dX0_findBlocker_20 rfl rfl ?_
  refine X_ialdN (pc := 21) C (by first | exact hb _ (by decide)) rfl (by omega) (by decide) dX0_findBlocker_21 ?_
  refine K_X0_59 (pc := 22) C (by assumption) (c_X5_lineUsed l P _ b nu hb hnu hcu _) ⟨Nat.le_of_ble_eq_true rfl, Nat.le_of_ble_eq_true rfl⟩ ⟨rfl, rfl⟩ ⟨Nat.zero_le _, Nat.zero_le _⟩ (Nat.le_of_ble_eq_true rfl) dX0_findBlocker_22 ?_
  refine X_iand (pc := 25) C dX0_findBlocker_25 ?_
  refine X_if_eq (pc := 26) C 31 dX0_findBlocker_26 (by decide) (fun h26 => ?_) (fun h26 => ?_)
  · skip
    refine X_iload_n (pc := 31) C 2 dX0_findBlocker_31 rfl rfl ?_
    refine X_aload_n (pc := 32) C 0 dX0_findBlocker_32 rfl rfl ?_
    refine G_X0_21 (pc := 33) C (by assumption) dX0_findBlocker_33 ?_
    refine G_X0_107 (pc := 36) C (by assumption) dX0_findBlocker_36 ?_
    refine X_iload_n (pc := 39) C 1 dX0_findBlocker_39 rfl rfl ?_
    refine X_ialdN (pc := 40) C (by first | exact hb _ (by decide)) rfl (by omega) (by decide) dX0_findBlocker_40 ?_
    refine X_iand (pc := 41) C dX0_findBlocker_41 ?_
    refine X_if_eq (pc := 42) C 47 dX0_findBlocker_42 (by decide) (fun h42 => ?_) (fun h42 => ?_)
    · skip
      refine X_aload_n (pc := 47) C 0 dX0_findBlocker_47 rfl rfl ?_
      refine G_X0_21 (pc := 48) C (by assumption) dX0_findBlocker_48 ?_
      refine G_X0_127 (pc := 51) C (by assumption) dX0_findBlocker_51 ?_
      refine X_iload_n (pc := 54) C 1 dX0_findBlocker_54 rfl rfl ?_
      refine X_zaldN (pc := 55) C (by first | exact hb _ (by decide)) rfl (by omega) (by decide) dX0_findBlocker_55 ?_
      refine X_if_eq (pc := 56) C 77 dX0_findBlocker_56 (by decide) (fun h56 => ?_) (fun h56 => ?_)
      · skip
        refine X_iconst (pc := 77) (v := 0) C dX0_findBlocker_77 (by decide) ?_
        exact X_iret (pc := 78) C (Nat.zero_le _) (Nat.zero_le _) dX0_findBlocker_78 ⟨by rw [xblk, if_pos h26, if_pos h42, if_pos h56], rfl⟩
      · skip
        refine X_aload_n (pc := 59) C 0 dX0_findBlocker_59 rfl rfl ?_
        refine G_X0_21 (pc := 60) C (by assumption) dX0_findBlocker_60 ?_
        refine K_X0_130 (pc := 63) C (by assumption) (c_X1_countCords l P _ b nc hb hnc hcc) ⟨Nat.le_of_ble_eq_true rfl, Nat.le_of_ble_eq_true rfl⟩ ⟨rfl, rfl⟩ ⟨Nat.zero_le _, Nat.zero_le _⟩ (Nat.le_of_ble_eq_true rfl) dX0_findBlocker_63 ?_
        refine X_aload_n (pc := 66) C 0 dX0_findBlocker_66 rfl rfl ?_
        refine G_X0_49 (pc := 67) C (by assumption) dX0_findBlocker_67 ?_
        refine X_icmp_lt (pc := 70) C 77 dX0_findBlocker_70 (by decide) (fun h70 => ?_) (fun h70 => ?_)
        · skip
          refine X_iconst (pc := 77) (v := 0) C dX0_findBlocker_77 (by decide) ?_
          exact X_iret (pc := 78) C (Nat.zero_le _) (Nat.zero_le _) dX0_findBlocker_78 ⟨by rw [xblk, if_pos h26, if_pos h42, if_neg h56, if_pos h70], rfl⟩
        · skip
          refine X_iconst (pc := 73) (v := 3) C dX0_findBlocker_73 (by decide) ?_
          refine X_goto (pc := 74) C 78 dX0_findBlocker_74 (by decide) ?_
          exact X_iret (pc := 78) C (Nat.zero_le _) (Nat.zero_le _) dX0_findBlocker_78 ⟨by rw [xblk, if_pos h26, if_pos h42, if_neg h56, if_neg h70], rfl⟩
    · skip
      refine X_iconst (pc := 45) (v := 2) C dX0_findBlocker_45 (by decide) ?_
      exact X_iret (pc := 46) C (Nat.zero_le _) (Nat.zero_le _) dX0_findBlocker_46 ⟨by rw [xblk, if_pos h26, if_neg h42], rfl⟩
  · skip
    refine X_iconst (pc := 29) (v := 1) C dX0_findBlocker_29 (by decide) ?_
    exact X_iret (pc := 30) C (Nat.zero_le _) (Nat.zero_le _) dX0_findBlocker_30 ⟨by rw [xblk, if_neg h26], rfl⟩

set_option maxRecDepth 100000 in
set_option maxHeartbeats 4000000 in
theorem c_X0_unusedCords (l : Launch) (P : XP) (σ : XS) (b n : Nat) (hb : xIn P b) (hn : n ≤ 40) (hc : σ.1 (.inl (b, 8)) 10 = nI n) : XF l yX0_unusedCords cX0_unusedCords 1 (some .int) rm_X0_unusedCords P [.ref (P.2.2.1 (.inl (b, 0)))] σ (some (.int (σ.1 (.inl (b, 0)) 5 - nI (cCords (σ.1 (.inl (b, 9))) (σ.1 (.inl (b, 15))) n)))) (σ) := by
  refine XM.of (by decide +kernel) (Nat.le_of_ble_eq_true rfl) (fun p e s m args below meth c A C => ?_)
  replace C : XC p s m args meth c P A 1 RX0 cX0_unusedCords (some .int) := C
  refine XW.eq (lv' := [(0, _)]) rfl rfl rfl ?_
  refine X_aload_n (pc := 0) C 0 dX0_unusedCords_0 rfl rfl ?_
  refine G_X0_49 (pc := 1) C (by assumption) dX0_unusedCords_1 ?_
  refine X_aload_n (pc := 4) C 0 dX0_unusedCords_4 rfl rfl ?_
  refine G_X0_21 (pc := 5) C (by assumption) dX0_unusedCords_5 ?_
  refine K_X0_130 (pc := 8) C (by assumption) (c_X1_countCords l P σ b n hb hn hc) ⟨Nat.le_of_ble_eq_true rfl, Nat.le_of_ble_eq_true rfl⟩ ⟨rfl, rfl⟩ ⟨Nat.zero_le _, Nat.zero_le _⟩ (Nat.le_of_ble_eq_true rfl) dX0_unusedCords_8 ?_
  refine X_isub (pc := 11) C dX0_unusedCords_11 ?_
  exact X_iret (pc := 12) C (Nat.zero_le _) (Nat.zero_le _) dX0_unusedCords_12 ⟨rfl, rfl⟩

set_option maxRecDepth 100000 in
set_option maxHeartbeats 4000000 in
theorem c_X0_cordFaults (l : Launch) (P : XP) (σ : XS) (b n : Nat) (hb : xIn P b) (hn : n ≤ 40) (hc : σ.1 (.inl (b, 8)) 10 = nI n) : XF l yX0_cordFaults cX0_cordFaults 1 (some .int) rm_X0_cordFaults P [.ref (P.2.2.1 (.inl (b, 0)))] σ (some (.int (xabs (σ.1 (.inl (b, 0)) 5 - (σ.1 (.inl (b, 0)) 5 - nI (cCords (σ.1 (.inl (b, 9))) (σ.1 (.inl (b, 15))) n)) - nI (cCords (σ.1 (.inl (b, 9))) (σ.1 (.inl (b, 15))) n))))) (σ) := by
  refine XM.of (by decide +kernel) (Nat.le_of_ble_eq_true rfl) (fun p e s m args below meth c A C => ?_)
  replace C : XC p s m args meth c P A 1 RX0 cX0_cordFaults (some .int) := C
  refine XW.eq (lv' := [(0, _)]) rfl rfl rfl ?_
  refine X_aload_n (pc := 0) C 0 dX0_cordFaults_0 rfl rfl ?_
  refine G_X0_49 (pc := 1) C (by assumption) dX0_cordFaults_1 ?_
  refine X_aload_n (pc := 4) C 0 dX0_cordFaults_4 rfl rfl ?_
  refine K_X0_141 (pc := 5) C (by assumption) (c_X0_unusedCords l P σ b n hb hn hc) ⟨Nat.le_of_ble_eq_true rfl, Nat.le_of_ble_eq_true rfl⟩ ⟨rfl, rfl⟩ ⟨Nat.zero_le _, Nat.zero_le _⟩ (Nat.le_of_ble_eq_true rfl) dX0_cordFaults_5 ?_
  refine X_isub (pc := 8) C dX0_cordFaults_8 ?_
  refine X_aload_n (pc := 9) C 0 dX0_cordFaults_9 rfl rfl ?_
  refine G_X0_21 (pc := 10) C (by assumption) dX0_cordFaults_10 ?_
  refine K_X0_130 (pc := 13) C (by assumption) (c_X1_countCords l P σ b n hb hn hc) ⟨Nat.le_of_ble_eq_true rfl, Nat.le_of_ble_eq_true rfl⟩ ⟨rfl, rfl⟩ ⟨Nat.zero_le _, Nat.zero_le _⟩ (Nat.le_of_ble_eq_true rfl) dX0_cordFaults_13 ?_
  refine X_isub (pc := 16) C dX0_cordFaults_16 ?_
  refine X_mabs (pc := 17) C m_m_X0_144 (Nat.le_of_ble_eq_true rfl) (Nat.le_of_ble_eq_true rfl) ⟨Nat.zero_le _, Nat.zero_le _⟩ dX0_cordFaults_17 ?_
  exact X_iret (pc := 20) C (Nat.zero_le _) (Nat.zero_le _) dX0_cordFaults_20 ⟨rfl, rfl⟩

set_option maxRecDepth 100000 in
set_option maxHeartbeats 4000000 in
theorem c_X0_chargeFor (l : Launch) (P : XP) (σ : XS) (b nt : Nat) (hb : xIn P b) (hnt : nt ≤ 4) (hct : σ.1 (.inl (b, 0)) 6 = nI nt) (j : Nat) (hj : j < 40) : XF l yX0_chargeFor cX0_chargeFor 6 (some .int) rm_X0_chargeFor P [.ref (P.2.2.1 (.inl (b, 0))), .int (nI j)] σ (some (.int (xchg σ b nt j))) (σ) := by
  refine XM.of (by decide +kernel) (Nat.le_of_ble_eq_true rfl) (fun p e s m args below meth c A C => ?_)
  replace C : XC p s m args meth c P A 6 RX0 cX0_chargeFor (some .int) := C
  refine XW.eq (lv' := [(0, _), (1, _)]) rfl rfl rfl ?_
  refine X_aload_n (pc := 0) C 0 dX0_chargeFor_0 rfl rfl ?_
  refine G_X0_21 (pc := 1) C (by assumption) dX0_chargeFor_1 ?_
  refine G_X0_77 (pc := 4) C (by assumption) dX0_chargeFor_4 ?_
  refine X_iload_n (pc := 7) C 1 dX0_chargeFor_7 rfl rfl ?_
  refine X_ialdN (pc := 8) C (by first | exact hb _ (by decide)) rfl (by omega) (by decide) dX0_chargeFor_8 ?_
  refine X_istore_n (pc := 9) (lv1 := [(0, _), (1, _), (2, _)]) C 2 dX0_chargeFor_9 rfl (by decide) rfl ?_
  refine X_iload_n (pc := 10) C 2 dX0_chargeFor_10 rfl rfl ?_
  refine X_if_eq (pc := 11) C 19 dX0_chargeFor_11 (by decide) (fun h11 => ?_) (fun h11 => ?_)
  · skip
    refine X_iconst (pc := 19) (v := 0) C dX0_chargeFor_19 (by decide) ?_
    exact X_iret (pc := 20) C (Nat.zero_le _) (Nat.zero_le _) dX0_chargeFor_20 ⟨by first | (rw [xchg, if_pos h11]; done) | (rw [xchg, if_neg h11, if_pos h16]; done), rfl⟩
  · skip
    refine X_iload_n (pc := 14) C 2 dX0_chargeFor_14 rfl rfl ?_
    refine X_iconst (pc := 15) (v := 3) C dX0_chargeFor_15 (by decide) ?_
    refine X_icmp_ne (pc := 16) C 21 dX0_chargeFor_16 (by decide) (fun h16 => ?_) (fun h16 => ?_)
    · skip
      refine X_aload_n (pc := 21) C 0 dX0_chargeFor_21 rfl rfl ?_
      refine G_X0_21 (pc := 22) C (by assumption) dX0_chargeFor_22 ?_
      refine G_X0_133 (pc := 25) C (by assumption) dX0_chargeFor_25 ?_
      refine X_iload_n (pc := 28) C 1 dX0_chargeFor_28 rfl rfl ?_
      refine X_ialdN (pc := 29) C (by first | exact hb _ (by decide)) rfl (by omega) (by decide) dX0_chargeFor_29 ?_
      refine X_istore_n (pc := 30) (lv1 := [(0, _), (1, _), (2, _), (3, _)]) C 3 dX0_chargeFor_30 rfl (by decide) rfl ?_
      refine X_iload_n (pc := 31) C 3 dX0_chargeFor_31 rfl rfl ?_
      refine X_if_lt (pc := 32) C 43 dX0_chargeFor_32 (by decide) (fun h32 => ?_) (fun h32 => ?_)
      · skip
        refine X_iconst (pc := 43) (v := 5) C dX0_chargeFor_43 (by decide) ?_
        exact X_iret (pc := 44) C (Nat.zero_le _) (Nat.zero_le _) dX0_chargeFor_44 ⟨by first | (rw [xchg, if_neg h11, if_neg h16, if_neg (xok_neg h32)]; done) | (rw [xchg, if_neg h11, if_neg h16, if_neg (xok_big (Int32.not_lt.mp h40))]; done), rfl⟩
      · skip
        refine X_iload_n (pc := 35) C 3 dX0_chargeFor_35 rfl rfl ?_
        refine X_aload_n (pc := 36) C 0 dX0_chargeFor_36 rfl rfl ?_
        refine G_X0_52 (pc := 37) C (by assumption) dX0_chargeFor_37 ?_
        rw [hct]
        refine X_icmp_lt (pc := 40) C 45 dX0_chargeFor_40 (by decide) (fun h40 => ?_) (fun h40 => ?_)
        · obtain ⟨k, hk, ek⟩ := xok_of (xok_yes h32 (fun q => absurd h40 (Int32.not_lt.mpr q)) : xok (σ.1 (.inl (b, 12)) j) nt)
          refine X_iload_n (pc := 45) C 2 dX0_chargeFor_45 rfl rfl ?_
          refine X_iconst (pc := 46) (v := 1) C dX0_chargeFor_46 (by decide) ?_
          refine X_icmp_ne (pc := 47) C 57 dX0_chargeFor_47 (by decide) (fun h47 => ?_) (fun h47 => ?_)
          · skip
            refine X_aload_n (pc := 57) C 0 dX0_chargeFor_57 rfl rfl ?_
            refine G_X0_21 (pc := 58) C (by assumption) dX0_chargeFor_58 ?_
            refine G_X0_80 (pc := 61) C (by assumption) dX0_chargeFor_61 ?_
            refine X_iload_n (pc := 64) C 1 dX0_chargeFor_64 rfl rfl ?_
            refine X_ialdN (pc := 65) C (by first | exact hb _ (by decide)) rfl (by omega) (by decide) dX0_chargeFor_65 ?_
            refine X_istore (pc := 66) (lv1 := [(0, _), (1, _), (2, _), (3, _), (4, _)]) C dX0_chargeFor_66 (by decide) rfl ?_
            refine X_iload (pc := 68) C dX0_chargeFor_68 rfl ?_
            refine X_aload_n (pc := 70) C 0 dX0_chargeFor_70 rfl rfl ?_
            refine G_X0_21 (pc := 71) C (by assumption) dX0_chargeFor_71 ?_
            refine G_X0_114 (pc := 74) C (by assumption) dX0_chargeFor_74 ?_
            refine X_iload_n (pc := 77) C 1 dX0_chargeFor_77 rfl rfl ?_
            refine X_ialdN (pc := 78) C (by first | exact hb _ (by decide)) rfl (by omega) (by decide) dX0_chargeFor_78 ?_
            refine X_isub (pc := 79) C dX0_chargeFor_79 ?_
            refine X_bipush (pc := 80) (v := 59) C dX0_chargeFor_80 (by decide) ?_
            refine X_iadd (pc := 82) C dX0_chargeFor_82 ?_
            refine X_bipush (pc := 83) (v := 60) C dX0_chargeFor_83 (by decide) ?_
            refine X_idiv (pc := 85) C dX0_chargeFor_85 (by decide) ?_
            refine X_istore (pc := 86) (lv1 := [(0, _), (1, _), (2, _), (3, _), (4, _), (5, _)]) C dX0_chargeFor_86 (by decide) rfl ?_
            refine X_iconst (pc := 88) (v := 1) C dX0_chargeFor_88 (by decide) ?_
            refine X_iload (pc := 89) C dX0_chargeFor_89 rfl ?_
            refine X_mmax (pc := 91) C m_m_X0_136 (Nat.le_of_ble_eq_true rfl) (Nat.le_of_ble_eq_true rfl) ⟨Nat.zero_le _, Nat.zero_le _⟩ dX0_chargeFor_91 ?_
            refine X_aload_n (pc := 94) C 0 dX0_chargeFor_94 rfl rfl ?_
            refine G_X0_25 (pc := 95) C (by assumption) dX0_chargeFor_95 ?_
            refine X_iload_n (pc := 98) C 3 dX0_chargeFor_98 rfl rfl ?_
            rw [ek]
            refine X_ialdN (pc := 99) C (by first | exact hb _ (by decide)) rfl (by omega) (by decide) dX0_chargeFor_99 ?_
            refine X_imul (pc := 100) C dX0_chargeFor_100 ?_
            exact X_iret (pc := 101) C (Nat.zero_le _) (Nat.zero_le _) dX0_chargeFor_101 ⟨by first | (rw [xchg, if_neg h11, if_neg h16, ek, if_pos (xok_nI hk), nI_clamp (n31 (by omega)), if_pos h47]; rfl) | (rw [xchg, if_neg h11, if_neg h16, ek, if_pos (xok_nI hk), nI_clamp (n31 (by omega)), if_neg h47]; rfl), rfl⟩
          · skip
            refine X_aload_n (pc := 50) C 0 dX0_chargeFor_50 rfl rfl ?_
            refine G_X0_42 (pc := 51) C (by assumption) dX0_chargeFor_51 ?_
            refine X_goto (pc := 54) C 66 dX0_chargeFor_54 (by decide) ?_
            refine X_istore (pc := 66) (lv1 := [(0, _), (1, _), (2, _), (3, _), (4, _)]) C dX0_chargeFor_66 (by decide) rfl ?_
            refine X_iload (pc := 68) C dX0_chargeFor_68 rfl ?_
            refine X_aload_n (pc := 70) C 0 dX0_chargeFor_70 rfl rfl ?_
            refine G_X0_21 (pc := 71) C (by assumption) dX0_chargeFor_71 ?_
            refine G_X0_114 (pc := 74) C (by assumption) dX0_chargeFor_74 ?_
            refine X_iload_n (pc := 77) C 1 dX0_chargeFor_77 rfl rfl ?_
            refine X_ialdN (pc := 78) C (by first | exact hb _ (by decide)) rfl (by omega) (by decide) dX0_chargeFor_78 ?_
            refine X_isub (pc := 79) C dX0_chargeFor_79 ?_
            refine X_bipush (pc := 80) (v := 59) C dX0_chargeFor_80 (by decide) ?_
            refine X_iadd (pc := 82) C dX0_chargeFor_82 ?_
            refine X_bipush (pc := 83) (v := 60) C dX0_chargeFor_83 (by decide) ?_
            refine X_idiv (pc := 85) C dX0_chargeFor_85 (by decide) ?_
            refine X_istore (pc := 86) (lv1 := [(0, _), (1, _), (2, _), (3, _), (4, _), (5, _)]) C dX0_chargeFor_86 (by decide) rfl ?_
            refine X_iconst (pc := 88) (v := 1) C dX0_chargeFor_88 (by decide) ?_
            refine X_iload (pc := 89) C dX0_chargeFor_89 rfl ?_
            refine X_mmax (pc := 91) C m_m_X0_136 (Nat.le_of_ble_eq_true rfl) (Nat.le_of_ble_eq_true rfl) ⟨Nat.zero_le _, Nat.zero_le _⟩ dX0_chargeFor_91 ?_
            refine X_aload_n (pc := 94) C 0 dX0_chargeFor_94 rfl rfl ?_
            refine G_X0_25 (pc := 95) C (by assumption) dX0_chargeFor_95 ?_
            refine X_iload_n (pc := 98) C 3 dX0_chargeFor_98 rfl rfl ?_
            rw [ek]
            refine X_ialdN (pc := 99) C (by first | exact hb _ (by decide)) rfl (by omega) (by decide) dX0_chargeFor_99 ?_
            refine X_imul (pc := 100) C dX0_chargeFor_100 ?_
            exact X_iret (pc := 101) C (Nat.zero_le _) (Nat.zero_le _) dX0_chargeFor_101 ⟨by first | (rw [xchg, if_neg h11, if_neg h16, ek, if_pos (xok_nI hk), nI_clamp (n31 (by omega)), if_pos h47]; rfl) | (rw [xchg, if_neg h11, if_neg h16, ek, if_pos (xok_nI hk), nI_clamp (n31 (by omega)), if_neg h47]; rfl), rfl⟩
        · skip
          refine X_iconst (pc := 43) (v := 5) C dX0_chargeFor_43 (by decide) ?_
          exact X_iret (pc := 44) C (Nat.zero_le _) (Nat.zero_le _) dX0_chargeFor_44 ⟨by first | (rw [xchg, if_neg h11, if_neg h16, if_neg (xok_neg h32)]; done) | (rw [xchg, if_neg h11, if_neg h16, if_neg (xok_big (Int32.not_lt.mp h40))]; done), rfl⟩
    · skip
      refine X_iconst (pc := 19) (v := 0) C dX0_chargeFor_19 (by decide) ?_
      exact X_iret (pc := 20) C (Nat.zero_le _) (Nat.zero_le _) dX0_chargeFor_20 ⟨by first | (rw [xchg, if_pos h11]; done) | (rw [xchg, if_neg h11, if_pos h16]; done), rfl⟩

set_option maxRecDepth 100000 in
set_option maxHeartbeats 4000000 in
theorem c_X0_start (l : Launch) (P : XP) (σ : XS) (b nu : Nat) (hb : xIn P b) (hnu : nu ≤ 15) (hcu : σ.1 (.inl (b, 1)) 6 = nI nu) (j : Nat) (hj : j < 40) : XF l yX0_start cX0_start 4 none rm_X0_start P [.ref (P.2.2.1 (.inl (b, 0))), .int (nI j)] σ (none) (uStart σ b nu j) := by
  refine XM.of (by decide +kernel) (Nat.le_of_ble_eq_true rfl) (fun p e s m args below meth c A C => ?_)
  replace C : XC p s m args meth c P A 4 RX0 cX0_start none := C
  refine XW.eq (lv' := [(0, _), (1, _)]) rfl rfl rfl ?_
  refine X_aload_n (pc := 0) C 0 dX0_start_0 rfl rfl ?_
  refine G_X0_21 (pc := 1) C (by assumption) dX0_start_1 ?_
  refine G_X0_83 (pc := 4) C (by assumption) dX0_start_4 ?_
  refine X_iload_n (pc := 7) C 1 dX0_start_7 rfl rfl ?_
  refine X_ialdN (pc := 8) C (by first | exact hb _ (by decide)) rfl (by omega) (by decide) dX0_start_8 ?_
  refine K_X0_101 (pc := 9) C (c_X6_bit l P σ _) ⟨Nat.le_of_ble_eq_true rfl, Nat.le_of_ble_eq_true rfl⟩ ⟨rfl, rfl⟩ ⟨Nat.zero_le _, Nat.zero_le _⟩ (Nat.le_of_ble_eq_true rfl) dX0_start_9 ?_
  refine X_aload_n (pc := 12) C 0 dX0_start_12 rfl rfl ?_
  refine G_X0_21 (pc := 13) C (by assumption) dX0_start_13 ?_
  refine G_X0_104 (pc := 16) C (by assumption) dX0_start_16 ?_
  refine X_iload_n (pc := 19) C 1 dX0_start_19 rfl rfl ?_
  refine X_ialdN (pc := 20) C (by first | exact hb _ (by decide)) rfl (by omega) (by decide) dX0_start_20 ?_
  refine K_X0_101 (pc := 21) C (c_X6_bit l P σ _) ⟨Nat.le_of_ble_eq_true rfl, Nat.le_of_ble_eq_true rfl⟩ ⟨rfl, rfl⟩ ⟨Nat.zero_le _, Nat.zero_le _⟩ (Nat.le_of_ble_eq_true rfl) dX0_start_21 ?_
  refine X_ior (pc := 24) C dX0_start_24 ?_
  refine X_istore_n (pc := 25) (lv1 := [(0, _), (1, _), (2, _)]) C 2 dX0_start_25 rfl (by decide) rfl ?_
  refine X_aload_n (pc := 26) C 0 dX0_start_26 rfl rfl ?_
  refine G_X0_12 (pc := 27) C (by assumption) dX0_start_27 ?_
  refine X_aload_n (pc := 30) C 0 dX0_start_30 rfl rfl ?_
  refine G_X0_21 (pc := 31) C (by assumption) dX0_start_31 ?_
  refine G_X0_107 (pc := 34) C (by assumption) dX0_start_34 ?_
  refine X_iload_n (pc := 37) C 1 dX0_start_37 rfl rfl ?_
  refine X_ialdN (pc := 38) C (by first | exact hb _ (by decide)) rfl (by omega) (by decide) dX0_start_38 ?_
  refine X_iload_n (pc := 39) C 2 dX0_start_39 rfl rfl ?_
  refine K_X0_110 (pc := 40) C (by assumption) (c_X5_curiousOn l P σ b nu hb hnu hcu _ _) ⟨Nat.le_of_ble_eq_true rfl, Nat.le_of_ble_eq_true rfl⟩ ⟨rfl, rfl⟩ ⟨Nat.zero_le _, Nat.zero_le _⟩ (Nat.le_of_ble_eq_true rfl) dX0_start_40 ?_
  refine X_istore_n (pc := 43) (lv1 := [(0, _), (1, _), (2, _), (3, _)]) C 3 dX0_start_43 rfl (by decide) rfl ?_
  refine X_aload_n (pc := 44) C 0 dX0_start_44 rfl rfl ?_
  refine G_X0_21 (pc := 45) C (by assumption) dX0_start_45 ?_
  refine G_X0_77 (pc := 48) C (by assumption) dX0_start_48 ?_
  refine X_iload_n (pc := 51) C 1 dX0_start_51 rfl rfl ?_
  refine X_iconst (pc := 52) (v := 1) C dX0_start_52 (by decide) ?_
  refine X_iastN (pc := 53) C (by first | exact hb _ (by decide)) rfl (by omega) (by decide) dX0_start_53 ?_
  refine X_aload_n (pc := 54) C 0 dX0_start_54 rfl rfl ?_
  refine G_X0_21 (pc := 55) C (by assumption) dX0_start_55 ?_
  refine G_X0_114 (pc := 58) C (by assumption) dX0_start_58 ?_
  refine X_iload_n (pc := 61) C 1 dX0_start_61 rfl rfl ?_
  refine X_aload_n (pc := 62) C 0 dX0_start_62 rfl rfl ?_
  refine G_X0_42 (pc := 63) C (by assumption) dX0_start_63 ?_
  rw [show (xu σ (.inl (b, 9)) j 1).1 (.inl (b, 0)) 3 = σ.1 (.inl (b, 0)) 3 from by simp [xu_ap]]
  refine X_iastN (pc := 66) C (by first | exact hb _ (by decide)) rfl (by omega) (by decide) dX0_start_66 ?_
  refine X_aload_n (pc := 67) C 0 dX0_start_67 rfl rfl ?_
  refine G_X0_21 (pc := 68) C (by assumption) dX0_start_68 ?_
  refine G_X0_117 (pc := 71) C (by assumption) dX0_start_71 ?_
  refine X_iload_n (pc := 74) C 1 dX0_start_74 rfl rfl ?_
  refine X_iload_n (pc := 75) C 3 dX0_start_75 rfl rfl ?_
  refine X_iastN (pc := 76) C (by first | exact hb _ (by decide)) rfl (by omega) (by decide) dX0_start_76 ?_
  refine X_aload_n (pc := 77) C 0 dX0_start_77 rfl rfl ?_
  refine G_X0_12 (pc := 78) C (by assumption) dX0_start_78 ?_
  refine X_iload_n (pc := 81) C 2 dX0_start_81 rfl rfl ?_
  refine X_iload_n (pc := 82) C 3 dX0_start_82 rfl rfl ?_
  refine K_X0_120 (pc := 83) C (by assumption) (c_X5_tellSecrets l P _ b nu hb hnu (by simp [xu_ap, hcu]) _ _) ⟨Nat.le_of_ble_eq_true rfl, Nat.le_of_ble_eq_true rfl⟩ ⟨rfl, rfl⟩ ⟨Nat.zero_le _, Nat.zero_le _⟩ (Nat.le_of_ble_eq_true rfl) dX0_start_83 ?_
  exact X_vret (pc := 86) C (Nat.zero_le _) (Nat.zero_le _) dX0_start_86 ⟨rfl, rfl⟩

theorem nm1 {n : Nat} (h : nI n = -1) (hn : n ≤ 1000000 := by omega) : False := by
  have h1 := congrArg Int32.toInt h
  rw [nI_toInt (by omega)] at h1
  have h2 : (-1 : Int32).toInt = -1 := by decide
  omega
/-- a call is requested -/
def uReq0 (σ : XS) (b nu nc : Nat) (ca ot tr ur : Int32) : XS := uCall σ b nc ca ot tr ur (xline (σ.1 (.inl (b, 3))) nu ca ||| xline (σ.1 (.inl (b, 3))) nu ot ||| xtb tr)
def uReq (σ : XS) (b nu nc : Nat) (ca ot tr ur : Int32) : XS := if xblk (uReq0 σ b nu nc ca ot tr ur) b nu (nc + 1) nc = 0 then uStart (uReq0 σ b nu nc ca ot tr ur) b nu nc else uReq0 σ b nu nc ca ot tr ur
theorem uReq0_cu {σ : XS} {b nu nc : Nat} {ca ot tr ur : Int32} (hcu : σ.1 (.inl (b, 1)) 6 = nI nu) : (uReq0 σ b nu nc ca ot tr ur).1 (.inl (b, 1)) 6 = nI nu := by simp [uReq0, uCall, xu_ap, hcu]
theorem uReq0_cc {σ : XS} {b nu nc : Nat} {ca ot tr ur : Int32} : (uReq0 σ b nu nc ca ot tr ur).1 (.inl (b, 8)) 10 = nI (nc + 1) := by simp [uReq0, uCall, xu_ap]
/-- call j ends or is cancelled -/
def uFin1 (σ : XS) (b j : Nat) (v : Int32) : XS := xu (xu σ (.inl (b, 9)) j v) (.inl (b, 17)) j (σ.1 (.inl (b, 0)) 3)
def uBill (σ : XS) (b nu nt j : Nat) : XS := if xok (σ.1 (.inl (b, 10)) j) nu then xu (uFin1 σ b j 2) (.inl (b, 6)) (σ.1 (.inl (b, 10)) j).toNatClampNeg ((uFin1 σ b j 2).1 (.inl (b, 6)) (σ.1 (.inl (b, 10)) j).toNatClampNeg + xchg (uFin1 σ b j 2) b nt j) else uFin1 σ b j 2
def uFin (σ : XS) (b nu nt j : Nat) : XS := if σ.1 (.inl (b, 9)) j = 1 then uBill σ b nu nt j else uFin1 σ b j 3
theorem uFin1_o (σ : XS) (b j : Nat) (v : Int32) {i : XI} (h9 : i ≠ .inl (b, 9)) (h17 : i ≠ .inl (b, 17)) : (uFin1 σ b j v).1 i = σ.1 i := by
  unfold uFin1
  rw [xu_ne _ _ _ h17, xu_ne _ _ _ h9]
theorem uFin_o (σ : XS) (b nu nt j : Nat) {i : XI} (h6 : i ≠ .inl (b, 6)) (h9 : i ≠ .inl (b, 9)) (h17 : i ≠ .inl (b, 17)) : (uFin σ b nu nt j).1 i = σ.1 i := by
  unfold uFin uBill
  split
  · split
    · rw [xu_ne _ _ _ h6, uFin1_o _ _ _ _ h9 h17]
    · exact uFin1_o _ _ _ _ h9 h17
  · exact uFin1_o _ _ _ _ h9 h17
def uFinA (σ : XS) (b nu nc nt j : Nat) : XS × Nat := uWait (uFin σ b nu nt j) b nu nc 1 nc
def uFinB (σ : XS) (b nu nc nt j : Nat) : XS × Nat := uWait (uFinA σ b nu nc nt j).1 b nu nc 0 nc
/-- the sum s without what the first ended calls have cost -/
def cLess (σ : XS) (b nt : Nat) (s : Int32) : Nat → Int32
  | 0 => s
  | k + 1 => if σ.1 (.inl (b, 9)) k = 2 then cLess σ b nt s k - xchg σ b nt k else cLess σ b nt s k
set_option maxRecDepth 100000 in
set_option maxHeartbeats 4000000 in
theorem c_X0_request (l : Launch) (P : XP) (σ : XS) (b nu nc : Nat) (hb : xIn P b) (hnu : nu ≤ 15) (hcu : σ.1 (.inl (b, 1)) 6 = nI nu) (hnc : nc ≤ 40) (hcc : σ.1 (.inl (b, 8)) 10 = nI nc) (hlt : nc < 40) (ca ot tr ur : Int32) (hur : vp_nar .boolean ur = ur) : XF l yX0_request cX0_request 7 (some .int) rm_X0_request P [.ref (P.2.2.1 (.inl (b, 0))), .int ca, .int ot, .int tr, .int ur] σ (some (.int (nI nc))) (uReq σ b nu nc ca ot tr ur) := by
  refine XM.of (by decide +kernel) (Nat.le_of_ble_eq_true rfl) (fun p e s m args below meth c A C => ?_)
  replace C : XC p s m args meth c P A 7 RX0 cX0_request (some .int) := C
  refine XW.eq (lv' := [(0, _), (1, _), (2, _), (3, _), (4, _)]) rfl rfl rfl ?_
  refine X_aload_n (pc := 0) C 0 dX0_request_0 rfl rfl ?_
  refine G_X0_12 (pc := 1) C (by assumption) dX0_request_1 ?_
  refine X_iload_n (pc := 4) C 1 dX0_request_4 rfl rfl ?_
  refine K_X0_59 (pc := 5) C (by assumption) (c_X5_lineUsed l P _ b nu hb hnu hcu _) ⟨Nat.le_of_ble_eq_true rfl, Nat.le_of_ble_eq_true rfl⟩ ⟨rfl, rfl⟩ ⟨Nat.zero_le _, Nat.zero_le _⟩ (Nat.le_of_ble_eq_true rfl) dX0_request_5 ?_
  refine X_aload_n (pc := 8) C 0 dX0_request_8 rfl rfl ?_
  refine G_X0_12 (pc := 9) C (by assumption) dX0_request_9 ?_
  refine X_iload_n (pc := 12) C 2 dX0_request_12 rfl rfl ?_
  refine K_X0_59 (pc := 13) C (by assumption) (c_X5_lineUsed l P _ b nu hb hnu hcu _) ⟨Nat.le_of_ble_eq_true rfl, Nat.le_of_ble_eq_true rfl⟩ ⟨rfl, rfl⟩ ⟨Nat.zero_le _, Nat.zero_le _⟩ (Nat.le_of_ble_eq_true rfl) dX0_request_13 ?_
  refine X_ior (pc := 16) C dX0_request_16 ?_
  refine X_iload_n (pc := 17) C 3 dX0_request_17 rfl rfl ?_
  refine K_X0_63 (pc := 18) C (c_X6_trunkBit l P σ tr) ⟨Nat.le_of_ble_eq_true rfl, Nat.le_of_ble_eq_true rfl⟩ ⟨rfl, rfl⟩ ⟨Nat.zero_le _, Nat.zero_le _⟩ (Nat.le_of_ble_eq_true rfl) dX0_request_18 ?_
  refine X_ior (pc := 21) C dX0_request_21 ?_
  refine X_istore (pc := 22) (lv1 := [(0, _), (1, _), (2, _), (3, _), (4, _), (5, _)]) C dX0_request_22 (by decide) rfl ?_
  refine X_aload_n (pc := 24) C 0 dX0_request_24 rfl rfl ?_
  refine G_X0_21 (pc := 25) C (by assumption) dX0_request_25 ?_
  refine X_iload_n (pc := 28) C 1 dX0_request_28 rfl rfl ?_
  refine X_iload_n (pc := 29) C 2 dX0_request_29 rfl rfl ?_
  refine X_iload_n (pc := 30) C 3 dX0_request_30 rfl rfl ?_
  refine X_iload (pc := 31) C dX0_request_31 rfl ?_
  refine X_iload (pc := 33) C dX0_request_33 rfl ?_
  refine K_X0_66 (pc := 35) C (by assumption) (by have h := c_X1_add l P σ b nc hb hnc hcc ca ot tr ur (xline (σ.1 (.inl (b, 3))) nu ca ||| xline (σ.1 (.inl (b, 3))) nu ot ||| xtb tr) hur; rw [if_pos hlt, if_pos hlt] at h; exact h) ⟨Nat.le_of_ble_eq_true rfl, Nat.le_of_ble_eq_true rfl⟩ ⟨rfl, rfl⟩ ⟨Nat.zero_le _, Nat.zero_le _⟩ (Nat.le_of_ble_eq_true rfl) dX0_request_35 ?_
  refine X_istore (pc := 38) (lv1 := [(0, _), (1, _), (2, _), (3, _), (4, _), (5, _), (6, _)]) C dX0_request_38 (by decide) rfl ?_
  refine X_iload (pc := 40) C dX0_request_40 rfl ?_
  refine X_iconst (pc := 42) (v := (-1)) C dX0_request_42 (by decide) ?_
  refine X_icmp_eq (pc := 43) C 61 dX0_request_43 (by decide) (fun h43 => ?_) (fun h43 => ?_)
  · exact (nm1 h43).elim
  · skip
    refine X_aload_n (pc := 46) C 0 dX0_request_46 rfl rfl ?_
    refine X_iload (pc := 47) C dX0_request_47 rfl ?_
    refine K_X0_70 (pc := 49) C (by assumption) (c_X0_findBlocker l P (uReq0 σ b nu nc ca ot tr ur) b nu (nc + 1) hb hnu (uReq0_cu hcu) (by omega) uReq0_cc nc hlt) ⟨Nat.le_of_ble_eq_true rfl, Nat.le_of_ble_eq_true rfl⟩ ⟨rfl, rfl⟩ ⟨Nat.zero_le _, Nat.zero_le _⟩ (Nat.le_of_ble_eq_true rfl) dX0_request_49 ?_
    refine X_if_ne (pc := 52) C 61 dX0_request_52 (by decide) (fun h52 => ?_) (fun h52 => ?_)
    · skip
      refine X_iload (pc := 61) C dX0_request_61 rfl ?_
      exact X_iret (pc := 63) C (Nat.zero_le _) (Nat.zero_le _) dX0_request_63 ⟨rfl, by rw [uReq, if_neg h52]⟩
    · skip
      refine X_aload_n (pc := 55) C 0 dX0_request_55 rfl rfl ?_
      refine X_iload (pc := 56) C dX0_request_56 rfl ?_
      refine K_X0_73 (pc := 58) C (by assumption) (c_X0_start l P (uReq0 σ b nu nc ca ot tr ur) b nu hb hnu (uReq0_cu hcu) nc hlt) ⟨Nat.le_of_ble_eq_true rfl, Nat.le_of_ble_eq_true rfl⟩ ⟨rfl, rfl⟩ ⟨Nat.zero_le _, Nat.zero_le _⟩ (Nat.le_of_ble_eq_true rfl) dX0_request_58 ?_
      refine X_iload (pc := 61) C dX0_request_61 rfl ?_
      exact X_iret (pc := 63) C (Nat.zero_le _) (Nat.zero_le _) dX0_request_63 ⟨rfl, by rw [uReq, if_pos h52]⟩

set_option maxRecDepth 100000 in
set_option maxHeartbeats 4000000 in
theorem L_X0_startWaiting (C : XC p s m args meth c P A 5 RX0 cX0_startWaiting (some .int)) {b nu nc : Nat} (hb : xIn P b) (hnu : nu ≤ 15) (hcu : σ.1 (.inl (b, 1)) 6 = nI nu) (hnc : nc ≤ 40) (hcc : σ.1 (.inl (b, 8)) 10 = nI nc) {u : Int32} (kx : XW p l e rm_X0_startWaiting s m args below meth c P A 5 0 0 Q (uWait σ b nu nc u nc).1 74 [(0, .ref (P.2.2.1 (.inl (b, 0)))), (1, .int u), (2, .int (nI (uWait σ b nu nc u nc).2)), (3, .int (nI nc))] []) : ∀ (k i : Nat), i + k = nc → XW p l e rm_X0_startWaiting s m args below meth c P A 5 0 0 Q (uWait σ b nu nc u i).1 4 [(0, .ref (P.2.2.1 (.inl (b, 0)))), (1, .int u), (2, .int (nI (uWait σ b nu nc u i).2)), (3, .int (nI i))] [] := by
  have hwu : ∀ k, (uWait σ b nu nc u k).1.1 (.inl (b, 1)) 6 = nI nu := fun k => by rw [uWait_o _ _ _ _ _ (by simp) (by simp) (by simp) (by simp)]; exact hcu
  have hwc : ∀ k, (uWait σ b nu nc u k).1.1 (.inl (b, 8)) 10 = nI nc := fun k => by rw [uWait_o _ _ _ _ _ (by simp) (by simp) (by simp) (by simp)]; exact hcc
  intro k
  induction k with
  | zero =>
    intro i hi
    have e9 : i = nc := by omega
    subst e9
    refine X_iload_n (pc := 4) C 3 dX0_startWaiting_4 rfl rfl ?_
    refine X_aload_n (pc := 5) C 0 dX0_startWaiting_5 rfl rfl ?_
    refine G_X0_21 (pc := 6) C (by assumption) dX0_startWaiting_6 ?_
    refine G_X0_58 (pc := 9) C (by assumption) dX0_startWaiting_9 ?_
    rw [hwc]
    refine X_icmp_ge (pc := 12) C 74 dX0_startWaiting_12 (by decide) (fun h12 => ?_) (fun h12 => ?_)
    · skip
      exact kx
    · exact absurd (nI_le (Nat.le_refl _) (n31 (by omega))) h12
  | succ k ih =>
    intro i hi
    have hlt : i < nc := by omega
    refine X_iload_n (pc := 4) C 3 dX0_startWaiting_4 rfl rfl ?_
    refine X_aload_n (pc := 5) C 0 dX0_startWaiting_5 rfl rfl ?_
    refine G_X0_21 (pc := 6) C (by assumption) dX0_startWaiting_6 ?_
    refine G_X0_58 (pc := 9) C (by assumption) dX0_startWaiting_9 ?_
    rw [hwc]
    refine X_icmp_ge (pc := 12) C 74 dX0_startWaiting_12 (by decide) (fun h12 => ?_) (fun h12 => ?_)
    · exact absurd (nle h12) (by omega)
    · skip
      refine X_aload_n (pc := 15) C 0 dX0_startWaiting_15 rfl rfl ?_
      refine G_X0_21 (pc := 16) C (by assumption) dX0_startWaiting_16 ?_
      refine G_X0_77 (pc := 19) C (by assumption) dX0_startWaiting_19 ?_
      refine X_iload_n (pc := 22) C 3 dX0_startWaiting_22 rfl rfl ?_
      refine X_ialdN (pc := 23) C (by first | exact hb _ (by decide)) rfl (by omega) (by decide) dX0_startWaiting_23 ?_
      refine X_if_ne (pc := 24) C 44 dX0_startWaiting_24 (by decide) (fun h24 => ?_) (fun h24 => ?_)
      · skip
        refine X_iconst (pc := 44) (v := 0) C dX0_startWaiting_44 (by decide) ?_
        refine X_istore (pc := 45) (lv1 := [(0, _), (1, _), (2, _), (3, _), (4, _)]) C dX0_startWaiting_45 (by decide) rfl ?_
        refine X_iload (pc := 47) C dX0_startWaiting_47 rfl ?_
        refine X_if_eq (pc := 49) C 68 dX0_startWaiting_49 (by decide) (fun h49 => ?_) (fun h49 => ?_)
        · skip
          first | refine X_iincN (pc := 68) (lv1 := [(0, _), (1, _), (2, _), (3, _), (4, _)]) C dX0_startWaiting_68 rfl (by decide) (by decide) rfl ?_ | refine X_iinc (pc := 68) (kk := 1) (lv1 := [(0, _), (1, _), (2, _), (3, _), (4, _)]) C dX0_startWaiting_68 rfl (by decide) (by decide) rfl ?_
          refine X_goto (pc := 71) C 4 dX0_startWaiting_71 (by decide) ?_
          exact XW.less (lv' := [(0, _), (1, _), (2, _), (3, _)]) [0, 1, 2, 3] rfl (XW.eq (by first | rw [uWait_n1 h24] | rw [uWait_n2 h37] | rw [uWait_n3 h57] | rw [uWait_y h24 h37 h57]) (by first | rw [uWait_n1 h24] | rw [uWait_n2 h37] | rw [uWait_n3 h57] | rw [uWait_y h24 h37 h57]) rfl (ih (i + 1) (by omega)))
        · exact absurd h49 (by decide)
      · skip
        refine X_aload_n (pc := 27) C 0 dX0_startWaiting_27 rfl rfl ?_
        refine G_X0_21 (pc := 28) C (by assumption) dX0_startWaiting_28 ?_
        refine G_X0_97 (pc := 31) C (by assumption) dX0_startWaiting_31 ?_
        refine X_iload_n (pc := 34) C 3 dX0_startWaiting_34 rfl rfl ?_
        refine X_zaldN (pc := 35) C (by first | exact hb _ (by decide)) rfl (by omega) (by decide) dX0_startWaiting_35 ?_
        refine X_iload_n (pc := 36) C 1 dX0_startWaiting_36 rfl rfl ?_
        refine X_icmp_ne (pc := 37) C 44 dX0_startWaiting_37 (by decide) (fun h37 => ?_) (fun h37 => ?_)
        · skip
          refine X_iconst (pc := 44) (v := 0) C dX0_startWaiting_44 (by decide) ?_
          refine X_istore (pc := 45) (lv1 := [(0, _), (1, _), (2, _), (3, _), (4, _)]) C dX0_startWaiting_45 (by decide) rfl ?_
          refine X_iload (pc := 47) C dX0_startWaiting_47 rfl ?_
          refine X_if_eq (pc := 49) C 68 dX0_startWaiting_49 (by decide) (fun h49 => ?_) (fun h49 => ?_)
          · skip
            first | refine X_iincN (pc := 68) (lv1 := [(0, _), (1, _), (2, _), (3, _), (4, _)]) C dX0_startWaiting_68 rfl (by decide) (by decide) rfl ?_ | refine X_iinc (pc := 68) (kk := 1) (lv1 := [(0, _), (1, _), (2, _), (3, _), (4, _)]) C dX0_startWaiting_68 rfl (by decide) (by decide) rfl ?_
            refine X_goto (pc := 71) C 4 dX0_startWaiting_71 (by decide) ?_
            exact XW.less (lv' := [(0, _), (1, _), (2, _), (3, _)]) [0, 1, 2, 3] rfl (XW.eq (by first | rw [uWait_n1 h24] | rw [uWait_n2 h37] | rw [uWait_n3 h57] | rw [uWait_y h24 h37 h57]) (by first | rw [uWait_n1 h24] | rw [uWait_n2 h37] | rw [uWait_n3 h57] | rw [uWait_y h24 h37 h57]) rfl (ih (i + 1) (by omega)))
          · exact absurd h49 (by decide)
        · skip
          refine X_iconst (pc := 40) (v := 1) C dX0_startWaiting_40 (by decide) ?_
          refine X_goto (pc := 41) C 45 dX0_startWaiting_41 (by decide) ?_
          refine X_istore (pc := 45) (lv1 := [(0, _), (1, _), (2, _), (3, _), (4, _)]) C dX0_startWaiting_45 (by decide) rfl ?_
          refine X_iload (pc := 47) C dX0_startWaiting_47 rfl ?_
          refine X_if_eq (pc := 49) C 68 dX0_startWaiting_49 (by decide) (fun h49 => ?_) (fun h49 => ?_)
          · exact absurd h49 (by decide)
          · skip
            refine X_aload_n (pc := 52) C 0 dX0_startWaiting_52 rfl rfl ?_
            refine X_iload_n (pc := 53) C 3 dX0_startWaiting_53 rfl rfl ?_
            refine K_X0_70 (pc := 54) C (by assumption) (c_X0_findBlocker l P _ b nu nc hb hnu (hwu i) hnc (hwc i) i (by omega)) ⟨Nat.le_of_ble_eq_true rfl, Nat.le_of_ble_eq_true rfl⟩ ⟨rfl, rfl⟩ ⟨Nat.zero_le _, Nat.zero_le _⟩ (Nat.le_of_ble_eq_true rfl) dX0_startWaiting_54 ?_
            refine X_if_ne (pc := 57) C 68 dX0_startWaiting_57 (by decide) (fun h57 => ?_) (fun h57 => ?_)
            · skip
              first | refine X_iincN (pc := 68) (lv1 := [(0, _), (1, _), (2, _), (3, _), (4, _)]) C dX0_startWaiting_68 rfl (by decide) (by decide) rfl ?_ | refine X_iinc (pc := 68) (kk := 1) (lv1 := [(0, _), (1, _), (2, _), (3, _), (4, _)]) C dX0_startWaiting_68 rfl (by decide) (by decide) rfl ?_
              refine X_goto (pc := 71) C 4 dX0_startWaiting_71 (by decide) ?_
              exact XW.less (lv' := [(0, _), (1, _), (2, _), (3, _)]) [0, 1, 2, 3] rfl (XW.eq (by first | rw [uWait_n1 h24] | rw [uWait_n2 h37] | rw [uWait_n3 h57] | rw [uWait_y h24 h37 h57]) (by first | rw [uWait_n1 h24] | rw [uWait_n2 h37] | rw [uWait_n3 h57] | rw [uWait_y h24 h37 h57]) rfl (ih (i + 1) (by omega)))
            · skip
              refine X_aload_n (pc := 60) C 0 dX0_startWaiting_60 rfl rfl ?_
              refine X_iload_n (pc := 61) C 3 dX0_startWaiting_61 rfl rfl ?_
              refine K_X0_73 (pc := 62) C (by assumption) (c_X0_start l P _ b nu hb hnu (hwu i) i (by omega)) ⟨Nat.le_of_ble_eq_true rfl, Nat.le_of_ble_eq_true rfl⟩ ⟨rfl, rfl⟩ ⟨Nat.zero_le _, Nat.zero_le _⟩ (Nat.le_of_ble_eq_true rfl) dX0_startWaiting_62 ?_
              first | refine X_iincN (pc := 65) (lv1 := [(0, _), (1, _), (2, _), (3, _), (4, _)]) C dX0_startWaiting_65 rfl (by decide) (by decide) rfl ?_ | refine X_iinc (pc := 65) (kk := 1) (lv1 := [(0, _), (1, _), (2, _), (3, _), (4, _)]) C dX0_startWaiting_65 rfl (by decide) (by decide) rfl ?_
              first | refine X_iincN (pc := 68) (lv1 := [(0, _), (1, _), (2, _), (3, _), (4, _)]) C dX0_startWaiting_68 rfl (by decide) (by decide) rfl ?_ | refine X_iinc (pc := 68) (kk := 1) (lv1 := [(0, _), (1, _), (2, _), (3, _), (4, _)]) C dX0_startWaiting_68 rfl (by decide) (by decide) rfl ?_
              refine X_goto (pc := 71) C 4 dX0_startWaiting_71 (by decide) ?_
              exact XW.less (lv' := [(0, _), (1, _), (2, _), (3, _)]) [0, 1, 2, 3] rfl (XW.eq (by first | rw [uWait_n1 h24] | rw [uWait_n2 h37] | rw [uWait_n3 h57] | rw [uWait_y h24 h37 h57]) (by first | rw [uWait_n1 h24] | rw [uWait_n2 h37] | rw [uWait_n3 h57] | rw [uWait_y h24 h37 h57]) rfl (ih (i + 1) (by omega)))

set_option maxRecDepth 100000 in
set_option maxHeartbeats 4000000 in
theorem c_X0_startWaiting (l : Launch) (P : XP) (σ : XS) (b nu nc : Nat) (hb : xIn P b) (hnu : nu ≤ 15) (hcu : σ.1 (.inl (b, 1)) 6 = nI nu) (hnc : nc ≤ 40) (hcc : σ.1 (.inl (b, 8)) 10 = nI nc) (u : Int32) : XF l yX0_startWaiting cX0_startWaiting 5 (some .int) rm_X0_startWaiting P [.ref (P.2.2.1 (.inl (b, 0))), .int u] σ (some (.int (nI (uWait σ b nu nc u nc).2))) ((uWait σ b nu nc u nc).1) := by
  refine XM.of (by decide +kernel) (Nat.le_of_ble_eq_true rfl) (fun p e s m args below meth c A C => ?_)
  replace C : XC p s m args meth c P A 5 RX0 cX0_startWaiting (some .int) := C
  refine XW.eq (lv' := [(0, _), (1, _)]) rfl rfl rfl ?_
  refine X_iconst (pc := 0) (v := 0) C dX0_startWaiting_0 (by decide) ?_
  refine X_istore_n (pc := 1) (lv1 := [(0, _), (1, _), (2, _)]) C 2 dX0_startWaiting_1 rfl (by decide) rfl ?_
  refine X_iconst (pc := 2) (v := 0) C dX0_startWaiting_2 (by decide) ?_
  refine X_istore_n (pc := 3) (lv1 := [(0, _), (1, _), (2, _), (3, _)]) C 3 dX0_startWaiting_3 rfl (by decide) rfl ?_
  refine L_X0_startWaiting C hb hnu hcu hnc hcc ?_ nc 0 (by omega)
  refine X_iload_n (pc := 74) C 2 dX0_startWaiting_74 rfl rfl ?_
  exact X_iret (pc := 75) C (Nat.zero_le _) (Nat.zero_le _) dX0_startWaiting_75 ⟨rfl, rfl⟩

set_option maxRecDepth 100000 in
set_option maxHeartbeats 4000000 in
theorem c_X0_finish (l : Launch) (P : XP) (σ : XS) (b nu nc nt : Nat) (hb : xIn P b) (hnu : nu ≤ 15) (hcu : σ.1 (.inl (b, 1)) 6 = nI nu) (hnc : nc ≤ 40) (hcc : σ.1 (.inl (b, 8)) 10 = nI nc) (hnt : nt ≤ 4) (hct : σ.1 (.inl (b, 0)) 6 = nI nt) (j : Nat) (hj : j < 40) : XF l yX0_finish cX0_finish 3 (some .int) rm_X0_finish P [.ref (P.2.2.1 (.inl (b, 0))), .int (nI j)] σ (some (.int (nI (uFinA σ b nu nc nt j).2 + nI (uFinB σ b nu nc nt j).2))) ((uFinB σ b nu nc nt j).1) := by
  refine XM.of (by decide +kernel) (Nat.le_of_ble_eq_true rfl) (fun p e s m args below meth c A C => ?_)
  replace C : XC p s m args meth c P A 3 RX0 cX0_finish (some .int) := C
  refine XW.eq (lv' := [(0, _), (1, _)]) rfl rfl rfl ?_
  refine X_aload_n (pc := 0) C 0 dX0_finish_0 rfl rfl ?_
  refine G_X0_21 (pc := 1) C (by assumption) dX0_finish_1 ?_
  refine G_X0_77 (pc := 4) C (by assumption) dX0_finish_4 ?_
  refine X_iload_n (pc := 7) C 1 dX0_finish_7 rfl rfl ?_
  refine X_ialdN (pc := 8) C (by first | exact hb _ (by decide)) rfl (by omega) (by decide) dX0_finish_8 ?_
  refine X_iconst (pc := 9) (v := 1) C dX0_finish_9 (by decide) ?_
  refine X_icmp_ne (pc := 10) C 17 dX0_finish_10 (by decide) (fun h10 => ?_) (fun h10 => ?_)
  · skip
    refine X_iconst (pc := 17) (v := 0) C dX0_finish_17 (by decide) ?_
    refine X_istore_n (pc := 18) (lv1 := [(0, _), (1, _), (2, _)]) C 2 dX0_finish_18 rfl (by decide) rfl ?_
    refine X_aload_n (pc := 19) C 0 dX0_finish_19 rfl rfl ?_
    refine G_X0_21 (pc := 20) C (by assumption) dX0_finish_20 ?_
    refine G_X0_77 (pc := 23) C (by assumption) dX0_finish_23 ?_
    refine X_iload_n (pc := 26) C 1 dX0_finish_26 rfl rfl ?_
    refine X_iload_n (pc := 27) C 2 dX0_finish_27 rfl rfl ?_
    refine X_if_eq (pc := 28) C 35 dX0_finish_28 (by decide) (fun h28 => ?_) (fun h28 => ?_)
    · skip
      refine X_iconst (pc := 35) (v := 3) C dX0_finish_35 (by decide) ?_
      refine X_iastN (pc := 36) C (by first | exact hb _ (by decide)) rfl (by omega) (by decide) dX0_finish_36 ?_
      refine X_aload_n (pc := 37) C 0 dX0_finish_37 rfl rfl ?_
      refine G_X0_21 (pc := 38) C (by assumption) dX0_finish_38 ?_
      refine G_X0_80 (pc := 41) C (by assumption) dX0_finish_41 ?_
      refine X_iload_n (pc := 44) C 1 dX0_finish_44 rfl rfl ?_
      refine X_aload_n (pc := 45) C 0 dX0_finish_45 rfl rfl ?_
      refine G_X0_42 (pc := 46) C (by assumption) dX0_finish_46 ?_
      first | rw [show (xu σ (.inl (b, 9)) j 2).1 (.inl (b, 0)) 3 = σ.1 (.inl (b, 0)) 3 from by simp [xu_ap]] | rw [show (xu σ (.inl (b, 9)) j 3).1 (.inl (b, 0)) 3 = σ.1 (.inl (b, 0)) 3 from by simp [xu_ap]]
      refine X_iastN (pc := 49) C (by first | exact hb _ (by decide)) rfl (by omega) (by decide) dX0_finish_49 ?_
      first | refine XW.eq (σ' := uFin1 σ b j 2) rfl rfl rfl ?_ | refine XW.eq (σ' := uFin σ b nu nt j) (by rw [uFin, if_neg h10]; rfl) rfl rfl ?_
      refine X_iload_n (pc := 50) C 2 dX0_finish_50 rfl rfl ?_
      refine X_if_eq (pc := 51) C 75 dX0_finish_51 (by decide) (fun h51 => ?_) (fun h51 => ?_)
      · skip
        refine X_aload_n (pc := 75) C 0 dX0_finish_75 rfl rfl ?_
        refine X_iconst (pc := 76) (v := 1) C dX0_finish_76 (by decide) ?_
        refine K_X0_93 (pc := 77) C (by assumption) (c_X0_startWaiting l P (uFin σ b nu nt j) b nu nc hb hnu (by rw [uFin_o _ _ _ _ _ (by simp) (by simp) (by simp)]; exact hcu) hnc (by rw [uFin_o _ _ _ _ _ (by simp) (by simp) (by simp)]; exact hcc) 1) ⟨Nat.le_of_ble_eq_true rfl, Nat.le_of_ble_eq_true rfl⟩ ⟨rfl, rfl⟩ ⟨Nat.zero_le _, Nat.zero_le _⟩ (Nat.le_of_ble_eq_true rfl) dX0_finish_77 ?_
        refine X_aload_n (pc := 80) C 0 dX0_finish_80 rfl rfl ?_
        refine X_iconst (pc := 81) (v := 0) C dX0_finish_81 (by decide) ?_
        refine K_X0_93 (pc := 82) C (by assumption) (c_X0_startWaiting l P (uFinA σ b nu nc nt j).1 b nu nc hb hnu (by unfold uFinA; rw [uWait_o _ _ _ _ _ (by simp) (by simp) (by simp) (by simp), uFin_o _ _ _ _ _ (by simp) (by simp) (by simp)]; exact hcu) hnc (by unfold uFinA; rw [uWait_o _ _ _ _ _ (by simp) (by simp) (by simp) (by simp), uFin_o _ _ _ _ _ (by simp) (by simp) (by simp)]; exact hcc) 0) ⟨Nat.le_of_ble_eq_true rfl, Nat.le_of_ble_eq_true rfl⟩ ⟨rfl, rfl⟩ ⟨Nat.zero_le _, Nat.zero_le _⟩ (Nat.le_of_ble_eq_true rfl) dX0_finish_82 ?_
        refine X_iadd (pc := 85) C dX0_finish_85 ?_
        exact X_iret (pc := 86) C (Nat.zero_le _) (Nat.zero_le _) dX0_finish_86 ⟨rfl, rfl⟩
      · exact absurd h51 (by decide)
    · exact absurd h28 (by decide)
  · skip
    refine X_iconst (pc := 13) (v := 1) C dX0_finish_13 (by decide) ?_
    refine X_goto (pc := 14) C 18 dX0_finish_14 (by decide) ?_
    refine X_istore_n (pc := 18) (lv1 := [(0, _), (1, _), (2, _)]) C 2 dX0_finish_18 rfl (by decide) rfl ?_
    refine X_aload_n (pc := 19) C 0 dX0_finish_19 rfl rfl ?_
    refine G_X0_21 (pc := 20) C (by assumption) dX0_finish_20 ?_
    refine G_X0_77 (pc := 23) C (by assumption) dX0_finish_23 ?_
    refine X_iload_n (pc := 26) C 1 dX0_finish_26 rfl rfl ?_
    refine X_iload_n (pc := 27) C 2 dX0_finish_27 rfl rfl ?_
    refine X_if_eq (pc := 28) C 35 dX0_finish_28 (by decide) (fun h28 => ?_) (fun h28 => ?_)
    · exact absurd h28 (by decide)
    · skip
      refine X_iconst (pc := 31) (v := 2) C dX0_finish_31 (by decide) ?_
      refine X_goto (pc := 32) C 36 dX0_finish_32 (by decide) ?_
      refine X_iastN (pc := 36) C (by first | exact hb _ (by decide)) rfl (by omega) (by decide) dX0_finish_36 ?_
      refine X_aload_n (pc := 37) C 0 dX0_finish_37 rfl rfl ?_
      refine G_X0_21 (pc := 38) C (by assumption) dX0_finish_38 ?_
      refine G_X0_80 (pc := 41) C (by assumption) dX0_finish_41 ?_
      refine X_iload_n (pc := 44) C 1 dX0_finish_44 rfl rfl ?_
      refine X_aload_n (pc := 45) C 0 dX0_finish_45 rfl rfl ?_
      refine G_X0_42 (pc := 46) C (by assumption) dX0_finish_46 ?_
      first | rw [show (xu σ (.inl (b, 9)) j 2).1 (.inl (b, 0)) 3 = σ.1 (.inl (b, 0)) 3 from by simp [xu_ap]] | rw [show (xu σ (.inl (b, 9)) j 3).1 (.inl (b, 0)) 3 = σ.1 (.inl (b, 0)) 3 from by simp [xu_ap]]
      refine X_iastN (pc := 49) C (by first | exact hb _ (by decide)) rfl (by omega) (by decide) dX0_finish_49 ?_
      first | refine XW.eq (σ' := uFin1 σ b j 2) rfl rfl rfl ?_ | refine XW.eq (σ' := uFin σ b nu nt j) (by rw [uFin, if_neg h10]; rfl) rfl rfl ?_
      refine X_iload_n (pc := 50) C 2 dX0_finish_50 rfl rfl ?_
      refine X_if_eq (pc := 51) C 75 dX0_finish_51 (by decide) (fun h51 => ?_) (fun h51 => ?_)
      · exact absurd h51 (by decide)
      · skip
        refine X_aload_n (pc := 54) C 0 dX0_finish_54 rfl rfl ?_
        refine G_X0_12 (pc := 55) C (by assumption) dX0_finish_55 ?_
        refine X_aload_n (pc := 58) C 0 dX0_finish_58 rfl rfl ?_
        refine G_X0_21 (pc := 59) C (by assumption) dX0_finish_59 ?_
        refine G_X0_83 (pc := 62) C (by assumption) dX0_finish_62 ?_
        refine X_iload_n (pc := 65) C 1 dX0_finish_65 rfl rfl ?_
        refine X_ialdN (pc := 66) C (by first | exact hb _ (by decide)) rfl (by omega) (by decide) dX0_finish_66 ?_
        rw [uFin1_o σ b j 2 (i := .inl (b, 10)) (by simp) (by simp)]
        refine X_aload_n (pc := 67) C 0 dX0_finish_67 rfl rfl ?_
        refine X_iload_n (pc := 68) C 1 dX0_finish_68 rfl rfl ?_
        refine K_X0_86 (pc := 69) C (by assumption) (c_X0_chargeFor l P (uFin1 σ b j 2) b nt hb hnt (by rw [uFin1_o _ _ _ _ (by simp) (by simp)]; exact hct) j hj) ⟨Nat.le_of_ble_eq_true rfl, Nat.le_of_ble_eq_true rfl⟩ ⟨rfl, rfl⟩ ⟨Nat.zero_le _, Nat.zero_le _⟩ (Nat.le_of_ble_eq_true rfl) dX0_finish_69 ?_
        refine K_X0_89 (pc := 72) C (by assumption) (by have h := c_X5_addToBill l P (uFin1 σ b j 2) b nu hb hnu (by rw [uFin1_o _ _ _ _ (by simp) (by simp)]; exact hcu) (σ.1 (.inl (b, 10)) j) (xchg (uFin1 σ b j 2) b nt j); rw [show (if xok (σ.1 (.inl (b, 10)) j) nu then xu (uFin1 σ b j 2) (.inl (b, 6)) (σ.1 (.inl (b, 10)) j).toNatClampNeg ((uFin1 σ b j 2).1 (.inl (b, 6)) (σ.1 (.inl (b, 10)) j).toNatClampNeg + xchg (uFin1 σ b j 2) b nt j) else (uFin1 σ b j 2)) = uFin σ b nu nt j from by rw [uFin, if_pos h10, uBill]] at h; exact h) ⟨Nat.le_of_ble_eq_true rfl, Nat.le_of_ble_eq_true rfl⟩ ⟨rfl, rfl⟩ ⟨Nat.zero_le _, Nat.zero_le _⟩ (Nat.le_of_ble_eq_true rfl) dX0_finish_72 ?_
        refine X_aload_n (pc := 75) C 0 dX0_finish_75 rfl rfl ?_
        refine X_iconst (pc := 76) (v := 1) C dX0_finish_76 (by decide) ?_
        refine K_X0_93 (pc := 77) C (by assumption) (c_X0_startWaiting l P (uFin σ b nu nt j) b nu nc hb hnu (by rw [uFin_o _ _ _ _ _ (by simp) (by simp) (by simp)]; exact hcu) hnc (by rw [uFin_o _ _ _ _ _ (by simp) (by simp) (by simp)]; exact hcc) 1) ⟨Nat.le_of_ble_eq_true rfl, Nat.le_of_ble_eq_true rfl⟩ ⟨rfl, rfl⟩ ⟨Nat.zero_le _, Nat.zero_le _⟩ (Nat.le_of_ble_eq_true rfl) dX0_finish_77 ?_
        refine X_aload_n (pc := 80) C 0 dX0_finish_80 rfl rfl ?_
        refine X_iconst (pc := 81) (v := 0) C dX0_finish_81 (by decide) ?_
        refine K_X0_93 (pc := 82) C (by assumption) (c_X0_startWaiting l P (uFinA σ b nu nc nt j).1 b nu nc hb hnu (by unfold uFinA; rw [uWait_o _ _ _ _ _ (by simp) (by simp) (by simp) (by simp), uFin_o _ _ _ _ _ (by simp) (by simp) (by simp)]; exact hcu) hnc (by unfold uFinA; rw [uWait_o _ _ _ _ _ (by simp) (by simp) (by simp) (by simp), uFin_o _ _ _ _ _ (by simp) (by simp) (by simp)]; exact hcc) 0) ⟨Nat.le_of_ble_eq_true rfl, Nat.le_of_ble_eq_true rfl⟩ ⟨rfl, rfl⟩ ⟨Nat.zero_le _, Nat.zero_le _⟩ (Nat.le_of_ble_eq_true rfl) dX0_finish_82 ?_
        refine X_iadd (pc := 85) C dX0_finish_85 ?_
        exact X_iret (pc := 86) C (Nat.zero_le _) (Nat.zero_le _) dX0_finish_86 ⟨rfl, rfl⟩

set_option maxRecDepth 100000 in
set_option maxHeartbeats 4000000 in
theorem L_X0_billFaults (C : XC p s m args meth c P A 3 RX0 cX0_billFaults (some .int)) {b nu nc nt : Nat} (hb : xIn P b) (hnu : nu ≤ 15) (hcu : σ.1 (.inl (b, 1)) 6 = nI nu) (hnc : nc ≤ 40) (hcc : σ.1 (.inl (b, 8)) 10 = nI nc) (hnt : nt ≤ 4) (hct : σ.1 (.inl (b, 0)) 6 = nI nt) (kx : XW p l e rm_X0_billFaults s m args below meth c P A 3 0 0 Q σ 33 [(0, .ref (P.2.2.1 (.inl (b, 0)))), (1, .int (cSum (σ.1 (.inl (b, 6))) nu)), (2, .int (nI nu))] []) : ∀ (k i : Nat), i + k = nu → XW p l e rm_X0_billFaults s m args below meth c P A 3 0 0 Q σ 4 [(0, .ref (P.2.2.1 (.inl (b, 0)))), (1, .int (cSum (σ.1 (.inl (b, 6))) i)), (2, .int (nI i))] [] := by
  intro k
  induction k with
  | zero =>
    intro i hi
    have e9 : i = nu := by omega
    subst e9
    refine X_iload_n (pc := 4) C 2 dX0_billFaults_4 rfl rfl ?_
    refine X_aload_n (pc := 5) C 0 dX0_billFaults_5 rfl rfl ?_
    refine G_X0_12 (pc := 6) C (by assumption) dX0_billFaults_6 ?_
    refine G_X0_55 (pc := 9) C (by assumption) dX0_billFaults_9 ?_
    rw [hcu]
    refine X_icmp_ge (pc := 12) C 33 dX0_billFaults_12 (by decide) (fun h12 => ?_) (fun h12 => ?_)
    · skip
      exact kx
    · exact absurd (nI_le (Nat.le_refl _) (n31 (by omega))) h12
  | succ k ih =>
    intro i hi
    have hlt : i < nu := by omega
    refine X_iload_n (pc := 4) C 2 dX0_billFaults_4 rfl rfl ?_
    refine X_aload_n (pc := 5) C 0 dX0_billFaults_5 rfl rfl ?_
    refine G_X0_12 (pc := 6) C (by assumption) dX0_billFaults_6 ?_
    refine G_X0_55 (pc := 9) C (by assumption) dX0_billFaults_9 ?_
    rw [hcu]
    refine X_icmp_ge (pc := 12) C 33 dX0_billFaults_12 (by decide) (fun h12 => ?_) (fun h12 => ?_)
    · exact absurd (nle h12) (by omega)
    · skip
      refine X_iload_n (pc := 15) C 1 dX0_billFaults_15 rfl rfl ?_
      refine X_aload_n (pc := 16) C 0 dX0_billFaults_16 rfl rfl ?_
      refine G_X0_12 (pc := 17) C (by assumption) dX0_billFaults_17 ?_
      refine G_X0_147 (pc := 20) C (by assumption) dX0_billFaults_20 ?_
      refine X_iload_n (pc := 23) C 2 dX0_billFaults_23 rfl rfl ?_
      refine X_ialdN (pc := 24) C (by first | exact hb _ (by decide)) rfl (by omega) (by decide) dX0_billFaults_24 ?_
      refine X_iadd (pc := 25) C dX0_billFaults_25 ?_
      refine X_istore_n (pc := 26) (lv1 := [(0, _), (1, _), (2, _)]) C 1 dX0_billFaults_26 rfl (by decide) rfl ?_
      first | refine X_iincN (pc := 27) (lv1 := [(0, _), (1, _), (2, _)]) C dX0_billFaults_27 rfl (by decide) (by decide) rfl ?_ | refine X_iinc (pc := 27) (kk := 1) (lv1 := [(0, _), (1, _), (2, _)]) C dX0_billFaults_27 rfl (by decide) (by decide) rfl ?_
      refine X_goto (pc := 30) C 4 dX0_billFaults_30 (by decide) ?_
      exact ih (i + 1) (by omega)

set_option maxRecDepth 100000 in
set_option maxHeartbeats 4000000 in
theorem L2_X0_billFaults (C : XC p s m args meth c P A 3 RX0 cX0_billFaults (some .int)) {b nu nc nt : Nat} (hb : xIn P b) (hnu : nu ≤ 15) (hcu : σ.1 (.inl (b, 1)) 6 = nI nu) (hnc : nc ≤ 40) (hcc : σ.1 (.inl (b, 8)) 10 = nI nc) (hnt : nt ≤ 4) (hct : σ.1 (.inl (b, 0)) 6 = nI nt) (kx : XW p l e rm_X0_billFaults s m args below meth c P A 3 0 0 Q σ 73 [(0, .ref (P.2.2.1 (.inl (b, 0)))), (1, .int (cLess σ b nt (cSum (σ.1 (.inl (b, 6))) nu) nc)), (2, .int (nI nc))] []) : ∀ (k i : Nat), i + k = nc → XW p l e rm_X0_billFaults s m args below meth c P A 3 0 0 Q σ 35 [(0, .ref (P.2.2.1 (.inl (b, 0)))), (1, .int (cLess σ b nt (cSum (σ.1 (.inl (b, 6))) nu) i)), (2, .int (nI i))] [] := by
  intro k
  induction k with
  | zero =>
    intro i hi
    have e9 : i = nc := by omega
    subst e9
    refine X_iload_n (pc := 35) C 2 dX0_billFaults_35 rfl rfl ?_
    refine X_aload_n (pc := 36) C 0 dX0_billFaults_36 rfl rfl ?_
    refine G_X0_21 (pc := 37) C (by assumption) dX0_billFaults_37 ?_
    refine G_X0_58 (pc := 40) C (by assumption) dX0_billFaults_40 ?_
    rw [hcc]
    refine X_icmp_ge (pc := 43) C 73 dX0_billFaults_43 (by decide) (fun h43 => ?_) (fun h43 => ?_)
    · skip
      exact kx
    · exact absurd (nI_le (Nat.le_refl _) (n31 (by omega))) h43
  | succ k ih =>
    intro i hi
    have hlt : i < nc := by omega
    refine X_iload_n (pc := 35) C 2 dX0_billFaults_35 rfl rfl ?_
    refine X_aload_n (pc := 36) C 0 dX0_billFaults_36 rfl rfl ?_
    refine G_X0_21 (pc := 37) C (by assumption) dX0_billFaults_37 ?_
    refine G_X0_58 (pc := 40) C (by assumption) dX0_billFaults_40 ?_
    rw [hcc]
    refine X_icmp_ge (pc := 43) C 73 dX0_billFaults_43 (by decide) (fun h43 => ?_) (fun h43 => ?_)
    · exact absurd (nle h43) (by omega)
    · skip
      refine X_aload_n (pc := 46) C 0 dX0_billFaults_46 rfl rfl ?_
      refine G_X0_21 (pc := 47) C (by assumption) dX0_billFaults_47 ?_
      refine G_X0_77 (pc := 50) C (by assumption) dX0_billFaults_50 ?_
      refine X_iload_n (pc := 53) C 2 dX0_billFaults_53 rfl rfl ?_
      refine X_ialdN (pc := 54) C (by first | exact hb _ (by decide)) rfl (by omega) (by decide) dX0_billFaults_54 ?_
      refine X_iconst (pc := 55) (v := 2) C dX0_billFaults_55 (by decide) ?_
      refine X_icmp_ne (pc := 56) C 67 dX0_billFaults_56 (by decide) (fun h56 => ?_) (fun h56 => ?_)
      · skip
        first | refine X_iincN (pc := 67) (lv1 := [(0, _), (1, _), (2, _)]) C dX0_billFaults_67 rfl (by decide) (by decide) rfl ?_ | refine X_iinc (pc := 67) (kk := 1) (lv1 := [(0, _), (1, _), (2, _)]) C dX0_billFaults_67 rfl (by decide) (by decide) rfl ?_
        refine X_goto (pc := 70) C 35 dX0_billFaults_70 (by decide) ?_
        exact XW.eq rfl (by simp [cLess, h56]) rfl (ih (i + 1) (by omega))
      · skip
        refine X_iload_n (pc := 59) C 1 dX0_billFaults_59 rfl rfl ?_
        refine X_aload_n (pc := 60) C 0 dX0_billFaults_60 rfl rfl ?_
        refine X_iload_n (pc := 61) C 2 dX0_billFaults_61 rfl rfl ?_
        refine K_X0_86 (pc := 62) C (by assumption) (c_X0_chargeFor l P σ b nt hb hnt hct i (by omega)) ⟨Nat.le_of_ble_eq_true rfl, Nat.le_of_ble_eq_true rfl⟩ ⟨rfl, rfl⟩ ⟨Nat.zero_le _, Nat.zero_le _⟩ (Nat.le_of_ble_eq_true rfl) dX0_billFaults_62 ?_
        refine X_isub (pc := 65) C dX0_billFaults_65 ?_
        refine X_istore_n (pc := 66) (lv1 := [(0, _), (1, _), (2, _)]) C 1 dX0_billFaults_66 rfl (by decide) rfl ?_
        first | refine X_iincN (pc := 67) (lv1 := [(0, _), (1, _), (2, _)]) C dX0_billFaults_67 rfl (by decide) (by decide) rfl ?_ | refine X_iinc (pc := 67) (kk := 1) (lv1 := [(0, _), (1, _), (2, _)]) C dX0_billFaults_67 rfl (by decide) (by decide) rfl ?_
        refine X_goto (pc := 70) C 35 dX0_billFaults_70 (by decide) ?_
        exact XW.eq rfl (by simp [cLess, h56]) rfl (ih (i + 1) (by omega))

set_option maxRecDepth 100000 in
set_option maxHeartbeats 4000000 in
theorem c_X0_billFaults (l : Launch) (P : XP) (σ : XS) (b nu nc nt : Nat) (hb : xIn P b) (hnu : nu ≤ 15) (hcu : σ.1 (.inl (b, 1)) 6 = nI nu) (hnc : nc ≤ 40) (hcc : σ.1 (.inl (b, 8)) 10 = nI nc) (hnt : nt ≤ 4) (hct : σ.1 (.inl (b, 0)) 6 = nI nt) : XF l yX0_billFaults cX0_billFaults 3 (some .int) rm_X0_billFaults P [.ref (P.2.2.1 (.inl (b, 0)))] σ (some (.int (xabs (cLess σ b nt (cSum (σ.1 (.inl (b, 6))) nu) nc)))) (σ) := by
  refine XM.of (by decide +kernel) (Nat.le_of_ble_eq_true rfl) (fun p e s m args below meth c A C => ?_)
  replace C : XC p s m args meth c P A 3 RX0 cX0_billFaults (some .int) := C
  refine XW.eq (lv' := [(0, _)]) rfl rfl rfl ?_
  refine X_iconst (pc := 0) (v := 0) C dX0_billFaults_0 (by decide) ?_
  refine X_istore_n (pc := 1) (lv1 := [(0, _), (1, _)]) C 1 dX0_billFaults_1 rfl (by decide) rfl ?_
  refine X_iconst (pc := 2) (v := 0) C dX0_billFaults_2 (by decide) ?_
  refine X_istore_n (pc := 3) (lv1 := [(0, _), (1, _), (2, _)]) C 2 dX0_billFaults_3 rfl (by decide) rfl ?_
  refine L_X0_billFaults C hb hnu hcu hnc hcc hnt hct ?_ nu 0 (by omega)
  refine X_iconst (pc := 33) (v := 0) C dX0_billFaults_33 (by decide) ?_
  refine X_istore_n (pc := 34) (lv1 := [(0, _), (1, _), (2, _)]) C 2 dX0_billFaults_34 rfl (by decide) rfl ?_
  refine L2_X0_billFaults C hb hnu hcu hnc hcc hnt hct ?_ nc 0 (by omega)
  refine X_iload_n (pc := 73) C 1 dX0_billFaults_73 rfl rfl ?_
  refine X_mabs (pc := 74) C m_m_X0_144 (Nat.le_of_ble_eq_true rfl) (Nat.le_of_ble_eq_true rfl) ⟨Nat.zero_le _, Nat.zero_le _⟩ dX0_billFaults_74 ?_
  exact X_iret (pc := 77) C (Nat.zero_le _) (Nat.zero_le _) dX0_billFaults_77 ⟨rfl, rfl⟩

end XP12

/-! LEAVES: Subscribers -/
theorem bz0 {p : Prop} {hp : Decidable p} (h : (if p then (1 : Int32) else 0) = 0) : ¬ p := fun q => by rw [if_pos q] at h; exact absurd h (by decide)
theorem bz1 {p : Prop} {hp : Decidable p} (h : ¬ (if p then (1 : Int32) else 0) = 0) : p := Classical.byContradiction fun q => h (if_neg q)
/-- the first of the places from i on that fulfils q, k of them looked at -/
def cFirst (q : Nat → Bool) : Nat → Nat → Int32
  | 0, _ => -1
  | k + 1, i => if q i = true then nI i else cFirst q k (i + 1)
def cFirstB (q : Nat → Bool) : Nat → Nat → Int32
  | 0, _ => 0
  | k + 1, i => if q i = true then 1 else cFirstB q k (i + 1)
/-- the line that subscriber x is on, as a bit; 0 if there is none -/
def xline (li : Nat → Int32) (n : Nat) (x : Int32) : Int32 := if xok x n then (1 : Int32) <<< (li x.toNatClampNeg &&& 31) else 0
/-- whether two codes begin alike -/
def xmin (x y : Int32) : Int32 := if y < x then y else x
def xbeg (c o : Int32) : Prop := c >>> (((31 - xnz c) - xmin (31 - xnz c) (31 - xnz o)) &&& 31) = o >>> (((31 - xnz o) - xmin (31 - xnz c) (31 - xnz o)) &&& 31)
/-- who of the first n listens on the lines us -/
def cEars (li cu : Nat → Int32) (us : Int32) : Nat → Int32
  | 0 => 0
  | k + 1 => if ¬ us &&& xbit (li k) = 0 ∧ ¬ cu k < 5 then cEars li cu us k ||| xbit (nI k) else cEars li cu us k
def xears (li cu : Nat → Int32) (n : Nat) (us ta : Int32) : Int32 := cEars li cu us n &&& (ta ^^^ (-1))
def xbetw (li cu : Nat → Int32) (n : Nat) (x y : Int32) : Int32 := xears li cu n (xline li n x ||| xline li n y) (xbit x ||| xbit y)
def cQuiet (f : Nat → Int32) (x : Int32) : Nat → Int32 × Int32
  | 0 => (-1, 15)
  | k + 1 => if ¬ nI k = x ∧ f k < (cQuiet f x k).2 then (nI k, f k) else cQuiet f x k
def cBest (f : Nat → Int32) : Nat → Int32 × Int32
  | 0 => (0, 0)
  | k + 1 => if (cBest f k).2 < f k then (nI k, f k) else cBest f k
theorem cQuiet_y {f : Nat → Int32} {x : Int32} {k : Nat} (h : ¬ nI k = x) (h2 : ¬ (cQuiet f x k).2 ≤ f k) : cQuiet f x (k + 1) = (nI k, f k) := if_pos ⟨h, Int32.not_le.mp h2⟩
theorem cQuiet_n1 {f : Nat → Int32} {x : Int32} {k : Nat} (h : nI k = x) : cQuiet f x (k + 1) = cQuiet f x k := if_neg (fun q => q.1 h)
theorem cQuiet_n2 {f : Nat → Int32} {x : Int32} {k : Nat} (h : (cQuiet f x k).2 ≤ f k) : cQuiet f x (k + 1) = cQuiet f x k := if_neg (fun q => Int32.not_lt.mpr h q.2)
theorem cBest_y {f : Nat → Int32} {k : Nat} (h : ¬ f k ≤ (cBest f k).2) : cBest f (k + 1) = (nI k, f k) := if_pos (Int32.not_le.mp h)
theorem cBest_n {f : Nat → Int32} {k : Nat} (h : f k ≤ (cBest f k).2) : cBest f (k + 1) = cBest f k := if_neg (Int32.not_lt.mpr h)
def cKnow (se : Nat → Int32) (bt : Int32) : Nat → Nat
  | 0 => 0
  | k + 1 => if ¬ se k &&& bt = 0 then cKnow se bt k + 1 else cKnow se bt k
def cSum (f : Nat → Int32) : Nat → Int32
  | 0 => 0
  | k + 1 => cSum f k + f k
/-- the secrets that the talkers ta know -/
def cTold (se : Nat → Int32) (ta : Int32) : Nat → Int32
  | 0 => 0
  | k + 1 => if ¬ ta &&& xbit (nI k) = 0 then cTold se ta k ||| se k else cTold se ta k
/-- the first n of the set hear what is told -/
def uTell (σ : XS) (b : Nat) (set told : Int32) : Nat → XS
  | 0 => σ
  | k + 1 => if ¬ set &&& xbit (nI k) = 0 then xu (uTell σ b set told k) (.inl (b, 7)) k ((uTell σ b set told k).1 (.inl (b, 7)) k ||| told) else uTell σ b set told k
theorem uTell_o (σ : XS) (b : Nat) (set told : Int32) {i : XI} (hi : i ≠ .inl (b, 7)) : ∀ k, (uTell σ b set told k).1 i = σ.1 i
  | 0 => rfl
  | k + 1 => by
    unfold uTell
    split
    · rw [xu_ne _ _ _ hi, uTell_o σ b set told hi k]
    · exact uTell_o σ b set told hi k
theorem uTell_l (σ : XS) (b : Nat) (set told : Int32) : ∀ k, (uTell σ b set told k).2 = σ.2
  | 0 => rfl
  | k + 1 => by
    unfold uTell
    split
    · rw [xu_l, uTell_l σ b set told k]
    · exact uTell_l σ b set told k
/-- a subscriber more -/
def uSub (σ : XS) (b n : Nat) (nm : Int64) (li co cu : Int32) : XS :=
  xu (xu (xu (xu (xu (xu (xL σ (.inl (b, 2)) (vp_updL (σ.2 (.inl (b, 2))) n nm)) (.inl (b, 3)) n li) (.inl (b, 4)) n co) (.inl (b, 5)) n cu) (.inl (b, 6)) n 0) (.inl (b, 7)) n (xbit (nI n))) (.inl (b, 1)) 6 (nI (n + 1))
/-- all subscribers of board f laid into board b -/
def uCopyS (σ : XS) (b f : Nat) : XS :=
  let a0 := xL σ (.inl (b, 2)) (va_cpy (σ.2 (.inl (f, 2))) (σ.2 (.inl (b, 2))) 0 0 15)
  let a1 := xA a0 (.inl (b, 3)) (va_cpy (a0.1 (.inl (f, 3))) (a0.1 (.inl (b, 3))) 0 0 15)
  let a2 := xA a1 (.inl (b, 4)) (va_cpy (a1.1 (.inl (f, 4))) (a1.1 (.inl (b, 4))) 0 0 15)
  let a3 := xA a2 (.inl (b, 5)) (va_cpy (a2.1 (.inl (f, 5))) (a2.1 (.inl (b, 5))) 0 0 15)
  let a4 := xA a3 (.inl (b, 6)) (va_cpy (a3.1 (.inl (f, 6))) (a3.1 (.inl (b, 6))) 0 0 15)
  let a5 := xA a4 (.inl (b, 7)) (va_cpy (a4.1 (.inl (f, 7))) (a4.1 (.inl (b, 7))) 0 0 15)
  xu a5 (.inl (b, 1)) 6 (a5.1 (.inl (f, 1)) 6)
section XP11
variable {p : Program} {l : Launch} {e : Env} {R : Room} {s : State} {m : MethodId} {args : Array Value} {below : List Frame} {meth : Method} {c : Code} {P : XP} {A : Nat → Prop} {nL cells slots : Nat} {Q : State → Prop} {cc : ByteArray} {ret : Option FieldType} {σ : XS} {pc : Nat} {lv : List (Nat × Value)} {st : List Value}
set_option maxRecDepth 100000 in
set_option maxHeartbeats 4000000 in
theorem c_X5_has (l : Launch) (P : XP) (σ : XS) (b n : Nat) (hb : xIn P b) (hn : n ≤ 15) (hc : σ.1 (.inl (b, 1)) 6 = nI n) (x : Int32) : XF l yX5_has cX5_has 2 (some .boolean) rm_X5_has P [.ref (P.2.2.1 (.inl (b, 1))), .int x] σ (some (.int (if xok x n then 1 else 0))) (σ) := by
  refine XM.of (by decide +kernel) (Nat.le_of_ble_eq_true rfl) (fun p e s m args below meth c A C => ?_)
  replace C : XC p s m args meth c P A 2 RX5 cX5_has (some .boolean) := C
  refine XW.eq (lv' := [(0, _), (1, _)]) rfl rfl rfl ?_
  refine X_iload_n (pc := 0) C 1 dX5_has_0 rfl rfl ?_
  refine X_if_lt (pc := 1) C 16 dX5_has_1 (by decide) (fun h1 => ?_) (fun h1 => ?_)
  · skip
    refine X_iconst (pc := 16) (v := 0) C dX5_has_16 (by decide) ?_
    exact X_zret (pc := 17) C (Nat.zero_le _) (Nat.zero_le _) (rfl) dX5_has_17 ⟨by rw [if_neg (xok_neg h1)], rfl⟩
  · skip
    refine X_iload_n (pc := 4) C 1 dX5_has_4 rfl rfl ?_
    refine X_aload_n (pc := 5) C 0 dX5_has_5 rfl rfl ?_
    refine G_X5_37 (pc := 6) C (by assumption) dX5_has_6 ?_
    rw [hc]
    refine X_icmp_ge (pc := 9) C 16 dX5_has_9 (by decide) (fun h9 => ?_) (fun h9 => ?_)
    · skip
      refine X_iconst (pc := 16) (v := 0) C dX5_has_16 (by decide) ?_
      exact X_zret (pc := 17) C (Nat.zero_le _) (Nat.zero_le _) (rfl) dX5_has_17 ⟨by rw [if_neg (xok_big h9)], rfl⟩
    · skip
      refine X_iconst (pc := 12) (v := 1) C dX5_has_12 (by decide) ?_
      refine X_goto (pc := 13) C 17 dX5_has_13 (by decide) ?_
      exact X_zret (pc := 17) C (Nat.zero_le _) (Nat.zero_le _) (rfl) dX5_has_17 ⟨by rw [if_pos (xok_yes h1 h9)], rfl⟩

set_option maxRecDepth 100000 in
set_option maxHeartbeats 4000000 in
theorem c_X5_lineUsed (l : Launch) (P : XP) (σ : XS) (b n : Nat) (hb : xIn P b) (hn : n ≤ 15) (hc : σ.1 (.inl (b, 1)) 6 = nI n) (x : Int32) : XF l yX5_lineUsed cX5_lineUsed 2 (some .int) rm_X5_lineUsed P [.ref (P.2.2.1 (.inl (b, 1))), .int x] σ (some (.int (xline (σ.1 (.inl (b, 3))) n x))) (σ) := by
  refine XM.of (by decide +kernel) (Nat.le_of_ble_eq_true rfl) (fun p e s m args below meth c A C => ?_)
  replace C : XC p s m args meth c P A 2 RX5 cX5_lineUsed (some .int) := C
  refine XW.eq (lv' := [(0, _), (1, _)]) rfl rfl rfl ?_
  refine X_aload_n (pc := 0) C 0 dX5_lineUsed_0 rfl rfl ?_
  refine X_iload_n (pc := 1) C 1 dX5_lineUsed_1 rfl rfl ?_
  refine K_X5_45 (pc := 2) C (by assumption) (c_X5_has l P σ b n hb hn hc x) ⟨Nat.le_of_ble_eq_true rfl, Nat.le_of_ble_eq_true rfl⟩ ⟨rfl, rfl⟩ ⟨Nat.zero_le _, Nat.zero_le _⟩ (Nat.le_of_ble_eq_true rfl) dX5_lineUsed_2 ?_
  refine X_if_eq (pc := 5) C 19 dX5_lineUsed_5 (by decide) (fun h5 => ?_) (fun h5 => ?_)
  · have g5 := bz0 h5
    refine X_iconst (pc := 19) (v := 0) C dX5_lineUsed_19 (by decide) ?_
    exact X_iret (pc := 20) C (Nat.zero_le _) (Nat.zero_le _) dX5_lineUsed_20 ⟨by rw [xline, if_neg g5], rfl⟩
  · have g5 := bz1 h5
    obtain ⟨j, hj, rfl⟩ := xok_of g5
    refine X_iconst (pc := 8) (v := 1) C dX5_lineUsed_8 (by decide) ?_
    refine X_aload_n (pc := 9) C 0 dX5_lineUsed_9 rfl rfl ?_
    refine G_X5_15 (pc := 10) C (by assumption) dX5_lineUsed_10 ?_
    refine X_iload_n (pc := 13) C 1 dX5_lineUsed_13 rfl rfl ?_
    refine X_ialdN (pc := 14) C (by first | exact hb _ (by decide)) rfl (by omega) (by decide) dX5_lineUsed_14 ?_
    refine X_ishl (pc := 15) C dX5_lineUsed_15 ?_
    refine X_goto (pc := 16) C 20 dX5_lineUsed_16 (by decide) ?_
    exact X_iret (pc := 20) C (Nat.zero_le _) (Nat.zero_le _) dX5_lineUsed_20 ⟨by rw [xline, if_pos g5, nI_clamp (n31 (by omega))], rfl⟩

set_option maxRecDepth 100000 in
set_option maxHeartbeats 4000000 in
theorem c_X5_addToBill (l : Launch) (P : XP) (σ : XS) (b n : Nat) (hb : xIn P b) (hn : n ≤ 15) (hc : σ.1 (.inl (b, 1)) 6 = nI n) (x ce : Int32) : XF l yX5_addToBill cX5_addToBill 3 none rm_X5_addToBill P [.ref (P.2.2.1 (.inl (b, 1))), .int x, .int ce] σ (none) (if xok x n then xu σ (.inl (b, 6)) x.toNatClampNeg ((σ.1 (.inl (b, 6))) x.toNatClampNeg + ce) else σ) := by
  refine XM.of (by decide +kernel) (Nat.le_of_ble_eq_true rfl) (fun p e s m args below meth c A C => ?_)
  replace C : XC p s m args meth c P A 3 RX5 cX5_addToBill none := C
  refine XW.eq (lv' := [(0, _), (1, _), (2, _)]) rfl rfl rfl ?_
  refine X_aload_n (pc := 0) C 0 dX5_addToBill_0 rfl rfl ?_
  refine X_iload_n (pc := 1) C 1 dX5_addToBill_1 rfl rfl ?_
  refine K_X5_45 (pc := 2) C (by assumption) (c_X5_has l P σ b n hb hn hc x) ⟨Nat.le_of_ble_eq_true rfl, Nat.le_of_ble_eq_true rfl⟩ ⟨rfl, rfl⟩ ⟨Nat.zero_le _, Nat.zero_le _⟩ (Nat.le_of_ble_eq_true rfl) dX5_addToBill_2 ?_
  refine X_if_eq (pc := 5) C 18 dX5_addToBill_5 (by decide) (fun h5 => ?_) (fun h5 => ?_)
  · have g5 := bz0 h5
    exact X_vret (pc := 18) C (Nat.zero_le _) (Nat.zero_le _) dX5_addToBill_18 ⟨rfl, by rw [if_neg g5]⟩
  · have g5 := bz1 h5
    obtain ⟨j, hj, rfl⟩ := xok_of g5
    refine X_aload_n (pc := 8) C 0 dX5_addToBill_8 rfl rfl ?_
    refine G_X5_25 (pc := 9) C (by assumption) dX5_addToBill_9 ?_
    refine X_iload_n (pc := 12) C 1 dX5_addToBill_12 rfl rfl ?_
    refine X_dup2 (pc := 13) C dX5_addToBill_13 rfl rfl ?_
    refine X_ialdN (pc := 14) C (by first | exact hb _ (by decide)) rfl (by omega) (by decide) dX5_addToBill_14 ?_
    refine X_iload_n (pc := 15) C 2 dX5_addToBill_15 rfl rfl ?_
    refine X_iadd (pc := 16) C dX5_addToBill_16 ?_
    refine X_iastN (pc := 17) C (by first | exact hb _ (by decide)) rfl (by omega) (by decide) dX5_addToBill_17 ?_
    exact X_vret (pc := 18) C (Nat.zero_le _) (Nat.zero_le _) dX5_addToBill_18 ⟨rfl, by rw [if_pos g5, nI_clamp (n31 (by omega))]⟩

theorem lcmp0 {x y : Int64} (h : lg_cmp x y = 0) : x = y := by
  unfold lg_cmp at h
  split at h
  · exact absurd h (by decide)
  · split at h
    · assumption
    · exact absurd h (by decide)
theorem lcmp1 {x y : Int64} (h : ¬ lg_cmp x y = 0) : ¬ x = y := fun q => by
  subst q
  apply h
  simp [lg_cmp]
set_option maxRecDepth 100000 in
set_option maxHeartbeats 4000000 in
theorem L_X5_findName {Post : Option Value → XS → Prop} {mc ms : Nat} (C : XC p s m args meth c P A 4 RX5 cX5_findName (some .int)) {b n : Nat} (hb : xIn P b) (hn : n ≤ 15) (hc : σ.1 (.inl (b, 1)) 6 = nI n) {x : Int64} : ∀ (k i : Nat), i + k = n → Post (some (.int (cFirst (fun k => (σ.2 (.inl (b, 2))) k == x) k i))) σ → XW p l e rm_X5_findName s m args below meth c P A 4 0 0 (MQ below (XQ P A Post) args s mc ms A) σ 2 [(0, .ref (P.2.2.1 (.inl (b, 1)))), (1, .long x), (3, .int (nI i))] [] := by
  intro k
  induction k with
  | zero =>
    intro i hi hp
    have e9 : i = n := by omega
    subst e9
    refine X_iload_n (pc := 2) C 3 dX5_findName_2 rfl rfl ?_
    refine X_aload_n (pc := 3) C 0 dX5_findName_3 rfl rfl ?_
    refine G_X5_37 (pc := 4) C (by assumption) dX5_findName_4 ?_
    rw [hc]
    refine X_icmp_ge (pc := 7) C 29 dX5_findName_7 (by decide) (fun h7 => ?_) (fun h7 => ?_)
    · skip
      refine X_iconst (pc := 29) (v := (-1)) C dX5_findName_29 (by decide) ?_
      exact X_iret (pc := 30) C (Nat.zero_le _) (Nat.zero_le _) dX5_findName_30 hp
    · exact absurd (nI_le (Nat.le_refl _) (n31 (by omega))) h7
  | succ k ih =>
    intro i hi hp
    have hlt : i < n := by omega
    refine X_iload_n (pc := 2) C 3 dX5_findName_2 rfl rfl ?_
    refine X_aload_n (pc := 3) C 0 dX5_findName_3 rfl rfl ?_
    refine G_X5_37 (pc := 4) C (by assumption) dX5_findName_4 ?_
    rw [hc]
    refine X_icmp_ge (pc := 7) C 29 dX5_findName_7 (by decide) (fun h7 => ?_) (fun h7 => ?_)
    · exact absurd (nle h7) (by omega)
    · skip
      refine X_aload_n (pc := 10) C 0 dX5_findName_10 rfl rfl ?_
      refine G_X5_9 (pc := 11) C (by assumption) dX5_findName_11 ?_
      refine X_iload_n (pc := 14) C 3 dX5_findName_14 rfl rfl ?_
      refine X_laldN (pc := 15) C (by first | exact hb _ (by decide)) rfl (by omega) (by decide) dX5_findName_15 ?_
      refine X_lload_n (pc := 16) C 1 dX5_findName_16 rfl rfl ?_
      refine X_lcmp (pc := 17) C dX5_findName_17 ?_
      refine X_if_ne (pc := 18) C 23 dX5_findName_18 (by decide) (fun h18 => ?_) (fun h18 => ?_)
      · have g18 := lcmp1 h18
        first | refine X_iincN (pc := 23) (lv1 := [(0, _), (1, _), (3, _)]) C dX5_findName_23 rfl (by decide) (by decide) rfl ?_ | refine X_iinc (pc := 23) (kk := 1) (lv1 := [(0, _), (1, _), (3, _)]) C dX5_findName_23 rfl (by decide) (by decide) rfl ?_
        refine X_goto (pc := 26) C 2 dX5_findName_26 (by decide) ?_
        exact ih (i + 1) (by omega) (by rw [cFirst, if_neg (by simpa using g18)] at hp; exact hp)
      · have g18 := lcmp0 h18
        refine X_iload_n (pc := 21) C 3 dX5_findName_21 rfl rfl ?_
        exact X_iret (pc := 22) C (Nat.zero_le _) (Nat.zero_le _) dX5_findName_22 (by rw [cFirst, if_pos (by simpa using g18)] at hp; exact hp)

set_option maxRecDepth 100000 in
set_option maxHeartbeats 4000000 in
theorem c_X5_findName (l : Launch) (P : XP) (σ : XS) (b n : Nat) (hb : xIn P b) (hn : n ≤ 15) (hc : σ.1 (.inl (b, 1)) 6 = nI n) (x : Int64) : XF l yX5_findName cX5_findName 4 (some .int) rm_X5_findName P [.ref (P.2.2.1 (.inl (b, 1))), .long x] σ (some (.int (cFirst (fun k => (σ.2 (.inl (b, 2))) k == x) n 0))) (σ) := by
  refine XM.of (by decide +kernel) (Nat.le_of_ble_eq_true rfl) (fun p e s m args below meth c A C => ?_)
  replace C : XC p s m args meth c P A 4 RX5 cX5_findName (some .int) := C
  refine XW.eq (lv' := [(0, _), (1, _)]) rfl rfl rfl ?_
  refine X_iconst (pc := 0) (v := 0) C dX5_findName_0 (by decide) ?_
  refine X_istore_n (pc := 1) (lv1 := [(0, _), (1, _), (3, _)]) C 3 dX5_findName_1 rfl (by decide) rfl ?_
  exact L_X5_findName C hb hn hc n 0 (by omega) ⟨rfl, rfl⟩

set_option maxRecDepth 100000 in
set_option maxHeartbeats 4000000 in
theorem c_X5_beginAlike (l : Launch) (P : XP) (σ : XS) (x y : Int32) : XF l yX5_beginAlike cX5_beginAlike 3 (some .boolean) rm_X5_beginAlike P [.int x, .int y] σ (some (.int (@ite _ (xbeg x y) (Classical.propDecidable _) 1 0))) (σ) := by
  refine XM.of (by decide +kernel) (Nat.le_of_ble_eq_true rfl) (fun p e s m args below meth c A C => ?_)
  replace C : XC p s m args meth c P A 3 RX5 cX5_beginAlike (some .boolean) := C
  refine XW.eq (lv' := [(0, _), (1, _)]) rfl rfl rfl ?_
  refine X_iload_n (pc := 0) C 0 dX5_beginAlike_0 rfl rfl ?_
  refine K_X5_53 (pc := 1) C (c_X6_ringsIn l P σ x) ⟨Nat.le_of_ble_eq_true rfl, Nat.le_of_ble_eq_true rfl⟩ ⟨rfl, rfl⟩ ⟨Nat.zero_le _, Nat.zero_le _⟩ (Nat.le_of_ble_eq_true rfl) dX5_beginAlike_1 ?_
  refine X_iload_n (pc := 4) C 1 dX5_beginAlike_4 rfl rfl ?_
  refine K_X5_53 (pc := 5) C (c_X6_ringsIn l P σ y) ⟨Nat.le_of_ble_eq_true rfl, Nat.le_of_ble_eq_true rfl⟩ ⟨rfl, rfl⟩ ⟨Nat.zero_le _, Nat.zero_le _⟩ (Nat.le_of_ble_eq_true rfl) dX5_beginAlike_5 ?_
  refine X_mmin (pc := 8) C m_m_X5_56 (Nat.le_of_ble_eq_true rfl) (Nat.le_of_ble_eq_true rfl) ⟨Nat.zero_le _, Nat.zero_le _⟩ dX5_beginAlike_8 ?_
  refine X_istore_n (pc := 11) (lv1 := [(0, _), (1, _), (2, _)]) C 2 dX5_beginAlike_11 rfl (by decide) rfl ?_
  refine X_iload_n (pc := 12) C 0 dX5_beginAlike_12 rfl rfl ?_
  refine X_iload_n (pc := 13) C 0 dX5_beginAlike_13 rfl rfl ?_
  refine K_X5_53 (pc := 14) C (c_X6_ringsIn l P σ x) ⟨Nat.le_of_ble_eq_true rfl, Nat.le_of_ble_eq_true rfl⟩ ⟨rfl, rfl⟩ ⟨Nat.zero_le _, Nat.zero_le _⟩ (Nat.le_of_ble_eq_true rfl) dX5_beginAlike_14 ?_
  refine X_iload_n (pc := 17) C 2 dX5_beginAlike_17 rfl rfl ?_
  refine X_isub (pc := 18) C dX5_beginAlike_18 ?_
  refine X_ishr (pc := 19) C dX5_beginAlike_19 ?_
  refine X_iload_n (pc := 20) C 1 dX5_beginAlike_20 rfl rfl ?_
  refine X_iload_n (pc := 21) C 1 dX5_beginAlike_21 rfl rfl ?_
  refine K_X5_53 (pc := 22) C (c_X6_ringsIn l P σ y) ⟨Nat.le_of_ble_eq_true rfl, Nat.le_of_ble_eq_true rfl⟩ ⟨rfl, rfl⟩ ⟨Nat.zero_le _, Nat.zero_le _⟩ (Nat.le_of_ble_eq_true rfl) dX5_beginAlike_22 ?_
  refine X_iload_n (pc := 25) C 2 dX5_beginAlike_25 rfl rfl ?_
  refine X_isub (pc := 26) C dX5_beginAlike_26 ?_
  refine X_ishr (pc := 27) C dX5_beginAlike_27 ?_
  refine X_icmp_ne (pc := 28) C 35 dX5_beginAlike_28 (by decide) (fun h28 => ?_) (fun h28 => ?_)
  · skip
    refine X_iconst (pc := 35) (v := 0) C dX5_beginAlike_35 (by decide) ?_
    exact X_zret (pc := 36) C (Nat.zero_le _) (Nat.zero_le _) (rfl) dX5_beginAlike_36 ⟨by rw [if_neg (show ¬ xbeg x y from h28)], rfl⟩
  · skip
    refine X_iconst (pc := 31) (v := 1) C dX5_beginAlike_31 (by decide) ?_
    refine X_goto (pc := 32) C 36 dX5_beginAlike_32 (by decide) ?_
    exact X_zret (pc := 36) C (Nat.zero_le _) (Nat.zero_le _) (rfl) dX5_beginAlike_36 ⟨by rw [if_pos (show xbeg x y from h28)], rfl⟩

theorem cz0 {p : Prop} (h : (@ite Int32 p (Classical.propDecidable _) 1 0) = 0) : ¬ p := fun q => by rw [if_pos q] at h; exact absurd h (by decide)
theorem cz1 {p : Prop} (h : ¬ (@ite Int32 p (Classical.propDecidable _) 1 0) = 0) : p := Classical.byContradiction fun q => h (if_neg q)
/-- whether a code on line x is ambiguous -/
noncomputable def xamb (li co : Nat → Int32) (x y : Int32) (k : Nat) : Bool := @decide (li k = x ∧ xbeg (co k) y) (Classical.propDecidable _)
theorem xamb_y {li co : Nat → Int32} {x y : Int32} {k : Nat} (h : li k = x) (h2 : xbeg (co k) y) : xamb li co x y k = true := @decide_eq_true _ (Classical.propDecidable _) ⟨h, h2⟩
theorem xamb_n {li co : Nat → Int32} {x y : Int32} {k : Nat} (h : ¬ (li k = x ∧ xbeg (co k) y)) : ¬ xamb li co x y k = true := fun q => h (@of_decide_eq_true _ (Classical.propDecidable _) q)
set_option maxRecDepth 100000 in
set_option maxHeartbeats 4000000 in
theorem L_X5_isAmbiguous {Post : Option Value → XS → Prop} {mc ms : Nat} (C : XC p s m args meth c P A 4 RX5 cX5_isAmbiguous (some .boolean)) {b n : Nat} (hb : xIn P b) (hn : n ≤ 15) (hc : σ.1 (.inl (b, 1)) 6 = nI n) {x y : Int32} : ∀ (k i : Nat), i + k = n → Post (some (.int (cFirstB (xamb (σ.1 (.inl (b, 3))) (σ.1 (.inl (b, 4))) x y) k i))) σ → XW p l e rm_X5_isAmbiguous s m args below meth c P A 4 0 0 (MQ below (XQ P A Post) args s mc ms A) σ 2 [(0, .ref (P.2.2.1 (.inl (b, 1)))), (1, .int x), (2, .int y), (3, .int (nI i))] [] := by
  intro k
  induction k with
  | zero =>
    intro i hi hp
    have e9 : i = n := by omega
    subst e9
    refine X_iload_n (pc := 2) C 3 dX5_isAmbiguous_2 rfl rfl ?_
    refine X_aload_n (pc := 3) C 0 dX5_isAmbiguous_3 rfl rfl ?_
    refine G_X5_37 (pc := 4) C (by assumption) dX5_isAmbiguous_4 ?_
    rw [hc]
    refine X_icmp_ge (pc := 7) C 41 dX5_isAmbiguous_7 (by decide) (fun h7 => ?_) (fun h7 => ?_)
    · skip
      refine X_iconst (pc := 41) (v := 0) C dX5_isAmbiguous_41 (by decide) ?_
      exact X_zret (pc := 42) C (Nat.zero_le _) (Nat.zero_le _) (rfl) dX5_isAmbiguous_42 hp
    · exact absurd (nI_le (Nat.le_refl _) (n31 (by omega))) h7
  | succ k ih =>
    intro i hi hp
    have hlt : i < n := by omega
    refine X_iload_n (pc := 2) C 3 dX5_isAmbiguous_2 rfl rfl ?_
    refine X_aload_n (pc := 3) C 0 dX5_isAmbiguous_3 rfl rfl ?_
    refine G_X5_37 (pc := 4) C (by assumption) dX5_isAmbiguous_4 ?_
    rw [hc]
    refine X_icmp_ge (pc := 7) C 41 dX5_isAmbiguous_7 (by decide) (fun h7 => ?_) (fun h7 => ?_)
    · exact absurd (nle h7) (by omega)
    · skip
      refine X_aload_n (pc := 10) C 0 dX5_isAmbiguous_10 rfl rfl ?_
      refine G_X5_15 (pc := 11) C (by assumption) dX5_isAmbiguous_11 ?_
      refine X_iload_n (pc := 14) C 3 dX5_isAmbiguous_14 rfl rfl ?_
      refine X_ialdN (pc := 15) C (by first | exact hb _ (by decide)) rfl (by omega) (by decide) dX5_isAmbiguous_15 ?_
      refine X_iload_n (pc := 16) C 1 dX5_isAmbiguous_16 rfl rfl ?_
      refine X_icmp_ne (pc := 17) C 35 dX5_isAmbiguous_17 (by decide) (fun h17 => ?_) (fun h17 => ?_)
      · skip
        first | refine X_iincN (pc := 35) (lv1 := [(0, _), (1, _), (2, _), (3, _)]) C dX5_isAmbiguous_35 rfl (by decide) (by decide) rfl ?_ | refine X_iinc (pc := 35) (kk := 1) (lv1 := [(0, _), (1, _), (2, _), (3, _)]) C dX5_isAmbiguous_35 rfl (by decide) (by decide) rfl ?_
        refine X_goto (pc := 38) C 2 dX5_isAmbiguous_38 (by decide) ?_
        exact ih (i + 1) (by omega) (by first | (rw [cFirstB, if_neg (xamb_n (fun q => g30 q.2))] at hp; exact hp) | (rw [cFirstB, if_neg (xamb_n (fun q => h17 q.1))] at hp; exact hp))
      · skip
        refine X_aload_n (pc := 20) C 0 dX5_isAmbiguous_20 rfl rfl ?_
        refine G_X5_19 (pc := 21) C (by assumption) dX5_isAmbiguous_21 ?_
        refine X_iload_n (pc := 24) C 3 dX5_isAmbiguous_24 rfl rfl ?_
        refine X_ialdN (pc := 25) C (by first | exact hb _ (by decide)) rfl (by omega) (by decide) dX5_isAmbiguous_25 ?_
        refine X_iload_n (pc := 26) C 2 dX5_isAmbiguous_26 rfl rfl ?_
        refine K_X5_49 (pc := 27) C (c_X5_beginAlike l P σ _ _) ⟨Nat.le_of_ble_eq_true rfl, Nat.le_of_ble_eq_true rfl⟩ ⟨rfl, rfl⟩ ⟨Nat.zero_le _, Nat.zero_le _⟩ (Nat.le_of_ble_eq_true rfl) dX5_isAmbiguous_27 ?_
        refine X_if_eq (pc := 30) C 35 dX5_isAmbiguous_30 (by decide) (fun h30 => ?_) (fun h30 => ?_)
        · have g30 := cz0 h30
          first | refine X_iincN (pc := 35) (lv1 := [(0, _), (1, _), (2, _), (3, _)]) C dX5_isAmbiguous_35 rfl (by decide) (by decide) rfl ?_ | refine X_iinc (pc := 35) (kk := 1) (lv1 := [(0, _), (1, _), (2, _), (3, _)]) C dX5_isAmbiguous_35 rfl (by decide) (by decide) rfl ?_
          refine X_goto (pc := 38) C 2 dX5_isAmbiguous_38 (by decide) ?_
          exact ih (i + 1) (by omega) (by first | (rw [cFirstB, if_neg (xamb_n (fun q => g30 q.2))] at hp; exact hp) | (rw [cFirstB, if_neg (xamb_n (fun q => h17 q.1))] at hp; exact hp))
        · have g30 := cz1 h30
          refine X_iconst (pc := 33) (v := 1) C dX5_isAmbiguous_33 (by decide) ?_
          exact X_zret (pc := 34) C (Nat.zero_le _) (Nat.zero_le _) (rfl) dX5_isAmbiguous_34 (by rw [cFirstB, if_pos (xamb_y h17 g30)] at hp; exact hp)

set_option maxRecDepth 100000 in
set_option maxHeartbeats 4000000 in
theorem c_X5_isAmbiguous (l : Launch) (P : XP) (σ : XS) (b n : Nat) (hb : xIn P b) (hn : n ≤ 15) (hc : σ.1 (.inl (b, 1)) 6 = nI n) (x y : Int32) : XF l yX5_isAmbiguous cX5_isAmbiguous 4 (some .boolean) rm_X5_isAmbiguous P [.ref (P.2.2.1 (.inl (b, 1))), .int x, .int y] σ (some (.int (cFirstB (xamb (σ.1 (.inl (b, 3))) (σ.1 (.inl (b, 4))) x y) n 0))) (σ) := by
  refine XM.of (by decide +kernel) (Nat.le_of_ble_eq_true rfl) (fun p e s m args below meth c A C => ?_)
  replace C : XC p s m args meth c P A 4 RX5 cX5_isAmbiguous (some .boolean) := C
  refine XW.eq (lv' := [(0, _), (1, _), (2, _)]) rfl rfl rfl ?_
  refine X_iconst (pc := 0) (v := 0) C dX5_isAmbiguous_0 (by decide) ?_
  refine X_istore_n (pc := 1) (lv1 := [(0, _), (1, _), (2, _), (3, _)]) C 3 dX5_isAmbiguous_1 rfl (by decide) rfl ?_
  exact L_X5_isAmbiguous C hb hn hc n 0 (by omega) ⟨rfl, rfl⟩

set_option maxRecDepth 100000 in
set_option maxHeartbeats 4000000 in
theorem L_X5_curiousOn (C : XC p s m args meth c P A 6 RX5 cX5_curiousOn (some .int)) {b n : Nat} (hb : xIn P b) (hn : n ≤ 15) (hc : σ.1 (.inl (b, 1)) 6 = nI n) {us ta : Int32} (kx : XW p l e rm_X5_curiousOn s m args below meth c P A 6 0 0 Q σ 66 [(0, .ref (P.2.2.1 (.inl (b, 1)))), (1, .int us), (2, .int ta), (3, .int (cEars (σ.1 (.inl (b, 3))) (σ.1 (.inl (b, 5))) us n)), (4, .int (nI n))] []) : ∀ (k i : Nat), i + k = n → XW p l e rm_X5_curiousOn s m args below meth c P A 6 0 0 Q σ 5 [(0, .ref (P.2.2.1 (.inl (b, 1)))), (1, .int us), (2, .int ta), (3, .int (cEars (σ.1 (.inl (b, 3))) (σ.1 (.inl (b, 5))) us i)), (4, .int (nI i))] [] := by
  intro k
  induction k with
  | zero =>
    intro i hi
    have e9 : i = n := by omega
    subst e9
    refine X_iload (pc := 5) C dX5_curiousOn_5 rfl ?_
    refine X_aload_n (pc := 7) C 0 dX5_curiousOn_7 rfl rfl ?_
    refine G_X5_37 (pc := 8) C (by assumption) dX5_curiousOn_8 ?_
    rw [hc]
    refine X_icmp_ge (pc := 11) C 66 dX5_curiousOn_11 (by decide) (fun h11 => ?_) (fun h11 => ?_)
    · skip
      exact kx
    · exact absurd (nI_le (Nat.le_refl _) (n31 (by omega))) h11
  | succ k ih =>
    intro i hi
    have hlt : i < n := by omega
    refine X_iload (pc := 5) C dX5_curiousOn_5 rfl ?_
    refine X_aload_n (pc := 7) C 0 dX5_curiousOn_7 rfl rfl ?_
    refine G_X5_37 (pc := 8) C (by assumption) dX5_curiousOn_8 ?_
    rw [hc]
    refine X_icmp_ge (pc := 11) C 66 dX5_curiousOn_11 (by decide) (fun h11 => ?_) (fun h11 => ?_)
    · exact absurd (nle h11) (by omega)
    · skip
      refine X_iload_n (pc := 14) C 1 dX5_curiousOn_14 rfl rfl ?_
      refine X_aload_n (pc := 15) C 0 dX5_curiousOn_15 rfl rfl ?_
      refine G_X5_15 (pc := 16) C (by assumption) dX5_curiousOn_16 ?_
      refine X_iload (pc := 19) C dX5_curiousOn_19 rfl ?_
      refine X_ialdN (pc := 21) C (by first | exact hb _ (by decide)) rfl (by omega) (by decide) dX5_curiousOn_21 ?_
      refine K_X5_41 (pc := 22) C (c_X6_bit l P σ _) ⟨Nat.le_of_ble_eq_true rfl, Nat.le_of_ble_eq_true rfl⟩ ⟨rfl, rfl⟩ ⟨Nat.zero_le _, Nat.zero_le _⟩ (Nat.le_of_ble_eq_true rfl) dX5_curiousOn_22 ?_
      refine X_iand (pc := 25) C dX5_curiousOn_25 ?_
      refine X_if_eq (pc := 26) C 33 dX5_curiousOn_26 (by decide) (fun h26 => ?_) (fun h26 => ?_)
      · skip
        refine X_iconst (pc := 33) (v := 0) C dX5_curiousOn_33 (by decide) ?_
        refine X_istore (pc := 34) (lv1 := [(0, _), (1, _), (2, _), (3, _), (4, _), (5, _)]) C dX5_curiousOn_34 (by decide) rfl ?_
        refine X_iload (pc := 36) C dX5_curiousOn_36 rfl ?_
        refine X_if_eq (pc := 38) C 60 dX5_curiousOn_38 (by decide) (fun h38 => ?_) (fun h38 => ?_)
        · skip
          first | refine X_iincN (pc := 60) (lv1 := [(0, _), (1, _), (2, _), (3, _), (4, _), (5, _)]) C dX5_curiousOn_60 rfl (by decide) (by decide) rfl ?_ | refine X_iinc (pc := 60) (kk := 1) (lv1 := [(0, _), (1, _), (2, _), (3, _), (4, _), (5, _)]) C dX5_curiousOn_60 rfl (by decide) (by decide) rfl ?_
          refine X_goto (pc := 63) C 5 dX5_curiousOn_63 (by decide) ?_
          exact XW.less (lv' := [(0, _), (1, _), (2, _), (3, _), (4, _)]) [0, 1, 2, 3, 4] rfl (XW.eq rfl (by first | simp [cEars, h26, h49] | simp [cEars, h26]) rfl (ih (i + 1) (by omega)))
        · exact absurd h38 (by decide)
      · skip
        refine X_iconst (pc := 29) (v := 1) C dX5_curiousOn_29 (by decide) ?_
        refine X_goto (pc := 30) C 34 dX5_curiousOn_30 (by decide) ?_
        refine X_istore (pc := 34) (lv1 := [(0, _), (1, _), (2, _), (3, _), (4, _), (5, _)]) C dX5_curiousOn_34 (by decide) rfl ?_
        refine X_iload (pc := 36) C dX5_curiousOn_36 rfl ?_
        refine X_if_eq (pc := 38) C 60 dX5_curiousOn_38 (by decide) (fun h38 => ?_) (fun h38 => ?_)
        · exact absurd h38 (by decide)
        · skip
          refine X_aload_n (pc := 41) C 0 dX5_curiousOn_41 rfl rfl ?_
          refine G_X5_22 (pc := 42) C (by assumption) dX5_curiousOn_42 ?_
          refine X_iload (pc := 45) C dX5_curiousOn_45 rfl ?_
          refine X_ialdN (pc := 47) C (by first | exact hb _ (by decide)) rfl (by omega) (by decide) dX5_curiousOn_47 ?_
          refine X_iconst (pc := 48) (v := 5) C dX5_curiousOn_48 (by decide) ?_
          refine X_icmp_lt (pc := 49) C 60 dX5_curiousOn_49 (by decide) (fun h49 => ?_) (fun h49 => ?_)
          · skip
            first | refine X_iincN (pc := 60) (lv1 := [(0, _), (1, _), (2, _), (3, _), (4, _), (5, _)]) C dX5_curiousOn_60 rfl (by decide) (by decide) rfl ?_ | refine X_iinc (pc := 60) (kk := 1) (lv1 := [(0, _), (1, _), (2, _), (3, _), (4, _), (5, _)]) C dX5_curiousOn_60 rfl (by decide) (by decide) rfl ?_
            refine X_goto (pc := 63) C 5 dX5_curiousOn_63 (by decide) ?_
            exact XW.less (lv' := [(0, _), (1, _), (2, _), (3, _), (4, _)]) [0, 1, 2, 3, 4] rfl (XW.eq rfl (by first | simp [cEars, h26, h49] | simp [cEars, h26]) rfl (ih (i + 1) (by omega)))
          · skip
            refine X_iload_n (pc := 52) C 3 dX5_curiousOn_52 rfl rfl ?_
            refine X_iload (pc := 53) C dX5_curiousOn_53 rfl ?_
            refine K_X5_41 (pc := 55) C (c_X6_bit l P σ _) ⟨Nat.le_of_ble_eq_true rfl, Nat.le_of_ble_eq_true rfl⟩ ⟨rfl, rfl⟩ ⟨Nat.zero_le _, Nat.zero_le _⟩ (Nat.le_of_ble_eq_true rfl) dX5_curiousOn_55 ?_
            refine X_ior (pc := 58) C dX5_curiousOn_58 ?_
            refine X_istore_n (pc := 59) (lv1 := [(0, _), (1, _), (2, _), (3, _), (4, _), (5, _)]) C 3 dX5_curiousOn_59 rfl (by decide) rfl ?_
            first | refine X_iincN (pc := 60) (lv1 := [(0, _), (1, _), (2, _), (3, _), (4, _), (5, _)]) C dX5_curiousOn_60 rfl (by decide) (by decide) rfl ?_ | refine X_iinc (pc := 60) (kk := 1) (lv1 := [(0, _), (1, _), (2, _), (3, _), (4, _), (5, _)]) C dX5_curiousOn_60 rfl (by decide) (by decide) rfl ?_
            refine X_goto (pc := 63) C 5 dX5_curiousOn_63 (by decide) ?_
            exact XW.less (lv' := [(0, _), (1, _), (2, _), (3, _), (4, _)]) [0, 1, 2, 3, 4] rfl (XW.eq rfl (by first | simp [cEars, h26, h49] | simp [cEars, h26]) rfl (ih (i + 1) (by omega)))

set_option maxRecDepth 100000 in
set_option maxHeartbeats 4000000 in
theorem c_X5_curiousOn (l : Launch) (P : XP) (σ : XS) (b n : Nat) (hb : xIn P b) (hn : n ≤ 15) (hc : σ.1 (.inl (b, 1)) 6 = nI n) (us ta : Int32) : XF l yX5_curiousOn cX5_curiousOn 6 (some .int) rm_X5_curiousOn P [.ref (P.2.2.1 (.inl (b, 1))), .int us, .int ta] σ (some (.int (xears (σ.1 (.inl (b, 3))) (σ.1 (.inl (b, 5))) n us ta))) (σ) := by
  refine XM.of (by decide +kernel) (Nat.le_of_ble_eq_true rfl) (fun p e s m args below meth c A C => ?_)
  replace C : XC p s m args meth c P A 6 RX5 cX5_curiousOn (some .int) := C
  refine XW.eq (lv' := [(0, _), (1, _), (2, _)]) rfl rfl rfl ?_
  refine X_iconst (pc := 0) (v := 0) C dX5_curiousOn_0 (by decide) ?_
  refine X_istore_n (pc := 1) (lv1 := [(0, _), (1, _), (2, _), (3, _)]) C 3 dX5_curiousOn_1 rfl (by decide) rfl ?_
  refine X_iconst (pc := 2) (v := 0) C dX5_curiousOn_2 (by decide) ?_
  refine X_istore (pc := 3) (lv1 := [(0, _), (1, _), (2, _), (3, _), (4, _)]) C dX5_curiousOn_3 (by decide) rfl ?_
  refine L_X5_curiousOn C hb hn hc ?_ n 0 (by omega)
  refine X_iload_n (pc := 66) C 3 dX5_curiousOn_66 rfl rfl ?_
  refine X_iload_n (pc := 67) C 2 dX5_curiousOn_67 rfl rfl ?_
  refine X_iconst (pc := 68) (v := (-1)) C dX5_curiousOn_68 (by decide) ?_
  refine X_ixor (pc := 69) C dX5_curiousOn_69 ?_
  refine X_iand (pc := 70) C dX5_curiousOn_70 ?_
  exact X_iret (pc := 71) C (Nat.zero_le _) (Nat.zero_le _) dX5_curiousOn_71 ⟨rfl, rfl⟩

set_option maxRecDepth 100000 in
set_option maxHeartbeats 4000000 in
theorem c_X5_curiousBetween (l : Launch) (P : XP) (σ : XS) (b n : Nat) (hb : xIn P b) (hn : n ≤ 15) (hc : σ.1 (.inl (b, 1)) 6 = nI n) (x y : Int32) : XF l yX5_curiousBetween cX5_curiousBetween 3 (some .int) rm_X5_curiousBetween P [.ref (P.2.2.1 (.inl (b, 1))), .int x, .int y] σ (some (.int (xbetw (σ.1 (.inl (b, 3))) (σ.1 (.inl (b, 5))) n x y))) (σ) := by
  refine XM.of (by decide +kernel) (Nat.le_of_ble_eq_true rfl) (fun p e s m args below meth c A C => ?_)
  replace C : XC p s m args meth c P A 3 RX5 cX5_curiousBetween (some .int) := C
  refine XW.eq (lv' := [(0, _), (1, _), (2, _)]) rfl rfl rfl ?_
  refine X_aload_n (pc := 0) C 0 dX5_curiousBetween_0 rfl rfl ?_
  refine X_aload_n (pc := 1) C 0 dX5_curiousBetween_1 rfl rfl ?_
  refine X_iload_n (pc := 2) C 1 dX5_curiousBetween_2 rfl rfl ?_
  refine K_X5_62 (pc := 3) C (by assumption) (c_X5_lineUsed l P σ b n hb hn hc x) ⟨Nat.le_of_ble_eq_true rfl, Nat.le_of_ble_eq_true rfl⟩ ⟨rfl, rfl⟩ ⟨Nat.zero_le _, Nat.zero_le _⟩ (Nat.le_of_ble_eq_true rfl) dX5_curiousBetween_3 ?_
  refine X_aload_n (pc := 6) C 0 dX5_curiousBetween_6 rfl rfl ?_
  refine X_iload_n (pc := 7) C 2 dX5_curiousBetween_7 rfl rfl ?_
  refine K_X5_62 (pc := 8) C (by assumption) (c_X5_lineUsed l P σ b n hb hn hc y) ⟨Nat.le_of_ble_eq_true rfl, Nat.le_of_ble_eq_true rfl⟩ ⟨rfl, rfl⟩ ⟨Nat.zero_le _, Nat.zero_le _⟩ (Nat.le_of_ble_eq_true rfl) dX5_curiousBetween_8 ?_
  refine X_ior (pc := 11) C dX5_curiousBetween_11 ?_
  refine X_iload_n (pc := 12) C 1 dX5_curiousBetween_12 rfl rfl ?_
  refine K_X5_41 (pc := 13) C (c_X6_bit l P σ _) ⟨Nat.le_of_ble_eq_true rfl, Nat.le_of_ble_eq_true rfl⟩ ⟨rfl, rfl⟩ ⟨Nat.zero_le _, Nat.zero_le _⟩ (Nat.le_of_ble_eq_true rfl) dX5_curiousBetween_13 ?_
  refine X_iload_n (pc := 16) C 2 dX5_curiousBetween_16 rfl rfl ?_
  refine K_X5_41 (pc := 17) C (c_X6_bit l P σ _) ⟨Nat.le_of_ble_eq_true rfl, Nat.le_of_ble_eq_true rfl⟩ ⟨rfl, rfl⟩ ⟨Nat.zero_le _, Nat.zero_le _⟩ (Nat.le_of_ble_eq_true rfl) dX5_curiousBetween_17 ?_
  refine X_ior (pc := 20) C dX5_curiousBetween_20 ?_
  refine K_X5_65 (pc := 21) C (by assumption) (c_X5_curiousOn l P σ b n hb hn hc _ _) ⟨Nat.le_of_ble_eq_true rfl, Nat.le_of_ble_eq_true rfl⟩ ⟨rfl, rfl⟩ ⟨Nat.zero_le _, Nat.zero_le _⟩ (Nat.le_of_ble_eq_true rfl) dX5_curiousBetween_21 ?_
  exact X_iret (pc := 24) C (Nat.zero_le _) (Nat.zero_le _) dX5_curiousBetween_24 ⟨rfl, rfl⟩

set_option maxRecDepth 100000 in
set_option maxHeartbeats 4000000 in
theorem L_X5_countKnowing (C : XC p s m args meth c P A 4 RX5 cX5_countKnowing (some .int)) {b n : Nat} (hb : xIn P b) (hn : n ≤ 15) (hc : σ.1 (.inl (b, 1)) 6 = nI n) {x : Int32} (kx : XW p l e rm_X5_countKnowing s m args below meth c P A 4 0 0 Q σ 35 [(0, .ref (P.2.2.1 (.inl (b, 1)))), (1, .int x), (2, .int (nI (cKnow (σ.1 (.inl (b, 7))) (xbit x) n))), (3, .int (nI n))] []) : ∀ (k i : Nat), i + k = n → XW p l e rm_X5_countKnowing s m args below meth c P A 4 0 0 Q σ 4 [(0, .ref (P.2.2.1 (.inl (b, 1)))), (1, .int x), (2, .int (nI (cKnow (σ.1 (.inl (b, 7))) (xbit x) i))), (3, .int (nI i))] [] := by
  intro k
  induction k with
  | zero =>
    intro i hi
    have e9 : i = n := by omega
    subst e9
    refine X_iload_n (pc := 4) C 3 dX5_countKnowing_4 rfl rfl ?_
    refine X_aload_n (pc := 5) C 0 dX5_countKnowing_5 rfl rfl ?_
    refine G_X5_37 (pc := 6) C (by assumption) dX5_countKnowing_6 ?_
    rw [hc]
    refine X_icmp_ge (pc := 9) C 35 dX5_countKnowing_9 (by decide) (fun h9 => ?_) (fun h9 => ?_)
    · skip
      exact kx
    · exact absurd (nI_le (Nat.le_refl _) (n31 (by omega))) h9
  | succ k ih =>
    intro i hi
    have hlt : i < n := by omega
    refine X_iload_n (pc := 4) C 3 dX5_countKnowing_4 rfl rfl ?_
    refine X_aload_n (pc := 5) C 0 dX5_countKnowing_5 rfl rfl ?_
    refine G_X5_37 (pc := 6) C (by assumption) dX5_countKnowing_6 ?_
    rw [hc]
    refine X_icmp_ge (pc := 9) C 35 dX5_countKnowing_9 (by decide) (fun h9 => ?_) (fun h9 => ?_)
    · exact absurd (nle h9) (by omega)
    · skip
      refine X_aload_n (pc := 12) C 0 dX5_countKnowing_12 rfl rfl ?_
      refine G_X5_28 (pc := 13) C (by assumption) dX5_countKnowing_13 ?_
      refine X_iload_n (pc := 16) C 3 dX5_countKnowing_16 rfl rfl ?_
      refine X_ialdN (pc := 17) C (by first | exact hb _ (by decide)) rfl (by omega) (by decide) dX5_countKnowing_17 ?_
      refine X_iload_n (pc := 18) C 1 dX5_countKnowing_18 rfl rfl ?_
      refine K_X5_41 (pc := 19) C (c_X6_bit l P σ _) ⟨Nat.le_of_ble_eq_true rfl, Nat.le_of_ble_eq_true rfl⟩ ⟨rfl, rfl⟩ ⟨Nat.zero_le _, Nat.zero_le _⟩ (Nat.le_of_ble_eq_true rfl) dX5_countKnowing_19 ?_
      refine X_iand (pc := 22) C dX5_countKnowing_22 ?_
      refine X_if_eq (pc := 23) C 29 dX5_countKnowing_23 (by decide) (fun h23 => ?_) (fun h23 => ?_)
      · skip
        first | refine X_iincN (pc := 29) (lv1 := [(0, _), (1, _), (2, _), (3, _)]) C dX5_countKnowing_29 rfl (by decide) (by decide) rfl ?_ | refine X_iinc (pc := 29) (kk := 1) (lv1 := [(0, _), (1, _), (2, _), (3, _)]) C dX5_countKnowing_29 rfl (by decide) (by decide) rfl ?_
        refine X_goto (pc := 32) C 4 dX5_countKnowing_32 (by decide) ?_
        exact XW.eq rfl (by simp [cKnow, h23]) rfl (ih (i + 1) (by omega))
      · skip
        first | refine X_iincN (pc := 26) (lv1 := [(0, _), (1, _), (2, _), (3, _)]) C dX5_countKnowing_26 rfl (by decide) (by decide) rfl ?_ | refine X_iinc (pc := 26) (kk := 1) (lv1 := [(0, _), (1, _), (2, _), (3, _)]) C dX5_countKnowing_26 rfl (by decide) (by decide) rfl ?_
        first | refine X_iincN (pc := 29) (lv1 := [(0, _), (1, _), (2, _), (3, _)]) C dX5_countKnowing_29 rfl (by decide) (by decide) rfl ?_ | refine X_iinc (pc := 29) (kk := 1) (lv1 := [(0, _), (1, _), (2, _), (3, _)]) C dX5_countKnowing_29 rfl (by decide) (by decide) rfl ?_
        refine X_goto (pc := 32) C 4 dX5_countKnowing_32 (by decide) ?_
        exact XW.eq rfl (by simp [cKnow, h23]) rfl (ih (i + 1) (by omega))

set_option maxRecDepth 100000 in
set_option maxHeartbeats 4000000 in
theorem c_X5_countKnowing (l : Launch) (P : XP) (σ : XS) (b n : Nat) (hb : xIn P b) (hn : n ≤ 15) (hc : σ.1 (.inl (b, 1)) 6 = nI n) (x : Int32) : XF l yX5_countKnowing cX5_countKnowing 4 (some .int) rm_X5_countKnowing P [.ref (P.2.2.1 (.inl (b, 1))), .int x] σ (some (.int (nI (cKnow (σ.1 (.inl (b, 7))) (xbit x) n)))) (σ) := by
  refine XM.of (by decide +kernel) (Nat.le_of_ble_eq_true rfl) (fun p e s m args below meth c A C => ?_)
  replace C : XC p s m args meth c P A 4 RX5 cX5_countKnowing (some .int) := C
  refine XW.eq (lv' := [(0, _), (1, _)]) rfl rfl rfl ?_
  refine X_iconst (pc := 0) (v := 0) C dX5_countKnowing_0 (by decide) ?_
  refine X_istore_n (pc := 1) (lv1 := [(0, _), (1, _), (2, _)]) C 2 dX5_countKnowing_1 rfl (by decide) rfl ?_
  refine X_iconst (pc := 2) (v := 0) C dX5_countKnowing_2 (by decide) ?_
  refine X_istore_n (pc := 3) (lv1 := [(0, _), (1, _), (2, _), (3, _)]) C 3 dX5_countKnowing_3 rfl (by decide) rfl ?_
  refine L_X5_countKnowing C hb hn hc ?_ n 0 (by omega)
  refine X_iload_n (pc := 35) C 2 dX5_countKnowing_35 rfl rfl ?_
  exact X_iret (pc := 36) C (Nat.zero_le _) (Nat.zero_le _) dX5_countKnowing_36 ⟨rfl, rfl⟩

set_option maxRecDepth 100000 in
set_option maxHeartbeats 4000000 in
theorem L_X5_countSecretsKnown (C : XC p s m args meth c P A 3 RX5 cX5_countSecretsKnown (some .int)) {b n : Nat} (hb : xIn P b) (hn : n ≤ 15) (hc : σ.1 (.inl (b, 1)) 6 = nI n) (kx : XW p l e rm_X5_countSecretsKnown s m args below meth c P A 3 0 0 Q σ 30 [(0, .ref (P.2.2.1 (.inl (b, 1)))), (1, .int (cSum (fun k => xbc ((σ.1 (.inl (b, 7))) k)) n)), (2, .int (nI n))] []) : ∀ (k i : Nat), i + k = n → XW p l e rm_X5_countSecretsKnown s m args below meth c P A 3 0 0 Q σ 4 [(0, .ref (P.2.2.1 (.inl (b, 1)))), (1, .int (cSum (fun k => xbc ((σ.1 (.inl (b, 7))) k)) i)), (2, .int (nI i))] [] := by
  intro k
  induction k with
  | zero =>
    intro i hi
    have e9 : i = n := by omega
    subst e9
    refine X_iload_n (pc := 4) C 2 dX5_countSecretsKnown_4 rfl rfl ?_
    refine X_aload_n (pc := 5) C 0 dX5_countSecretsKnown_5 rfl rfl ?_
    refine G_X5_37 (pc := 6) C (by assumption) dX5_countSecretsKnown_6 ?_
    rw [hc]
    refine X_icmp_ge (pc := 9) C 30 dX5_countSecretsKnown_9 (by decide) (fun h9 => ?_) (fun h9 => ?_)
    · skip
      exact kx
    · exact absurd (nI_le (Nat.le_refl _) (n31 (by omega))) h9
  | succ k ih =>
    intro i hi
    have hlt : i < n := by omega
    refine X_iload_n (pc := 4) C 2 dX5_countSecretsKnown_4 rfl rfl ?_
    refine X_aload_n (pc := 5) C 0 dX5_countSecretsKnown_5 rfl rfl ?_
    refine G_X5_37 (pc := 6) C (by assumption) dX5_countSecretsKnown_6 ?_
    rw [hc]
    refine X_icmp_ge (pc := 9) C 30 dX5_countSecretsKnown_9 (by decide) (fun h9 => ?_) (fun h9 => ?_)
    · exact absurd (nle h9) (by omega)
    · skip
      refine X_iload_n (pc := 12) C 1 dX5_countSecretsKnown_12 rfl rfl ?_
      refine X_aload_n (pc := 13) C 0 dX5_countSecretsKnown_13 rfl rfl ?_
      refine G_X5_28 (pc := 14) C (by assumption) dX5_countSecretsKnown_14 ?_
      refine X_iload_n (pc := 17) C 2 dX5_countSecretsKnown_17 rfl rfl ?_
      refine X_ialdN (pc := 18) C (by first | exact hb _ (by decide)) rfl (by omega) (by decide) dX5_countSecretsKnown_18 ?_
      refine K_X5_71 (pc := 19) C (c_J6_bitCount l P σ _) ⟨Nat.le_of_ble_eq_true rfl, Nat.le_of_ble_eq_true rfl⟩ ⟨rfl, rfl⟩ ⟨Nat.zero_le _, Nat.zero_le _⟩ (Nat.le_of_ble_eq_true rfl) dX5_countSecretsKnown_19 ?_
      refine X_iadd (pc := 22) C dX5_countSecretsKnown_22 ?_
      refine X_istore_n (pc := 23) (lv1 := [(0, _), (1, _), (2, _)]) C 1 dX5_countSecretsKnown_23 rfl (by decide) rfl ?_
      first | refine X_iincN (pc := 24) (lv1 := [(0, _), (1, _), (2, _)]) C dX5_countSecretsKnown_24 rfl (by decide) (by decide) rfl ?_ | refine X_iinc (pc := 24) (kk := 1) (lv1 := [(0, _), (1, _), (2, _)]) C dX5_countSecretsKnown_24 rfl (by decide) (by decide) rfl ?_
      refine X_goto (pc := 27) C 4 dX5_countSecretsKnown_27 (by decide) ?_
      exact ih (i + 1) (by omega)

set_option maxRecDepth 100000 in
set_option maxHeartbeats 4000000 in
theorem c_X5_countSecretsKnown (l : Launch) (P : XP) (σ : XS) (b n : Nat) (hb : xIn P b) (hn : n ≤ 15) (hc : σ.1 (.inl (b, 1)) 6 = nI n) : XF l yX5_countSecretsKnown cX5_countSecretsKnown 3 (some .int) rm_X5_countSecretsKnown P [.ref (P.2.2.1 (.inl (b, 1)))] σ (some (.int (cSum (fun k => xbc ((σ.1 (.inl (b, 7))) k)) n))) (σ) := by
  refine XM.of (by decide +kernel) (Nat.le_of_ble_eq_true rfl) (fun p e s m args below meth c A C => ?_)
  replace C : XC p s m args meth c P A 3 RX5 cX5_countSecretsKnown (some .int) := C
  refine XW.eq (lv' := [(0, _)]) rfl rfl rfl ?_
  refine X_iconst (pc := 0) (v := 0) C dX5_countSecretsKnown_0 (by decide) ?_
  refine X_istore_n (pc := 1) (lv1 := [(0, _), (1, _)]) C 1 dX5_countSecretsKnown_1 rfl (by decide) rfl ?_
  refine X_iconst (pc := 2) (v := 0) C dX5_countSecretsKnown_2 (by decide) ?_
  refine X_istore_n (pc := 3) (lv1 := [(0, _), (1, _), (2, _)]) C 2 dX5_countSecretsKnown_3 rfl (by decide) rfl ?_
  refine L_X5_countSecretsKnown C hb hn hc ?_ n 0 (by omega)
  refine X_iload_n (pc := 30) C 1 dX5_countSecretsKnown_30 rfl rfl ?_
  exact X_iret (pc := 31) C (Nat.zero_le _) (Nat.zero_le _) dX5_countSecretsKnown_31 ⟨rfl, rfl⟩

set_option maxRecDepth 100000 in
set_option maxHeartbeats 4000000 in
theorem L_X5_findBestInformed (C : XC p s m args meth c P A 5 RX5 cX5_findBestInformed (some .int)) {b n : Nat} (hb : xIn P b) (hn : n ≤ 15) (hc : σ.1 (.inl (b, 1)) 6 = nI n) (kx : XW p l e rm_X5_findBestInformed s m args below meth c P A 5 0 0 Q σ 42 [(0, .ref (P.2.2.1 (.inl (b, 1)))), (1, .int (cBest (fun k => xbc ((σ.1 (.inl (b, 7))) k)) n).1), (2, .int (cBest (fun k => xbc ((σ.1 (.inl (b, 7))) k)) n).2), (3, .int (nI n))] []) : ∀ (k i : Nat), i + k = n → XW p l e rm_X5_findBestInformed s m args below meth c P A 5 0 0 Q σ 6 [(0, .ref (P.2.2.1 (.inl (b, 1)))), (1, .int (cBest (fun k => xbc ((σ.1 (.inl (b, 7))) k)) i).1), (2, .int (cBest (fun k => xbc ((σ.1 (.inl (b, 7))) k)) i).2), (3, .int (nI i))] [] := by
  intro k
  induction k with
  | zero =>
    intro i hi
    have e9 : i = n := by omega
    subst e9
    refine X_iload_n (pc := 6) C 3 dX5_findBestInformed_6 rfl rfl ?_
    refine X_aload_n (pc := 7) C 0 dX5_findBestInformed_7 rfl rfl ?_
    refine G_X5_37 (pc := 8) C (by assumption) dX5_findBestInformed_8 ?_
    rw [hc]
    refine X_icmp_ge (pc := 11) C 42 dX5_findBestInformed_11 (by decide) (fun h11 => ?_) (fun h11 => ?_)
    · skip
      exact kx
    · exact absurd (nI_le (Nat.le_refl _) (n31 (by omega))) h11
  | succ k ih =>
    intro i hi
    have hlt : i < n := by omega
    refine X_iload_n (pc := 6) C 3 dX5_findBestInformed_6 rfl rfl ?_
    refine X_aload_n (pc := 7) C 0 dX5_findBestInformed_7 rfl rfl ?_
    refine G_X5_37 (pc := 8) C (by assumption) dX5_findBestInformed_8 ?_
    rw [hc]
    refine X_icmp_ge (pc := 11) C 42 dX5_findBestInformed_11 (by decide) (fun h11 => ?_) (fun h11 => ?_)
    · exact absurd (nle h11) (by omega)
    · skip
      refine X_aload_n (pc := 14) C 0 dX5_findBestInformed_14 rfl rfl ?_
      refine G_X5_28 (pc := 15) C (by assumption) dX5_findBestInformed_15 ?_
      refine X_iload_n (pc := 18) C 3 dX5_findBestInformed_18 rfl rfl ?_
      refine X_ialdN (pc := 19) C (by first | exact hb _ (by decide)) rfl (by omega) (by decide) dX5_findBestInformed_19 ?_
      refine K_X5_71 (pc := 20) C (c_J6_bitCount l P σ _) ⟨Nat.le_of_ble_eq_true rfl, Nat.le_of_ble_eq_true rfl⟩ ⟨rfl, rfl⟩ ⟨Nat.zero_le _, Nat.zero_le _⟩ (Nat.le_of_ble_eq_true rfl) dX5_findBestInformed_20 ?_
      refine X_istore (pc := 23) (lv1 := [(0, _), (1, _), (2, _), (3, _), (4, _)]) C dX5_findBestInformed_23 (by decide) rfl ?_
      refine X_iload (pc := 25) C dX5_findBestInformed_25 rfl ?_
      refine X_iload_n (pc := 27) C 2 dX5_findBestInformed_27 rfl rfl ?_
      refine X_icmp_le (pc := 28) C 36 dX5_findBestInformed_28 (by decide) (fun h28 => ?_) (fun h28 => ?_)
      · skip
        first | refine X_iincN (pc := 36) (lv1 := [(0, _), (1, _), (2, _), (3, _), (4, _)]) C dX5_findBestInformed_36 rfl (by decide) (by decide) rfl ?_ | refine X_iinc (pc := 36) (kk := 1) (lv1 := [(0, _), (1, _), (2, _), (3, _), (4, _)]) C dX5_findBestInformed_36 rfl (by decide) (by decide) rfl ?_
        refine X_goto (pc := 39) C 6 dX5_findBestInformed_39 (by decide) ?_
        exact XW.less (lv' := [(0, _), (1, _), (2, _), (3, _)]) [0, 1, 2, 3] rfl (XW.eq rfl (by first | rw [cBest_n h28] | rw [cBest_y h28]) rfl (ih (i + 1) (by omega)))
      · skip
        refine X_iload_n (pc := 31) C 3 dX5_findBestInformed_31 rfl rfl ?_
        refine X_istore_n (pc := 32) (lv1 := [(0, _), (1, _), (2, _), (3, _), (4, _)]) C 1 dX5_findBestInformed_32 rfl (by decide) rfl ?_
        refine X_iload (pc := 33) C dX5_findBestInformed_33 rfl ?_
        refine X_istore_n (pc := 35) (lv1 := [(0, _), (1, _), (2, _), (3, _), (4, _)]) C 2 dX5_findBestInformed_35 rfl (by decide) rfl ?_
        first | refine X_iincN (pc := 36) (lv1 := [(0, _), (1, _), (2, _), (3, _), (4, _)]) C dX5_findBestInformed_36 rfl (by decide) (by decide) rfl ?_ | refine X_iinc (pc := 36) (kk := 1) (lv1 := [(0, _), (1, _), (2, _), (3, _), (4, _)]) C dX5_findBestInformed_36 rfl (by decide) (by decide) rfl ?_
        refine X_goto (pc := 39) C 6 dX5_findBestInformed_39 (by decide) ?_
        exact XW.less (lv' := [(0, _), (1, _), (2, _), (3, _)]) [0, 1, 2, 3] rfl (XW.eq rfl (by first | rw [cBest_n h28] | rw [cBest_y h28]) rfl (ih (i + 1) (by omega)))

set_option maxRecDepth 100000 in
set_option maxHeartbeats 4000000 in
theorem c_X5_findBestInformed (l : Launch) (P : XP) (σ : XS) (b n : Nat) (hb : xIn P b) (hn : n ≤ 15) (hc : σ.1 (.inl (b, 1)) 6 = nI n) : XF l yX5_findBestInformed cX5_findBestInformed 5 (some .int) rm_X5_findBestInformed P [.ref (P.2.2.1 (.inl (b, 1)))] σ (some (.int (cBest (fun k => xbc ((σ.1 (.inl (b, 7))) k)) n).1)) (σ) := by
  refine XM.of (by decide +kernel) (Nat.le_of_ble_eq_true rfl) (fun p e s m args below meth c A C => ?_)
  replace C : XC p s m args meth c P A 5 RX5 cX5_findBestInformed (some .int) := C
  refine XW.eq (lv' := [(0, _)]) rfl rfl rfl ?_
  refine X_iconst (pc := 0) (v := 0) C dX5_findBestInformed_0 (by decide) ?_
  refine X_istore_n (pc := 1) (lv1 := [(0, _), (1, _)]) C 1 dX5_findBestInformed_1 rfl (by decide) rfl ?_
  refine X_iconst (pc := 2) (v := 0) C dX5_findBestInformed_2 (by decide) ?_
  refine X_istore_n (pc := 3) (lv1 := [(0, _), (1, _), (2, _)]) C 2 dX5_findBestInformed_3 rfl (by decide) rfl ?_
  refine X_iconst (pc := 4) (v := 0) C dX5_findBestInformed_4 (by decide) ?_
  refine X_istore_n (pc := 5) (lv1 := [(0, _), (1, _), (2, _), (3, _)]) C 3 dX5_findBestInformed_5 rfl (by decide) rfl ?_
  refine L_X5_findBestInformed C hb hn hc ?_ n 0 (by omega)
  refine X_iload_n (pc := 42) C 1 dX5_findBestInformed_42 rfl rfl ?_
  exact X_iret (pc := 43) C (Nat.zero_le _) (Nat.zero_le _) dX5_findBestInformed_43 ⟨rfl, rfl⟩

set_option maxRecDepth 100000 in
set_option maxHeartbeats 4000000 in
theorem c_X5_add (l : Launch) (P : XP) (σ : XS) (b n : Nat) (hb : xIn P b) (hn : n ≤ 15) (hc : σ.1 (.inl (b, 1)) 6 = nI n) (nm : Int64) (li co cu : Int32) : XF l yX5_add cX5_add 6 none rm_X5_add P [.ref (P.2.2.1 (.inl (b, 1))), .long nm, .int li, .int co, .int cu] σ (none) (if n < 15 then uSub σ b n nm li co cu else σ) := by
  refine XM.of (by decide +kernel) (Nat.le_of_ble_eq_true rfl) (fun p e s m args below meth c A C => ?_)
  replace C : XC p s m args meth c P A 6 RX5 cX5_add none := C
  refine XW.eq (lv' := [(0, _), (1, _), (3, _), (4, _), (5, _)]) rfl rfl rfl ?_
  refine X_aload_n (pc := 0) C 0 dX5_add_0 rfl rfl ?_
  refine G_X5_37 (pc := 1) C (by assumption) dX5_add_1 ?_
  rw [hc]
  refine X_bipush (pc := 4) (v := 15) C dX5_add_4 (by decide) ?_
  refine X_icmp_ge (pc := 6) C 87 dX5_add_6 (by decide) (fun h6 => ?_) (fun h6 => ?_)
  · have g6 := nle (b := n) (a := 15) h6
    exact X_vret (pc := 87) C (Nat.zero_le _) (Nat.zero_le _) dX5_add_87 ⟨rfl, by rw [if_neg (by omega)]⟩
  · have g6 := nnle (b := n) (a := 15) h6
    have hc0 := hc
    have hq : ∀ (τ : XS), τ.1 (.inl (b, 1)) = σ.1 (.inl (b, 1)) → τ.1 (.inl (b, 1)) 6 = nI n := fun τ h => by rw [h, hc]
    refine X_aload_n (pc := 9) C 0 dX5_add_9 rfl rfl ?_
    refine G_X5_9 (pc := 10) C (by assumption) dX5_add_10 ?_
    refine X_aload_n (pc := 13) C 0 dX5_add_13 rfl rfl ?_
    refine G_X5_37 (pc := 14) C (by assumption) dX5_add_14 ?_
    rw [hc]
    refine X_lload_n (pc := 17) C 1 dX5_add_17 rfl rfl ?_
    refine X_lastN (pc := 18) C (by first | exact hb _ (by decide)) rfl (by omega) (by decide) dX5_add_18 ?_
    refine X_aload_n (pc := 19) C 0 dX5_add_19 rfl rfl ?_
    refine G_X5_15 (pc := 20) C (by assumption) dX5_add_20 ?_
    refine X_aload_n (pc := 23) C 0 dX5_add_23 rfl rfl ?_
    refine G_X5_37 (pc := 24) C (by assumption) dX5_add_24 ?_
    rw [hq _ (by simp [xL_i])]
    refine X_iload_n (pc := 27) C 3 dX5_add_27 rfl rfl ?_
    refine X_iastN (pc := 28) C (by first | exact hb _ (by decide)) rfl (by omega) (by decide) dX5_add_28 ?_
    refine X_aload_n (pc := 29) C 0 dX5_add_29 rfl rfl ?_
    refine G_X5_19 (pc := 30) C (by assumption) dX5_add_30 ?_
    refine X_aload_n (pc := 33) C 0 dX5_add_33 rfl rfl ?_
    refine G_X5_37 (pc := 34) C (by assumption) dX5_add_34 ?_
    rw [hq _ (by simp [xu_ne, xL_i])]
    refine X_iload (pc := 37) C dX5_add_37 rfl ?_
    refine X_iastN (pc := 39) C (by first | exact hb _ (by decide)) rfl (by omega) (by decide) dX5_add_39 ?_
    refine X_aload_n (pc := 40) C 0 dX5_add_40 rfl rfl ?_
    refine G_X5_22 (pc := 41) C (by assumption) dX5_add_41 ?_
    refine X_aload_n (pc := 44) C 0 dX5_add_44 rfl rfl ?_
    refine G_X5_37 (pc := 45) C (by assumption) dX5_add_45 ?_
    rw [hq _ (by simp [xu_ne, xL_i])]
    refine X_iload (pc := 48) C dX5_add_48 rfl ?_
    refine X_iastN (pc := 50) C (by first | exact hb _ (by decide)) rfl (by omega) (by decide) dX5_add_50 ?_
    refine X_aload_n (pc := 51) C 0 dX5_add_51 rfl rfl ?_
    refine G_X5_25 (pc := 52) C (by assumption) dX5_add_52 ?_
    refine X_aload_n (pc := 55) C 0 dX5_add_55 rfl rfl ?_
    refine G_X5_37 (pc := 56) C (by assumption) dX5_add_56 ?_
    rw [hq _ (by simp [xu_ne, xL_i])]
    refine X_iconst (pc := 59) (v := 0) C dX5_add_59 (by decide) ?_
    refine X_iastN (pc := 60) C (by first | exact hb _ (by decide)) rfl (by omega) (by decide) dX5_add_60 ?_
    refine X_aload_n (pc := 61) C 0 dX5_add_61 rfl rfl ?_
    refine G_X5_28 (pc := 62) C (by assumption) dX5_add_62 ?_
    refine X_aload_n (pc := 65) C 0 dX5_add_65 rfl rfl ?_
    refine G_X5_37 (pc := 66) C (by assumption) dX5_add_66 ?_
    rw [hq _ (by simp [xu_ne, xL_i])]
    refine X_aload_n (pc := 69) C 0 dX5_add_69 rfl rfl ?_
    refine G_X5_37 (pc := 70) C (by assumption) dX5_add_70 ?_
    rw [hq _ (by simp [xu_ne, xL_i])]
    refine K_X5_41 (pc := 73) C (c_X6_bit l P _ _) ⟨Nat.le_of_ble_eq_true rfl, Nat.le_of_ble_eq_true rfl⟩ ⟨rfl, rfl⟩ ⟨Nat.zero_le _, Nat.zero_le _⟩ (Nat.le_of_ble_eq_true rfl) dX5_add_73 ?_
    refine X_iastN (pc := 76) C (by first | exact hb _ (by decide)) rfl (by omega) (by decide) dX5_add_76 ?_
    refine X_aload_n (pc := 77) C 0 dX5_add_77 rfl rfl ?_
    refine X_dup (pc := 78) C dX5_add_78 rfl ?_
    refine G_X5_37 (pc := 79) C (by assumption) dX5_add_79 ?_
    rw [hq _ (by simp [xu_ne, xL_i])]
    refine X_iconst (pc := 82) (v := 1) C dX5_add_82 (by decide) ?_
    refine X_iadd (pc := 83) C dX5_add_83 ?_
    rw [nI_1]
    refine U_X5_37 (pc := 84) C (by assumption) dX5_add_84 ?_
    exact X_vret (pc := 87) C (Nat.zero_le _) (Nat.zero_le _) dX5_add_87 ⟨rfl, by rw [if_pos g6]; rfl⟩

set_option maxRecDepth 100000 in
set_option maxHeartbeats 4000000 in
theorem c_X5_copyFrom (l : Launch) (P : XP) (σ : XS) (b f : Nat) (hb : xIn P b) (hf : xIn P f) : XF l yX5_copyFrom cX5_copyFrom 2 none rm_X5_copyFrom P [.ref (P.2.2.1 (.inl (b, 1))), .ref (P.2.2.1 (.inl (f, 1)))] σ (none) (uCopyS σ b f) := by
  refine XM.of (by decide +kernel) (Nat.le_of_ble_eq_true rfl) (fun p e s m args below meth c A C => ?_)
  replace C : XC p s m args meth c P A 2 RX5 cX5_copyFrom none := C
  refine XW.eq (lv' := [(0, _), (1, _)]) rfl rfl rfl ?_
  refine X_aload_n (pc := 0) C 1 dX5_copyFrom_0 rfl rfl ?_
  refine G_X5_9 (pc := 1) C (by assumption) dX5_copyFrom_1 ?_
  refine X_iconst (pc := 4) (v := 0) C dX5_copyFrom_4 (by decide) ?_
  refine X_aload_n (pc := 5) C 0 dX5_copyFrom_5 rfl rfl ?_
  refine G_X5_9 (pc := 6) C (by assumption) dX5_copyFrom_6 ?_
  refine X_iconst (pc := 9) (v := 0) C dX5_copyFrom_9 (by decide) ?_
  refine X_bipush (pc := 10) (v := 15) C dX5_copyFrom_10 (by decide) ?_
  refine X_copyl (sp := 0) (dp := 0) (n := 15) (pc := 12) C (by first | exact hb _ (by decide) | exact hf _ (by decide)) (by first | exact hb _ (by decide) | exact hf _ (by decide)) rfl rfl m_m_X5_31 (by decide) (by decide) (by decide) (by decide) (Nat.le_of_ble_eq_true rfl) (Nat.le_of_ble_eq_true rfl) dX5_copyFrom_12 ?_
  refine X_aload_n (pc := 15) C 1 dX5_copyFrom_15 rfl rfl ?_
  refine G_X5_15 (pc := 16) C (by assumption) dX5_copyFrom_16 ?_
  refine X_iconst (pc := 19) (v := 0) C dX5_copyFrom_19 (by decide) ?_
  refine X_aload_n (pc := 20) C 0 dX5_copyFrom_20 rfl rfl ?_
  refine G_X5_15 (pc := 21) C (by assumption) dX5_copyFrom_21 ?_
  refine X_iconst (pc := 24) (v := 0) C dX5_copyFrom_24 (by decide) ?_
  refine X_bipush (pc := 25) (v := 15) C dX5_copyFrom_25 (by decide) ?_
  refine X_copyi (sp := 0) (dp := 0) (n := 15) (pc := 27) C (by first | exact hb _ (by decide) | exact hf _ (by decide)) (by first | exact hb _ (by decide) | exact hf _ (by decide)) rfl rfl m_m_X5_31 (by decide) (by decide) (by decide) (by decide) (Nat.le_of_ble_eq_true rfl) (Nat.le_of_ble_eq_true rfl) dX5_copyFrom_27 ?_
  refine X_aload_n (pc := 30) C 1 dX5_copyFrom_30 rfl rfl ?_
  refine G_X5_19 (pc := 31) C (by assumption) dX5_copyFrom_31 ?_
  refine X_iconst (pc := 34) (v := 0) C dX5_copyFrom_34 (by decide) ?_
  refine X_aload_n (pc := 35) C 0 dX5_copyFrom_35 rfl rfl ?_
  refine G_X5_19 (pc := 36) C (by assumption) dX5_copyFrom_36 ?_
  refine X_iconst (pc := 39) (v := 0) C dX5_copyFrom_39 (by decide) ?_
  refine X_bipush (pc := 40) (v := 15) C dX5_copyFrom_40 (by decide) ?_
  refine X_copyi (sp := 0) (dp := 0) (n := 15) (pc := 42) C (by first | exact hb _ (by decide) | exact hf _ (by decide)) (by first | exact hb _ (by decide) | exact hf _ (by decide)) rfl rfl m_m_X5_31 (by decide) (by decide) (by decide) (by decide) (Nat.le_of_ble_eq_true rfl) (Nat.le_of_ble_eq_true rfl) dX5_copyFrom_42 ?_
  refine X_aload_n (pc := 45) C 1 dX5_copyFrom_45 rfl rfl ?_
  refine G_X5_22 (pc := 46) C (by assumption) dX5_copyFrom_46 ?_
  refine X_iconst (pc := 49) (v := 0) C dX5_copyFrom_49 (by decide) ?_
  refine X_aload_n (pc := 50) C 0 dX5_copyFrom_50 rfl rfl ?_
  refine G_X5_22 (pc := 51) C (by assumption) dX5_copyFrom_51 ?_
  refine X_iconst (pc := 54) (v := 0) C dX5_copyFrom_54 (by decide) ?_
  refine X_bipush (pc := 55) (v := 15) C dX5_copyFrom_55 (by decide) ?_
  refine X_copyi (sp := 0) (dp := 0) (n := 15) (pc := 57) C (by first | exact hb _ (by decide) | exact hf _ (by decide)) (by first | exact hb _ (by decide) | exact hf _ (by decide)) rfl rfl m_m_X5_31 (by decide) (by decide) (by decide) (by decide) (Nat.le_of_ble_eq_true rfl) (Nat.le_of_ble_eq_true rfl) dX5_copyFrom_57 ?_
  refine X_aload_n (pc := 60) C 1 dX5_copyFrom_60 rfl rfl ?_
  refine G_X5_25 (pc := 61) C (by assumption) dX5_copyFrom_61 ?_
  refine X_iconst (pc := 64) (v := 0) C dX5_copyFrom_64 (by decide) ?_
  refine X_aload_n (pc := 65) C 0 dX5_copyFrom_65 rfl rfl ?_
  refine G_X5_25 (pc := 66) C (by assumption) dX5_copyFrom_66 ?_
  refine X_iconst (pc := 69) (v := 0) C dX5_copyFrom_69 (by decide) ?_
  refine X_bipush (pc := 70) (v := 15) C dX5_copyFrom_70 (by decide) ?_
  refine X_copyi (sp := 0) (dp := 0) (n := 15) (pc := 72) C (by first | exact hb _ (by decide) | exact hf _ (by decide)) (by first | exact hb _ (by decide) | exact hf _ (by decide)) rfl rfl m_m_X5_31 (by decide) (by decide) (by decide) (by decide) (Nat.le_of_ble_eq_true rfl) (Nat.le_of_ble_eq_true rfl) dX5_copyFrom_72 ?_
  refine X_aload_n (pc := 75) C 1 dX5_copyFrom_75 rfl rfl ?_
  refine G_X5_28 (pc := 76) C (by assumption) dX5_copyFrom_76 ?_
  refine X_iconst (pc := 79) (v := 0) C dX5_copyFrom_79 (by decide) ?_
  refine X_aload_n (pc := 80) C 0 dX5_copyFrom_80 rfl rfl ?_
  refine G_X5_28 (pc := 81) C (by assumption) dX5_copyFrom_81 ?_
  refine X_iconst (pc := 84) (v := 0) C dX5_copyFrom_84 (by decide) ?_
  refine X_bipush (pc := 85) (v := 15) C dX5_copyFrom_85 (by decide) ?_
  refine X_copyi (sp := 0) (dp := 0) (n := 15) (pc := 87) C (by first | exact hb _ (by decide) | exact hf _ (by decide)) (by first | exact hb _ (by decide) | exact hf _ (by decide)) rfl rfl m_m_X5_31 (by decide) (by decide) (by decide) (by decide) (Nat.le_of_ble_eq_true rfl) (Nat.le_of_ble_eq_true rfl) dX5_copyFrom_87 ?_
  refine X_aload_n (pc := 90) C 0 dX5_copyFrom_90 rfl rfl ?_
  refine X_aload_n (pc := 91) C 1 dX5_copyFrom_91 rfl rfl ?_
  refine G_X5_37 (pc := 92) C (by assumption) dX5_copyFrom_92 ?_
  refine U_X5_37 (pc := 95) C (by assumption) dX5_copyFrom_95 ?_
  exact X_vret (pc := 98) C (Nat.zero_le _) (Nat.zero_le _) dX5_copyFrom_98 ⟨rfl, rfl⟩

set_option maxRecDepth 100000 in
set_option maxHeartbeats 4000000 in
theorem L_X5_tellSecrets (C : XC p s m args meth c P A 5 RX5 cX5_tellSecrets none) {b n : Nat} (hb : xIn P b) (hn : n ≤ 15) (hc : σ.1 (.inl (b, 1)) 6 = nI n) {ta li : Int32} (kx : XW p l e rm_X5_tellSecrets s m args below meth c P A 5 0 0 Q σ 40 [(0, .ref (P.2.2.1 (.inl (b, 1)))), (1, .int ta), (2, .int li), (3, .int (cTold (σ.1 (.inl (b, 7))) ta n)), (4, .int (nI n))] []) : ∀ (k i : Nat), i + k = n → XW p l e rm_X5_tellSecrets s m args below meth c P A 5 0 0 Q σ 5 [(0, .ref (P.2.2.1 (.inl (b, 1)))), (1, .int ta), (2, .int li), (3, .int (cTold (σ.1 (.inl (b, 7))) ta i)), (4, .int (nI i))] [] := by
  intro k
  induction k with
  | zero =>
    intro i hi
    have e9 : i = n := by omega
    subst e9
    refine X_iload (pc := 5) C dX5_tellSecrets_5 rfl ?_
    refine X_aload_n (pc := 7) C 0 dX5_tellSecrets_7 rfl rfl ?_
    refine G_X5_37 (pc := 8) C (by assumption) dX5_tellSecrets_8 ?_
    rw [hc]
    refine X_icmp_ge (pc := 11) C 40 dX5_tellSecrets_11 (by decide) (fun h11 => ?_) (fun h11 => ?_)
    · skip
      exact kx
    · exact absurd (nI_le (Nat.le_refl _) (n31 (by omega))) h11
  | succ k ih =>
    intro i hi
    have hlt : i < n := by omega
    refine X_iload (pc := 5) C dX5_tellSecrets_5 rfl ?_
    refine X_aload_n (pc := 7) C 0 dX5_tellSecrets_7 rfl rfl ?_
    refine G_X5_37 (pc := 8) C (by assumption) dX5_tellSecrets_8 ?_
    rw [hc]
    refine X_icmp_ge (pc := 11) C 40 dX5_tellSecrets_11 (by decide) (fun h11 => ?_) (fun h11 => ?_)
    · exact absurd (nle h11) (by omega)
    · skip
      refine X_iload_n (pc := 14) C 1 dX5_tellSecrets_14 rfl rfl ?_
      refine X_iload (pc := 15) C dX5_tellSecrets_15 rfl ?_
      refine K_X5_41 (pc := 17) C (c_X6_bit l P σ _) ⟨Nat.le_of_ble_eq_true rfl, Nat.le_of_ble_eq_true rfl⟩ ⟨rfl, rfl⟩ ⟨Nat.zero_le _, Nat.zero_le _⟩ (Nat.le_of_ble_eq_true rfl) dX5_tellSecrets_17 ?_
      refine X_iand (pc := 20) C dX5_tellSecrets_20 ?_
      refine X_if_eq (pc := 21) C 34 dX5_tellSecrets_21 (by decide) (fun h21 => ?_) (fun h21 => ?_)
      · skip
        first | refine X_iincN (pc := 34) (lv1 := [(0, _), (1, _), (2, _), (3, _), (4, _)]) C dX5_tellSecrets_34 rfl (by decide) (by decide) rfl ?_ | refine X_iinc (pc := 34) (kk := 1) (lv1 := [(0, _), (1, _), (2, _), (3, _), (4, _)]) C dX5_tellSecrets_34 rfl (by decide) (by decide) rfl ?_
        refine X_goto (pc := 37) C 5 dX5_tellSecrets_37 (by decide) ?_
        exact XW.eq rfl (by simp [cTold, h21]) rfl (ih (i + 1) (by omega))
      · skip
        refine X_iload_n (pc := 24) C 3 dX5_tellSecrets_24 rfl rfl ?_
        refine X_aload_n (pc := 25) C 0 dX5_tellSecrets_25 rfl rfl ?_
        refine G_X5_28 (pc := 26) C (by assumption) dX5_tellSecrets_26 ?_
        refine X_iload (pc := 29) C dX5_tellSecrets_29 rfl ?_
        refine X_ialdN (pc := 31) C (by first | exact hb _ (by decide)) rfl (by omega) (by decide) dX5_tellSecrets_31 ?_
        refine X_ior (pc := 32) C dX5_tellSecrets_32 ?_
        refine X_istore_n (pc := 33) (lv1 := [(0, _), (1, _), (2, _), (3, _), (4, _)]) C 3 dX5_tellSecrets_33 rfl (by decide) rfl ?_
        first | refine X_iincN (pc := 34) (lv1 := [(0, _), (1, _), (2, _), (3, _), (4, _)]) C dX5_tellSecrets_34 rfl (by decide) (by decide) rfl ?_ | refine X_iinc (pc := 34) (kk := 1) (lv1 := [(0, _), (1, _), (2, _), (3, _), (4, _)]) C dX5_tellSecrets_34 rfl (by decide) (by decide) rfl ?_
        refine X_goto (pc := 37) C 5 dX5_tellSecrets_37 (by decide) ?_
        exact XW.eq rfl (by simp [cTold, h21]) rfl (ih (i + 1) (by omega))

set_option maxRecDepth 100000 in
set_option maxHeartbeats 4000000 in
theorem L2_X5_tellSecrets (C : XC p s m args meth c P A 5 RX5 cX5_tellSecrets none) {b n : Nat} (hb : xIn P b) (hn : n ≤ 15) (hc : σ.1 (.inl (b, 1)) 6 = nI n) {ta li : Int32} (kx : XW p l e rm_X5_tellSecrets s m args below meth c P A 5 0 0 Q (uTell σ b (ta ||| li) (cTold (σ.1 (.inl (b, 7))) ta n) n) 81 [(0, .ref (P.2.2.1 (.inl (b, 1)))), (1, .int ta), (2, .int li), (3, .int (cTold (σ.1 (.inl (b, 7))) ta n)), (4, .int (nI n))] []) : ∀ (k i : Nat), i + k = n → XW p l e rm_X5_tellSecrets s m args below meth c P A 5 0 0 Q (uTell σ b (ta ||| li) (cTold (σ.1 (.inl (b, 7))) ta n) i) 43 [(0, .ref (P.2.2.1 (.inl (b, 1)))), (1, .int ta), (2, .int li), (3, .int (cTold (σ.1 (.inl (b, 7))) ta n)), (4, .int (nI i))] [] := by
  intro k
  induction k with
  | zero =>
    intro i hi
    have e9 : i = n := by omega
    subst e9
    have hu : ∀ k, (uTell σ b (ta ||| li) (cTold (σ.1 (.inl (b, 7))) ta i) k).1 (.inl (b, 1)) 6 = nI i := fun k => by rw [uTell_o _ _ _ _ (by simp), hc]
    refine X_iload (pc := 43) C dX5_tellSecrets_43 rfl ?_
    refine X_aload_n (pc := 45) C 0 dX5_tellSecrets_45 rfl rfl ?_
    refine G_X5_37 (pc := 46) C (by assumption) dX5_tellSecrets_46 ?_
    rw [hu]
    refine X_icmp_ge (pc := 49) C 81 dX5_tellSecrets_49 (by decide) (fun h49 => ?_) (fun h49 => ?_)
    · skip
      exact kx
    · exact absurd (nI_le (Nat.le_refl _) (n31 (by omega))) h49
  | succ k ih =>
    intro i hi
    have hlt : i < n := by omega
    have hu : ∀ k, (uTell σ b (ta ||| li) (cTold (σ.1 (.inl (b, 7))) ta n) k).1 (.inl (b, 1)) 6 = nI n := fun k => by rw [uTell_o _ _ _ _ (by simp), hc]
    refine X_iload (pc := 43) C dX5_tellSecrets_43 rfl ?_
    refine X_aload_n (pc := 45) C 0 dX5_tellSecrets_45 rfl rfl ?_
    refine G_X5_37 (pc := 46) C (by assumption) dX5_tellSecrets_46 ?_
    rw [hu]
    refine X_icmp_ge (pc := 49) C 81 dX5_tellSecrets_49 (by decide) (fun h49 => ?_) (fun h49 => ?_)
    · exact absurd (nle h49) (by omega)
    · skip
      refine X_iload_n (pc := 52) C 1 dX5_tellSecrets_52 rfl rfl ?_
      refine X_iload_n (pc := 53) C 2 dX5_tellSecrets_53 rfl rfl ?_
      refine X_ior (pc := 54) C dX5_tellSecrets_54 ?_
      refine X_iload (pc := 55) C dX5_tellSecrets_55 rfl ?_
      refine K_X5_41 (pc := 57) C (c_X6_bit l P _ _) ⟨Nat.le_of_ble_eq_true rfl, Nat.le_of_ble_eq_true rfl⟩ ⟨rfl, rfl⟩ ⟨Nat.zero_le _, Nat.zero_le _⟩ (Nat.le_of_ble_eq_true rfl) dX5_tellSecrets_57 ?_
      refine X_iand (pc := 60) C dX5_tellSecrets_60 ?_
      refine X_if_eq (pc := 61) C 75 dX5_tellSecrets_61 (by decide) (fun h61 => ?_) (fun h61 => ?_)
      · skip
        first | refine X_iincN (pc := 75) (lv1 := [(0, _), (1, _), (2, _), (3, _), (4, _)]) C dX5_tellSecrets_75 rfl (by decide) (by decide) rfl ?_ | refine X_iinc (pc := 75) (kk := 1) (lv1 := [(0, _), (1, _), (2, _), (3, _), (4, _)]) C dX5_tellSecrets_75 rfl (by decide) (by decide) rfl ?_
        refine X_goto (pc := 78) C 43 dX5_tellSecrets_78 (by decide) ?_
        exact XW.eq (by first | rw [uTell, if_pos h61] | rw [uTell, if_neg (fun q => q h61)]) rfl rfl (ih (i + 1) (by omega))
      · skip
        refine X_aload_n (pc := 64) C 0 dX5_tellSecrets_64 rfl rfl ?_
        refine G_X5_28 (pc := 65) C (by assumption) dX5_tellSecrets_65 ?_
        refine X_iload (pc := 68) C dX5_tellSecrets_68 rfl ?_
        refine X_dup2 (pc := 70) C dX5_tellSecrets_70 rfl rfl ?_
        refine X_ialdN (pc := 71) C (by first | exact hb _ (by decide)) rfl (by omega) (by decide) dX5_tellSecrets_71 ?_
        refine X_iload_n (pc := 72) C 3 dX5_tellSecrets_72 rfl rfl ?_
        refine X_ior (pc := 73) C dX5_tellSecrets_73 ?_
        refine X_iastN (pc := 74) C (by first | exact hb _ (by decide)) rfl (by omega) (by decide) dX5_tellSecrets_74 ?_
        first | refine X_iincN (pc := 75) (lv1 := [(0, _), (1, _), (2, _), (3, _), (4, _)]) C dX5_tellSecrets_75 rfl (by decide) (by decide) rfl ?_ | refine X_iinc (pc := 75) (kk := 1) (lv1 := [(0, _), (1, _), (2, _), (3, _), (4, _)]) C dX5_tellSecrets_75 rfl (by decide) (by decide) rfl ?_
        refine X_goto (pc := 78) C 43 dX5_tellSecrets_78 (by decide) ?_
        exact XW.eq (by first | rw [uTell, if_pos h61] | rw [uTell, if_neg (fun q => q h61)]) rfl rfl (ih (i + 1) (by omega))

set_option maxRecDepth 100000 in
set_option maxHeartbeats 4000000 in
theorem c_X5_tellSecrets (l : Launch) (P : XP) (σ : XS) (b n : Nat) (hb : xIn P b) (hn : n ≤ 15) (hc : σ.1 (.inl (b, 1)) 6 = nI n) (ta li : Int32) : XF l yX5_tellSecrets cX5_tellSecrets 5 none rm_X5_tellSecrets P [.ref (P.2.2.1 (.inl (b, 1))), .int ta, .int li] σ (none) ((uTell σ b (ta ||| li) (cTold (σ.1 (.inl (b, 7))) ta n) n)) := by
  refine XM.of (by decide +kernel) (Nat.le_of_ble_eq_true rfl) (fun p e s m args below meth c A C => ?_)
  replace C : XC p s m args meth c P A 5 RX5 cX5_tellSecrets none := C
  refine XW.eq (lv' := [(0, _), (1, _), (2, _)]) rfl rfl rfl ?_
  refine X_iconst (pc := 0) (v := 0) C dX5_tellSecrets_0 (by decide) ?_
  refine X_istore_n (pc := 1) (lv1 := [(0, _), (1, _), (2, _), (3, _)]) C 3 dX5_tellSecrets_1 rfl (by decide) rfl ?_
  refine X_iconst (pc := 2) (v := 0) C dX5_tellSecrets_2 (by decide) ?_
  refine X_istore (pc := 3) (lv1 := [(0, _), (1, _), (2, _), (3, _), (4, _)]) C dX5_tellSecrets_3 (by decide) rfl ?_
  refine L_X5_tellSecrets C hb hn hc ?_ n 0 (by omega)
  refine X_iconst (pc := 40) (v := 0) C dX5_tellSecrets_40 (by decide) ?_
  refine X_istore (pc := 41) (lv1 := [(0, _), (1, _), (2, _), (3, _), (4, _)]) C dX5_tellSecrets_41 (by decide) rfl ?_
  refine L2_X5_tellSecrets C hb hn hc ?_ n 0 (by omega)
  exact X_vret (pc := 81) C (Nat.zero_le _) (Nat.zero_le _) dX5_tellSecrets_81 ⟨rfl, rfl⟩

end XP11

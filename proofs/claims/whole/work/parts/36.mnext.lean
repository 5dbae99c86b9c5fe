/-! THE REFERENCE: its reader -/
theorem upd_3 {f : Nat → Int32} {j k : Nat} {a b c : Int32} (h : j ≠ k) : upd (upd (upd f j a) k b) j c = upd (upd f j c) k b := by
  funext n
  by_cases h1 : n = j
  · subst h1; simp [upd, h]
  · by_cases h2 : n = k
    · subst h2; simp [upd, h1]
    · simp [upd, h1, h2]
/-- the number from place i on, k digits at most -/
def mNum (B : Nat → Int32) : Nat → Nat → Int32 → Int32
  | 0, _, a => a
  | k + 1, i, a => if isD (B i) then mNum B k (i + 1) (xmin 10000000 (a * 10 + B i - 48)) else a
def mNextF (B : Nat → Int32) (n p : Nat) (F : Nat → Int32) : Nat → Int32 :=
  upd (upd (upd (upd F 18 (nI (tkE B n p))) 17 (nI (tkS B n p))) 16 (tkK B n p)) 19 (if tkK B n p = 2 then mNum B (n - tkS B n p) (tkS B n p) 0 else F 19)
theorem mNext_eq {B F G : Nat → Int32} {n p : Nat} (h18 : G 18 = nI (tkE B n p)) (h17 : G 17 = nI (tkS B n p)) (h16 : G 16 = tkK B n p) (h19 : G 19 = if tkK B n p = 2 then mNum B (n - tkS B n p) (tkS B n p) 0 else F 19) (ho : ∀ k, k ≠ 16 → k ≠ 17 → k ≠ 18 → k ≠ 19 → G k = F k) : G = mNextF B n p F := by
  funext k
  unfold mNextF
  by_cases e1 : k = 19
  · subst e1; rw [upd_at, h19]
  · rw [upd_ne e1]
    by_cases e2 : k = 16
    · subst e2; rw [upd_at, h16]
    · rw [upd_ne e2]
      by_cases e3 : k = 17
      · subst e3; rw [upd_at, h17]
      · rw [upd_ne e3]
        by_cases e4 : k = 18
        · subst e4; rw [upd_at, h18]
        · rw [upd_ne e4, ho k e2 e3 e4 e1]
/-- what the fields say of the token -/
def TK (n : Nat) (F : Nat → Int32) : Prop := n ≤ 700 ∧ F 10 = nI n ∧ F 18 = nI (cN (F 18)) ∧ F 17 = nI (cN (F 17)) ∧ cN (F 17) ≤ cN (F 18) ∧ cN (F 18) ≤ n
abbrev eF (F : Nat → Int32) : Nat := cN (F 18)
abbrev sF (F : Nat → Int32) : Nat := cN (F 17)
theorem TK.mk {n s e : Nat} {F : Nat → Int32} (h : n ≤ 700) (h1 : F 10 = nI n) (h2 : F 18 = nI e) (h3 : F 17 = nI s) (h4 : s ≤ e) (h5 : e ≤ n) : TK n F := by
  unfold TK
  rw [h2, h3, cN, cN, nI_clamp (n31 (by omega)), nI_clamp (n31 (by omega))]
  exact ⟨h, h1, rfl, rfl, h4, h5⟩
theorem TK.o {n : Nat} {F G : Nat → Int32} (h : TK n F) (h1 : G 10 = F 10) (h2 : G 17 = F 17) (h3 : G 18 = F 18) : TK n G := by
  unfold TK at h ⊢
  rw [h1, h2, h3]
  exact h
def mNx1 (B : Nat → Int32) (n : Nat) (F : Nat → Int32) : Nat → Int32 := mNextF B n (eF F) F
theorem mNx1_TK {B : Nat → Int32} {n : Nat} {F : Nat → Int32} (h : TK n F) : TK n (mNx1 B n F) := by
  have h1 := tkE_in B h.2.2.2.2.2
  exact TK.mk h.1 (by rw [mNx1, mNextF, upd_ne (by decide), upd_ne (by decide), upd_ne (by decide), upd_ne (by decide)]; exact h.2.1) (e := tkE B n (eF F)) (s := tkS B n (eF F)) (by rw [mNx1, mNextF, upd_ne (by decide), upd_ne (by decide), upd_ne (by decide), upd_at]) (by rw [mNx1, mNextF, upd_ne (by decide), upd_ne (by decide), upd_at]) h1.1 h1.2
theorem mNx1_o {B : Nat → Int32} {n : Nat} {F : Nat → Int32} {k : Nat} (h1 : k ≠ 16) (h2 : k ≠ 17) (h3 : k ≠ 18) (h4 : k ≠ 19) : mNx1 B n F k = F k := by
  rw [mNx1, mNextF, upd_ne h4, upd_ne h1, upd_ne h2, upd_ne h3]
def mGo (B : Nat → Int32) (n : Nat) (F : Nat → Int32) : Nat → Int32 := if F 20 = 0 then mNx1 B n F else F
def mWr (F : Nat → Int32) (b code : Int32) : Nat → Int32 := if F 20 = 0 ∧ ¬ b = 0 then upd (upd (upd F 20 1) 12 code) 13 (F 17) else F
theorem mWr_o {F : Nat → Int32} {b code : Int32} {k : Nat} (h1 : k ≠ 20) (h2 : k ≠ 12) (h3 : k ≠ 13) : mWr F b code k = F k := by
  unfold mWr
  split
  · rw [upd_ne h3, upd_ne h2, upd_ne h1]
  · rfl
theorem mWr_TK {n : Nat} {F : Nat → Int32} {b code : Int32} (h : TK n F) : TK n (mWr F b code) := h.o (mWr_o (by decide) (by decide) (by decide)) (mWr_o (by decide) (by decide) (by decide)) (mWr_o (by decide) (by decide) (by decide))
theorem mGo_TK {B : Nat → Int32} {n : Nat} {F : Nat → Int32} (h : TK n F) : TK n (mGo B n F) := by
  unfold mGo
  split
  · exact mNx1_TK h
  · exact h
theorem mGo_o {B : Nat → Int32} {n : Nat} {F : Nat → Int32} {k : Nat} (h1 : k ≠ 16) (h2 : k ≠ 17) (h3 : k ≠ 18) (h4 : k ≠ 19) : mGo B n F k = F k := by
  unfold mGo
  split
  · exact mNx1_o h1 h2 h3 h4
  · rfl
theorem mGo_20 {B : Nat → Int32} {n : Nat} {F : Nat → Int32} : mGo B n F 20 = F 20 := mGo_o (by decide) (by decide) (by decide) (by decide)
theorem mWr_0 {F : Nat → Int32} {b code : Int32} (h : mWr F b code 20 = 0) : F 20 = 0 ∧ b = 0 ∧ mWr F b code = F := by
  by_cases g : F 20 = 0
  · by_cases g2 : b = 0
    · exact ⟨g, g2, if_neg (fun q => q.2 g2)⟩
    · rw [mWr, if_pos ⟨g, g2⟩, upd_ne (by decide), upd_ne (by decide), upd_at] at h
      exact absurd h (by decide)
  · rw [mWr, if_neg (fun q => g q.1)] at h
    exact absurd h g
/-- whether the token is word q -/
def mIs (B F : Nat → Int32) (q : Nat) : Int32 := if F 20 = 0 ∧ F 16 = 1 ∧ eF F - sF F = xln q then xmat (fun j => B (sF F + j)) q (xln q) 0 else 0
theorem nI_subN {a b : Nat} (h : b ≤ a) : nI a - nI b = nI (a - b) := by
  obtain ⟨c, rfl⟩ := Nat.exists_eq_add_of_le h
  rw [Nat.add_sub_cancel_left, ← nI_add, Int32.add_comm, Int32.add_sub_cancel]
/-- a number between lo and hi is read -/
def mNb0 (F : Nat → Int32) (lo hi : Int32) : Nat → Int32 := mWr (mWr F (if F 16 = 2 then 0 else 1) 1) (if mWr F (if F 16 = 2 then 0 else 1) 1 20 = 0 ∧ ¬ (lo ≤ F 19 ∧ F 19 ≤ hi) then 1 else 0) 2
def mNbV (F : Nat → Int32) (lo hi : Int32) : Int32 := if mNb0 F lo hi 20 = 0 then F 19 else lo
def mNbF (B : Nat → Int32) (n : Nat) (F : Nat → Int32) (lo hi : Int32) : Nat → Int32 := mGo B n (mNb0 F lo hi)
theorem mNb0_TK {n : Nat} {F : Nat → Int32} {lo hi : Int32} (h : TK n F) : TK n (mNb0 F lo hi) := mWr_TK (mWr_TK h)
theorem mNbF_TK {B : Nat → Int32} {n : Nat} {F : Nat → Int32} {lo hi : Int32} (h : TK n F) : TK n (mNbF B n F lo hi) := mGo_TK (mNb0_TK h)
theorem mNbF_0 {B : Nat → Int32} {n : Nat} {F : Nat → Int32} {lo hi : Int32} (h : mNbF B n F lo hi 20 = 0) : F 20 = 0 ∧ F 16 = 2 ∧ lo ≤ F 19 ∧ F 19 ≤ hi ∧ mNbV F lo hi = F 19 ∧ mNbF B n F lo hi = mNx1 B n F := by
  unfold mNbF at h ⊢
  rw [mGo_20] at h
  have hv : mNbV F lo hi = F 19 := if_pos h
  unfold mNb0 at h ⊢
  obtain ⟨h1, h2, h3⟩ := mWr_0 h
  rw [h3]
  rw [h1] at h2
  obtain ⟨h4, h5, h6⟩ := mWr_0 h1
  rw [h6]
  have g16 : F 16 = 2 := Classical.byContradiction fun q => by rw [if_neg q] at h5; exact absurd h5 (by decide)
  have gi : lo ≤ F 19 ∧ F 19 ≤ hi := Classical.byContradiction fun q => by rw [if_pos ⟨rfl, q⟩] at h2; exact absurd h2 (by decide)
  exact ⟨h4, g16, gi.1, gi.2, hv, if_pos h4⟩
theorem mNbV_in (F : Nat → Int32) {lo hi : Int32} (h : lo ≤ hi) : lo ≤ mNbV F lo hi ∧ mNbV F lo hi ≤ hi := by
  by_cases g : mNb0 F lo hi 20 = 0
  · have := mNbF_0 (B := F) (n := 0) (lo := lo) (hi := hi) (F := F) (by rw [mNbF, mGo_20]; exact g)
    rw [this.2.2.2.2.1]
    exact ⟨this.2.2.1, this.2.2.2.1⟩
  · rw [mNbV, if_neg g]
    exact ⟨Int32.le_refl _, h⟩
section XP36
variable {p : Program} {l : Launch} {e : Env} {R : Room} {s : State} {m : MethodId} {args : Array Value} {below : List Frame} {meth : Method} {c : Code} {P : XP} {A : Nat → Prop} {nL cells slots : Nat} {Q : State → Prop} {cc : ByteArray} {ret : Option FieldType} {σ : XS} {pc : Nat} {lv : List (Nat × Value)} {st : List Value}
set_option maxRecDepth 100000 in
set_option maxHeartbeats 4000000 in
theorem c_X7_isLetter (l : Launch) (P : XP) (τ : XS) (S F L : Nat → Int32) (h1 : xI1 P) (n : Nat) (hn : n ≤ 700) (h10 : F 10 = nI n) (j : Nat) (hj : j ≤ 700) : XF l yX7_isLetter cX7_isLetter 2 (some .boolean) rm_X7_isLetter P [.ref (P.2.2.1 (.inr 9)), .int (nI j)] (mW τ S F L) (some (.int (if j < n ∧ isL ((τ.1 (.inr 16)) j) then 1 else 0))) (mW τ S F L) := by
  refine XM.of (by decide +kernel) (Nat.le_of_ble_eq_true rfl) (fun p e s m args below meth c A C => ?_)
  replace C : XC p s m args meth c P A 2 RX7 cX7_isLetter (some .boolean) := C
  refine XW.eq (lv' := [(0, _), (1, _)]) rfl rfl rfl ?_
  refine X_iload_n (pc := 0) C 1 dX7_isLetter_0 rfl rfl ?_
  refine X_aload_n (pc := 1) C 0 dX7_isLetter_1 rfl rfl ?_
  refine G_X7_54 (pc := 2) C (by assumption) dX7_isLetter_2 ?_
  rw [mW_9]
  rw [h10]
  refine X_icmp_ge (pc := 5) C 28 dX7_isLetter_5 (by decide) (fun h5 => ?_) (fun h5 => ?_)
  · skip
    refine X_iconst (pc := 28) (v := 0) C dX7_isLetter_28 (by decide) ?_
    exact X_zret (pc := 29) C (Nat.zero_le _) (Nat.zero_le _) (rfl) dX7_isLetter_29 ⟨by rw [if_neg (fun q => absurd (nle h5) (by omega))], rfl⟩
  · have g5 := nnle h5
    refine X_aload_n (pc := 8) C 0 dX7_isLetter_8 rfl rfl ?_
    refine G_X7_29 (pc := 9) C (by assumption) dX7_isLetter_9 ?_
    refine X_iload_n (pc := 12) C 1 dX7_isLetter_12 rfl rfl ?_
    refine X_ialdN (pc := 13) C (by first | exact h1 _ (by decide) (by decide)) rfl (by omega) (by decide) dX7_isLetter_13 ?_
    rw [mW_o (i := .inr 16) (by decide) (by decide) (by decide)]
    refine X_bipush (pc := 14) (v := 97) C dX7_isLetter_14 (by decide) ?_
    refine X_bipush (pc := 16) (v := 122) C dX7_isLetter_16 (by decide) ?_
    refine K_X7_80 (pc := 18) C (c_X7_isIn l P _ _ _ _) ⟨Nat.le_of_ble_eq_true rfl, Nat.le_of_ble_eq_true rfl⟩ ⟨rfl, rfl⟩ ⟨Nat.zero_le _, Nat.zero_le _⟩ (Nat.le_of_ble_eq_true rfl) dX7_isLetter_18 ?_
    refine X_if_eq (pc := 21) C 28 dX7_isLetter_21 (by decide) (fun h21 => ?_) (fun h21 => ?_)
    · have g21 := bz0 h21
      refine X_iconst (pc := 28) (v := 0) C dX7_isLetter_28 (by decide) ?_
      exact X_zret (pc := 29) C (Nat.zero_le _) (Nat.zero_le _) (rfl) dX7_isLetter_29 ⟨by rw [if_neg (fun q => g21 q.2)], rfl⟩
    · have g21 := bz1 h21
      refine X_iconst (pc := 24) (v := 1) C dX7_isLetter_24 (by decide) ?_
      refine X_goto (pc := 25) C 29 dX7_isLetter_25 (by decide) ?_
      exact X_zret (pc := 29) C (Nat.zero_le _) (Nat.zero_le _) (rfl) dX7_isLetter_29 ⟨by rw [if_pos ⟨g5, g21⟩], rfl⟩

set_option maxRecDepth 100000 in
set_option maxHeartbeats 4000000 in
theorem c_X7_isDigit (l : Launch) (P : XP) (τ : XS) (S F L : Nat → Int32) (h1 : xI1 P) (n : Nat) (hn : n ≤ 700) (h10 : F 10 = nI n) (j : Nat) (hj : j ≤ 700) : XF l yX7_isDigit cX7_isDigit 2 (some .boolean) rm_X7_isDigit P [.ref (P.2.2.1 (.inr 9)), .int (nI j)] (mW τ S F L) (some (.int (if j < n ∧ isD ((τ.1 (.inr 16)) j) then 1 else 0))) (mW τ S F L) := by
  refine XM.of (by decide +kernel) (Nat.le_of_ble_eq_true rfl) (fun p e s m args below meth c A C => ?_)
  replace C : XC p s m args meth c P A 2 RX7 cX7_isDigit (some .boolean) := C
  refine XW.eq (lv' := [(0, _), (1, _)]) rfl rfl rfl ?_
  refine X_iload_n (pc := 0) C 1 dX7_isDigit_0 rfl rfl ?_
  refine X_aload_n (pc := 1) C 0 dX7_isDigit_1 rfl rfl ?_
  refine G_X7_54 (pc := 2) C (by assumption) dX7_isDigit_2 ?_
  rw [mW_9]
  rw [h10]
  refine X_icmp_ge (pc := 5) C 28 dX7_isDigit_5 (by decide) (fun h5 => ?_) (fun h5 => ?_)
  · skip
    refine X_iconst (pc := 28) (v := 0) C dX7_isDigit_28 (by decide) ?_
    exact X_zret (pc := 29) C (Nat.zero_le _) (Nat.zero_le _) (rfl) dX7_isDigit_29 ⟨by rw [if_neg (fun q => absurd (nle h5) (by omega))], rfl⟩
  · have g5 := nnle h5
    refine X_aload_n (pc := 8) C 0 dX7_isDigit_8 rfl rfl ?_
    refine G_X7_29 (pc := 9) C (by assumption) dX7_isDigit_9 ?_
    refine X_iload_n (pc := 12) C 1 dX7_isDigit_12 rfl rfl ?_
    refine X_ialdN (pc := 13) C (by first | exact h1 _ (by decide) (by decide)) rfl (by omega) (by decide) dX7_isDigit_13 ?_
    rw [mW_o (i := .inr 16) (by decide) (by decide) (by decide)]
    refine X_bipush (pc := 14) (v := 48) C dX7_isDigit_14 (by decide) ?_
    refine X_bipush (pc := 16) (v := 57) C dX7_isDigit_16 (by decide) ?_
    refine K_X7_80 (pc := 18) C (c_X7_isIn l P _ _ _ _) ⟨Nat.le_of_ble_eq_true rfl, Nat.le_of_ble_eq_true rfl⟩ ⟨rfl, rfl⟩ ⟨Nat.zero_le _, Nat.zero_le _⟩ (Nat.le_of_ble_eq_true rfl) dX7_isDigit_18 ?_
    refine X_if_eq (pc := 21) C 28 dX7_isDigit_21 (by decide) (fun h21 => ?_) (fun h21 => ?_)
    · have g21 := bz0 h21
      refine X_iconst (pc := 28) (v := 0) C dX7_isDigit_28 (by decide) ?_
      exact X_zret (pc := 29) C (Nat.zero_le _) (Nat.zero_le _) (rfl) dX7_isDigit_29 ⟨by rw [if_neg (fun q => g21 q.2)], rfl⟩
    · have g21 := bz1 h21
      refine X_iconst (pc := 24) (v := 1) C dX7_isDigit_24 (by decide) ?_
      refine X_goto (pc := 25) C 29 dX7_isDigit_25 (by decide) ?_
      exact X_zret (pc := 29) C (Nat.zero_le _) (Nat.zero_le _) (rfl) dX7_isDigit_29 ⟨by rw [if_pos ⟨g5, g21⟩], rfl⟩

set_option maxRecDepth 100000 in
set_option maxHeartbeats 4000000 in
theorem L1_X7_next (C : XC p s m args meth c P A 1 RX7 cX7_next none) {τ : XS} {S L : Nat → Int32} (h1 : xI1 P) {n : Nat} (hn : n ≤ 700) {F : Nat → Int32} (h10 : F 10 = nI n) : ∀ (k i : Nat), i + k = n → (XW p l e rm_X7_next s m args below meth c P A 1 0 0 Q (mW τ S (upd F 18 (nI (cSkip (qS (τ.1 (.inr 16))) k i))) L) 38 [(0, .ref (P.2.2.1 (.inr 9)))] []) → XW p l e rm_X7_next s m args below meth c P A 1 0 0 Q (mW τ S (upd F 18 (nI i)) L) 0 [(0, .ref (P.2.2.1 (.inr 9)))] [] := by
  intro k
  induction k with
  | zero =>
    intro i hp kx
    have e9 : i = n := by omega
    subst e9
    refine X_aload_n (pc := 0) C 0 dX7_next_0 rfl rfl ?_
    refine G_X7_158 (pc := 1) C (by assumption) dX7_next_1 ?_
    rw [mW_9]
    rw [upd_at]
    refine X_aload_n (pc := 4) C 0 dX7_next_4 rfl rfl ?_
    refine G_X7_54 (pc := 5) C (by assumption) dX7_next_5 ?_
    rw [mW_9]
    rw [upd_ne (by decide), h10]
    refine X_icmp_ge (pc := 8) C 38 dX7_next_8 (by decide) (fun h8 => ?_) (fun h8 => ?_)
    · skip
      exact kx
    · exact absurd (nI_le (Nat.le_refl _) (n31 (by omega))) h8
  | succ k ih =>
    intro i hp kx
    have hlt : i < n := by omega
    refine X_aload_n (pc := 0) C 0 dX7_next_0 rfl rfl ?_
    refine G_X7_158 (pc := 1) C (by assumption) dX7_next_1 ?_
    rw [mW_9]
    rw [upd_at]
    refine X_aload_n (pc := 4) C 0 dX7_next_4 rfl rfl ?_
    refine G_X7_54 (pc := 5) C (by assumption) dX7_next_5 ?_
    rw [mW_9]
    rw [upd_ne (by decide), h10]
    refine X_icmp_ge (pc := 8) C 38 dX7_next_8 (by decide) (fun h8 => ?_) (fun h8 => ?_)
    · skip
      first
        | exact absurd (nle h8) (by omega)
        | (rw [cSkip, if_neg (by simp [qS, h22])] at kx; exact kx)
    · skip
      refine X_aload_n (pc := 11) C 0 dX7_next_11 rfl rfl ?_
      refine G_X7_29 (pc := 12) C (by assumption) dX7_next_12 ?_
      refine X_aload_n (pc := 15) C 0 dX7_next_15 rfl rfl ?_
      refine G_X7_158 (pc := 16) C (by assumption) dX7_next_16 ?_
      rw [mW_9]
      rw [upd_at]
      refine X_ialdN (pc := 19) C (by first | exact h1 _ (by decide) (by decide)) rfl (by omega) (by decide) dX7_next_19 ?_
      rw [mW_o (i := .inr 16) (by decide) (by decide) (by decide)]
      refine X_bipush (pc := 20) (v := 32) C dX7_next_20 (by decide) ?_
      refine X_icmp_ne (pc := 22) C 38 dX7_next_22 (by decide) (fun h22 => ?_) (fun h22 => ?_)
      · skip
        first
          | exact absurd (nle h8) (by omega)
          | (rw [cSkip, if_neg (by simp [qS, h22])] at kx; exact kx)
      · skip
        refine X_aload_n (pc := 25) C 0 dX7_next_25 rfl rfl ?_
        refine X_dup (pc := 26) C dX7_next_26 rfl ?_
        refine G_X7_158 (pc := 27) C (by assumption) dX7_next_27 ?_
        rw [mW_9]
        rw [upd_at]
        refine X_iconst (pc := 30) (v := 1) C dX7_next_30 (by decide) ?_
        refine X_iadd (pc := 31) C dX7_next_31 ?_
        rw [nI_1]
        refine U_X7_158 (pc := 32) C (by assumption) dX7_next_32 ?_
        rw [mW_u9]
        rw [upd_upd]
        refine X_goto (pc := 35) C 0 dX7_next_35 (by decide) ?_
        exact ih (i + 1) (by omega) (by rw [cSkip, if_pos (by simp [qS, h22])] at kx; exact kx)

set_option maxRecDepth 100000 in
set_option maxHeartbeats 4000000 in
theorem L2_X7_next (C : XC p s m args meth c P A 1 RX7 cX7_next none) {τ : XS} {S L : Nat → Int32} (h1 : xI1 P) {n : Nat} (hn : n ≤ 700) {F : Nat → Int32} (h10 : F 10 = nI n) : ∀ (k i : Nat), i + k = n → (XW p l e rm_X7_next s m args below meth c P A 1 0 0 Q (mW τ S (upd F 18 (nI (cSkip (qL (τ.1 (.inr 16))) k i))) L) 212 [(0, .ref (P.2.2.1 (.inr 9)))] []) → XW p l e rm_X7_next s m args below meth c P A 1 0 0 Q (mW τ S (upd F 18 (nI i)) L) 81 [(0, .ref (P.2.2.1 (.inr 9)))] [] := by
  intro k
  induction k with
  | zero =>
    intro i hp kx
    have e9 : i = n := by omega
    subst e9
    refine X_aload_n (pc := 81) C 0 dX7_next_81 rfl rfl ?_
    refine X_aload_n (pc := 82) C 0 dX7_next_82 rfl rfl ?_
    refine G_X7_158 (pc := 83) C (by assumption) dX7_next_83 ?_
    rw [mW_9]
    rw [upd_at]
    refine K_X7_167 (pc := 86) C (by assumption) (c_X7_isLetter l P _ _ _ _ h1 _ hn (by rw [upd_ne (by decide)]; exact h10) i (by omega)) ⟨Nat.le_of_ble_eq_true rfl, Nat.le_of_ble_eq_true rfl⟩ ⟨rfl, rfl⟩ ⟨Nat.zero_le _, Nat.zero_le _⟩ (Nat.le_of_ble_eq_true rfl) dX7_next_86 ?_
    refine X_if_eq (pc := 89) C 212 dX7_next_89 (by decide) (fun h89 => ?_) (fun h89 => ?_)
    · skip
      exact kx
    · exact absurd (bz1 h89).1 (Nat.lt_irrefl _)
  | succ k ih =>
    intro i hp kx
    have hlt : i < n := by omega
    refine X_aload_n (pc := 81) C 0 dX7_next_81 rfl rfl ?_
    refine X_aload_n (pc := 82) C 0 dX7_next_82 rfl rfl ?_
    refine G_X7_158 (pc := 83) C (by assumption) dX7_next_83 ?_
    rw [mW_9]
    rw [upd_at]
    refine K_X7_167 (pc := 86) C (by assumption) (c_X7_isLetter l P _ _ _ _ h1 _ hn (by rw [upd_ne (by decide)]; exact h10) i (by omega)) ⟨Nat.le_of_ble_eq_true rfl, Nat.le_of_ble_eq_true rfl⟩ ⟨rfl, rfl⟩ ⟨Nat.zero_le _, Nat.zero_le _⟩ (Nat.le_of_ble_eq_true rfl) dX7_next_86 ?_
    refine X_if_eq (pc := 89) C 212 dX7_next_89 (by decide) (fun h89 => ?_) (fun h89 => ?_)
    · skip
      rw [cSkip, if_neg (by have g := bz0 h89; simp only [qL, decide_eq_true_eq]; exact fun q => g ⟨hlt, q⟩)] at kx; exact kx
    · skip
      refine X_aload_n (pc := 92) C 0 dX7_next_92 rfl rfl ?_
      refine X_dup (pc := 93) C dX7_next_93 rfl ?_
      refine G_X7_158 (pc := 94) C (by assumption) dX7_next_94 ?_
      rw [mW_9]
      rw [upd_at]
      refine X_iconst (pc := 97) (v := 1) C dX7_next_97 (by decide) ?_
      refine X_iadd (pc := 98) C dX7_next_98 ?_
      rw [nI_1]
      refine U_X7_158 (pc := 99) C (by assumption) dX7_next_99 ?_
      rw [mW_u9]
      rw [upd_upd]
      refine X_goto (pc := 102) C 81 dX7_next_102 (by decide) ?_
      exact ih (i + 1) (by omega) (by rw [cSkip, if_pos (by have g := bz1 h89; simp only [qL, decide_eq_true_eq]; exact g.2)] at kx; exact kx)

set_option maxRecDepth 100000 in
set_option maxHeartbeats 4000000 in
theorem L3_X7_next (C : XC p s m args meth c P A 1 RX7 cX7_next none) {τ : XS} {S L : Nat → Int32} (h1 : xI1 P) {n : Nat} (hn : n ≤ 700) {F : Nat → Int32} (h10 : F 10 = nI n) : ∀ (k i : Nat) (a : Int32), i + k = n → (XW p l e rm_X7_next s m args below meth c P A 1 0 0 Q (mW τ S (upd (upd F 19 (mNum (τ.1 (.inr 16)) k i a)) 18 (nI (cSkip (qD (τ.1 (.inr 16))) k i))) L) 212 [(0, .ref (P.2.2.1 (.inr 9)))] []) → XW p l e rm_X7_next s m args below meth c P A 1 0 0 Q (mW τ S (upd (upd F 19 a) 18 (nI i)) L) 126 [(0, .ref (P.2.2.1 (.inr 9)))] [] := by
  intro k
  induction k with
  | zero =>
    intro i a hp kx
    have e9 : i = n := by omega
    subst e9
    refine X_aload_n (pc := 126) C 0 dX7_next_126 rfl rfl ?_
    refine X_aload_n (pc := 127) C 0 dX7_next_127 rfl rfl ?_
    refine G_X7_158 (pc := 128) C (by assumption) dX7_next_128 ?_
    rw [mW_9]
    rw [upd_at]
    refine K_X7_170 (pc := 131) C (by assumption) (c_X7_isDigit l P _ _ _ _ h1 _ hn (by rw [upd_ne (by decide), upd_ne (by decide)]; exact h10) i (by omega)) ⟨Nat.le_of_ble_eq_true rfl, Nat.le_of_ble_eq_true rfl⟩ ⟨rfl, rfl⟩ ⟨Nat.zero_le _, Nat.zero_le _⟩ (Nat.le_of_ble_eq_true rfl) dX7_next_131 ?_
    refine X_if_eq (pc := 134) C 212 dX7_next_134 (by decide) (fun h134 => ?_) (fun h134 => ?_)
    · skip
      exact kx
    · exact absurd (bz1 h134).1 (Nat.lt_irrefl _)
  | succ k ih =>
    intro i a hp kx
    have hlt : i < n := by omega
    refine X_aload_n (pc := 126) C 0 dX7_next_126 rfl rfl ?_
    refine X_aload_n (pc := 127) C 0 dX7_next_127 rfl rfl ?_
    refine G_X7_158 (pc := 128) C (by assumption) dX7_next_128 ?_
    rw [mW_9]
    rw [upd_at]
    refine K_X7_170 (pc := 131) C (by assumption) (c_X7_isDigit l P _ _ _ _ h1 _ hn (by rw [upd_ne (by decide), upd_ne (by decide)]; exact h10) i (by omega)) ⟨Nat.le_of_ble_eq_true rfl, Nat.le_of_ble_eq_true rfl⟩ ⟨rfl, rfl⟩ ⟨Nat.zero_le _, Nat.zero_le _⟩ (Nat.le_of_ble_eq_true rfl) dX7_next_131 ?_
    refine X_if_eq (pc := 134) C 212 dX7_next_134 (by decide) (fun h134 => ?_) (fun h134 => ?_)
    · skip
      rw [cSkip, mNum, if_neg (by have g := bz0 h134; exact fun q => g ⟨hlt, q⟩), if_neg (by have g := bz0 h134; simp only [qD, decide_eq_true_eq]; exact fun q => g ⟨hlt, q⟩)] at kx; exact kx
    · skip
      refine X_aload_n (pc := 137) C 0 dX7_next_137 rfl rfl ?_
      refine X_ldc (pc := 138) C m_k_X7_176 dX7_next_138 ?_
      refine X_aload_n (pc := 140) C 0 dX7_next_140 rfl rfl ?_
      refine G_X7_173 (pc := 141) C (by assumption) dX7_next_141 ?_
      rw [mW_9]
      rw [upd_ne (by decide), upd_at]
      refine X_bipush (pc := 144) (v := 10) C dX7_next_144 (by decide) ?_
      refine X_imul (pc := 146) C dX7_next_146 ?_
      refine X_aload_n (pc := 147) C 0 dX7_next_147 rfl rfl ?_
      refine G_X7_29 (pc := 148) C (by assumption) dX7_next_148 ?_
      refine X_aload_n (pc := 151) C 0 dX7_next_151 rfl rfl ?_
      refine G_X7_158 (pc := 152) C (by assumption) dX7_next_152 ?_
      rw [mW_9]
      rw [upd_at]
      refine X_ialdN (pc := 155) C (by first | exact h1 _ (by decide) (by decide)) rfl (by omega) (by decide) dX7_next_155 ?_
      rw [mW_o (i := .inr 16) (by decide) (by decide) (by decide)]
      refine X_iadd (pc := 156) C dX7_next_156 ?_
      refine X_bipush (pc := 157) (v := 48) C dX7_next_157 (by decide) ?_
      refine X_isub (pc := 159) C dX7_next_159 ?_
      refine X_mmin (pc := 160) C m_m_X7_177 (Nat.le_of_ble_eq_true rfl) (Nat.le_of_ble_eq_true rfl) ⟨Nat.zero_le _, Nat.zero_le _⟩ dX7_next_160 ?_
      refine U_X7_173 (pc := 163) C (by assumption) dX7_next_163 ?_
      rw [mW_u9]
      rw [upd_3 (by decide)]
      refine X_aload_n (pc := 166) C 0 dX7_next_166 rfl rfl ?_
      refine X_dup (pc := 167) C dX7_next_167 rfl ?_
      refine G_X7_158 (pc := 168) C (by assumption) dX7_next_168 ?_
      rw [mW_9]
      rw [upd_at]
      refine X_iconst (pc := 171) (v := 1) C dX7_next_171 (by decide) ?_
      refine X_iadd (pc := 172) C dX7_next_172 ?_
      rw [nI_1]
      refine U_X7_158 (pc := 173) C (by assumption) dX7_next_173 ?_
      rw [mW_u9]
      rw [upd_upd]
      refine X_goto (pc := 176) C 126 dX7_next_176 (by decide) ?_
      exact ih (i + 1) _ (by omega) (by rw [cSkip, mNum, if_pos (bz1 h134).2, if_pos (by simp only [qD, decide_eq_true_eq]; exact (bz1 h134).2)] at kx; exact kx)

set_option maxRecDepth 100000 in
set_option maxHeartbeats 4000000 in
theorem c_X7_next (l : Launch) (P : XP) (τ : XS) (S F L : Nat → Int32) (h1 : xI1 P) (n : Nat) (hn : n ≤ 700) (h10 : F 10 = nI n) (p0 : Nat) (hp : p0 ≤ n) (h18 : F 18 = nI p0) : XF l yX7_next cX7_next 1 none rm_X7_next P [.ref (P.2.2.1 (.inr 9))] (mW τ S F L) (none) (mW τ S (mNextF (τ.1 (.inr 16)) n p0 F) L) := by
  refine XM.of (by decide +kernel) (Nat.le_of_ble_eq_true rfl) (fun p e s m args below meth c A C => ?_)
  replace C : XC p s m args meth c P A 1 RX7 cX7_next none := C
  refine XW.eq (lv' := [(0, _)]) rfl rfl rfl ?_
  have hs := tkS_in (τ.1 (.inr 16)) hp
  refine XW.eq (σ' := mW τ S (upd F 18 (nI p0)) L) (by rw [upd_same h18]) rfl rfl ?_
  refine L1_X7_next C h1 hn h10 (n - p0) p0 (by omega) ?_
  change XW p l e rm_X7_next s m args below meth c P A 1 0 0 _ (mW τ S (upd F 18 (nI (tkS (τ.1 (.inr 16)) n p0))) L) 38 [(0, .ref (P.2.2.1 (.inr 9)))] []
  refine X_aload_n (pc := 38) C 0 dX7_next_38 rfl rfl ?_
  refine X_aload_n (pc := 39) C 0 dX7_next_39 rfl rfl ?_
  refine G_X7_158 (pc := 40) C (by assumption) dX7_next_40 ?_
  rw [mW_9]
  rw [upd_at]
  refine U_X7_161 (pc := 43) C (by assumption) dX7_next_43 ?_
  rw [mW_u9]
  refine X_aload_n (pc := 46) C 0 dX7_next_46 rfl rfl ?_
  refine G_X7_158 (pc := 47) C (by assumption) dX7_next_47 ?_
  rw [mW_9]
  rw [upd_ne (by decide), upd_at]
  refine X_aload_n (pc := 50) C 0 dX7_next_50 rfl rfl ?_
  refine G_X7_54 (pc := 51) C (by assumption) dX7_next_51 ?_
  rw [mW_9]
  rw [upd_ne (by decide), upd_ne (by decide), h10]
  refine X_icmp_ne (pc := 54) C 65 dX7_next_54 (by decide) (fun h54 => ?_) (fun h54 => ?_)
  · have g54 : tkS (τ.1 (.inr 16)) n p0 < n := by rcases Nat.lt_or_ge (tkS (τ.1 (.inr 16)) n p0) n with q | q; exact q; exact absurd (by rw [show tkS (τ.1 (.inr 16)) n p0 = n by omega]) h54
    refine X_aload_n (pc := 65) C 0 dX7_next_65 rfl rfl ?_
    refine X_aload_n (pc := 66) C 0 dX7_next_66 rfl rfl ?_
    refine G_X7_158 (pc := 67) C (by assumption) dX7_next_67 ?_
    rw [mW_9]
    rw [upd_ne (by decide), upd_at]
    refine K_X7_167 (pc := 70) C (by assumption) (c_X7_isLetter l P _ _ _ _ h1 n hn (by rw [upd_ne (by decide), upd_ne (by decide)]; exact h10) _ (by omega)) ⟨Nat.le_of_ble_eq_true rfl, Nat.le_of_ble_eq_true rfl⟩ ⟨rfl, rfl⟩ ⟨Nat.zero_le _, Nat.zero_le _⟩ (Nat.le_of_ble_eq_true rfl) dX7_next_70 ?_
    refine X_if_eq (pc := 73) C 105 dX7_next_73 (by decide) (fun h73 => ?_) (fun h73 => ?_)
    · have g73 : ¬ isL ((τ.1 (.inr 16)) (tkS (τ.1 (.inr 16)) n p0)) := fun q => bz0 h73 ⟨g54, q⟩
      refine X_aload_n (pc := 105) C 0 dX7_next_105 rfl rfl ?_
      refine X_aload_n (pc := 106) C 0 dX7_next_106 rfl rfl ?_
      refine G_X7_158 (pc := 107) C (by assumption) dX7_next_107 ?_
      rw [mW_9]
      rw [upd_ne (by decide), upd_at]
      refine K_X7_170 (pc := 110) C (by assumption) (c_X7_isDigit l P _ _ _ _ h1 n hn (by rw [upd_ne (by decide), upd_ne (by decide)]; exact h10) _ (by omega)) ⟨Nat.le_of_ble_eq_true rfl, Nat.le_of_ble_eq_true rfl⟩ ⟨rfl, rfl⟩ ⟨Nat.zero_le _, Nat.zero_le _⟩ (Nat.le_of_ble_eq_true rfl) dX7_next_110 ?_
      refine X_if_eq (pc := 113) C 179 dX7_next_113 (by decide) (fun h113 => ?_) (fun h113 => ?_)
      · have g113 : ¬ isD ((τ.1 (.inr 16)) (tkS (τ.1 (.inr 16)) n p0)) := fun q => bz0 h113 ⟨g54, q⟩
        refine X_aload_n (pc := 179) C 0 dX7_next_179 rfl rfl ?_
        refine X_aload_n (pc := 180) C 0 dX7_next_180 rfl rfl ?_
        refine G_X7_29 (pc := 181) C (by assumption) dX7_next_181 ?_
        refine X_aload_n (pc := 184) C 0 dX7_next_184 rfl rfl ?_
        refine G_X7_158 (pc := 185) C (by assumption) dX7_next_185 ?_
        rw [mW_9]
        rw [upd_ne (by decide), upd_at]
        refine X_ialdN (pc := 188) C (by first | exact h1 _ (by decide) (by decide)) rfl (by omega) (by decide) dX7_next_188 ?_
        rw [mW_o (i := .inr 16) (by decide) (by decide) (by decide)]
        refine X_bipush (pc := 189) (v := 59) C dX7_next_189 (by decide) ?_
        refine X_icmp_ne (pc := 191) C 198 dX7_next_191 (by decide) (fun h191 => ?_) (fun h191 => ?_)
        · skip
          refine X_iconst (pc := 198) (v := 4) C dX7_next_198 (by decide) ?_
          refine U_X7_164 (pc := 199) C (by assumption) dX7_next_199 ?_
          rw [mW_u9]
          refine X_aload_n (pc := 202) C 0 dX7_next_202 rfl rfl ?_
          refine X_dup (pc := 203) C dX7_next_203 rfl ?_
          refine G_X7_158 (pc := 204) C (by assumption) dX7_next_204 ?_
          rw [mW_9]
          rw [upd_ne (by decide), upd_ne (by decide), upd_at]
          refine X_iconst (pc := 207) (v := 1) C dX7_next_207 (by decide) ?_
          refine X_iadd (pc := 208) C dX7_next_208 ?_
          rw [nI_1]
          refine U_X7_158 (pc := 209) C (by assumption) dX7_next_209 ?_
          rw [mW_u9]
          have ek : tkK (τ.1 (.inr 16)) n p0 = 4 := by rw [tkK, if_pos g54, if_neg g73, if_neg g113, if_neg h191]
          have ee : tkE (τ.1 (.inr 16)) n p0 = tkS (τ.1 (.inr 16)) n p0 + 1 := by rw [tkE, if_pos g54, if_neg g73, if_neg g113]
          exact X_vret (pc := 212) C (Nat.zero_le _) (Nat.zero_le _) dX7_next_212 ⟨rfl, congrArg (fun G => mW τ S G L) (mNext_eq (by rw [ee]; simp [upd]) (by simp [upd]) (by rw [ek]; simp [upd]) (by rw [ek]; simp [upd]) (fun k a b c d => by simp [upd, a, b, c, d]))⟩
        · skip
          refine X_iconst (pc := 194) (v := 3) C dX7_next_194 (by decide) ?_
          refine X_goto (pc := 195) C 199 dX7_next_195 (by decide) ?_
          refine U_X7_164 (pc := 199) C (by assumption) dX7_next_199 ?_
          rw [mW_u9]
          refine X_aload_n (pc := 202) C 0 dX7_next_202 rfl rfl ?_
          refine X_dup (pc := 203) C dX7_next_203 rfl ?_
          refine G_X7_158 (pc := 204) C (by assumption) dX7_next_204 ?_
          rw [mW_9]
          rw [upd_ne (by decide), upd_ne (by decide), upd_at]
          refine X_iconst (pc := 207) (v := 1) C dX7_next_207 (by decide) ?_
          refine X_iadd (pc := 208) C dX7_next_208 ?_
          rw [nI_1]
          refine U_X7_158 (pc := 209) C (by assumption) dX7_next_209 ?_
          rw [mW_u9]
          have ek : tkK (τ.1 (.inr 16)) n p0 = 3 := by rw [tkK, if_pos g54, if_neg g73, if_neg g113, if_pos h191]
          have ee : tkE (τ.1 (.inr 16)) n p0 = tkS (τ.1 (.inr 16)) n p0 + 1 := by rw [tkE, if_pos g54, if_neg g73, if_neg g113]
          exact X_vret (pc := 212) C (Nat.zero_le _) (Nat.zero_le _) dX7_next_212 ⟨rfl, congrArg (fun G => mW τ S G L) (mNext_eq (by rw [ee]; simp [upd]) (by simp [upd]) (by rw [ek]; simp [upd]) (by rw [ek]; simp [upd]) (fun k a b c d => by simp [upd, a, b, c, d]))⟩
      · have g113 := (bz1 h113).2
        refine X_aload_n (pc := 116) C 0 dX7_next_116 rfl rfl ?_
        refine X_iconst (pc := 117) (v := 2) C dX7_next_117 (by decide) ?_
        refine U_X7_164 (pc := 118) C (by assumption) dX7_next_118 ?_
        rw [mW_u9]
        refine X_aload_n (pc := 121) C 0 dX7_next_121 rfl rfl ?_
        refine X_iconst (pc := 122) (v := 0) C dX7_next_122 (by decide) ?_
        refine U_X7_173 (pc := 123) C (by assumption) dX7_next_123 ?_
        rw [mW_u9]
        refine XW.eq (σ' := mW τ S (upd (upd (upd (upd (upd F 18 (nI (tkS (τ.1 (.inr 16)) n p0))) 17 (nI (tkS (τ.1 (.inr 16)) n p0))) 16 2) 19 0) 18 (nI (tkS (τ.1 (.inr 16)) n p0))) L) (by rw [show upd (upd (upd (upd (upd F 18 (nI (tkS (τ.1 (.inr 16)) n p0))) 17 (nI (tkS (τ.1 (.inr 16)) n p0))) 16 2) 19 0) 18 (nI (tkS (τ.1 (.inr 16)) n p0)) = upd (upd (upd (upd F 18 (nI (tkS (τ.1 (.inr 16)) n p0))) 17 (nI (tkS (τ.1 (.inr 16)) n p0))) 16 2) 19 0 from upd_same (by simp [upd])]) rfl rfl ?_
        refine L3_X7_next C h1 hn (F := upd (upd (upd F 18 (nI (tkS (τ.1 (.inr 16)) n p0))) 17 (nI (tkS (τ.1 (.inr 16)) n p0))) 16 2) (by simp [upd, h10]) (n - (tkS (τ.1 (.inr 16)) n p0)) (tkS (τ.1 (.inr 16)) n p0) 0 (by omega) ?_
        have ek : tkK (τ.1 (.inr 16)) n p0 = 2 := by rw [tkK, if_pos g54, if_neg g73, if_pos g113]
        have ee : tkE (τ.1 (.inr 16)) n p0 = cSkip (qD (τ.1 (.inr 16))) (n - tkS (τ.1 (.inr 16)) n p0) (tkS (τ.1 (.inr 16)) n p0) := by rw [tkE, if_pos g54, if_neg g73, if_pos g113]
        exact X_vret (pc := 212) C (Nat.zero_le _) (Nat.zero_le _) dX7_next_212 ⟨rfl, congrArg (fun G => mW τ S G L) (mNext_eq (by rw [ee]; simp [upd]) (by simp [upd]) (by rw [ek]; simp [upd]) (by rw [ek]; simp [upd]) (fun k a b c d => by simp [upd, a, b, c, d]))⟩
    · have g73 := (bz1 h73).2
      refine X_aload_n (pc := 76) C 0 dX7_next_76 rfl rfl ?_
      refine X_iconst (pc := 77) (v := 1) C dX7_next_77 (by decide) ?_
      refine U_X7_164 (pc := 78) C (by assumption) dX7_next_78 ?_
      rw [mW_u9]
      refine XW.eq (σ' := mW τ S (upd (upd (upd (upd F 18 (nI (tkS (τ.1 (.inr 16)) n p0))) 17 (nI (tkS (τ.1 (.inr 16)) n p0))) 16 1) 18 (nI (tkS (τ.1 (.inr 16)) n p0))) L) (by rw [show upd (upd (upd (upd F 18 (nI (tkS (τ.1 (.inr 16)) n p0))) 17 (nI (tkS (τ.1 (.inr 16)) n p0))) 16 1) 18 (nI (tkS (τ.1 (.inr 16)) n p0)) = upd (upd (upd F 18 (nI (tkS (τ.1 (.inr 16)) n p0))) 17 (nI (tkS (τ.1 (.inr 16)) n p0))) 16 1 from upd_same (by simp [upd])]) rfl rfl ?_
      refine L2_X7_next C h1 hn (F := upd (upd (upd F 18 (nI (tkS (τ.1 (.inr 16)) n p0))) 17 (nI (tkS (τ.1 (.inr 16)) n p0))) 16 1) (by simp [upd, h10]) (n - (tkS (τ.1 (.inr 16)) n p0)) (tkS (τ.1 (.inr 16)) n p0) (by omega) ?_
      have ek : tkK (τ.1 (.inr 16)) n p0 = 1 := by rw [tkK, if_pos g54, if_pos g73]
      have ee : tkE (τ.1 (.inr 16)) n p0 = cSkip (qL (τ.1 (.inr 16))) (n - tkS (τ.1 (.inr 16)) n p0) (tkS (τ.1 (.inr 16)) n p0) := by rw [tkE, if_pos g54, if_pos g73]
      exact X_vret (pc := 212) C (Nat.zero_le _) (Nat.zero_le _) dX7_next_212 ⟨rfl, congrArg (fun G => mW τ S G L) (mNext_eq (by rw [ee]; simp [upd]) (by simp [upd]) (by rw [ek]; simp [upd]) (by rw [ek]; simp [upd]) (fun k a b c d => by simp [upd, a, b, c, d]))⟩
  · have g54 : tkS (τ.1 (.inr 16)) n p0 = n := neq h54
    refine X_aload_n (pc := 57) C 0 dX7_next_57 rfl rfl ?_
    refine X_iconst (pc := 58) (v := 0) C dX7_next_58 (by decide) ?_
    refine U_X7_164 (pc := 59) C (by assumption) dX7_next_59 ?_
    rw [mW_u9]
    refine X_goto (pc := 62) C 212 dX7_next_62 (by decide) ?_
    have ek : tkK (τ.1 (.inr 16)) n p0 = 0 := by rw [tkK, if_neg (by omega)]
    have ee : tkE (τ.1 (.inr 16)) n p0 = tkS (τ.1 (.inr 16)) n p0 := by rw [tkE, if_neg (by omega)]
    exact X_vret (pc := 212) C (Nat.zero_le _) (Nat.zero_le _) dX7_next_212 ⟨rfl, congrArg (fun G => mW τ S G L) (mNext_eq (by rw [ee]; simp [upd]) (by simp [upd]) (by rw [ek]; simp [upd]) (by rw [ek]; simp [upd]) (fun k a b c d => by simp [upd, a, b, c, d]))⟩

end XP36

/-! Input: the buffer and the token in it -/
theorem xs_in {σ τ : XS} (i : XI) (h1 : ∀ n, σ.1 i n = τ.1 i n) (h2 : ∀ j, j ≠ i → σ.1 j = τ.1 j) (h3 : σ.2 = τ.2) : σ = τ := by
  obtain ⟨a, b⟩ := σ
  obtain ⟨a2, b2⟩ := τ
  have e1 : a = a2 := by
    funext j
    by_cases h : j = i
    · subst h; exact funext h1
    · exact h2 j h
  have e2 : b = b2 := h3
  rw [e1, e2]
theorem xu_xu (σ : XS) (i : XI) (k : Nat) (v w : Int32) : xu (xu σ i k v) i k w = xu σ i k w := by
  refine xs_in i (fun n => ?_) (fun j hj => ?_) rfl
  · simp only [xu_ap, true_and]
    split <;> rfl
  · rw [xu_ne _ _ _ hj, xu_ne _ _ _ hj, xu_ne _ _ _ hj]
theorem xu_id {σ : XS} {i : XI} {k : Nat} {v : Int32} (h : σ.1 i k = v) : xu σ i k v = σ := by
  refine xs_in i (fun n => ?_) (fun j hj => xu_ne _ _ _ hj) rfl
  simp only [xu_ap, true_and]
  split
  · subst_vars; rfl
  · rfl
abbrev isL (v : Int32) : Prop := 97 ≤ v ∧ v ≤ 122
abbrev isD (v : Int32) : Prop := 48 ≤ v ∧ v ≤ 57
/-- how far q goes on from i, k places at most -/
def cSkip (q : Nat → Bool) : Nat → Nat → Nat
  | 0, i => i
  | k + 1, i => if q i = true then cSkip q k (i + 1) else i
theorem cSkip_in (q : Nat → Bool) : ∀ k i, i ≤ cSkip q k i ∧ cSkip q k i ≤ i + k
  | 0, i => ⟨Nat.le_refl _, Nat.le_refl _⟩
  | k + 1, i => by
    unfold cSkip
    split
    · have := cSkip_in q k (i + 1); omega
    · omega
/-- the number that is read from place i on -/
def cNum (by_ : Nat → Int32) : Nat → Nat → Int32 → Int32
  | 0, _, a => a
  | k + 1, i, a => if isD (by_ i) then cNum by_ k (i + 1) (if a < 1000000 then 10 * a + by_ i - 48 else a) else a
def qS (by_ : Nat → Int32) (i : Nat) : Bool := by_ i == 32
def qL (by_ : Nat → Int32) (i : Nat) : Bool := decide (isL (by_ i))
def qD (by_ : Nat → Int32) (i : Nat) : Bool := decide (isD (by_ i))
/-- the next token from place p on: where it starts, its kind, its end, its number -/
def tkS (by_ : Nat → Int32) (n p : Nat) : Nat := cSkip (qS by_) (n - p) p
def tkK (by_ : Nat → Int32) (n p : Nat) : Int32 :=
  if tkS by_ n p < n then (if isL (by_ (tkS by_ n p)) then 1 else if isD (by_ (tkS by_ n p)) then 2 else if by_ (tkS by_ n p) = 59 then 3 else 4) else 0
def tkE (by_ : Nat → Int32) (n p : Nat) : Nat :=
  if tkS by_ n p < n then (if isL (by_ (tkS by_ n p)) then cSkip (qL by_) (n - tkS by_ n p) (tkS by_ n p) else if isD (by_ (tkS by_ n p)) then cSkip (qD by_) (n - tkS by_ n p) (tkS by_ n p) else tkS by_ n p + 1) else tkS by_ n p
def tkN (by_ : Nat → Int32) (n p : Nat) (a : Int32) : Int32 :=
  if tkS by_ n p < n ∧ ¬ isL (by_ (tkS by_ n p)) ∧ isD (by_ (tkS by_ n p)) then cNum by_ (n - tkS by_ n p) (tkS by_ n p) 0 else a
/-- the reader looks at a token -/
def uTok (σ : XS) (nx kd st nu : Int32) : XS := xu (xu (xu (xu σ (.inr 2) 2 nx) (.inr 2) 3 kd) (.inr 2) 4 st) (.inr 2) 5 nu
def uAdv (σ : XS) (n p : Nat) : XS := uTok σ (nI (tkE (σ.1 (.inr 3)) n p)) (tkK (σ.1 (.inr 3)) n p) (nI (tkS (σ.1 (.inr 3)) n p)) (tkN (σ.1 (.inr 3)) n p (σ.1 (.inr 2) 5))
theorem uTok_o (σ : XS) (nx kd st nu : Int32) {i : XI} (h : i ≠ .inr 2) : (uTok σ nx kd st nu).1 i = σ.1 i := by
  unfold uTok
  rw [xu_ne _ _ _ h, xu_ne _ _ _ h, xu_ne _ _ _ h, xu_ne _ _ _ h]
/-- a byte more -/
def uByte (σ : XS) (n : Nat) (v : Int32) : XS := xu (xu σ (.inr 3) n (v &&& 255)) (.inr 2) 1 (nI (n + 1))
def uFour (σ : XS) (n : Nat) (v : Int32) : XS := uByte (uByte (uByte (uByte σ n (v >>> ((24 : Int32) &&& 31))) (n + 1) (v >>> ((16 : Int32) &&& 31))) (n + 2) (v >>> ((8 : Int32) &&& 31))) (n + 3) v
def uFill (σ : XS) (q : Nat) : Nat → XS
  | 0 => σ
  | k + 1 => uByte (uFill σ q k) k (xch q k)
theorem uByte_n (σ : XS) (n : Nat) (v : Int32) : (uByte σ n v).1 (.inr 2) 1 = nI (n + 1) := by simp [uByte, xu_ap]
/-- the token's letters -/
def wL (kd : Int32) (s0 e0 : Nat) : Nat := if kd = 1 then e0 - s0 else 0
def wC (by_ : Nat → Int32) (kd : Int32) (s0 e0 j : Nat) : Int32 := if j < wL kd s0 e0 then by_ (s0 + j) else 0
def xmat (f : Nat → Int32) (q : Nat) : Nat → Nat → Int32
  | 0, _ => 1
  | k + 1, i => if f i = xch q i then xmat f q k (i + 1) else 0
def xisW (f : Nat → Int32) (w q : Nat) : Int32 := if w = xln q then xmat f q w 0 else 0
def xnm (f : Nat → Int32) : Nat → Int64
  | 0 => 0
  | k + 1 => xnm f k ||| (f k).toInt64 <<< ((8 * nI k).toInt64 &&& 63)
def xcod (f : Nat → Int32) : Nat → Nat → Int32 → Int32
  | 0, _, a => a
  | k + 1, i, a => if f i = 115 ∨ f i = 108 then xcod f k (i + 1) (2 * a + (if f i = 108 then 1 else 0)) else -1
def xcode (f : Nat → Int32) (kd : Int32) (w : Nat) : Int32 := if kd = 1 ∧ w ≤ 5 then xcod f w 0 1 else -1
theorem xu_4 (σ : XS) (i : XI) (k m : Nat) (a p a1 p1 : Int32) (hkm : k ≠ m) : xu (xu (xu (xu σ i k a) i m p) i k a1) i m p1 = xu (xu σ i k a1) i m p1 := by
  refine xs_in i (fun n => ?_) (fun j hj => ?_) rfl
  · simp only [xu_ap, true_and]
    by_cases h1 : n = m
    · simp [h1]
    · by_cases h2 : n = k <;> simp [h1, h2]
  · simp [xu_ne, hj]
theorem uTok_eq {σ τ : XS} {nx kd st nu : Int32} (h2 : τ.1 (.inr 2) 2 = nx) (h3 : τ.1 (.inr 2) 3 = kd) (h4 : τ.1 (.inr 2) 4 = st) (h5 : τ.1 (.inr 2) 5 = nu) (h1 : ∀ n, n ≠ 2 → n ≠ 3 → n ≠ 4 → n ≠ 5 → τ.1 (.inr 2) n = σ.1 (.inr 2) n) (ho : ∀ j, j ≠ .inr 2 → τ.1 j = σ.1 j) (hl : τ.2 = σ.2) : τ = uTok σ nx kd st nu := by
  refine xs_in (.inr 2) (fun n => ?_) (fun j hj => ?_) ?_
  · unfold uTok
    simp only [xu_ap, true_and]
    by_cases a5 : n = 5
    · rw [if_pos a5, a5, h5]
    · rw [if_neg a5]
      by_cases a4 : n = 4
      · rw [if_pos a4, a4, h4]
      · rw [if_neg a4]
        by_cases a3 : n = 3
        · rw [if_pos a3, a3, h3]
        · rw [if_neg a3]
          by_cases a2 : n = 2
          · rw [if_pos a2, a2, h2]
          · rw [if_neg a2, h1 n a2 a3 a4 a5]
  · rw [uTok_o _ _ _ _ _ hj, ho j hj]
  · rw [hl]; rfl
section XP14
variable {p : Program} {l : Launch} {e : Env} {R : Room} {s : State} {m : MethodId} {args : Array Value} {below : List Frame} {meth : Method} {c : Code} {P : XP} {A : Nat → Prop} {nL cells slots : Nat} {Q : State → Prop} {cc : ByteArray} {ret : Option FieldType} {σ : XS} {pc : Nat} {lv : List (Nat × Value)} {st : List Value}
set_option maxRecDepth 100000 in
set_option maxHeartbeats 4000000 in
theorem c_X3_addByte (l : Launch) (P : XP) (σ : XS) (h0 : xI0 P) (n : Nat) (hn : n ≤ 700) (hl : σ.1 (.inr 2) 1 = nI n) (v : Int32) : XF l yX3_addByte cX3_addByte 2 none rm_X3_addByte P [.ref (P.2.2.1 (.inr 2)), .int v] σ (none) (if n < 700 then uByte σ n v else σ) := by
  refine XM.of (by decide +kernel) (Nat.le_of_ble_eq_true rfl) (fun p e s m args below meth c A C => ?_)
  replace C : XC p s m args meth c P A 2 RX3 cX3_addByte none := C
  refine XW.eq (lv' := [(0, _), (1, _)]) rfl rfl rfl ?_
  refine X_aload_n (pc := 0) C 0 dX3_addByte_0 rfl rfl ?_
  refine G_X3_15 (pc := 1) C (by assumption) dX3_addByte_1 ?_
  rw [hl]
  refine X_sipush (pc := 4) (v := 700) C dX3_addByte_4 (by decide) ?_
  refine X_icmp_ge (pc := 7) C 34 dX3_addByte_7 (by decide) (fun h7 => ?_) (fun h7 => ?_)
  · have g7 := nle (a := 700) (b := n) h7
    exact X_vret (pc := 34) C (Nat.zero_le _) (Nat.zero_le _) dX3_addByte_34 ⟨rfl, by rw [if_neg (by omega)]⟩
  · have g7 := nnle (a := 700) (b := n) h7
    refine X_aload_n (pc := 10) C 0 dX3_addByte_10 rfl rfl ?_
    refine G_X3_9 (pc := 11) C (by assumption) dX3_addByte_11 ?_
    refine X_aload_n (pc := 14) C 0 dX3_addByte_14 rfl rfl ?_
    refine G_X3_15 (pc := 15) C (by assumption) dX3_addByte_15 ?_
    rw [hl]
    refine X_iload_n (pc := 18) C 1 dX3_addByte_18 rfl rfl ?_
    refine X_sipush (pc := 19) (v := 255) C dX3_addByte_19 (by decide) ?_
    refine X_iand (pc := 22) C dX3_addByte_22 ?_
    refine X_iastN (pc := 23) C (by first | exact h0 _ (by decide)) rfl (by omega) (by decide) dX3_addByte_23 ?_
    refine X_aload_n (pc := 24) C 0 dX3_addByte_24 rfl rfl ?_
    refine X_dup (pc := 25) C dX3_addByte_25 rfl ?_
    refine G_X3_15 (pc := 26) C (by assumption) dX3_addByte_26 ?_
    rw [show (xu σ (.inr 3) n (v &&& 255)).1 (.inr 2) 1 = nI n from by simp [xu_ap, hl]]
    refine X_iconst (pc := 29) (v := 1) C dX3_addByte_29 (by decide) ?_
    refine X_iadd (pc := 30) C dX3_addByte_30 ?_
    rw [nI_1]
    refine U_X3_15 (pc := 31) C (by assumption) dX3_addByte_31 ?_
    exact X_vret (pc := 34) C (Nat.zero_le _) (Nat.zero_le _) dX3_addByte_34 ⟨rfl, by rw [if_pos g7]; rfl⟩

set_option maxRecDepth 100000 in
set_option maxHeartbeats 4000000 in
theorem c_X3_addFour (l : Launch) (P : XP) (σ : XS) (h0 : xI0 P) (n : Nat) (hn : n + 4 ≤ 700) (hl : σ.1 (.inr 2) 1 = nI n) (v : Int32) : XF l yX3_addFour cX3_addFour 2 none rm_X3_addFour P [.ref (P.2.2.1 (.inr 2)), .int v] σ (none) (uFour σ n v) := by
  refine XM.of (by decide +kernel) (Nat.le_of_ble_eq_true rfl) (fun p e s m args below meth c A C => ?_)
  replace C : XC p s m args meth c P A 2 RX3 cX3_addFour none := C
  refine XW.eq (lv' := [(0, _), (1, _)]) rfl rfl rfl ?_
  refine X_aload_n (pc := 0) C 0 dX3_addFour_0 rfl rfl ?_
  refine X_iload_n (pc := 1) C 1 dX3_addFour_1 rfl rfl ?_
  refine X_bipush (pc := 2) (v := 24) C dX3_addFour_2 (by decide) ?_
  refine X_ishr (pc := 4) C dX3_addFour_4 ?_
  refine K_X3_19 (pc := 5) C (by assumption) (by have h := c_X3_addByte l P σ h0 (n + 0) (by omega) hl (v >>> ((24 : Int32) &&& 31)); rw [if_pos (by omega)] at h; exact h) ⟨Nat.le_of_ble_eq_true rfl, Nat.le_of_ble_eq_true rfl⟩ ⟨rfl, rfl⟩ ⟨Nat.zero_le _, Nat.zero_le _⟩ (Nat.le_of_ble_eq_true rfl) dX3_addFour_5 ?_
  refine X_aload_n (pc := 8) C 0 dX3_addFour_8 rfl rfl ?_
  refine X_iload_n (pc := 9) C 1 dX3_addFour_9 rfl rfl ?_
  refine X_bipush (pc := 10) (v := 16) C dX3_addFour_10 (by decide) ?_
  refine X_ishr (pc := 12) C dX3_addFour_12 ?_
  refine K_X3_19 (pc := 13) C (by assumption) (by have h := c_X3_addByte l P (uByte σ n (v >>> ((24 : Int32) &&& 31))) h0 (n + 1) (by omega) (uByte_n _ _ _) (v >>> ((16 : Int32) &&& 31)); rw [if_pos (by omega)] at h; exact h) ⟨Nat.le_of_ble_eq_true rfl, Nat.le_of_ble_eq_true rfl⟩ ⟨rfl, rfl⟩ ⟨Nat.zero_le _, Nat.zero_le _⟩ (Nat.le_of_ble_eq_true rfl) dX3_addFour_13 ?_
  refine X_aload_n (pc := 16) C 0 dX3_addFour_16 rfl rfl ?_
  refine X_iload_n (pc := 17) C 1 dX3_addFour_17 rfl rfl ?_
  refine X_bipush (pc := 18) (v := 8) C dX3_addFour_18 (by decide) ?_
  refine X_ishr (pc := 20) C dX3_addFour_20 ?_
  refine K_X3_19 (pc := 21) C (by assumption) (by have h := c_X3_addByte l P (uByte (uByte σ n (v >>> ((24 : Int32) &&& 31))) (n + 1) (v >>> ((16 : Int32) &&& 31))) h0 (n + 2) (by omega) (uByte_n _ _ _) (v >>> ((8 : Int32) &&& 31)); rw [if_pos (by omega)] at h; exact h) ⟨Nat.le_of_ble_eq_true rfl, Nat.le_of_ble_eq_true rfl⟩ ⟨rfl, rfl⟩ ⟨Nat.zero_le _, Nat.zero_le _⟩ (Nat.le_of_ble_eq_true rfl) dX3_addFour_21 ?_
  refine X_aload_n (pc := 24) C 0 dX3_addFour_24 rfl rfl ?_
  refine X_iload_n (pc := 25) C 1 dX3_addFour_25 rfl rfl ?_
  refine K_X3_19 (pc := 26) C (by assumption) (by have h := c_X3_addByte l P (uByte (uByte (uByte σ n (v >>> ((24 : Int32) &&& 31))) (n + 1) (v >>> ((16 : Int32) &&& 31))) (n + 2) (v >>> ((8 : Int32) &&& 31))) h0 (n + 3) (by omega) (uByte_n _ _ _) (v); rw [if_pos (by omega)] at h; exact h) ⟨Nat.le_of_ble_eq_true rfl, Nat.le_of_ble_eq_true rfl⟩ ⟨rfl, rfl⟩ ⟨Nat.zero_le _, Nat.zero_le _⟩ (Nat.le_of_ble_eq_true rfl) dX3_addFour_26 ?_
  exact X_vret (pc := 29) C (Nat.zero_le _) (Nat.zero_le _) dX3_addFour_29 ⟨rfl, rfl⟩

set_option maxRecDepth 100000 in
set_option maxHeartbeats 4000000 in
theorem c_X3_shorten (l : Launch) (P : XP) (σ : XS) (h0 : xI0 P) (v : Int32) : XF l yX3_shorten cX3_shorten 2 none rm_X3_shorten P [.ref (P.2.2.1 (.inr 2)), .int v] σ (none) (xu σ (.inr 2) 1 v) := by
  refine XM.of (by decide +kernel) (Nat.le_of_ble_eq_true rfl) (fun p e s m args below meth c A C => ?_)
  replace C : XC p s m args meth c P A 2 RX3 cX3_shorten none := C
  refine XW.eq (lv' := [(0, _), (1, _)]) rfl rfl rfl ?_
  refine X_aload_n (pc := 0) C 0 dX3_shorten_0 rfl rfl ?_
  refine X_iload_n (pc := 1) C 1 dX3_shorten_1 rfl rfl ?_
  refine U_X3_15 (pc := 2) C (by assumption) dX3_shorten_2 ?_
  exact X_vret (pc := 5) C (Nat.zero_le _) (Nat.zero_le _) dX3_shorten_5 ⟨rfl, rfl⟩

set_option maxRecDepth 100000 in
set_option maxHeartbeats 4000000 in
theorem c_X3_peek (l : Launch) (P : XP) (σ : XS) (h0 : xI0 P) (n : Nat) (hn : n ≤ 700) (hl : σ.1 (.inr 2) 1 = nI n) (p0 : Nat) (hp0 : p0 ≤ 700) (hp : σ.1 (.inr 2) 2 = nI p0) : XF l yX3_peek cX3_peek 1 (some .int) rm_X3_peek P [.ref (P.2.2.1 (.inr 2))] σ (some (.int (if p0 < n then σ.1 (.inr 3) p0 else -1))) (σ) := by
  refine XM.of (by decide +kernel) (Nat.le_of_ble_eq_true rfl) (fun p e s m args below meth c A C => ?_)
  replace C : XC p s m args meth c P A 1 RX3 cX3_peek (some .int) := C
  refine XW.eq (lv' := [(0, _)]) rfl rfl rfl ?_
  refine X_aload_n (pc := 0) C 0 dX3_peek_0 rfl rfl ?_
  refine G_X3_32 (pc := 1) C (by assumption) dX3_peek_1 ?_
  rw [hp]
  refine X_aload_n (pc := 4) C 0 dX3_peek_4 rfl rfl ?_
  refine G_X3_15 (pc := 5) C (by assumption) dX3_peek_5 ?_
  rw [hl]
  refine X_icmp_ge (pc := 8) C 33 dX3_peek_8 (by decide) (fun h8 => ?_) (fun h8 => ?_)
  · have g8 := nle h8
    refine X_iconst (pc := 33) (v := (-1)) C dX3_peek_33 (by decide) ?_
    exact X_iret (pc := 34) C (Nat.zero_le _) (Nat.zero_le _) dX3_peek_34 ⟨by rw [if_neg (by omega)], rfl⟩
  · have g8 := nnle h8
    refine X_aload_n (pc := 11) C 0 dX3_peek_11 rfl rfl ?_
    refine G_X3_32 (pc := 12) C (by assumption) dX3_peek_12 ?_
    rw [hp]
    refine X_sipush (pc := 15) (v := 700) C dX3_peek_15 (by decide) ?_
    refine X_icmp_ge (pc := 18) C 33 dX3_peek_18 (by decide) (fun h18 => ?_) (fun h18 => ?_)
    · exact absurd (nle (a := 700) (b := p0) h18) (by omega)
    · skip
      refine X_aload_n (pc := 21) C 0 dX3_peek_21 rfl rfl ?_
      refine G_X3_9 (pc := 22) C (by assumption) dX3_peek_22 ?_
      refine X_aload_n (pc := 25) C 0 dX3_peek_25 rfl rfl ?_
      refine G_X3_32 (pc := 26) C (by assumption) dX3_peek_26 ?_
      rw [hp]
      refine X_ialdN (pc := 29) C (by first | exact h0 _ (by decide)) rfl (by omega) (by decide) dX3_peek_29 ?_
      refine X_goto (pc := 30) C 34 dX3_peek_30 (by decide) ?_
      exact X_iret (pc := 34) C (Nat.zero_le _) (Nat.zero_le _) dX3_peek_34 ⟨by rw [if_pos g8], rfl⟩

set_option maxRecDepth 100000 in
set_option maxHeartbeats 4000000 in
theorem c_X3_isLetter (l : Launch) (P : XP) (σ : XS) (v : Int32) : XF l yX3_isLetter cX3_isLetter 1 (some .boolean) rm_X3_isLetter P [.int v] σ (some (.int (if isL v then 1 else 0))) (σ) := by
  refine XM.of (by decide +kernel) (Nat.le_of_ble_eq_true rfl) (fun p e s m args below meth c A C => ?_)
  replace C : XC p s m args meth c P A 1 RX3 cX3_isLetter (some .boolean) := C
  refine XW.eq (lv' := [(0, _)]) rfl rfl rfl ?_
  refine X_iload_n (pc := 0) C 0 dX3_isLetter_0 rfl rfl ?_
  refine X_bipush (pc := 1) (v := 97) C dX3_isLetter_1 (by decide) ?_
  refine X_icmp_lt (pc := 3) C 16 dX3_isLetter_3 (by decide) (fun h3 => ?_) (fun h3 => ?_)
  · skip
    refine X_iconst (pc := 16) (v := 0) C dX3_isLetter_16 (by decide) ?_
    exact X_zret (pc := 17) C (Nat.zero_le _) (Nat.zero_le _) (rfl) dX3_isLetter_17 ⟨by rw [if_neg (fun q => absurd q.1 (Int32.not_le.mpr h3))], rfl⟩
  · skip
    refine X_iload_n (pc := 6) C 0 dX3_isLetter_6 rfl rfl ?_
    refine X_bipush (pc := 7) (v := 122) C dX3_isLetter_7 (by decide) ?_
    refine X_icmp_gt (pc := 9) C 16 dX3_isLetter_9 (by decide) (fun h9 => ?_) (fun h9 => ?_)
    · skip
      refine X_iconst (pc := 16) (v := 0) C dX3_isLetter_16 (by decide) ?_
      exact X_zret (pc := 17) C (Nat.zero_le _) (Nat.zero_le _) (rfl) dX3_isLetter_17 ⟨by rw [if_neg (fun q => absurd q.2 (Int32.not_le.mpr h9))], rfl⟩
    · skip
      refine X_iconst (pc := 12) (v := 1) C dX3_isLetter_12 (by decide) ?_
      refine X_goto (pc := 13) C 17 dX3_isLetter_13 (by decide) ?_
      exact X_zret (pc := 17) C (Nat.zero_le _) (Nat.zero_le _) (rfl) dX3_isLetter_17 ⟨by rw [if_pos ⟨Int32.not_lt.mp h3, Int32.not_lt.mp h9⟩], rfl⟩

set_option maxRecDepth 100000 in
set_option maxHeartbeats 4000000 in
theorem c_X3_isDigit (l : Launch) (P : XP) (σ : XS) (v : Int32) : XF l yX3_isDigit cX3_isDigit 1 (some .boolean) rm_X3_isDigit P [.int v] σ (some (.int (if isD v then 1 else 0))) (σ) := by
  refine XM.of (by decide +kernel) (Nat.le_of_ble_eq_true rfl) (fun p e s m args below meth c A C => ?_)
  replace C : XC p s m args meth c P A 1 RX3 cX3_isDigit (some .boolean) := C
  refine XW.eq (lv' := [(0, _)]) rfl rfl rfl ?_
  refine X_iload_n (pc := 0) C 0 dX3_isDigit_0 rfl rfl ?_
  refine X_bipush (pc := 1) (v := 48) C dX3_isDigit_1 (by decide) ?_
  refine X_icmp_lt (pc := 3) C 16 dX3_isDigit_3 (by decide) (fun h3 => ?_) (fun h3 => ?_)
  · skip
    refine X_iconst (pc := 16) (v := 0) C dX3_isDigit_16 (by decide) ?_
    exact X_zret (pc := 17) C (Nat.zero_le _) (Nat.zero_le _) (rfl) dX3_isDigit_17 ⟨by rw [if_neg (fun q => absurd q.1 (Int32.not_le.mpr h3))], rfl⟩
  · skip
    refine X_iload_n (pc := 6) C 0 dX3_isDigit_6 rfl rfl ?_
    refine X_bipush (pc := 7) (v := 57) C dX3_isDigit_7 (by decide) ?_
    refine X_icmp_gt (pc := 9) C 16 dX3_isDigit_9 (by decide) (fun h9 => ?_) (fun h9 => ?_)
    · skip
      refine X_iconst (pc := 16) (v := 0) C dX3_isDigit_16 (by decide) ?_
      exact X_zret (pc := 17) C (Nat.zero_le _) (Nat.zero_le _) (rfl) dX3_isDigit_17 ⟨by rw [if_neg (fun q => absurd q.2 (Int32.not_le.mpr h9))], rfl⟩
    · skip
      refine X_iconst (pc := 12) (v := 1) C dX3_isDigit_12 (by decide) ?_
      refine X_goto (pc := 13) C 17 dX3_isDigit_13 (by decide) ?_
      exact X_zret (pc := 17) C (Nat.zero_le _) (Nat.zero_le _) (rfl) dX3_isDigit_17 ⟨by rw [if_pos ⟨Int32.not_lt.mp h3, Int32.not_lt.mp h9⟩], rfl⟩

set_option maxRecDepth 100000 in
set_option maxHeartbeats 4000000 in
theorem L_X3_skipWord (C : XC p s m args meth c P A 1 RX3 cX3_skipWord none) (h0 : xI0 P) {n : Nat} (hn : n ≤ 700) (hl : σ.1 (.inr 2) 1 = nI n) {E : Nat} (kx : XW p l e rm_X3_skipWord s m args below meth c P A 1 0 0 Q (xu σ (.inr 2) 2 (nI E)) 34 [(0, .ref (P.2.2.1 (.inr 2)))] []) : ∀ (k i : Nat), i + k = n → E = cSkip (qL (σ.1 (.inr 3))) k i → XW p l e rm_X3_skipWord s m args below meth c P A 1 0 0 Q (xu σ (.inr 2) 2 (nI i)) 0 [(0, .ref (P.2.2.1 (.inr 2)))] [] := by
  intro k
  induction k with
  | zero =>
    intro i hi hE
    have e9 : i = n := by omega
    subst e9
    have e8 : E = i := hE
    subst e8
    have hl1 : (xu σ (.inr 2) 2 (nI E)).1 (.inr 2) 1 = nI E := by simp [xu_ap, hl]
    have hp1 : (xu σ (.inr 2) 2 (nI E)).1 (.inr 2) 2 = nI E := by simp [xu_ap]
    have hb1 : (xu σ (.inr 2) 2 (nI E)).1 (.inr 3) = σ.1 (.inr 3) := xu_ne _ _ _ (by simp)
    refine X_aload_n (pc := 0) C 0 dX3_skipWord_0 rfl rfl ?_
    refine G_X3_32 (pc := 1) C (by assumption) dX3_skipWord_1 ?_
    rw [hp1]
    refine X_aload_n (pc := 4) C 0 dX3_skipWord_4 rfl rfl ?_
    refine G_X3_15 (pc := 5) C (by assumption) dX3_skipWord_5 ?_
    rw [hl1]
    refine X_icmp_ge (pc := 8) C 34 dX3_skipWord_8 (by decide) (fun h8 => ?_) (fun h8 => ?_)
    · skip
      exact kx
    · exact absurd (nI_le (Nat.le_refl _) (n31 (by omega))) h8
  | succ k ih =>
    intro i hi hE
    have hlt : i < n := by omega
    have hl1 : (xu σ (.inr 2) 2 (nI i)).1 (.inr 2) 1 = nI n := by simp [xu_ap, hl]
    have hp1 : (xu σ (.inr 2) 2 (nI i)).1 (.inr 2) 2 = nI i := by simp [xu_ap]
    have hb1 : (xu σ (.inr 2) 2 (nI i)).1 (.inr 3) = σ.1 (.inr 3) := xu_ne _ _ _ (by simp)
    refine X_aload_n (pc := 0) C 0 dX3_skipWord_0 rfl rfl ?_
    refine G_X3_32 (pc := 1) C (by assumption) dX3_skipWord_1 ?_
    rw [hp1]
    refine X_aload_n (pc := 4) C 0 dX3_skipWord_4 rfl rfl ?_
    refine G_X3_15 (pc := 5) C (by assumption) dX3_skipWord_5 ?_
    rw [hl1]
    refine X_icmp_ge (pc := 8) C 34 dX3_skipWord_8 (by decide) (fun h8 => ?_) (fun h8 => ?_)
    · exact absurd (nle h8) (by omega)
    · skip
      refine X_aload_n (pc := 11) C 0 dX3_skipWord_11 rfl rfl ?_
      refine K_X3_38 (pc := 12) C (by assumption) (c_X3_peek l P (xu σ (.inr 2) 2 (nI i)) h0 n hn hl1 i (by omega) hp1) ⟨Nat.le_of_ble_eq_true rfl, Nat.le_of_ble_eq_true rfl⟩ ⟨rfl, rfl⟩ ⟨Nat.zero_le _, Nat.zero_le _⟩ (Nat.le_of_ble_eq_true rfl) dX3_skipWord_12 ?_
      rw [if_pos hlt, hb1]
      refine K_X3_47 (pc := 15) C (c_X3_isLetter l P _ _) ⟨Nat.le_of_ble_eq_true rfl, Nat.le_of_ble_eq_true rfl⟩ ⟨rfl, rfl⟩ ⟨Nat.zero_le _, Nat.zero_le _⟩ (Nat.le_of_ble_eq_true rfl) dX3_skipWord_15 ?_
      refine X_if_eq (pc := 18) C 34 dX3_skipWord_18 (by decide) (fun h18 => ?_) (fun h18 => ?_)
      · have g18 := bz0 h18
        rw [cSkip, if_neg (by rw [qL, decide_eq_true_iff]; exact g18)] at hE
        subst hE
        exact kx
      · have g18 := bz1 h18
        rw [cSkip, if_pos (by rw [qL, decide_eq_true_iff]; exact g18)] at hE
        refine X_aload_n (pc := 21) C 0 dX3_skipWord_21 rfl rfl ?_
        refine X_dup (pc := 22) C dX3_skipWord_22 rfl ?_
        refine G_X3_32 (pc := 23) C (by assumption) dX3_skipWord_23 ?_
        rw [hp1]
        refine X_iconst (pc := 26) (v := 1) C dX3_skipWord_26 (by decide) ?_
        refine X_iadd (pc := 27) C dX3_skipWord_27 ?_
        rw [nI_1]
        refine U_X3_32 (pc := 28) C (by assumption) dX3_skipWord_28 ?_
        refine X_goto (pc := 31) C 0 dX3_skipWord_31 (by decide) ?_
        exact XW.eq (xu_xu _ _ _ _ _) rfl rfl (ih (i + 1) (by omega) hE)

set_option maxRecDepth 100000 in
set_option maxHeartbeats 4000000 in
theorem c_X3_skipWord (l : Launch) (P : XP) (σ : XS) (h0 : xI0 P) (n : Nat) (hn : n ≤ 700) (hl : σ.1 (.inr 2) 1 = nI n) (p0 : Nat) (hp0 : p0 ≤ n) (hp : σ.1 (.inr 2) 2 = nI p0) : XF l yX3_skipWord cX3_skipWord 1 none rm_X3_skipWord P [.ref (P.2.2.1 (.inr 2))] σ (none) (xu σ (.inr 2) 2 (nI (cSkip (qL (σ.1 (.inr 3))) (n - p0) p0))) := by
  refine XM.of (by decide +kernel) (Nat.le_of_ble_eq_true rfl) (fun p e s m args below meth c A C => ?_)
  replace C : XC p s m args meth c P A 1 RX3 cX3_skipWord none := C
  refine XW.eq (lv' := [(0, _)]) rfl rfl rfl ?_
  refine XW.eq (xu_id hp).symm rfl rfl ?_
  refine L_X3_skipWord C h0 hn hl ?_ (n - p0) p0 (by omega) rfl
  exact X_vret (pc := 34) C (Nat.zero_le _) (Nat.zero_le _) dX3_skipWord_34 ⟨rfl, rfl⟩

set_option maxRecDepth 100000 in
set_option maxHeartbeats 4000000 in
theorem L_X3_scanNumber (C : XC p s m args meth c P A 1 RX3 cX3_scanNumber none) (h0 : xI0 P) {n : Nat} (hn : n ≤ 700) (hl : σ.1 (.inr 2) 1 = nI n) {E : Nat} {F : Int32} (kx : XW p l e rm_X3_scanNumber s m args below meth c P A 1 0 0 Q (xu (xu σ (.inr 2) 5 F) (.inr 2) 2 (nI E)) 67 [(0, .ref (P.2.2.1 (.inr 2)))] []) : ∀ (k i : Nat) (a : Int32), i + k = n → E = cSkip (qD (σ.1 (.inr 3))) k i → F = cNum (σ.1 (.inr 3)) k i a → XW p l e rm_X3_scanNumber s m args below meth c P A 1 0 0 Q (xu (xu σ (.inr 2) 5 a) (.inr 2) 2 (nI i)) 5 [(0, .ref (P.2.2.1 (.inr 2)))] [] := by
  intro k
  induction k with
  | zero =>
    intro i a hi hE hF
    have e9 : i = n := by omega
    subst e9
    have e8 : E = i := hE
    subst e8
    have e7 : F = a := hF
    subst e7
    have hl1 : (xu (xu σ (.inr 2) 5 F) (.inr 2) 2 (nI E)).1 (.inr 2) 1 = nI E := by simp [xu_ap, hl]
    have hp1 : (xu (xu σ (.inr 2) 5 F) (.inr 2) 2 (nI E)).1 (.inr 2) 2 = nI E := by simp [xu_ap]
    have ha1 : (xu (xu σ (.inr 2) 5 F) (.inr 2) 2 (nI E)).1 (.inr 2) 5 = F := by simp [xu_ap]
    have hb1 : (xu (xu σ (.inr 2) 5 F) (.inr 2) 2 (nI E)).1 (.inr 3) = σ.1 (.inr 3) := by simp [xu_ne]
    refine X_aload_n (pc := 5) C 0 dX3_scanNumber_5 rfl rfl ?_
    refine G_X3_32 (pc := 6) C (by assumption) dX3_scanNumber_6 ?_
    rw [hp1]
    refine X_aload_n (pc := 9) C 0 dX3_scanNumber_9 rfl rfl ?_
    refine G_X3_15 (pc := 10) C (by assumption) dX3_scanNumber_10 ?_
    rw [hl1]
    refine X_icmp_ge (pc := 13) C 67 dX3_scanNumber_13 (by decide) (fun h13 => ?_) (fun h13 => ?_)
    · skip
      exact kx
    · exact absurd (nI_le (Nat.le_refl _) (n31 (by omega))) h13
  | succ k ih =>
    intro i a hi hE hF
    have hlt : i < n := by omega
    have hl1 : (xu (xu σ (.inr 2) 5 a) (.inr 2) 2 (nI i)).1 (.inr 2) 1 = nI n := by simp [xu_ap, hl]
    have hp1 : (xu (xu σ (.inr 2) 5 a) (.inr 2) 2 (nI i)).1 (.inr 2) 2 = nI i := by simp [xu_ap]
    have ha1 : (xu (xu σ (.inr 2) 5 a) (.inr 2) 2 (nI i)).1 (.inr 2) 5 = a := by simp [xu_ap]
    have hb1 : (xu (xu σ (.inr 2) 5 a) (.inr 2) 2 (nI i)).1 (.inr 3) = σ.1 (.inr 3) := by simp [xu_ne]
    refine X_aload_n (pc := 5) C 0 dX3_scanNumber_5 rfl rfl ?_
    refine G_X3_32 (pc := 6) C (by assumption) dX3_scanNumber_6 ?_
    rw [hp1]
    refine X_aload_n (pc := 9) C 0 dX3_scanNumber_9 rfl rfl ?_
    refine G_X3_15 (pc := 10) C (by assumption) dX3_scanNumber_10 ?_
    rw [hl1]
    refine X_icmp_ge (pc := 13) C 67 dX3_scanNumber_13 (by decide) (fun h13 => ?_) (fun h13 => ?_)
    · exact absurd (nle h13) (by omega)
    · skip
      refine X_aload_n (pc := 16) C 0 dX3_scanNumber_16 rfl rfl ?_
      refine K_X3_38 (pc := 17) C (by assumption) (c_X3_peek l P (xu (xu σ (.inr 2) 5 a) (.inr 2) 2 (nI i)) h0 n hn hl1 i (by omega) hp1) ⟨Nat.le_of_ble_eq_true rfl, Nat.le_of_ble_eq_true rfl⟩ ⟨rfl, rfl⟩ ⟨Nat.zero_le _, Nat.zero_le _⟩ (Nat.le_of_ble_eq_true rfl) dX3_scanNumber_17 ?_
      rw [if_pos hlt, hb1]
      refine K_X3_54 (pc := 20) C (c_X3_isDigit l P _ _) ⟨Nat.le_of_ble_eq_true rfl, Nat.le_of_ble_eq_true rfl⟩ ⟨rfl, rfl⟩ ⟨Nat.zero_le _, Nat.zero_le _⟩ (Nat.le_of_ble_eq_true rfl) dX3_scanNumber_20 ?_
      refine X_if_eq (pc := 23) C 67 dX3_scanNumber_23 (by decide) (fun h23 => ?_) (fun h23 => ?_)
      · have g23 := bz0 h23
        rw [cSkip, if_neg (by rw [qD, decide_eq_true_iff]; exact g23)] at hE
        rw [cNum, if_neg g23] at hF
        subst hE
        subst hF
        exact kx
      · have g23 := bz1 h23
        rw [cSkip, if_pos (by rw [qD, decide_eq_true_iff]; exact g23)] at hE
        rw [cNum, if_pos g23] at hF
        refine X_aload_n (pc := 26) C 0 dX3_scanNumber_26 rfl rfl ?_
        refine G_X3_60 (pc := 27) C (by assumption) dX3_scanNumber_27 ?_
        rw [ha1]
        refine X_ldc (pc := 30) C m_k_X3_63 dX3_scanNumber_30 ?_
        refine X_icmp_ge (pc := 32) C 54 dX3_scanNumber_32 (by decide) (fun h32 => ?_) (fun h32 => ?_)
        · rw [if_neg (Int32.not_lt.mpr h32)] at hF
          refine X_aload_n (pc := 54) C 0 dX3_scanNumber_54 rfl rfl ?_
          refine X_dup (pc := 55) C dX3_scanNumber_55 rfl ?_
          refine G_X3_32 (pc := 56) C (by assumption) dX3_scanNumber_56 ?_
          first | rw [hp1] | rw [show (xu (xu (xu σ (.inr 2) 5 a) (.inr 2) 2 (nI i)) (.inr 2) 5 (10 * a + σ.1 (.inr 3) i - 48)).1 (.inr 2) 2 = nI i from by simp [xu_ap]]
          refine X_iconst (pc := 59) (v := 1) C dX3_scanNumber_59 (by decide) ?_
          refine X_iadd (pc := 60) C dX3_scanNumber_60 ?_
          rw [nI_1]
          refine U_X3_32 (pc := 61) C (by assumption) dX3_scanNumber_61 ?_
          refine X_goto (pc := 64) C 5 dX3_scanNumber_64 (by decide) ?_
          first
            | exact XW.eq (xu_xu _ _ _ _ _) rfl rfl (ih (i + 1) _ (by omega) hE hF)
            | exact XW.eq (xu_4 _ _ _ _ _ _ _ _ (by decide)) rfl rfl (ih (i + 1) _ (by omega) hE hF)
        · rw [if_pos (Int32.not_le.mp h32)] at hF
          refine X_aload_n (pc := 35) C 0 dX3_scanNumber_35 rfl rfl ?_
          refine X_bipush (pc := 36) (v := 10) C dX3_scanNumber_36 (by decide) ?_
          refine X_aload_n (pc := 38) C 0 dX3_scanNumber_38 rfl rfl ?_
          refine G_X3_60 (pc := 39) C (by assumption) dX3_scanNumber_39 ?_
          rw [ha1]
          refine X_imul (pc := 42) C dX3_scanNumber_42 ?_
          refine X_aload_n (pc := 43) C 0 dX3_scanNumber_43 rfl rfl ?_
          refine K_X3_38 (pc := 44) C (by assumption) (c_X3_peek l P (xu (xu σ (.inr 2) 5 a) (.inr 2) 2 (nI i)) h0 n hn hl1 i (by omega) hp1) ⟨Nat.le_of_ble_eq_true rfl, Nat.le_of_ble_eq_true rfl⟩ ⟨rfl, rfl⟩ ⟨Nat.zero_le _, Nat.zero_le _⟩ (Nat.le_of_ble_eq_true rfl) dX3_scanNumber_44 ?_
          rw [if_pos hlt, hb1]
          refine X_iadd (pc := 47) C dX3_scanNumber_47 ?_
          refine X_bipush (pc := 48) (v := 48) C dX3_scanNumber_48 (by decide) ?_
          refine X_isub (pc := 50) C dX3_scanNumber_50 ?_
          refine U_X3_60 (pc := 51) C (by assumption) dX3_scanNumber_51 ?_
          refine X_aload_n (pc := 54) C 0 dX3_scanNumber_54 rfl rfl ?_
          refine X_dup (pc := 55) C dX3_scanNumber_55 rfl ?_
          refine G_X3_32 (pc := 56) C (by assumption) dX3_scanNumber_56 ?_
          first | rw [hp1] | rw [show (xu (xu (xu σ (.inr 2) 5 a) (.inr 2) 2 (nI i)) (.inr 2) 5 (10 * a + σ.1 (.inr 3) i - 48)).1 (.inr 2) 2 = nI i from by simp [xu_ap]]
          refine X_iconst (pc := 59) (v := 1) C dX3_scanNumber_59 (by decide) ?_
          refine X_iadd (pc := 60) C dX3_scanNumber_60 ?_
          rw [nI_1]
          refine U_X3_32 (pc := 61) C (by assumption) dX3_scanNumber_61 ?_
          refine X_goto (pc := 64) C 5 dX3_scanNumber_64 (by decide) ?_
          first
            | exact XW.eq (xu_xu _ _ _ _ _) rfl rfl (ih (i + 1) _ (by omega) hE hF)
            | exact XW.eq (xu_4 _ _ _ _ _ _ _ _ (by decide)) rfl rfl (ih (i + 1) _ (by omega) hE hF)

set_option maxRecDepth 100000 in
set_option maxHeartbeats 4000000 in
theorem c_X3_scanNumber (l : Launch) (P : XP) (σ : XS) (h0 : xI0 P) (n : Nat) (hn : n ≤ 700) (hl : σ.1 (.inr 2) 1 = nI n) (p0 : Nat) (hp0 : p0 ≤ n) (hp : σ.1 (.inr 2) 2 = nI p0) : XF l yX3_scanNumber cX3_scanNumber 1 none rm_X3_scanNumber P [.ref (P.2.2.1 (.inr 2))] σ (none) ((xu (xu σ (.inr 2) 5 (cNum (σ.1 (.inr 3)) (n - p0) p0 0)) (.inr 2) 2 (nI (cSkip (qD (σ.1 (.inr 3))) (n - p0) p0)))) := by
  refine XM.of (by decide +kernel) (Nat.le_of_ble_eq_true rfl) (fun p e s m args below meth c A C => ?_)
  replace C : XC p s m args meth c P A 1 RX3 cX3_scanNumber none := C
  refine XW.eq (lv' := [(0, _)]) rfl rfl rfl ?_
  refine X_aload_n (pc := 0) C 0 dX3_scanNumber_0 rfl rfl ?_
  refine X_iconst (pc := 1) (v := 0) C dX3_scanNumber_1 (by decide) ?_
  refine U_X3_60 (pc := 2) C (by assumption) dX3_scanNumber_2 ?_
  refine XW.eq (xu_id (show (xu σ (.inr 2) 5 0).1 (.inr 2) 2 = nI p0 from by simp [xu_ap, hp])).symm rfl rfl ?_
  refine L_X3_scanNumber C h0 hn hl ?_ (n - p0) p0 0 (by omega) rfl rfl
  exact X_vret (pc := 67) C (Nat.zero_le _) (Nat.zero_le _) dX3_scanNumber_67 ⟨rfl, rfl⟩

set_option maxRecDepth 100000 in
set_option maxHeartbeats 4000000 in
theorem L_X3_advance (C : XC p s m args meth c P A 2 RX3 cX3_advance none) (h0 : xI0 P) {n : Nat} (hn : n ≤ 700) (hl : σ.1 (.inr 2) 1 = nI n) {E : Nat} (kx : XW p l e rm_X3_advance s m args below meth c P A 2 0 0 Q (xu σ (.inr 2) 2 (nI E)) 33 [(0, .ref (P.2.2.1 (.inr 2)))] []) : ∀ (k i : Nat), i + k = n → E = cSkip (qS (σ.1 (.inr 3))) k i → XW p l e rm_X3_advance s m args below meth c P A 2 0 0 Q (xu σ (.inr 2) 2 (nI i)) 0 [(0, .ref (P.2.2.1 (.inr 2)))] [] := by
  intro k
  induction k with
  | zero =>
    intro i hi hE
    have e9 : i = n := by omega
    subst e9
    have e8 : E = i := hE
    subst e8
    have hl1 : (xu σ (.inr 2) 2 (nI E)).1 (.inr 2) 1 = nI E := by simp [xu_ap, hl]
    have hp1 : (xu σ (.inr 2) 2 (nI E)).1 (.inr 2) 2 = nI E := by simp [xu_ap]
    have hb1 : (xu σ (.inr 2) 2 (nI E)).1 (.inr 3) = σ.1 (.inr 3) := xu_ne _ _ _ (by simp)
    refine X_aload_n (pc := 0) C 0 dX3_advance_0 rfl rfl ?_
    refine G_X3_32 (pc := 1) C (by assumption) dX3_advance_1 ?_
    rw [hp1]
    refine X_aload_n (pc := 4) C 0 dX3_advance_4 rfl rfl ?_
    refine G_X3_15 (pc := 5) C (by assumption) dX3_advance_5 ?_
    rw [hl1]
    refine X_icmp_ge (pc := 8) C 33 dX3_advance_8 (by decide) (fun h8 => ?_) (fun h8 => ?_)
    · skip
      exact kx
    · exact absurd (nI_le (Nat.le_refl _) (n31 (by omega))) h8
  | succ k ih =>
    intro i hi hE
    have hlt : i < n := by omega
    have hl1 : (xu σ (.inr 2) 2 (nI i)).1 (.inr 2) 1 = nI n := by simp [xu_ap, hl]
    have hp1 : (xu σ (.inr 2) 2 (nI i)).1 (.inr 2) 2 = nI i := by simp [xu_ap]
    have hb1 : (xu σ (.inr 2) 2 (nI i)).1 (.inr 3) = σ.1 (.inr 3) := xu_ne _ _ _ (by simp)
    refine X_aload_n (pc := 0) C 0 dX3_advance_0 rfl rfl ?_
    refine G_X3_32 (pc := 1) C (by assumption) dX3_advance_1 ?_
    rw [hp1]
    refine X_aload_n (pc := 4) C 0 dX3_advance_4 rfl rfl ?_
    refine G_X3_15 (pc := 5) C (by assumption) dX3_advance_5 ?_
    rw [hl1]
    refine X_icmp_ge (pc := 8) C 33 dX3_advance_8 (by decide) (fun h8 => ?_) (fun h8 => ?_)
    · exact absurd (nle h8) (by omega)
    · skip
      refine X_aload_n (pc := 11) C 0 dX3_advance_11 rfl rfl ?_
      refine K_X3_38 (pc := 12) C (by assumption) (c_X3_peek l P (xu σ (.inr 2) 2 (nI i)) h0 n hn hl1 i (by omega) hp1) ⟨Nat.le_of_ble_eq_true rfl, Nat.le_of_ble_eq_true rfl⟩ ⟨rfl, rfl⟩ ⟨Nat.zero_le _, Nat.zero_le _⟩ (Nat.le_of_ble_eq_true rfl) dX3_advance_12 ?_
      rw [if_pos hlt, hb1]
      refine X_bipush (pc := 15) (v := 32) C dX3_advance_15 (by decide) ?_
      refine X_icmp_ne (pc := 17) C 33 dX3_advance_17 (by decide) (fun h17 => ?_) (fun h17 => ?_)
      · rw [cSkip, if_neg (by simpa [qS] using h17)] at hE
        subst hE
        exact kx
      · rw [cSkip, if_pos (by simpa [qS] using h17)] at hE
        refine X_aload_n (pc := 20) C 0 dX3_advance_20 rfl rfl ?_
        refine X_dup (pc := 21) C dX3_advance_21 rfl ?_
        refine G_X3_32 (pc := 22) C (by assumption) dX3_advance_22 ?_
        rw [hp1]
        refine X_iconst (pc := 25) (v := 1) C dX3_advance_25 (by decide) ?_
        refine X_iadd (pc := 26) C dX3_advance_26 ?_
        rw [nI_1]
        refine U_X3_32 (pc := 27) C (by assumption) dX3_advance_27 ?_
        refine X_goto (pc := 30) C 0 dX3_advance_30 (by decide) ?_
        exact XW.eq (xu_xu _ _ _ _ _) rfl rfl (ih (i + 1) (by omega) hE)

set_option maxRecDepth 100000 in
set_option maxHeartbeats 4000000 in
theorem c_X3_advance (l : Launch) (P : XP) (σ : XS) (h0 : xI0 P) (n : Nat) (hn : n ≤ 700) (hl : σ.1 (.inr 2) 1 = nI n) (p0 : Nat) (hp0 : p0 ≤ n) (hp : σ.1 (.inr 2) 2 = nI p0) (hby : ∀ i, i < n → ¬ σ.1 (.inr 3) i = -1) : XF l yX3_advance cX3_advance 2 none rm_X3_advance P [.ref (P.2.2.1 (.inr 2))] σ (none) (uAdv σ n p0) := by
  refine XM.of (by decide +kernel) (Nat.le_of_ble_eq_true rfl) (fun p e s m args below meth c A C => ?_)
  replace C : XC p s m args meth c P A 2 RX3 cX3_advance none := C
  refine XW.eq (lv' := [(0, _)]) rfl rfl rfl ?_
  have hSi : p0 ≤ cSkip (qS (σ.1 (.inr 3))) (n - p0) p0 ∧ cSkip (qS (σ.1 (.inr 3))) (n - p0) p0 ≤ p0 + (n - p0) := cSkip_in _ _ _
  refine XW.eq (xu_id hp).symm rfl rfl ?_
  refine L_X3_advance C h0 hn hl ?_ (n - p0) p0 (by omega) rfl
  have eT : tkS (σ.1 (.inr 3)) n p0 = cSkip (qS (σ.1 (.inr 3))) (n - p0) p0 := rfl
  generalize cSkip (qS (σ.1 (.inr 3))) (n - p0) p0 = S at hSi eT ⊢
  have hlS : (xu (xu σ (.inr 2) 2 (nI S)) (.inr 2) 4 (nI S)).1 (.inr 2) 1 = nI n := by simp [xu_ap, hl]
  have hpS : (xu (xu σ (.inr 2) 2 (nI S)) (.inr 2) 4 (nI S)).1 (.inr 2) 2 = nI S := by simp [xu_ap]
  have hbS : (xu (xu σ (.inr 2) 2 (nI S)) (.inr 2) 4 (nI S)).1 (.inr 3) = σ.1 (.inr 3) := by simp [xu_ne]
  refine X_aload_n (pc := 33) C 0 dX3_advance_33 rfl rfl ?_
  refine X_aload_n (pc := 34) C 0 dX3_advance_34 rfl rfl ?_
  refine G_X3_32 (pc := 35) C (by assumption) dX3_advance_35 ?_
  rw [show (xu σ (.inr 2) 2 (nI S)).1 (.inr 2) 2 = nI S from by simp [xu_ap]]
  refine U_X3_41 (pc := 38) C (by assumption) dX3_advance_38 ?_
  refine X_aload_n (pc := 41) C 0 dX3_advance_41 rfl rfl ?_
  refine K_X3_38 (pc := 42) C (by assumption) (c_X3_peek l P (xu (xu σ (.inr 2) 2 (nI S)) (.inr 2) 4 (nI S)) h0 n hn hlS S (by omega) hpS) ⟨Nat.le_of_ble_eq_true rfl, Nat.le_of_ble_eq_true rfl⟩ ⟨rfl, rfl⟩ ⟨Nat.zero_le _, Nat.zero_le _⟩ (Nat.le_of_ble_eq_true rfl) dX3_advance_42 ?_
  by_cases hS : S < n
  · rw [if_pos hS, hbS]
    refine X_istore_n (pc := 45) (lv1 := [(0, _), (1, _)]) C 1 dX3_advance_45 rfl (by decide) rfl ?_
    refine X_iload_n (pc := 46) C 1 dX3_advance_46 rfl rfl ?_
    refine X_iconst (pc := 47) (v := (-1)) C dX3_advance_47 (by decide) ?_
    refine X_icmp_ne (pc := 48) C 59 dX3_advance_48 (by decide) (fun h48 => ?_) (fun h48 => ?_)
    · skip
      refine X_iload_n (pc := 59) C 1 dX3_advance_59 rfl rfl ?_
      refine K_X3_47 (pc := 60) C (c_X3_isLetter l P _ _) ⟨Nat.le_of_ble_eq_true rfl, Nat.le_of_ble_eq_true rfl⟩ ⟨rfl, rfl⟩ ⟨Nat.zero_le _, Nat.zero_le _⟩ (Nat.le_of_ble_eq_true rfl) dX3_advance_60 ?_
      refine X_if_eq (pc := 63) C 78 dX3_advance_63 (by decide) (fun h63 => ?_) (fun h63 => ?_)
      · have g63 := bz0 h63
        refine X_iload_n (pc := 78) C 1 dX3_advance_78 rfl rfl ?_
        refine K_X3_54 (pc := 79) C (c_X3_isDigit l P _ _) ⟨Nat.le_of_ble_eq_true rfl, Nat.le_of_ble_eq_true rfl⟩ ⟨rfl, rfl⟩ ⟨Nat.zero_le _, Nat.zero_le _⟩ (Nat.le_of_ble_eq_true rfl) dX3_advance_79 ?_
        refine X_if_eq (pc := 82) C 97 dX3_advance_82 (by decide) (fun h82 => ?_) (fun h82 => ?_)
        · have g82 := bz0 h82
          refine X_aload_n (pc := 97) C 0 dX3_advance_97 rfl rfl ?_
          refine X_iload_n (pc := 98) C 1 dX3_advance_98 rfl rfl ?_
          refine X_bipush (pc := 99) (v := 59) C dX3_advance_99 (by decide) ?_
          refine X_icmp_ne (pc := 101) C 108 dX3_advance_101 (by decide) (fun h101 => ?_) (fun h101 => ?_)
          · skip
            refine X_iconst (pc := 108) (v := 4) C dX3_advance_108 (by decide) ?_
            refine U_X3_44 (pc := 109) C (by assumption) dX3_advance_109 ?_
            refine X_aload_n (pc := 112) C 0 dX3_advance_112 rfl rfl ?_
            refine X_dup (pc := 113) C dX3_advance_113 rfl ?_
            refine G_X3_32 (pc := 114) C (by assumption) dX3_advance_114 ?_
            first | rw [show (xu (xu (xu σ (.inr 2) 2 (nI S)) (.inr 2) 4 (nI S)) (.inr 2) 3 3).1 (.inr 2) 2 = nI S from by simp [xu_ap]] | rw [show (xu (xu (xu σ (.inr 2) 2 (nI S)) (.inr 2) 4 (nI S)) (.inr 2) 3 4).1 (.inr 2) 2 = nI S from by simp [xu_ap]]
            refine X_iconst (pc := 117) (v := 1) C dX3_advance_117 (by decide) ?_
            refine X_iadd (pc := 118) C dX3_advance_118 ?_
            rw [nI_1]
            refine U_X3_32 (pc := 119) C (by assumption) dX3_advance_119 ?_
            exact X_vret (pc := 122) C (Nat.zero_le _) (Nat.zero_le _) dX3_advance_122 ⟨rfl, by
          first
          | (rw [uAdv, tkE, tkK, tkN, eT, if_pos hS, if_pos hS, if_pos g63, if_pos g63, if_neg (fun q => q.2.1 g63)]; exact uTok_eq (by simp [xu_ap]) (by simp [xu_ap]) (by simp [xu_ap]) (by simp [xu_ap]) (fun n a b c d => by simp [xu_ap, a, b, c, d]) (fun j hj => by simp [xu_ne, hj]) rfl)
          | (rw [uAdv, tkE, tkK, tkN, eT, if_pos hS, if_pos hS, if_neg g63, if_neg g63, if_pos g82, if_pos g82, if_pos ⟨hS, g63, g82⟩]; exact uTok_eq (by simp [xu_ap]) (by simp [xu_ap]) (by simp [xu_ap]) (by simp [xu_ap]) (fun n a b c d => by simp [xu_ap, a, b, c, d]) (fun j hj => by simp [xu_ne, hj]) rfl)
          | (rw [uAdv, tkE, tkK, tkN, eT, if_pos hS, if_pos hS, if_neg g63, if_neg g63, if_neg g82, if_neg g82, if_pos h101, if_neg (fun q => g82 q.2.2)]; exact uTok_eq (by simp [xu_ap]) (by simp [xu_ap]) (by simp [xu_ap]) (by simp [xu_ap]) (fun n a b c d => by simp [xu_ap, a, b, c, d]) (fun j hj => by simp [xu_ne, hj]) rfl)
          | (rw [uAdv, tkE, tkK, tkN, eT, if_pos hS, if_pos hS, if_neg g63, if_neg g63, if_neg g82, if_neg g82, if_neg h101, if_neg (fun q => g82 q.2.2)]; exact uTok_eq (by simp [xu_ap]) (by simp [xu_ap]) (by simp [xu_ap]) (by simp [xu_ap]) (fun n a b c d => by simp [xu_ap, a, b, c, d]) (fun j hj => by simp [xu_ne, hj]) rfl)⟩
          · skip
            refine X_iconst (pc := 104) (v := 3) C dX3_advance_104 (by decide) ?_
            refine X_goto (pc := 105) C 109 dX3_advance_105 (by decide) ?_
            refine U_X3_44 (pc := 109) C (by assumption) dX3_advance_109 ?_
            refine X_aload_n (pc := 112) C 0 dX3_advance_112 rfl rfl ?_
            refine X_dup (pc := 113) C dX3_advance_113 rfl ?_
            refine G_X3_32 (pc := 114) C (by assumption) dX3_advance_114 ?_
            first | rw [show (xu (xu (xu σ (.inr 2) 2 (nI S)) (.inr 2) 4 (nI S)) (.inr 2) 3 3).1 (.inr 2) 2 = nI S from by simp [xu_ap]] | rw [show (xu (xu (xu σ (.inr 2) 2 (nI S)) (.inr 2) 4 (nI S)) (.inr 2) 3 4).1 (.inr 2) 2 = nI S from by simp [xu_ap]]
            refine X_iconst (pc := 117) (v := 1) C dX3_advance_117 (by decide) ?_
            refine X_iadd (pc := 118) C dX3_advance_118 ?_
            rw [nI_1]
            refine U_X3_32 (pc := 119) C (by assumption) dX3_advance_119 ?_
            exact X_vret (pc := 122) C (Nat.zero_le _) (Nat.zero_le _) dX3_advance_122 ⟨rfl, by
          first
          | (rw [uAdv, tkE, tkK, tkN, eT, if_pos hS, if_pos hS, if_pos g63, if_pos g63, if_neg (fun q => q.2.1 g63)]; exact uTok_eq (by simp [xu_ap]) (by simp [xu_ap]) (by simp [xu_ap]) (by simp [xu_ap]) (fun n a b c d => by simp [xu_ap, a, b, c, d]) (fun j hj => by simp [xu_ne, hj]) rfl)
          | (rw [uAdv, tkE, tkK, tkN, eT, if_pos hS, if_pos hS, if_neg g63, if_neg g63, if_pos g82, if_pos g82, if_pos ⟨hS, g63, g82⟩]; exact uTok_eq (by simp [xu_ap]) (by simp [xu_ap]) (by simp [xu_ap]) (by simp [xu_ap]) (fun n a b c d => by simp [xu_ap, a, b, c, d]) (fun j hj => by simp [xu_ne, hj]) rfl)
          | (rw [uAdv, tkE, tkK, tkN, eT, if_pos hS, if_pos hS, if_neg g63, if_neg g63, if_neg g82, if_neg g82, if_pos h101, if_neg (fun q => g82 q.2.2)]; exact uTok_eq (by simp [xu_ap]) (by simp [xu_ap]) (by simp [xu_ap]) (by simp [xu_ap]) (fun n a b c d => by simp [xu_ap, a, b, c, d]) (fun j hj => by simp [xu_ne, hj]) rfl)
          | (rw [uAdv, tkE, tkK, tkN, eT, if_pos hS, if_pos hS, if_neg g63, if_neg g63, if_neg g82, if_neg g82, if_neg h101, if_neg (fun q => g82 q.2.2)]; exact uTok_eq (by simp [xu_ap]) (by simp [xu_ap]) (by simp [xu_ap]) (by simp [xu_ap]) (fun n a b c d => by simp [xu_ap, a, b, c, d]) (fun j hj => by simp [xu_ne, hj]) rfl)⟩
        · have g82 := bz1 h82
          refine X_aload_n (pc := 85) C 0 dX3_advance_85 rfl rfl ?_
          refine X_iconst (pc := 86) (v := 2) C dX3_advance_86 (by decide) ?_
          refine U_X3_44 (pc := 87) C (by assumption) dX3_advance_87 ?_
          refine X_aload_n (pc := 90) C 0 dX3_advance_90 rfl rfl ?_
          refine K_X3_57 (pc := 91) C (by assumption) (by have h := c_X3_scanNumber l P (xu (xu (xu σ (.inr 2) 2 (nI S)) (.inr 2) 4 (nI S)) (.inr 2) 3 2) h0 n hn (by simp [xu_ap, hl]) S (Nat.le_of_lt hS) (by simp [xu_ap]); rw [show (xu (xu (xu σ (.inr 2) 2 (nI S)) (.inr 2) 4 (nI S)) (.inr 2) 3 2).1 (.inr 3) = σ.1 (.inr 3) from by simp [xu_ne]] at h; exact h) ⟨Nat.le_of_ble_eq_true rfl, Nat.le_of_ble_eq_true rfl⟩ ⟨rfl, rfl⟩ ⟨Nat.zero_le _, Nat.zero_le _⟩ (Nat.le_of_ble_eq_true rfl) dX3_advance_91 ?_
          refine X_goto (pc := 94) C 122 dX3_advance_94 (by decide) ?_
          exact X_vret (pc := 122) C (Nat.zero_le _) (Nat.zero_le _) dX3_advance_122 ⟨rfl, by
          first
          | (rw [uAdv, tkE, tkK, tkN, eT, if_pos hS, if_pos hS, if_pos g63, if_pos g63, if_neg (fun q => q.2.1 g63)]; exact uTok_eq (by simp [xu_ap]) (by simp [xu_ap]) (by simp [xu_ap]) (by simp [xu_ap]) (fun n a b c d => by simp [xu_ap, a, b, c, d]) (fun j hj => by simp [xu_ne, hj]) rfl)
          | (rw [uAdv, tkE, tkK, tkN, eT, if_pos hS, if_pos hS, if_neg g63, if_neg g63, if_pos g82, if_pos g82, if_pos ⟨hS, g63, g82⟩]; exact uTok_eq (by simp [xu_ap]) (by simp [xu_ap]) (by simp [xu_ap]) (by simp [xu_ap]) (fun n a b c d => by simp [xu_ap, a, b, c, d]) (fun j hj => by simp [xu_ne, hj]) rfl)
          | (rw [uAdv, tkE, tkK, tkN, eT, if_pos hS, if_pos hS, if_neg g63, if_neg g63, if_neg g82, if_neg g82, if_pos h101, if_neg (fun q => g82 q.2.2)]; exact uTok_eq (by simp [xu_ap]) (by simp [xu_ap]) (by simp [xu_ap]) (by simp [xu_ap]) (fun n a b c d => by simp [xu_ap, a, b, c, d]) (fun j hj => by simp [xu_ne, hj]) rfl)
          | (rw [uAdv, tkE, tkK, tkN, eT, if_pos hS, if_pos hS, if_neg g63, if_neg g63, if_neg g82, if_neg g82, if_neg h101, if_neg (fun q => g82 q.2.2)]; exact uTok_eq (by simp [xu_ap]) (by simp [xu_ap]) (by simp [xu_ap]) (by simp [xu_ap]) (fun n a b c d => by simp [xu_ap, a, b, c, d]) (fun j hj => by simp [xu_ne, hj]) rfl)⟩
      · have g63 := bz1 h63
        refine X_aload_n (pc := 66) C 0 dX3_advance_66 rfl rfl ?_
        refine X_iconst (pc := 67) (v := 1) C dX3_advance_67 (by decide) ?_
        refine U_X3_44 (pc := 68) C (by assumption) dX3_advance_68 ?_
        refine X_aload_n (pc := 71) C 0 dX3_advance_71 rfl rfl ?_
        refine K_X3_51 (pc := 72) C (by assumption) (by have h := c_X3_skipWord l P (xu (xu (xu σ (.inr 2) 2 (nI S)) (.inr 2) 4 (nI S)) (.inr 2) 3 1) h0 n hn (by simp [xu_ap, hl]) S (Nat.le_of_lt hS) (by simp [xu_ap]); rw [show (xu (xu (xu σ (.inr 2) 2 (nI S)) (.inr 2) 4 (nI S)) (.inr 2) 3 1).1 (.inr 3) = σ.1 (.inr 3) from by simp [xu_ne]] at h; exact h) ⟨Nat.le_of_ble_eq_true rfl, Nat.le_of_ble_eq_true rfl⟩ ⟨rfl, rfl⟩ ⟨Nat.zero_le _, Nat.zero_le _⟩ (Nat.le_of_ble_eq_true rfl) dX3_advance_72 ?_
        refine X_goto (pc := 75) C 122 dX3_advance_75 (by decide) ?_
        exact X_vret (pc := 122) C (Nat.zero_le _) (Nat.zero_le _) dX3_advance_122 ⟨rfl, by
          first
          | (rw [uAdv, tkE, tkK, tkN, eT, if_pos hS, if_pos hS, if_pos g63, if_pos g63, if_neg (fun q => q.2.1 g63)]; exact uTok_eq (by simp [xu_ap]) (by simp [xu_ap]) (by simp [xu_ap]) (by simp [xu_ap]) (fun n a b c d => by simp [xu_ap, a, b, c, d]) (fun j hj => by simp [xu_ne, hj]) rfl)
          | (rw [uAdv, tkE, tkK, tkN, eT, if_pos hS, if_pos hS, if_neg g63, if_neg g63, if_pos g82, if_pos g82, if_pos ⟨hS, g63, g82⟩]; exact uTok_eq (by simp [xu_ap]) (by simp [xu_ap]) (by simp [xu_ap]) (by simp [xu_ap]) (fun n a b c d => by simp [xu_ap, a, b, c, d]) (fun j hj => by simp [xu_ne, hj]) rfl)
          | (rw [uAdv, tkE, tkK, tkN, eT, if_pos hS, if_pos hS, if_neg g63, if_neg g63, if_neg g82, if_neg g82, if_pos h101, if_neg (fun q => g82 q.2.2)]; exact uTok_eq (by simp [xu_ap]) (by simp [xu_ap]) (by simp [xu_ap]) (by simp [xu_ap]) (fun n a b c d => by simp [xu_ap, a, b, c, d]) (fun j hj => by simp [xu_ne, hj]) rfl)
          | (rw [uAdv, tkE, tkK, tkN, eT, if_pos hS, if_pos hS, if_neg g63, if_neg g63, if_neg g82, if_neg g82, if_neg h101, if_neg (fun q => g82 q.2.2)]; exact uTok_eq (by simp [xu_ap]) (by simp [xu_ap]) (by simp [xu_ap]) (by simp [xu_ap]) (fun n a b c d => by simp [xu_ap, a, b, c, d]) (fun j hj => by simp [xu_ne, hj]) rfl)⟩
    · exact absurd h48 (hby S hS)
  · rw [if_neg hS]
    refine X_istore_n (pc := 45) (lv1 := [(0, _), (1, _)]) C 1 dX3_advance_45 rfl (by decide) rfl ?_
    refine X_iload_n (pc := 46) C 1 dX3_advance_46 rfl rfl ?_
    refine X_iconst (pc := 47) (v := (-1)) C dX3_advance_47 (by decide) ?_
    refine X_icmp_ne (pc := 48) C 59 dX3_advance_48 (by decide) (fun h48 => ?_) (fun h48 => ?_)
    · exact absurd rfl h48
    · skip
      refine X_aload_n (pc := 51) C 0 dX3_advance_51 rfl rfl ?_
      refine X_iconst (pc := 52) (v := 0) C dX3_advance_52 (by decide) ?_
      refine U_X3_44 (pc := 53) C (by assumption) dX3_advance_53 ?_
      refine X_goto (pc := 56) C 122 dX3_advance_56 (by decide) ?_
      exact X_vret (pc := 122) C (Nat.zero_le _) (Nat.zero_le _) dX3_advance_122 ⟨rfl, by
            rw [uAdv, tkE, tkK, tkN, eT, if_neg hS, if_neg hS, if_neg (fun q => hS q.1)]
            exact uTok_eq (by simp [xu_ap]) (by simp [xu_ap]) (by simp [xu_ap]) (by simp [xu_ap]) (fun n a b c d => by simp [xu_ap, a, b, c, d]) (fun j hj => by simp [xu_ne, hj]) rfl⟩

set_option maxRecDepth 100000 in
set_option maxHeartbeats 4000000 in
theorem c_X3_rewind (l : Launch) (P : XP) (σ : XS) (h0 : xI0 P) (n : Nat) (hn : n ≤ 700) (hl : σ.1 (.inr 2) 1 = nI n) (hby : ∀ i, i < n → ¬ σ.1 (.inr 3) i = -1) : XF l yX3_rewind cX3_rewind 1 none rm_X3_rewind P [.ref (P.2.2.1 (.inr 2))] σ (none) (uAdv (xu σ (.inr 2) 2 0) n 0) := by
  refine XM.of (by decide +kernel) (Nat.le_of_ble_eq_true rfl) (fun p e s m args below meth c A C => ?_)
  replace C : XC p s m args meth c P A 1 RX3 cX3_rewind none := C
  refine XW.eq (lv' := [(0, _)]) rfl rfl rfl ?_
  refine X_aload_n (pc := 0) C 0 dX3_rewind_0 rfl rfl ?_
  refine X_iconst (pc := 1) (v := 0) C dX3_rewind_1 (by decide) ?_
  refine U_X3_32 (pc := 2) C (by assumption) dX3_rewind_2 ?_
  refine X_aload_n (pc := 5) C 0 dX3_rewind_5 rfl rfl ?_
  refine K_X3_35 (pc := 6) C (by assumption) (c_X3_advance l P (xu σ (.inr 2) 2 0) h0 n hn (by simp [xu_ap, hl]) 0 (Nat.zero_le _) (by simp [xu_ap]; rfl) (fun i hi => by rw [xu_ne _ _ _ (by simp)]; exact hby i hi)) ⟨Nat.le_of_ble_eq_true rfl, Nat.le_of_ble_eq_true rfl⟩ ⟨rfl, rfl⟩ ⟨Nat.zero_le _, Nat.zero_le _⟩ (Nat.le_of_ble_eq_true rfl) dX3_rewind_6 ?_
  exact X_vret (pc := 9) C (Nat.zero_le _) (Nat.zero_le _) dX3_rewind_9 ⟨rfl, rfl⟩

set_option maxRecDepth 100000 in
set_option maxHeartbeats 4000000 in
theorem c_X3_wordLength (l : Launch) (P : XP) (σ : XS) (h0 : xI0 P) (kd : Int32) (s0 e0 : Nat) (hk : σ.1 (.inr 2) 3 = kd) (hs : σ.1 (.inr 2) 4 = nI s0) (he : σ.1 (.inr 2) 2 = nI e0) (hse : s0 ≤ e0) (hee : e0 ≤ 700) : XF l yX3_wordLength cX3_wordLength 1 (some .int) rm_X3_wordLength P [.ref (P.2.2.1 (.inr 2))] σ (some (.int (nI (wL kd s0 e0)))) (σ) := by
  refine XM.of (by decide +kernel) (Nat.le_of_ble_eq_true rfl) (fun p e s m args below meth c A C => ?_)
  replace C : XC p s m args meth c P A 1 RX3 cX3_wordLength (some .int) := C
  refine XW.eq (lv' := [(0, _)]) rfl rfl rfl ?_
  refine X_aload_n (pc := 0) C 0 dX3_wordLength_0 rfl rfl ?_
  refine G_X3_44 (pc := 1) C (by assumption) dX3_wordLength_1 ?_
  rw [hk]
  refine X_iconst (pc := 4) (v := 1) C dX3_wordLength_4 (by decide) ?_
  refine X_icmp_ne (pc := 5) C 20 dX3_wordLength_5 (by decide) (fun h5 => ?_) (fun h5 => ?_)
  · skip
    refine X_iconst (pc := 20) (v := 0) C dX3_wordLength_20 (by decide) ?_
    exact X_iret (pc := 21) C (Nat.zero_le _) (Nat.zero_le _) dX3_wordLength_21 ⟨by rw [wL, if_neg h5]; rfl, rfl⟩
  · skip
    refine X_aload_n (pc := 8) C 0 dX3_wordLength_8 rfl rfl ?_
    refine G_X3_32 (pc := 9) C (by assumption) dX3_wordLength_9 ?_
    rw [he]
    refine X_aload_n (pc := 12) C 0 dX3_wordLength_12 rfl rfl ?_
    refine G_X3_41 (pc := 13) C (by assumption) dX3_wordLength_13 ?_
    rw [hs]
    refine X_isub (pc := 16) C dX3_wordLength_16 ?_
    refine X_goto (pc := 17) C 21 dX3_wordLength_17 (by decide) ?_
    exact X_iret (pc := 21) C (Nat.zero_le _) (Nat.zero_le _) dX3_wordLength_21 ⟨by rw [wL, if_pos h5, pk_sub hse], rfl⟩

theorem wL_le {kd : Int32} {s0 e0 : Nat} : wL kd s0 e0 ≤ e0 - s0 := by
  unfold wL
  split <;> omega
theorem wC_in {f : Nat → Int32} {kd : Int32} {s0 e0 j : Nat} (h : j < wL kd s0 e0) : wC f kd s0 e0 j = f (s0 + j) := if_pos h
theorem wC_out {f : Nat → Int32} {kd : Int32} {s0 e0 j : Nat} (h : ¬ j < wL kd s0 e0) : wC f kd s0 e0 j = 0 := if_neg h
set_option maxRecDepth 100000 in
set_option maxHeartbeats 4000000 in
theorem c_X3_letterAt (l : Launch) (P : XP) (σ : XS) (h0 : xI0 P) (kd : Int32) (s0 e0 : Nat) (hk : σ.1 (.inr 2) 3 = kd) (hs : σ.1 (.inr 2) 4 = nI s0) (he : σ.1 (.inr 2) 2 = nI e0) (hse : s0 ≤ e0) (hee : e0 ≤ 700) (j : Nat) (hj : j ≤ 1000) : XF l yX3_letterAt cX3_letterAt 2 (some .int) rm_X3_letterAt P [.ref (P.2.2.1 (.inr 2)), .int (nI j)] σ (some (.int (wC (σ.1 (.inr 3)) kd s0 e0 j))) (σ) := by
  refine XM.of (by decide +kernel) (Nat.le_of_ble_eq_true rfl) (fun p e s m args below meth c A C => ?_)
  replace C : XC p s m args meth c P A 2 RX3 cX3_letterAt (some .int) := C
  refine XW.eq (lv' := [(0, _), (1, _)]) rfl rfl rfl ?_
  refine X_iload_n (pc := 0) C 1 dX3_letterAt_0 rfl rfl ?_
  refine X_if_lt (pc := 1) C 38 dX3_letterAt_1 (by decide) (fun h1 => ?_) (fun h1 => ?_)
  · exact absurd h1 (nI_pos (n31 (by omega)))
  · skip
    refine X_iload_n (pc := 4) C 1 dX3_letterAt_4 rfl rfl ?_
    refine X_aload_n (pc := 5) C 0 dX3_letterAt_5 rfl rfl ?_
    refine K_X3_64 (pc := 6) C (by assumption) (c_X3_wordLength l P σ h0 kd s0 e0 hk hs he hse hee) ⟨Nat.le_of_ble_eq_true rfl, Nat.le_of_ble_eq_true rfl⟩ ⟨rfl, rfl⟩ ⟨Nat.zero_le _, Nat.zero_le _⟩ (Nat.le_of_ble_eq_true rfl) dX3_letterAt_6 ?_
    refine X_icmp_ge (pc := 9) C 38 dX3_letterAt_9 (by decide) (fun h9 => ?_) (fun h9 => ?_)
    · have g9 := nle h9 (by have := @wL_le kd s0 e0; omega)
      refine X_iconst (pc := 38) (v := 0) C dX3_letterAt_38 (by decide) ?_
      exact X_iret (pc := 39) C (Nat.zero_le _) (Nat.zero_le _) dX3_letterAt_39 ⟨by rw [wC_out (by omega)], rfl⟩
    · have g9 := nnle h9 (by have := @wL_le kd s0 e0; omega)
      refine X_aload_n (pc := 12) C 0 dX3_letterAt_12 rfl rfl ?_
      refine G_X3_41 (pc := 13) C (by assumption) dX3_letterAt_13 ?_
      rw [hs]
      refine X_iload_n (pc := 16) C 1 dX3_letterAt_16 rfl rfl ?_
      refine X_iadd (pc := 17) C dX3_letterAt_17 ?_
      rw [nI_add]
      refine X_sipush (pc := 18) (v := 700) C dX3_letterAt_18 (by decide) ?_
      refine X_icmp_ge (pc := 21) C 38 dX3_letterAt_21 (by decide) (fun h21 => ?_) (fun h21 => ?_)
      · exact absurd (nle (a := 700) (b := s0 + j) h21) (by have := @wL_le kd s0 e0; omega)
      · skip
        refine X_aload_n (pc := 24) C 0 dX3_letterAt_24 rfl rfl ?_
        refine G_X3_9 (pc := 25) C (by assumption) dX3_letterAt_25 ?_
        refine X_aload_n (pc := 28) C 0 dX3_letterAt_28 rfl rfl ?_
        refine G_X3_41 (pc := 29) C (by assumption) dX3_letterAt_29 ?_
        rw [hs]
        refine X_iload_n (pc := 32) C 1 dX3_letterAt_32 rfl rfl ?_
        refine X_iadd (pc := 33) C dX3_letterAt_33 ?_
        rw [nI_add]
        refine X_ialdN (pc := 34) C (by first | exact h0 _ (by decide)) rfl (by have := @wL_le kd s0 e0; omega) (by decide) dX3_letterAt_34 ?_
        refine X_goto (pc := 35) C 39 dX3_letterAt_35 (by decide) ?_
        exact X_iret (pc := 39) C (Nat.zero_le _) (Nat.zero_le _) dX3_letterAt_39 ⟨by rw [wC_in g9], rfl⟩

set_option maxRecDepth 100000 in
set_option maxHeartbeats 4000000 in
theorem c_X3_isName (l : Launch) (P : XP) (σ : XS) (h0 : xI0 P) (kd : Int32) (s0 e0 : Nat) (hk : σ.1 (.inr 2) 3 = kd) (hs : σ.1 (.inr 2) 4 = nI s0) (he : σ.1 (.inr 2) 2 = nI e0) (hse : s0 ≤ e0) (hee : e0 ≤ 700) : XF l yX3_isName cX3_isName 1 (some .boolean) rm_X3_isName P [.ref (P.2.2.1 (.inr 2))] σ (some (.int (if kd = 1 ∧ e0 - s0 ≤ 6 then 1 else 0))) (σ) := by
  refine XM.of (by decide +kernel) (Nat.le_of_ble_eq_true rfl) (fun p e s m args below meth c A C => ?_)
  replace C : XC p s m args meth c P A 1 RX3 cX3_isName (some .boolean) := C
  refine XW.eq (lv' := [(0, _)]) rfl rfl rfl ?_
  refine X_aload_n (pc := 0) C 0 dX3_isName_0 rfl rfl ?_
  refine G_X3_44 (pc := 1) C (by assumption) dX3_isName_1 ?_
  rw [hk]
  refine X_iconst (pc := 4) (v := 1) C dX3_isName_4 (by decide) ?_
  refine X_icmp_ne (pc := 5) C 21 dX3_isName_5 (by decide) (fun h5 => ?_) (fun h5 => ?_)
  · skip
    refine X_iconst (pc := 21) (v := 0) C dX3_isName_21 (by decide) ?_
    exact X_zret (pc := 22) C (Nat.zero_le _) (Nat.zero_le _) (rfl) dX3_isName_22 ⟨by rw [if_neg (fun q => h5 q.1)], rfl⟩
  · skip
    refine X_aload_n (pc := 8) C 0 dX3_isName_8 rfl rfl ?_
    refine K_X3_64 (pc := 9) C (by assumption) (c_X3_wordLength l P σ h0 kd s0 e0 hk hs he hse hee) ⟨Nat.le_of_ble_eq_true rfl, Nat.le_of_ble_eq_true rfl⟩ ⟨rfl, rfl⟩ ⟨Nat.zero_le _, Nat.zero_le _⟩ (Nat.le_of_ble_eq_true rfl) dX3_isName_9 ?_
    rw [show wL kd s0 e0 = e0 - s0 from if_pos h5]
    refine X_bipush (pc := 12) (v := 6) C dX3_isName_12 (by decide) ?_
    refine X_icmp_gt (pc := 14) C 21 dX3_isName_14 (by decide) (fun h14 => ?_) (fun h14 => ?_)
    · skip
      refine X_iconst (pc := 21) (v := 0) C dX3_isName_21 (by decide) ?_
      exact X_zret (pc := 22) C (Nat.zero_le _) (Nat.zero_le _) (rfl) dX3_isName_22 ⟨by rw [if_neg (fun q => absurd (nlt (a := 6) h14 (by omega) (by omega)) (by omega))], rfl⟩
    · skip
      refine X_iconst (pc := 17) (v := 1) C dX3_isName_17 (by decide) ?_
      refine X_goto (pc := 18) C 22 dX3_isName_18 (by decide) ?_
      exact X_zret (pc := 22) C (Nat.zero_le _) (Nat.zero_le _) (rfl) dX3_isName_22 ⟨by rw [if_pos ⟨h5, nnlt (b := e0 - s0) (a := 6) h14 (by omega) (by omega)⟩], rfl⟩

set_option maxRecDepth 100000 in
set_option maxHeartbeats 4000000 in
theorem L_X3_wordAsName (C : XC p s m args meth c P A 4 RX3 cX3_wordAsName (some .long)) (h0 : xI0 P) {kd : Int32} {s0 e0 : Nat} (hk : σ.1 (.inr 2) 3 = kd) (hs : σ.1 (.inr 2) 4 = nI s0) (he : σ.1 (.inr 2) 2 = nI e0) (hse : s0 ≤ e0) (hee : e0 ≤ 700) (kx : XW p l e rm_X3_wordAsName s m args below meth c P A 4 0 0 Q σ 30 [(0, .ref (P.2.2.1 (.inr 2))), (1, .long (xnm (wC (σ.1 (.inr 3)) kd s0 e0) 6)), (3, .int (nI 6))] []) : ∀ (k i : Nat), i + k = 6 → XW p l e rm_X3_wordAsName s m args below meth c P A 4 0 0 Q σ 4 [(0, .ref (P.2.2.1 (.inr 2))), (1, .long (xnm (wC (σ.1 (.inr 3)) kd s0 e0) i)), (3, .int (nI i))] [] := by
  intro k
  induction k with
  | zero =>
    intro i hi
    obtain rfl : i = 6 := by omega
    refine X_iload_n (pc := 4) C 3 dX3_wordAsName_4 rfl rfl ?_
    refine X_bipush (pc := 5) (v := 6) C dX3_wordAsName_5 (by decide) ?_
    refine X_icmp_ge (pc := 7) C 30 dX3_wordAsName_7 (by decide) (fun h7 => ?_) (fun h7 => ?_)
    · skip
      exact kx
    · exact absurd (nI_le (a := 6) (b := 6) (Nat.le_refl _) (by decide)) h7
  | succ k ih =>
    intro i hi
    have hlt : i < 6 := by omega
    refine X_iload_n (pc := 4) C 3 dX3_wordAsName_4 rfl rfl ?_
    refine X_bipush (pc := 5) (v := 6) C dX3_wordAsName_5 (by decide) ?_
    refine X_icmp_ge (pc := 7) C 30 dX3_wordAsName_7 (by decide) (fun h7 => ?_) (fun h7 => ?_)
    · exact absurd (nle (a := 6) (b := i) h7) (by omega)
    · skip
      refine X_lload_n (pc := 10) C 1 dX3_wordAsName_10 rfl rfl ?_
      refine X_aload_n (pc := 11) C 0 dX3_wordAsName_11 rfl rfl ?_
      refine X_iload_n (pc := 12) C 3 dX3_wordAsName_12 rfl rfl ?_
      refine K_X3_67 (pc := 13) C (by assumption) (c_X3_letterAt l P σ h0 kd s0 e0 hk hs he hse hee i (by omega)) ⟨Nat.le_of_ble_eq_true rfl, Nat.le_of_ble_eq_true rfl⟩ ⟨rfl, rfl⟩ ⟨Nat.zero_le _, Nat.zero_le _⟩ (Nat.le_of_ble_eq_true rfl) dX3_wordAsName_13 ?_
      refine X_i2l (pc := 16) C dX3_wordAsName_16 ?_
      refine X_bipush (pc := 17) (v := 8) C dX3_wordAsName_17 (by decide) ?_
      refine X_iload_n (pc := 19) C 3 dX3_wordAsName_19 rfl rfl ?_
      refine X_imul (pc := 20) C dX3_wordAsName_20 ?_
      refine X_lshl (pc := 21) C dX3_wordAsName_21 ?_
      refine X_lor (pc := 22) C dX3_wordAsName_22 ?_
      refine X_lstore_n (pc := 23) (lv1 := [(0, _), (1, _), (3, _)]) C 1 dX3_wordAsName_23 rfl (by decide) rfl ?_
      first | refine X_iincN (pc := 24) (lv1 := [(0, _), (1, _), (3, _)]) C dX3_wordAsName_24 rfl (by decide) (by decide) rfl ?_ | refine X_iinc (pc := 24) (kk := 1) (lv1 := [(0, _), (1, _), (3, _)]) C dX3_wordAsName_24 rfl (by decide) (by decide) rfl ?_
      refine X_goto (pc := 27) C 4 dX3_wordAsName_27 (by decide) ?_
      exact ih (i + 1) (by omega)

set_option maxRecDepth 100000 in
set_option maxHeartbeats 4000000 in
theorem c_X3_wordAsName (l : Launch) (P : XP) (σ : XS) (h0 : xI0 P) (kd : Int32) (s0 e0 : Nat) (hk : σ.1 (.inr 2) 3 = kd) (hs : σ.1 (.inr 2) 4 = nI s0) (he : σ.1 (.inr 2) 2 = nI e0) (hse : s0 ≤ e0) (hee : e0 ≤ 700) : XF l yX3_wordAsName cX3_wordAsName 4 (some .long) rm_X3_wordAsName P [.ref (P.2.2.1 (.inr 2))] σ (some (.long (xnm (wC (σ.1 (.inr 3)) kd s0 e0) 6))) (σ) := by
  refine XM.of (by decide +kernel) (Nat.le_of_ble_eq_true rfl) (fun p e s m args below meth c A C => ?_)
  replace C : XC p s m args meth c P A 4 RX3 cX3_wordAsName (some .long) := C
  refine XW.eq (lv' := [(0, _)]) rfl rfl rfl ?_
  refine X_lconst (pc := 0) (v := 0) C dX3_wordAsName_0 (by decide) ?_
  refine X_lstore_n (pc := 1) (lv1 := [(0, _), (1, _)]) C 1 dX3_wordAsName_1 rfl (by decide) rfl ?_
  refine X_iconst (pc := 2) (v := 0) C dX3_wordAsName_2 (by decide) ?_
  refine X_istore_n (pc := 3) (lv1 := [(0, _), (1, _), (3, _)]) C 3 dX3_wordAsName_3 rfl (by decide) rfl ?_
  refine L_X3_wordAsName C h0 hk hs he hse hee ?_ 6 0 (by omega)
  refine X_lload_n (pc := 30) C 1 dX3_wordAsName_30 rfl rfl ?_
  exact X_lret (pc := 31) C (Nat.zero_le _) (Nat.zero_le _) dX3_wordAsName_31 ⟨rfl, rfl⟩

set_option maxRecDepth 100000 in
set_option maxHeartbeats 4000000 in
theorem L_X3_wordAsCode {Post : Option Value → XS → Prop} {mc ms : Nat} (C : XC p s m args meth c P A 3 RX3 cX3_wordAsCode (some .int)) (h0 : xI0 P) {kd : Int32} {s0 e0 : Nat} (hk : σ.1 (.inr 2) 3 = kd) (hs : σ.1 (.inr 2) 4 = nI s0) (he : σ.1 (.inr 2) 2 = nI e0) (hse : s0 ≤ e0) (hee : e0 ≤ 700) (h1 : kd = 1) : ∀ (k i : Nat) (a : Int32), i + k = e0 - s0 → Post (some (.int (xcod (wC (σ.1 (.inr 3)) kd s0 e0) k i a))) σ → XW p l e rm_X3_wordAsCode s m args below meth c P A 3 0 0 (MQ below (XQ P A Post) args s mc ms A) σ 22 [(0, .ref (P.2.2.1 (.inr 2))), (1, .int a), (2, .int (nI i))] [] := by
  have hw : wL kd s0 e0 = e0 - s0 := if_pos h1
  intro k
  induction k with
  | zero =>
    intro i a hi hp
    refine X_iload_n (pc := 22) C 2 dX3_wordAsCode_22 rfl rfl ?_
    refine X_aload_n (pc := 23) C 0 dX3_wordAsCode_23 rfl rfl ?_
    refine K_X3_64 (pc := 24) C (by assumption) (c_X3_wordLength l P σ h0 kd s0 e0 hk hs he hse hee) ⟨Nat.le_of_ble_eq_true rfl, Nat.le_of_ble_eq_true rfl⟩ ⟨rfl, rfl⟩ ⟨Nat.zero_le _, Nat.zero_le _⟩ (Nat.le_of_ble_eq_true rfl) dX3_wordAsCode_24 ?_
    rw [hw]
    refine X_icmp_ge (pc := 27) C 78 dX3_wordAsCode_27 (by decide) (fun h27 => ?_) (fun h27 => ?_)
    · skip
      refine X_iload_n (pc := 78) C 1 dX3_wordAsCode_78 rfl rfl ?_
      exact X_iret (pc := 79) C (Nat.zero_le _) (Nat.zero_le _) dX3_wordAsCode_79 hp
    · exact absurd (nI_le (show e0 - s0 ≤ i by omega) (n31 (by omega))) h27
  | succ k ih =>
    intro i a hi hp
    have hlt : i < e0 - s0 := by omega
    refine X_iload_n (pc := 22) C 2 dX3_wordAsCode_22 rfl rfl ?_
    refine X_aload_n (pc := 23) C 0 dX3_wordAsCode_23 rfl rfl ?_
    refine K_X3_64 (pc := 24) C (by assumption) (c_X3_wordLength l P σ h0 kd s0 e0 hk hs he hse hee) ⟨Nat.le_of_ble_eq_true rfl, Nat.le_of_ble_eq_true rfl⟩ ⟨rfl, rfl⟩ ⟨Nat.zero_le _, Nat.zero_le _⟩ (Nat.le_of_ble_eq_true rfl) dX3_wordAsCode_24 ?_
    rw [hw]
    refine X_icmp_ge (pc := 27) C 78 dX3_wordAsCode_27 (by decide) (fun h27 => ?_) (fun h27 => ?_)
    · exact absurd (nle h27 (by omega) (by omega)) (by omega)
    · skip
      refine X_aload_n (pc := 30) C 0 dX3_wordAsCode_30 rfl rfl ?_
      refine X_iload_n (pc := 31) C 2 dX3_wordAsCode_31 rfl rfl ?_
      refine K_X3_67 (pc := 32) C (by assumption) (c_X3_letterAt l P σ h0 kd s0 e0 hk hs he hse hee i (by omega)) ⟨Nat.le_of_ble_eq_true rfl, Nat.le_of_ble_eq_true rfl⟩ ⟨rfl, rfl⟩ ⟨Nat.zero_le _, Nat.zero_le _⟩ (Nat.le_of_ble_eq_true rfl) dX3_wordAsCode_32 ?_
      refine X_bipush (pc := 35) (v := 115) C dX3_wordAsCode_35 (by decide) ?_
      refine X_icmp_eq (pc := 37) C 52 dX3_wordAsCode_37 (by decide) (fun h37 => ?_) (fun h37 => ?_)
      · skip
        refine X_iconst (pc := 52) (v := 2) C dX3_wordAsCode_52 (by decide) ?_
        refine X_iload_n (pc := 53) C 1 dX3_wordAsCode_53 rfl rfl ?_
        refine X_imul (pc := 54) C dX3_wordAsCode_54 ?_
        refine X_aload_n (pc := 55) C 0 dX3_wordAsCode_55 rfl rfl ?_
        refine X_iload_n (pc := 56) C 2 dX3_wordAsCode_56 rfl rfl ?_
        refine K_X3_67 (pc := 57) C (by assumption) (c_X3_letterAt l P σ h0 kd s0 e0 hk hs he hse hee i (by omega)) ⟨Nat.le_of_ble_eq_true rfl, Nat.le_of_ble_eq_true rfl⟩ ⟨rfl, rfl⟩ ⟨Nat.zero_le _, Nat.zero_le _⟩ (Nat.le_of_ble_eq_true rfl) dX3_wordAsCode_57 ?_
        refine X_bipush (pc := 60) (v := 108) C dX3_wordAsCode_60 (by decide) ?_
        refine X_icmp_ne (pc := 62) C 69 dX3_wordAsCode_62 (by decide) (fun h62 => ?_) (fun h62 => ?_)
        · skip
          refine X_iconst (pc := 69) (v := 0) C dX3_wordAsCode_69 (by decide) ?_
          refine X_iadd (pc := 70) C dX3_wordAsCode_70 ?_
          refine X_istore_n (pc := 71) (lv1 := [(0, _), (1, _), (2, _)]) C 1 dX3_wordAsCode_71 rfl (by decide) rfl ?_
          first | refine X_iincN (pc := 72) (lv1 := [(0, _), (1, _), (2, _)]) C dX3_wordAsCode_72 rfl (by decide) (by decide) rfl ?_ | refine X_iinc (pc := 72) (kk := 1) (lv1 := [(0, _), (1, _), (2, _)]) C dX3_wordAsCode_72 rfl (by decide) (by decide) rfl ?_
          refine X_goto (pc := 75) C 22 dX3_wordAsCode_75 (by decide) ?_
          first
            | exact ih (i + 1) _ (by omega) (by rw [xcod, if_pos (Or.inl h37), if_neg h62] at hp; exact hp)
            | exact ih (i + 1) _ (by omega) (by rw [xcod, if_pos (Or.inl h37), if_pos h62] at hp; exact hp)
            | exact ih (i + 1) _ (by omega) (by rw [xcod, if_pos (Or.inr h47), if_neg h62] at hp; exact hp)
            | exact ih (i + 1) _ (by omega) (by rw [xcod, if_pos (Or.inr h47), if_pos h62] at hp; exact hp)
        · skip
          refine X_iconst (pc := 65) (v := 1) C dX3_wordAsCode_65 (by decide) ?_
          refine X_goto (pc := 66) C 70 dX3_wordAsCode_66 (by decide) ?_
          refine X_iadd (pc := 70) C dX3_wordAsCode_70 ?_
          refine X_istore_n (pc := 71) (lv1 := [(0, _), (1, _), (2, _)]) C 1 dX3_wordAsCode_71 rfl (by decide) rfl ?_
          first | refine X_iincN (pc := 72) (lv1 := [(0, _), (1, _), (2, _)]) C dX3_wordAsCode_72 rfl (by decide) (by decide) rfl ?_ | refine X_iinc (pc := 72) (kk := 1) (lv1 := [(0, _), (1, _), (2, _)]) C dX3_wordAsCode_72 rfl (by decide) (by decide) rfl ?_
          refine X_goto (pc := 75) C 22 dX3_wordAsCode_75 (by decide) ?_
          first
            | exact ih (i + 1) _ (by omega) (by rw [xcod, if_pos (Or.inl h37), if_neg h62] at hp; exact hp)
            | exact ih (i + 1) _ (by omega) (by rw [xcod, if_pos (Or.inl h37), if_pos h62] at hp; exact hp)
            | exact ih (i + 1) _ (by omega) (by rw [xcod, if_pos (Or.inr h47), if_neg h62] at hp; exact hp)
            | exact ih (i + 1) _ (by omega) (by rw [xcod, if_pos (Or.inr h47), if_pos h62] at hp; exact hp)
      · skip
        refine X_aload_n (pc := 40) C 0 dX3_wordAsCode_40 rfl rfl ?_
        refine X_iload_n (pc := 41) C 2 dX3_wordAsCode_41 rfl rfl ?_
        refine K_X3_67 (pc := 42) C (by assumption) (c_X3_letterAt l P σ h0 kd s0 e0 hk hs he hse hee i (by omega)) ⟨Nat.le_of_ble_eq_true rfl, Nat.le_of_ble_eq_true rfl⟩ ⟨rfl, rfl⟩ ⟨Nat.zero_le _, Nat.zero_le _⟩ (Nat.le_of_ble_eq_true rfl) dX3_wordAsCode_42 ?_
        refine X_bipush (pc := 45) (v := 108) C dX3_wordAsCode_45 (by decide) ?_
        refine X_icmp_eq (pc := 47) C 52 dX3_wordAsCode_47 (by decide) (fun h47 => ?_) (fun h47 => ?_)
        · skip
          refine X_iconst (pc := 52) (v := 2) C dX3_wordAsCode_52 (by decide) ?_
          refine X_iload_n (pc := 53) C 1 dX3_wordAsCode_53 rfl rfl ?_
          refine X_imul (pc := 54) C dX3_wordAsCode_54 ?_
          refine X_aload_n (pc := 55) C 0 dX3_wordAsCode_55 rfl rfl ?_
          refine X_iload_n (pc := 56) C 2 dX3_wordAsCode_56 rfl rfl ?_
          refine K_X3_67 (pc := 57) C (by assumption) (c_X3_letterAt l P σ h0 kd s0 e0 hk hs he hse hee i (by omega)) ⟨Nat.le_of_ble_eq_true rfl, Nat.le_of_ble_eq_true rfl⟩ ⟨rfl, rfl⟩ ⟨Nat.zero_le _, Nat.zero_le _⟩ (Nat.le_of_ble_eq_true rfl) dX3_wordAsCode_57 ?_
          refine X_bipush (pc := 60) (v := 108) C dX3_wordAsCode_60 (by decide) ?_
          refine X_icmp_ne (pc := 62) C 69 dX3_wordAsCode_62 (by decide) (fun h62 => ?_) (fun h62 => ?_)
          · skip
            refine X_iconst (pc := 69) (v := 0) C dX3_wordAsCode_69 (by decide) ?_
            refine X_iadd (pc := 70) C dX3_wordAsCode_70 ?_
            refine X_istore_n (pc := 71) (lv1 := [(0, _), (1, _), (2, _)]) C 1 dX3_wordAsCode_71 rfl (by decide) rfl ?_
            first | refine X_iincN (pc := 72) (lv1 := [(0, _), (1, _), (2, _)]) C dX3_wordAsCode_72 rfl (by decide) (by decide) rfl ?_ | refine X_iinc (pc := 72) (kk := 1) (lv1 := [(0, _), (1, _), (2, _)]) C dX3_wordAsCode_72 rfl (by decide) (by decide) rfl ?_
            refine X_goto (pc := 75) C 22 dX3_wordAsCode_75 (by decide) ?_
            first
              | exact ih (i + 1) _ (by omega) (by rw [xcod, if_pos (Or.inl h37), if_neg h62] at hp; exact hp)
              | exact ih (i + 1) _ (by omega) (by rw [xcod, if_pos (Or.inl h37), if_pos h62] at hp; exact hp)
              | exact ih (i + 1) _ (by omega) (by rw [xcod, if_pos (Or.inr h47), if_neg h62] at hp; exact hp)
              | exact ih (i + 1) _ (by omega) (by rw [xcod, if_pos (Or.inr h47), if_pos h62] at hp; exact hp)
          · skip
            refine X_iconst (pc := 65) (v := 1) C dX3_wordAsCode_65 (by decide) ?_
            refine X_goto (pc := 66) C 70 dX3_wordAsCode_66 (by decide) ?_
            refine X_iadd (pc := 70) C dX3_wordAsCode_70 ?_
            refine X_istore_n (pc := 71) (lv1 := [(0, _), (1, _), (2, _)]) C 1 dX3_wordAsCode_71 rfl (by decide) rfl ?_
            first | refine X_iincN (pc := 72) (lv1 := [(0, _), (1, _), (2, _)]) C dX3_wordAsCode_72 rfl (by decide) (by decide) rfl ?_ | refine X_iinc (pc := 72) (kk := 1) (lv1 := [(0, _), (1, _), (2, _)]) C dX3_wordAsCode_72 rfl (by decide) (by decide) rfl ?_
            refine X_goto (pc := 75) C 22 dX3_wordAsCode_75 (by decide) ?_
            first
              | exact ih (i + 1) _ (by omega) (by rw [xcod, if_pos (Or.inl h37), if_neg h62] at hp; exact hp)
              | exact ih (i + 1) _ (by omega) (by rw [xcod, if_pos (Or.inl h37), if_pos h62] at hp; exact hp)
              | exact ih (i + 1) _ (by omega) (by rw [xcod, if_pos (Or.inr h47), if_neg h62] at hp; exact hp)
              | exact ih (i + 1) _ (by omega) (by rw [xcod, if_pos (Or.inr h47), if_pos h62] at hp; exact hp)
        · skip
          refine X_iconst (pc := 50) (v := (-1)) C dX3_wordAsCode_50 (by decide) ?_
          exact X_iret (pc := 51) C (Nat.zero_le _) (Nat.zero_le _) dX3_wordAsCode_51 (by rw [xcod, if_neg (fun q => q.elim h37 h47)] at hp; exact hp)

set_option maxRecDepth 100000 in
set_option maxHeartbeats 4000000 in
theorem c_X3_wordAsCode (l : Launch) (P : XP) (σ : XS) (h0 : xI0 P) (kd : Int32) (s0 e0 : Nat) (hk : σ.1 (.inr 2) 3 = kd) (hs : σ.1 (.inr 2) 4 = nI s0) (he : σ.1 (.inr 2) 2 = nI e0) (hse : s0 ≤ e0) (hee : e0 ≤ 700) : XF l yX3_wordAsCode cX3_wordAsCode 3 (some .int) rm_X3_wordAsCode P [.ref (P.2.2.1 (.inr 2))] σ (some (.int (xcode (wC (σ.1 (.inr 3)) kd s0 e0) kd (e0 - s0)))) (σ) := by
  refine XM.of (by decide +kernel) (Nat.le_of_ble_eq_true rfl) (fun p e s m args below meth c A C => ?_)
  replace C : XC p s m args meth c P A 3 RX3 cX3_wordAsCode (some .int) := C
  refine XW.eq (lv' := [(0, _)]) rfl rfl rfl ?_
  refine X_aload_n (pc := 0) C 0 dX3_wordAsCode_0 rfl rfl ?_
  refine G_X3_44 (pc := 1) C (by assumption) dX3_wordAsCode_1 ?_
  rw [hk]
  refine X_iconst (pc := 4) (v := 1) C dX3_wordAsCode_4 (by decide) ?_
  refine X_icmp_ne (pc := 5) C 16 dX3_wordAsCode_5 (by decide) (fun h5 => ?_) (fun h5 => ?_)
  · skip
    refine X_iconst (pc := 16) (v := (-1)) C dX3_wordAsCode_16 (by decide) ?_
    exact X_iret (pc := 17) C (Nat.zero_le _) (Nat.zero_le _) dX3_wordAsCode_17 ⟨by rw [xcode, if_neg (fun q => h5 q.1)], rfl⟩
  · skip
    refine X_aload_n (pc := 8) C 0 dX3_wordAsCode_8 rfl rfl ?_
    refine K_X3_64 (pc := 9) C (by assumption) (c_X3_wordLength l P σ h0 kd s0 e0 hk hs he hse hee) ⟨Nat.le_of_ble_eq_true rfl, Nat.le_of_ble_eq_true rfl⟩ ⟨rfl, rfl⟩ ⟨Nat.zero_le _, Nat.zero_le _⟩ (Nat.le_of_ble_eq_true rfl) dX3_wordAsCode_9 ?_
    rw [show wL kd s0 e0 = e0 - s0 from if_pos h5]
    refine X_iconst (pc := 12) (v := 5) C dX3_wordAsCode_12 (by decide) ?_
    refine X_icmp_le (pc := 13) C 18 dX3_wordAsCode_13 (by decide) (fun h13 => ?_) (fun h13 => ?_)
    · skip
      refine X_iconst (pc := 18) (v := 1) C dX3_wordAsCode_18 (by decide) ?_
      refine X_istore_n (pc := 19) (lv1 := [(0, _), (1, _)]) C 1 dX3_wordAsCode_19 rfl (by decide) rfl ?_
      refine X_iconst (pc := 20) (v := 0) C dX3_wordAsCode_20 (by decide) ?_
      refine X_istore_n (pc := 21) (lv1 := [(0, _), (1, _), (2, _)]) C 2 dX3_wordAsCode_21 rfl (by decide) rfl ?_
      exact L_X3_wordAsCode C h0 hk hs he hse hee h5 (e0 - s0) 0 1 (by omega) ⟨by rw [xcode, if_pos ⟨h5, nle (a := e0 - s0) (b := 5) h13 (by omega) (by omega)⟩], rfl⟩
    · skip
      refine X_iconst (pc := 16) (v := (-1)) C dX3_wordAsCode_16 (by decide) ?_
      exact X_iret (pc := 17) C (Nat.zero_le _) (Nat.zero_le _) dX3_wordAsCode_17 ⟨by rw [xcode, if_neg (fun q => h13 (nI_le (b := 5) q.2 (by decide)))], rfl⟩

end XP14

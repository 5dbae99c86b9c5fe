/-! THE REFERENCE: calls -/
theorem xok_c {x : Int32} {n : Nat} (h : xok x n) (hn : n ≤ 1000000 := by omega) : cN x < n ∧ x = nI (cN x) := by
  obtain ⟨j, hj, rfl⟩ := xok_of h hn
  rw [cN, nI_clamp (n31 (by omega))]
  exact ⟨hj, rfl⟩
theorem xok_mono {x : Int32} {n k : Nat} (h : xok x n) (hk : n ≤ k) : xok x k := ⟨h.1, by have := h.2; omega⟩
theorem xok_m1 {n : Nat} : ¬ xok (-1) n := fun h => absurd h.1 (by decide)
/-- the counts -/
abbrev mL (S : Nat → Int32) : Nat := cN (S 1)
abbrev mT (S : Nat → Int32) : Nat := cN (S 3)
abbrev mU (S : Nat → Int32) : Nat := cN (S 4)
abbrev mK (S : Nat → Int32) : Nat := cN (S 5)
/-- whom call c joins -/
def CR (S : Nat → Int32) (nu nt c : Nat) : Prop := xok (sC S 0 c) nu ∧ ((sC S 2 c = -1 ∧ xok (sC S 1 c) nu) ∨ (sC S 1 c = -1 ∧ xok (sC S 2 c) nt))
def MI (S : Nat → Int32) : Prop := S 1 = nI (mL S) ∧ mL S ≤ 6 ∧ S 3 = nI (mT S) ∧ mT S ≤ 4 ∧ S 4 = nI (mU S) ∧ mU S ≤ 15 ∧ S 5 = nI (mK S) ∧ mK S ≤ 40 ∧ ∀ c, c < mK S → CR S (mU S) (mT S) c
theorem MI.l {S : Nat → Int32} (h : MI S) : S 1 = nI (mL S) := h.1
theorem MI.l6 {S : Nat → Int32} (h : MI S) : mL S ≤ 6 := h.2.1
theorem MI.t {S : Nat → Int32} (h : MI S) : S 3 = nI (mT S) := h.2.2.1
theorem MI.t4 {S : Nat → Int32} (h : MI S) : mT S ≤ 4 := h.2.2.2.1
theorem MI.u {S : Nat → Int32} (h : MI S) : S 4 = nI (mU S) := h.2.2.2.2.1
theorem MI.u15 {S : Nat → Int32} (h : MI S) : mU S ≤ 15 := h.2.2.2.2.2.1
theorem MI.k {S : Nat → Int32} (h : MI S) : S 5 = nI (mK S) := h.2.2.2.2.2.2.1
theorem MI.k40 {S : Nat → Int32} (h : MI S) : mK S ≤ 40 := h.2.2.2.2.2.2.2.1
theorem MI.c {S : Nat → Int32} (h : MI S) {c : Nat} (hc : c < mK S) : CR S (mU S) (mT S) c := h.2.2.2.2.2.2.2.2 c hc
theorem MI.ca {S : Nat → Int32} (h : MI S) {c : Nat} (hc : c < mK S) : cN (sC S 0 c) < 15 ∧ sC S 0 c = nI (cN (sC S 0 c)) := by
  have h1 := xok_c (h.c hc).1 (by have := h.u15; omega)
  have := h.u15
  exact ⟨by omega, h1.2⟩
theorem MI.ot {S : Nat → Int32} (h : MI S) {c : Nat} (hc : c < mK S) (ht : sC S 2 c = -1) : cN (sC S 1 c) < 15 ∧ sC S 1 c = nI (cN (sC S 1 c)) := by
  have hu := h.u15
  rcases (h.c hc).2 with ⟨-, h2⟩ | ⟨-, h2⟩
  · have h1 := xok_c h2 (by omega)
    exact ⟨by omega, h1.2⟩
  · rw [ht] at h2
    exact absurd h2 xok_m1
theorem MI.tr {S : Nat → Int32} (h : MI S) {c : Nat} (hc : c < mK S) (ht : ¬ sC S 2 c = -1) : cN (sC S 2 c) < 4 ∧ sC S 2 c = nI (cN (sC S 2 c)) := by
  have hu := h.t4
  rcases (h.c hc).2 with ⟨h2, -⟩ | ⟨-, h2⟩
  · exact absurd h2 ht
  · have h1 := xok_c h2 (by omega)
    exact ⟨by omega, h1.2⟩
theorem MI.oy {S : Nat → Int32} (h : MI S) {c : Nat} (hc : c < mK S) : sC S 1 c = -1 ∨ xok (sC S 1 c) 15 := by
  rcases (h.c hc).2 with ⟨-, h2⟩ | ⟨h2, -⟩
  · exact Or.inr (xok_mono h2 h.u15)
  · exact Or.inl h2
/-- the places that no start and no end changes -/
def fx (n : Nat) : Prop := n < 10 ∨ (190 ≤ n ∧ (n - 190) % 9 < 4)
theorem CR.fx {S S1 : Nat → Int32} {nu nt c : Nat} (h : CR S nu nt c) (hs : ∀ n, fx n → S1 n = S n) : CR S1 nu nt c := by
  have e : ∀ w, w < 4 → sC S1 w c = sC S w c := fun w hw => hs _ (Or.inr ⟨by omega, by omega⟩)
  unfold CR at h ⊢
  rw [e 0 (by decide), e 1 (by decide), e 2 (by decide)]
  exact h
theorem MI.fx {S S1 : Nat → Int32} (h : MI S) (hs : ∀ n, fx n → S1 n = S n) : MI S1 := by
  unfold MI mL mT mU mK at h ⊢
  rw [hs 1 (Or.inl (by decide)), hs 3 (Or.inl (by decide)), hs 4 (Or.inl (by decide)), hs 5 (Or.inl (by decide))]
  obtain ⟨a, b, c, d, e, f, g, i, j⟩ := h
  exact ⟨a, b, c, d, e, f, g, i, fun q hq => (j q hq).fx hs⟩
theorem nle0 {a : Nat} (h : nI a ≤ 0) (ha : a ≤ 1000000) : ¬ 0 < a := fun q => nI_nle q (n31 ha) h
theorem nnle0 {a : Nat} (h : ¬ nI a ≤ 0) : 0 < a := Nat.pos_of_ne_zero (fun q => h (by rw [q]; decide))
/-- how many of the first places fulfil q; which, as a set -/
noncomputable def cCnt (q : Nat → Prop) : Nat → Nat
  | 0 => 0
  | k + 1 => @ite _ (q k) (Classical.propDecidable _) (cCnt q k + 1) (cCnt q k)
theorem cCnt_y {q : Nat → Prop} {k : Nat} (h : q k) : cCnt q (k + 1) = cCnt q k + 1 := if_pos h
theorem cCnt_n {q : Nat → Prop} {k : Nat} (h : ¬ q k) : cCnt q (k + 1) = cCnt q k := if_neg h
theorem cCnt_le (q : Nat → Prop) : ∀ k, cCnt q k ≤ k
  | 0 => Nat.le_refl _
  | k + 1 => by
    have := cCnt_le q k
    by_cases h : q k
    · rw [cCnt_y h]; omega
    · rw [cCnt_n h]; omega
noncomputable def cSet (q : Nat → Prop) : Nat → Int32
  | 0 => 0
  | k + 1 => @ite _ (q k) (Classical.propDecidable _) (cSet q k ||| (1 : Int32) <<< (nI k &&& 31)) (cSet q k)
theorem cSet_y {q : Nat → Prop} {k : Nat} (h : q k) : cSet q (k + 1) = cSet q k ||| (1 : Int32) <<< (nI k &&& 31) := if_pos h
theorem cSet_n {q : Nat → Prop} {k : Nat} (h : ¬ q k) : cSet q (k + 1) = cSet q k := if_neg h
abbrev mUses (S : Nat → Int32) (c : Nat) (x : Int32) : Prop := sU S 0 (cN (sC S 0 c)) = x ∨ (sC S 2 c = -1 ∧ sU S 0 (cN (sC S 1 c)) = x)
abbrev mOwn (S : Nat → Int32) (c : Nat) : Prop := sC S 2 c = -1 ∧ sU S 0 (cN (sC S 1 c)) = sU S 0 (cN (sC S 0 c))
noncomputable def mLine (S : Nat → Int32) (x : Int32) : Nat → Nat := cCnt (fun c => sC S 4 c = 1 ∧ mUses S c x)
noncomputable def mTrk (S : Nat → Int32) (x : Int32) : Nat → Nat := cCnt (fun c => sC S 4 c = 1 ∧ sC S 2 c = x)
noncomputable def mCords (S : Nat → Int32) : Nat → Nat := cCnt (fun c => sC S 4 c = 1 ∧ ¬ mOwn S c)
noncomputable def mWhy (S : Nat → Int32) (c : Nat) : Int32 :=
  if 0 < mLine S (sU S 0 (cN (sC S 0 c))) (mK S) then 1
  else if (sC S 2 c = -1 ∧ 0 < mLine S (sU S 0 (cN (sC S 1 c))) (mK S)) ∨ (¬ sC S 2 c = -1 ∧ 0 < mTrk S (sC S 2 c) (mK S)) then 2
  else if ¬ mOwn S c ∧ nI (mCords S (mK S)) = S 2 then 3 else 0
def mEarQ (S : Nat → Int32) (x y : Int32) (u : Nat) : Prop := ¬ nI u = x ∧ ¬ nI u = y ∧ ¬ sU S 2 u < 5 ∧ (sU S 0 u = sU S 0 (cN x) ∨ (¬ y = -1 ∧ sU S 0 u = sU S 0 (cN y)))
noncomputable def mEars (S : Nat → Int32) (x y : Int32) : Int32 := cSet (mEarQ S x y) (mU S)
theorem tix {x : Int32} (h : x = nI (cN x)) : (6 : Int32) + x = nI (6 + cN x) := by
  rw [show (6 : Int32) = nI 6 from rfl]
  conv => lhs; rw [h]
  rw [nI_add]
def mCost (S : Nat → Int32) (c : Nat) : Int32 :=
  if sC S 4 c = 1 ∨ sC S 4 c = 2 then
    (if sC S 2 c = -1 then 5 else S (6 + cN (sC S 2 c)) * xmax 1 (((if sC S 4 c = 1 then S 0 else sC S 6 c) - sC S 5 c + 59) / 60))
  else 0
def mHear (S : Nat → Int32) (e t : Int32) : Nat → (Nat → Int32)
  | 0 => S
  | k + 1 => if e >>> (nI k &&& 31) &&& 1 = 1 then upd (mHear S e t k) (10 + 12 * k + 4) (sU (mHear S e t k) 4 k ||| t) else mHear S e t k
theorem mHear_y {S : Nat → Int32} {e t : Int32} {k : Nat} (h : e >>> (nI k &&& 31) &&& 1 = 1) : mHear S e t (k + 1) = upd (mHear S e t k) (10 + 12 * k + 4) (sU (mHear S e t k) 4 k ||| t) := if_pos h
theorem mHear_n {S : Nat → Int32} {e t : Int32} {k : Nat} (h : ¬ e >>> (nI k &&& 31) &&& 1 = 1) : mHear S e t (k + 1) = mHear S e t k := if_neg h
theorem mHear_o {S : Nat → Int32} {e t : Int32} {n : Nat} : ∀ k, (∀ j, j < k → n ≠ 14 + 12 * j) → mHear S e t k n = S n
  | 0, _ => rfl
  | k + 1, h => by
    have ih := mHear_o (S := S) (e := e) (t := t) (n := n) k (fun j hj => h j (by omega))
    by_cases g : e >>> (nI k &&& 31) &&& 1 = 1
    · rw [mHear_y g, upd_ne (by have := h k (by omega); omega), ih]
    · rw [mHear_n g, ih]
def mTold (S : Nat → Int32) (x y : Int32) : Int32 := if y = -1 then sU S 4 (cN x) else sU S 4 (cN x) ||| sU S 4 (cN y)
def mTell (S : Nat → Int32) (x y : Int32) : Nat → Int32 := if y = -1 then S else upd (upd S (10 + 12 * cN x + 4) (mTold S x y)) (10 + 12 * cN y + 4) (mTold S x y)
noncomputable def mStart0 (S : Nat → Int32) (c : Nat) : Nat → Int32 := mHear (mTell S (sC S 0 c) (sC S 1 c)) (mEars S (sC S 0 c) (sC S 1 c)) (mTold S (sC S 0 c) (sC S 1 c)) (mU S)
noncomputable def mStart (S : Nat → Int32) (c : Nat) : Nat → Int32 :=
  upd (upd (upd (upd (mStart0 S c) (190 + 9 * c + 4) 1) (190 + 9 * c + 5) (S 0)) (190 + 9 * c + 7) (mEars S (sC S 0 c) (sC S 1 c))) (190 + 9 * c + 8) (xvolW (mEars S (sC S 0 c) (sC S 1 c)))
theorem mTell_o {S : Nat → Int32} {x y : Int32} {n : Nat} (h : ∀ j, n ≠ 14 + 12 * j) : mTell S x y n = S n := by
  unfold mTell
  by_cases g : y = -1
  · rw [if_pos g]
  · rw [if_neg g, upd_ne (by have := h (cN y); omega), upd_ne (by have := h (cN x); omega)]
theorem mStart0_fx {S : Nat → Int32} {c n : Nat} (hM : MI S) (hc : c < mK S) (h : n < 14 ∨ 190 ≤ n) : mStart0 S c n = S n := by
  have hu := hM.u15
  unfold mStart0
  rw [mHear_o _ (fun j hj => by omega)]
  unfold mTell
  by_cases g : sC S 1 c = -1
  · rw [if_pos g]
  · have ha := (hM.ca hc).1
    have ho : cN (sC S 1 c) < 15 := by
      rcases hM.oy hc with q | q
      · exact absurd q g
      · exact (xok_c q).1
    rw [if_neg g, upd_ne (by omega), upd_ne (by omega)]
theorem mStart_fx {S : Nat → Int32} {c : Nat} (hM : MI S) (hc : c < mK S) : ∀ n, fx n → mStart S c n = S n := fun n hn => by
  unfold mStart
  have hk := hM.k40
  rcases hn with h | ⟨h, h2⟩
  · rw [upd_ne (by omega), upd_ne (by omega), upd_ne (by omega), upd_ne (by omega), mStart0_fx hM hc (by omega)]
  · rw [upd_ne (by omega), upd_ne (by omega), upd_ne (by omega), upd_ne (by omega), mStart0_fx hM hc (by omega)]
theorem MI.start {S : Nat → Int32} {c : Nat} (hM : MI S) (hc : c < mK S) : MI (mStart S c) := hM.fx (mStart_fx hM hc)
section XP31
variable {p : Program} {l : Launch} {e : Env} {R : Room} {s : State} {m : MethodId} {args : Array Value} {below : List Frame} {meth : Method} {c : Code} {P : XP} {A : Nat → Prop} {nL cells slots : Nat} {Q : State → Prop} {cc : ByteArray} {ret : Option FieldType} {σ : XS} {pc : Nat} {lv : List (Nat × Value)} {st : List Value}
set_option maxRecDepth 100000 in
set_option maxHeartbeats 4000000 in
theorem c_X7_usesLine (l : Launch) (P : XP) (τ : XS) (S F L : Nat → Int32) (h1 : xI1 P) (hM : MI S) (j : Nat) (hj : j < mK S) (x : Int32) (hx : x = nI j) (y : Int32) : XF l yX7_usesLine cX7_usesLine 3 (some .boolean) rm_X7_usesLine P [.ref (P.2.2.1 (.inr 9)), .int x, .int y] (mW τ S F L) (some (.int (if mUses S j y then 1 else 0))) (mW τ S F L) := by
  refine XM.of (by decide +kernel) (Nat.le_of_ble_eq_true rfl) (fun p e s m args below meth c A C => ?_)
  replace C : XC p s m args meth c P A 3 RX7 cX7_usesLine (some .boolean) := C
  refine XW.eq (lv' := [(0, _), (1, _), (2, _)]) rfl rfl rfl ?_
  refine X_aload_n (pc := 0) C 0 dX7_usesLine_0 rfl rfl ?_
  refine X_aload_n (pc := 1) C 0 dX7_usesLine_1 rfl rfl ?_
  refine X_iload_n (pc := 2) C 1 dX7_usesLine_2 rfl rfl ?_
  refine X_iconst (pc := 3) (v := 0) C dX7_usesLine_3 (by decide) ?_
  refine K_X7_88 (pc := 4) C (by assumption) (c_X7_ofCall l P τ S F L h1 j 0 (by have := hM.k40; omega) (by decide) _ 0 hx rfl) ⟨Nat.le_of_ble_eq_true rfl, Nat.le_of_ble_eq_true rfl⟩ ⟨rfl, rfl⟩ ⟨Nat.zero_le _, Nat.zero_le _⟩ (Nat.le_of_ble_eq_true rfl) dX7_usesLine_4 ?_
  refine X_iconst (pc := 7) (v := 0) C dX7_usesLine_7 (by decide) ?_
  refine K_X7_92 (pc := 8) C (by assumption) (c_X7_ofUser l P τ S F L h1 (cN (sC S 0 j)) 0 ((hM.ca hj).1) (by decide) _ 0 ((hM.ca hj).2) rfl) ⟨Nat.le_of_ble_eq_true rfl, Nat.le_of_ble_eq_true rfl⟩ ⟨rfl, rfl⟩ ⟨Nat.zero_le _, Nat.zero_le _⟩ (Nat.le_of_ble_eq_true rfl) dX7_usesLine_8 ?_
  refine X_iload_n (pc := 11) C 2 dX7_usesLine_11 rfl rfl ?_
  refine X_icmp_ne (pc := 12) C 17 dX7_usesLine_12 (by decide) (fun h12 => ?_) (fun h12 => ?_)
  · skip
    refine X_aload_n (pc := 17) C 0 dX7_usesLine_17 rfl rfl ?_
    refine X_iload_n (pc := 18) C 1 dX7_usesLine_18 rfl rfl ?_
    refine X_iconst (pc := 19) (v := 2) C dX7_usesLine_19 (by decide) ?_
    refine K_X7_88 (pc := 20) C (by assumption) (c_X7_ofCall l P τ S F L h1 j 2 (by have := hM.k40; omega) (by decide) _ 2 hx rfl) ⟨Nat.le_of_ble_eq_true rfl, Nat.le_of_ble_eq_true rfl⟩ ⟨rfl, rfl⟩ ⟨Nat.zero_le _, Nat.zero_le _⟩ (Nat.le_of_ble_eq_true rfl) dX7_usesLine_20 ?_
    refine X_iconst (pc := 23) (v := (-1)) C dX7_usesLine_23 (by decide) ?_
    refine X_icmp_ne (pc := 24) C 46 dX7_usesLine_24 (by decide) (fun h24 => ?_) (fun h24 => ?_)
    · skip
      refine X_iconst (pc := 46) (v := 0) C dX7_usesLine_46 (by decide) ?_
      exact X_zret (pc := 47) C (Nat.zero_le _) (Nat.zero_le _) (rfl) dX7_usesLine_47 ⟨by rw [if_neg (fun q => q.elim h12 (fun r => h24 r.1))], rfl⟩
    · skip
      refine X_aload_n (pc := 27) C 0 dX7_usesLine_27 rfl rfl ?_
      refine X_aload_n (pc := 28) C 0 dX7_usesLine_28 rfl rfl ?_
      refine X_iload_n (pc := 29) C 1 dX7_usesLine_29 rfl rfl ?_
      refine X_iconst (pc := 30) (v := 1) C dX7_usesLine_30 (by decide) ?_
      refine K_X7_88 (pc := 31) C (by assumption) (c_X7_ofCall l P τ S F L h1 j 1 (by have := hM.k40; omega) (by decide) _ 1 hx rfl) ⟨Nat.le_of_ble_eq_true rfl, Nat.le_of_ble_eq_true rfl⟩ ⟨rfl, rfl⟩ ⟨Nat.zero_le _, Nat.zero_le _⟩ (Nat.le_of_ble_eq_true rfl) dX7_usesLine_31 ?_
      refine X_iconst (pc := 34) (v := 0) C dX7_usesLine_34 (by decide) ?_
      refine K_X7_92 (pc := 35) C (by assumption) (c_X7_ofUser l P τ S F L h1 (cN (sC S 1 j)) 0 ((hM.ot hj h24).1) (by decide) _ 0 ((hM.ot hj h24).2) rfl) ⟨Nat.le_of_ble_eq_true rfl, Nat.le_of_ble_eq_true rfl⟩ ⟨rfl, rfl⟩ ⟨Nat.zero_le _, Nat.zero_le _⟩ (Nat.le_of_ble_eq_true rfl) dX7_usesLine_35 ?_
      refine X_iload_n (pc := 38) C 2 dX7_usesLine_38 rfl rfl ?_
      refine X_icmp_ne (pc := 39) C 46 dX7_usesLine_39 (by decide) (fun h39 => ?_) (fun h39 => ?_)
      · skip
        refine X_iconst (pc := 46) (v := 0) C dX7_usesLine_46 (by decide) ?_
        exact X_zret (pc := 47) C (Nat.zero_le _) (Nat.zero_le _) (rfl) dX7_usesLine_47 ⟨by rw [if_neg (fun q => q.elim h12 (fun r => h39 r.2))], rfl⟩
      · skip
        refine X_iconst (pc := 42) (v := 1) C dX7_usesLine_42 (by decide) ?_
        refine X_goto (pc := 43) C 47 dX7_usesLine_43 (by decide) ?_
        exact X_zret (pc := 47) C (Nat.zero_le _) (Nat.zero_le _) (rfl) dX7_usesLine_47 ⟨by rw [if_pos (Or.inr ⟨h24, h39⟩)], rfl⟩
  · skip
    refine X_iconst (pc := 15) (v := 1) C dX7_usesLine_15 (by decide) ?_
    exact X_zret (pc := 16) C (Nat.zero_le _) (Nat.zero_le _) (rfl) dX7_usesLine_16 ⟨by rw [if_pos (Or.inl h12)], rfl⟩

set_option maxRecDepth 100000 in
set_option maxHeartbeats 4000000 in
theorem c_X7_isOwnLine (l : Launch) (P : XP) (τ : XS) (S F L : Nat → Int32) (h1 : xI1 P) (hM : MI S) (j : Nat) (hj : j < mK S) (x : Int32) (hx : x = nI j) : XF l yX7_isOwnLine cX7_isOwnLine 2 (some .boolean) rm_X7_isOwnLine P [.ref (P.2.2.1 (.inr 9)), .int x] (mW τ S F L) (some (.int (if mOwn S j then 1 else 0))) (mW τ S F L) := by
  refine XM.of (by decide +kernel) (Nat.le_of_ble_eq_true rfl) (fun p e s m args below meth c A C => ?_)
  replace C : XC p s m args meth c P A 2 RX7 cX7_isOwnLine (some .boolean) := C
  refine XW.eq (lv' := [(0, _), (1, _)]) rfl rfl rfl ?_
  refine X_aload_n (pc := 0) C 0 dX7_isOwnLine_0 rfl rfl ?_
  refine X_iload_n (pc := 1) C 1 dX7_isOwnLine_1 rfl rfl ?_
  refine X_iconst (pc := 2) (v := 2) C dX7_isOwnLine_2 (by decide) ?_
  refine K_X7_88 (pc := 3) C (by assumption) (c_X7_ofCall l P τ S F L h1 j 2 (by have := hM.k40; omega) (by decide) _ 2 hx rfl) ⟨Nat.le_of_ble_eq_true rfl, Nat.le_of_ble_eq_true rfl⟩ ⟨rfl, rfl⟩ ⟨Nat.zero_le _, Nat.zero_le _⟩ (Nat.le_of_ble_eq_true rfl) dX7_isOwnLine_3 ?_
  refine X_iconst (pc := 6) (v := (-1)) C dX7_isOwnLine_6 (by decide) ?_
  refine X_icmp_ne (pc := 7) C 39 dX7_isOwnLine_7 (by decide) (fun h7 => ?_) (fun h7 => ?_)
  · skip
    refine X_iconst (pc := 39) (v := 0) C dX7_isOwnLine_39 (by decide) ?_
    exact X_zret (pc := 40) C (Nat.zero_le _) (Nat.zero_le _) (rfl) dX7_isOwnLine_40 ⟨by rw [if_neg (fun q => h7 q.1)], rfl⟩
  · skip
    refine X_aload_n (pc := 10) C 0 dX7_isOwnLine_10 rfl rfl ?_
    refine X_aload_n (pc := 11) C 0 dX7_isOwnLine_11 rfl rfl ?_
    refine X_iload_n (pc := 12) C 1 dX7_isOwnLine_12 rfl rfl ?_
    refine X_iconst (pc := 13) (v := 1) C dX7_isOwnLine_13 (by decide) ?_
    refine K_X7_88 (pc := 14) C (by assumption) (c_X7_ofCall l P τ S F L h1 j 1 (by have := hM.k40; omega) (by decide) _ 1 hx rfl) ⟨Nat.le_of_ble_eq_true rfl, Nat.le_of_ble_eq_true rfl⟩ ⟨rfl, rfl⟩ ⟨Nat.zero_le _, Nat.zero_le _⟩ (Nat.le_of_ble_eq_true rfl) dX7_isOwnLine_14 ?_
    refine X_iconst (pc := 17) (v := 0) C dX7_isOwnLine_17 (by decide) ?_
    refine K_X7_92 (pc := 18) C (by assumption) (c_X7_ofUser l P τ S F L h1 (cN (sC S 1 j)) 0 ((hM.ot hj h7).1) (by decide) _ 0 ((hM.ot hj h7).2) rfl) ⟨Nat.le_of_ble_eq_true rfl, Nat.le_of_ble_eq_true rfl⟩ ⟨rfl, rfl⟩ ⟨Nat.zero_le _, Nat.zero_le _⟩ (Nat.le_of_ble_eq_true rfl) dX7_isOwnLine_18 ?_
    refine X_aload_n (pc := 21) C 0 dX7_isOwnLine_21 rfl rfl ?_
    refine X_aload_n (pc := 22) C 0 dX7_isOwnLine_22 rfl rfl ?_
    refine X_iload_n (pc := 23) C 1 dX7_isOwnLine_23 rfl rfl ?_
    refine X_iconst (pc := 24) (v := 0) C dX7_isOwnLine_24 (by decide) ?_
    refine K_X7_88 (pc := 25) C (by assumption) (c_X7_ofCall l P τ S F L h1 j 0 (by have := hM.k40; omega) (by decide) _ 0 hx rfl) ⟨Nat.le_of_ble_eq_true rfl, Nat.le_of_ble_eq_true rfl⟩ ⟨rfl, rfl⟩ ⟨Nat.zero_le _, Nat.zero_le _⟩ (Nat.le_of_ble_eq_true rfl) dX7_isOwnLine_25 ?_
    refine X_iconst (pc := 28) (v := 0) C dX7_isOwnLine_28 (by decide) ?_
    refine K_X7_92 (pc := 29) C (by assumption) (c_X7_ofUser l P τ S F L h1 (cN (sC S 0 j)) 0 ((hM.ca hj).1) (by decide) _ 0 ((hM.ca hj).2) rfl) ⟨Nat.le_of_ble_eq_true rfl, Nat.le_of_ble_eq_true rfl⟩ ⟨rfl, rfl⟩ ⟨Nat.zero_le _, Nat.zero_le _⟩ (Nat.le_of_ble_eq_true rfl) dX7_isOwnLine_29 ?_
    refine X_icmp_ne (pc := 32) C 39 dX7_isOwnLine_32 (by decide) (fun h32 => ?_) (fun h32 => ?_)
    · skip
      refine X_iconst (pc := 39) (v := 0) C dX7_isOwnLine_39 (by decide) ?_
      exact X_zret (pc := 40) C (Nat.zero_le _) (Nat.zero_le _) (rfl) dX7_isOwnLine_40 ⟨by rw [if_neg (fun q => h32 q.2)], rfl⟩
    · skip
      refine X_iconst (pc := 35) (v := 1) C dX7_isOwnLine_35 (by decide) ?_
      refine X_goto (pc := 36) C 40 dX7_isOwnLine_36 (by decide) ?_
      exact X_zret (pc := 40) C (Nat.zero_le _) (Nat.zero_le _) (rfl) dX7_isOwnLine_40 ⟨by rw [if_pos ⟨h7, h32⟩], rfl⟩

set_option maxRecDepth 100000 in
set_option maxHeartbeats 4000000 in
theorem L_X7_talkersOnLine (C : XC p s m args meth c P A 4 RX7 cX7_talkersOnLine (some .int)) {τ : XS} {S F L : Nat → Int32} (h1 : xI1 P) (hM : MI S) {x : Int32} (kx : XW p l e rm_X7_talkersOnLine s m args below meth c P A 4 0 0 Q (mW τ S F L) 40 [(0, .ref (P.2.2.1 (.inr 9))), (1, .int x), (2, .int (nI (mLine S x (mK S)))), (3, .int (nI (mK S)))] []) : ∀ (k i : Nat), i + k = mK S → XW p l e rm_X7_talkersOnLine s m args below meth c P A 4 0 0 Q (mW τ S F L) 4 [(0, .ref (P.2.2.1 (.inr 9))), (1, .int x), (2, .int (nI (mLine S x (i)))), (3, .int (nI (i)))] [] := by
  have hbd := hM.k40
  intro k
  induction k with
  | zero =>
    intro i hi
    have e9 : i = mK S := by omega
    subst e9
    refine X_iload_n (pc := 4) C 3 dX7_talkersOnLine_4 rfl rfl ?_
    refine X_aload_n (pc := 5) C 0 dX7_talkersOnLine_5 rfl rfl ?_
    refine G_X7_9 (pc := 6) C (by assumption) dX7_talkersOnLine_6 ?_
    refine X_iconst (pc := 9) (v := 5) C dX7_talkersOnLine_9 (by decide) ?_
    refine X_ialdN (j := 5) (pc := 10) C (by first | exact h1 _ (by decide) (by decide)) rfl (by omega) (by decide) dX7_talkersOnLine_10 ?_
    rw [mW_10]
    rw [hM.k]
    refine X_icmp_ge (pc := 11) C 40 dX7_talkersOnLine_11 (by decide) (fun h11 => ?_) (fun h11 => ?_)
    · skip
      exact kx
    · exact absurd (nI_le (Nat.le_refl _) (n31 (by omega))) h11
  | succ k ih =>
    intro i hi
    have hlt : i < mK S := by omega
    refine X_iload_n (pc := 4) C 3 dX7_talkersOnLine_4 rfl rfl ?_
    refine X_aload_n (pc := 5) C 0 dX7_talkersOnLine_5 rfl rfl ?_
    refine G_X7_9 (pc := 6) C (by assumption) dX7_talkersOnLine_6 ?_
    refine X_iconst (pc := 9) (v := 5) C dX7_talkersOnLine_9 (by decide) ?_
    refine X_ialdN (j := 5) (pc := 10) C (by first | exact h1 _ (by decide) (by decide)) rfl (by omega) (by decide) dX7_talkersOnLine_10 ?_
    rw [mW_10]
    rw [hM.k]
    refine X_icmp_ge (pc := 11) C 40 dX7_talkersOnLine_11 (by decide) (fun h11 => ?_) (fun h11 => ?_)
    · exact absurd (nle h11) (by omega)
    · skip
      refine X_aload_n (pc := 14) C 0 dX7_talkersOnLine_14 rfl rfl ?_
      refine X_iload_n (pc := 15) C 3 dX7_talkersOnLine_15 rfl rfl ?_
      refine K_X7_95 (pc := 16) C (by assumption) (c_X7_isTalking l P τ S F L h1 i (by omega) _ rfl) ⟨Nat.le_of_ble_eq_true rfl, Nat.le_of_ble_eq_true rfl⟩ ⟨rfl, rfl⟩ ⟨Nat.zero_le _, Nat.zero_le _⟩ (Nat.le_of_ble_eq_true rfl) dX7_talkersOnLine_16 ?_
      refine X_if_eq (pc := 19) C 34 dX7_talkersOnLine_19 (by decide) (fun h19 => ?_) (fun h19 => ?_)
      · skip
        first | refine X_iincN (pc := 34) (lv1 := [(0, _), (1, _), (2, _), (3, _)]) C dX7_talkersOnLine_34 rfl (by decide) (by decide) rfl ?_ | refine X_iinc (pc := 34) (kk := 1) (lv1 := [(0, _), (1, _), (2, _), (3, _)]) C dX7_talkersOnLine_34 rfl (by decide) (by decide) rfl ?_
        refine X_goto (pc := 37) C 4 dX7_talkersOnLine_37 (by decide) ?_
        exact XW.eq rfl (by first | rw [mLine, cCnt_n (fun q => (bz0 h19) q.1)] | rw [mLine, cCnt_n (fun q => (bz0 h28) q.2)] | rw [mLine, cCnt_y ⟨bz1 h19, bz1 h28⟩]) rfl (ih (i + 1) (by omega))
      · skip
        refine X_aload_n (pc := 22) C 0 dX7_talkersOnLine_22 rfl rfl ?_
        refine X_iload_n (pc := 23) C 3 dX7_talkersOnLine_23 rfl rfl ?_
        refine X_iload_n (pc := 24) C 1 dX7_talkersOnLine_24 rfl rfl ?_
        refine K_X7_99 (pc := 25) C (by assumption) (c_X7_usesLine l P τ S F L h1 hM i hlt _ rfl x) ⟨Nat.le_of_ble_eq_true rfl, Nat.le_of_ble_eq_true rfl⟩ ⟨rfl, rfl⟩ ⟨Nat.zero_le _, Nat.zero_le _⟩ (Nat.le_of_ble_eq_true rfl) dX7_talkersOnLine_25 ?_
        refine X_if_eq (pc := 28) C 34 dX7_talkersOnLine_28 (by decide) (fun h28 => ?_) (fun h28 => ?_)
        · skip
          first | refine X_iincN (pc := 34) (lv1 := [(0, _), (1, _), (2, _), (3, _)]) C dX7_talkersOnLine_34 rfl (by decide) (by decide) rfl ?_ | refine X_iinc (pc := 34) (kk := 1) (lv1 := [(0, _), (1, _), (2, _), (3, _)]) C dX7_talkersOnLine_34 rfl (by decide) (by decide) rfl ?_
          refine X_goto (pc := 37) C 4 dX7_talkersOnLine_37 (by decide) ?_
          exact XW.eq rfl (by first | rw [mLine, cCnt_n (fun q => (bz0 h19) q.1)] | rw [mLine, cCnt_n (fun q => (bz0 h28) q.2)] | rw [mLine, cCnt_y ⟨bz1 h19, bz1 h28⟩]) rfl (ih (i + 1) (by omega))
        · skip
          first | refine X_iincN (pc := 31) (lv1 := [(0, _), (1, _), (2, _), (3, _)]) C dX7_talkersOnLine_31 rfl (by decide) (by decide) rfl ?_ | refine X_iinc (pc := 31) (kk := 1) (lv1 := [(0, _), (1, _), (2, _), (3, _)]) C dX7_talkersOnLine_31 rfl (by decide) (by decide) rfl ?_
          first | refine X_iincN (pc := 34) (lv1 := [(0, _), (1, _), (2, _), (3, _)]) C dX7_talkersOnLine_34 rfl (by decide) (by decide) rfl ?_ | refine X_iinc (pc := 34) (kk := 1) (lv1 := [(0, _), (1, _), (2, _), (3, _)]) C dX7_talkersOnLine_34 rfl (by decide) (by decide) rfl ?_
          refine X_goto (pc := 37) C 4 dX7_talkersOnLine_37 (by decide) ?_
          exact XW.eq rfl (by first | rw [mLine, cCnt_n (fun q => (bz0 h19) q.1)] | rw [mLine, cCnt_n (fun q => (bz0 h28) q.2)] | rw [mLine, cCnt_y ⟨bz1 h19, bz1 h28⟩]) rfl (ih (i + 1) (by omega))

set_option maxRecDepth 100000 in
set_option maxHeartbeats 4000000 in
theorem c_X7_talkersOnLine (l : Launch) (P : XP) (τ : XS) (S F L : Nat → Int32) (h1 : xI1 P) (hM : MI S) (x : Int32) : XF l yX7_talkersOnLine cX7_talkersOnLine 4 (some .int) rm_X7_talkersOnLine P [.ref (P.2.2.1 (.inr 9)), .int x] (mW τ S F L) (some (.int (nI (mLine S x (mK S))))) (mW τ S F L) := by
  refine XM.of (by decide +kernel) (Nat.le_of_ble_eq_true rfl) (fun p e s m args below meth c A C => ?_)
  replace C : XC p s m args meth c P A 4 RX7 cX7_talkersOnLine (some .int) := C
  refine XW.eq (lv' := [(0, _), (1, _)]) rfl rfl rfl ?_
  refine X_iconst (pc := 0) (v := 0) C dX7_talkersOnLine_0 (by decide) ?_
  refine X_istore_n (pc := 1) (lv1 := [(0, _), (1, _), (2, _)]) C 2 dX7_talkersOnLine_1 rfl (by decide) rfl ?_
  refine X_iconst (pc := 2) (v := 0) C dX7_talkersOnLine_2 (by decide) ?_
  refine X_istore_n (pc := 3) (lv1 := [(0, _), (1, _), (2, _), (3, _)]) C 3 dX7_talkersOnLine_3 rfl (by decide) rfl ?_
  refine L_X7_talkersOnLine C h1 hM ?_ (mK S) 0 (by omega)
  refine X_iload_n (pc := 40) C 2 dX7_talkersOnLine_40 rfl rfl ?_
  exact X_iret (pc := 41) C (Nat.zero_le _) (Nat.zero_le _) dX7_talkersOnLine_41 ⟨rfl, rfl⟩

set_option maxRecDepth 100000 in
set_option maxHeartbeats 4000000 in
theorem L_X7_talkersOnTrunk (C : XC p s m args meth c P A 4 RX7 cX7_talkersOnTrunk (some .int)) {τ : XS} {S F L : Nat → Int32} (h1 : xI1 P) (hM : MI S) {x : Int32} (kx : XW p l e rm_X7_talkersOnTrunk s m args below meth c P A 4 0 0 Q (mW τ S F L) 41 [(0, .ref (P.2.2.1 (.inr 9))), (1, .int x), (2, .int (nI (mTrk S x (mK S)))), (3, .int (nI (mK S)))] []) : ∀ (k i : Nat), i + k = mK S → XW p l e rm_X7_talkersOnTrunk s m args below meth c P A 4 0 0 Q (mW τ S F L) 4 [(0, .ref (P.2.2.1 (.inr 9))), (1, .int x), (2, .int (nI (mTrk S x (i)))), (3, .int (nI (i)))] [] := by
  have hbd := hM.k40
  intro k
  induction k with
  | zero =>
    intro i hi
    have e9 : i = mK S := by omega
    subst e9
    refine X_iload_n (pc := 4) C 3 dX7_talkersOnTrunk_4 rfl rfl ?_
    refine X_aload_n (pc := 5) C 0 dX7_talkersOnTrunk_5 rfl rfl ?_
    refine G_X7_9 (pc := 6) C (by assumption) dX7_talkersOnTrunk_6 ?_
    refine X_iconst (pc := 9) (v := 5) C dX7_talkersOnTrunk_9 (by decide) ?_
    refine X_ialdN (j := 5) (pc := 10) C (by first | exact h1 _ (by decide) (by decide)) rfl (by omega) (by decide) dX7_talkersOnTrunk_10 ?_
    rw [mW_10]
    rw [hM.k]
    refine X_icmp_ge (pc := 11) C 41 dX7_talkersOnTrunk_11 (by decide) (fun h11 => ?_) (fun h11 => ?_)
    · skip
      exact kx
    · exact absurd (nI_le (Nat.le_refl _) (n31 (by omega))) h11
  | succ k ih =>
    intro i hi
    have hlt : i < mK S := by omega
    refine X_iload_n (pc := 4) C 3 dX7_talkersOnTrunk_4 rfl rfl ?_
    refine X_aload_n (pc := 5) C 0 dX7_talkersOnTrunk_5 rfl rfl ?_
    refine G_X7_9 (pc := 6) C (by assumption) dX7_talkersOnTrunk_6 ?_
    refine X_iconst (pc := 9) (v := 5) C dX7_talkersOnTrunk_9 (by decide) ?_
    refine X_ialdN (j := 5) (pc := 10) C (by first | exact h1 _ (by decide) (by decide)) rfl (by omega) (by decide) dX7_talkersOnTrunk_10 ?_
    rw [mW_10]
    rw [hM.k]
    refine X_icmp_ge (pc := 11) C 41 dX7_talkersOnTrunk_11 (by decide) (fun h11 => ?_) (fun h11 => ?_)
    · exact absurd (nle h11) (by omega)
    · skip
      refine X_aload_n (pc := 14) C 0 dX7_talkersOnTrunk_14 rfl rfl ?_
      refine X_iload_n (pc := 15) C 3 dX7_talkersOnTrunk_15 rfl rfl ?_
      refine K_X7_95 (pc := 16) C (by assumption) (c_X7_isTalking l P τ S F L h1 i (by omega) _ rfl) ⟨Nat.le_of_ble_eq_true rfl, Nat.le_of_ble_eq_true rfl⟩ ⟨rfl, rfl⟩ ⟨Nat.zero_le _, Nat.zero_le _⟩ (Nat.le_of_ble_eq_true rfl) dX7_talkersOnTrunk_16 ?_
      refine X_if_eq (pc := 19) C 35 dX7_talkersOnTrunk_19 (by decide) (fun h19 => ?_) (fun h19 => ?_)
      · skip
        first | refine X_iincN (pc := 35) (lv1 := [(0, _), (1, _), (2, _), (3, _)]) C dX7_talkersOnTrunk_35 rfl (by decide) (by decide) rfl ?_ | refine X_iinc (pc := 35) (kk := 1) (lv1 := [(0, _), (1, _), (2, _), (3, _)]) C dX7_talkersOnTrunk_35 rfl (by decide) (by decide) rfl ?_
        refine X_goto (pc := 38) C 4 dX7_talkersOnTrunk_38 (by decide) ?_
        exact XW.eq rfl (by first | rw [mTrk, cCnt_n (fun q => (bz0 h19) q.1)] | rw [mTrk, cCnt_n (fun q => h29 q.2)] | rw [mTrk, cCnt_y ⟨bz1 h19, h29⟩]) rfl (ih (i + 1) (by omega))
      · skip
        refine X_aload_n (pc := 22) C 0 dX7_talkersOnTrunk_22 rfl rfl ?_
        refine X_iload_n (pc := 23) C 3 dX7_talkersOnTrunk_23 rfl rfl ?_
        refine X_iconst (pc := 24) (v := 2) C dX7_talkersOnTrunk_24 (by decide) ?_
        refine K_X7_88 (pc := 25) C (by assumption) (c_X7_ofCall l P τ S F L h1 i 2 (by omega) (by decide) _ 2 rfl rfl) ⟨Nat.le_of_ble_eq_true rfl, Nat.le_of_ble_eq_true rfl⟩ ⟨rfl, rfl⟩ ⟨Nat.zero_le _, Nat.zero_le _⟩ (Nat.le_of_ble_eq_true rfl) dX7_talkersOnTrunk_25 ?_
        refine X_iload_n (pc := 28) C 1 dX7_talkersOnTrunk_28 rfl rfl ?_
        refine X_icmp_ne (pc := 29) C 35 dX7_talkersOnTrunk_29 (by decide) (fun h29 => ?_) (fun h29 => ?_)
        · skip
          first | refine X_iincN (pc := 35) (lv1 := [(0, _), (1, _), (2, _), (3, _)]) C dX7_talkersOnTrunk_35 rfl (by decide) (by decide) rfl ?_ | refine X_iinc (pc := 35) (kk := 1) (lv1 := [(0, _), (1, _), (2, _), (3, _)]) C dX7_talkersOnTrunk_35 rfl (by decide) (by decide) rfl ?_
          refine X_goto (pc := 38) C 4 dX7_talkersOnTrunk_38 (by decide) ?_
          exact XW.eq rfl (by first | rw [mTrk, cCnt_n (fun q => (bz0 h19) q.1)] | rw [mTrk, cCnt_n (fun q => h29 q.2)] | rw [mTrk, cCnt_y ⟨bz1 h19, h29⟩]) rfl (ih (i + 1) (by omega))
        · skip
          first | refine X_iincN (pc := 32) (lv1 := [(0, _), (1, _), (2, _), (3, _)]) C dX7_talkersOnTrunk_32 rfl (by decide) (by decide) rfl ?_ | refine X_iinc (pc := 32) (kk := 1) (lv1 := [(0, _), (1, _), (2, _), (3, _)]) C dX7_talkersOnTrunk_32 rfl (by decide) (by decide) rfl ?_
          first | refine X_iincN (pc := 35) (lv1 := [(0, _), (1, _), (2, _), (3, _)]) C dX7_talkersOnTrunk_35 rfl (by decide) (by decide) rfl ?_ | refine X_iinc (pc := 35) (kk := 1) (lv1 := [(0, _), (1, _), (2, _), (3, _)]) C dX7_talkersOnTrunk_35 rfl (by decide) (by decide) rfl ?_
          refine X_goto (pc := 38) C 4 dX7_talkersOnTrunk_38 (by decide) ?_
          exact XW.eq rfl (by first | rw [mTrk, cCnt_n (fun q => (bz0 h19) q.1)] | rw [mTrk, cCnt_n (fun q => h29 q.2)] | rw [mTrk, cCnt_y ⟨bz1 h19, h29⟩]) rfl (ih (i + 1) (by omega))

set_option maxRecDepth 100000 in
set_option maxHeartbeats 4000000 in
theorem c_X7_talkersOnTrunk (l : Launch) (P : XP) (τ : XS) (S F L : Nat → Int32) (h1 : xI1 P) (hM : MI S) (x : Int32) : XF l yX7_talkersOnTrunk cX7_talkersOnTrunk 4 (some .int) rm_X7_talkersOnTrunk P [.ref (P.2.2.1 (.inr 9)), .int x] (mW τ S F L) (some (.int (nI (mTrk S x (mK S))))) (mW τ S F L) := by
  refine XM.of (by decide +kernel) (Nat.le_of_ble_eq_true rfl) (fun p e s m args below meth c A C => ?_)
  replace C : XC p s m args meth c P A 4 RX7 cX7_talkersOnTrunk (some .int) := C
  refine XW.eq (lv' := [(0, _), (1, _)]) rfl rfl rfl ?_
  refine X_iconst (pc := 0) (v := 0) C dX7_talkersOnTrunk_0 (by decide) ?_
  refine X_istore_n (pc := 1) (lv1 := [(0, _), (1, _), (2, _)]) C 2 dX7_talkersOnTrunk_1 rfl (by decide) rfl ?_
  refine X_iconst (pc := 2) (v := 0) C dX7_talkersOnTrunk_2 (by decide) ?_
  refine X_istore_n (pc := 3) (lv1 := [(0, _), (1, _), (2, _), (3, _)]) C 3 dX7_talkersOnTrunk_3 rfl (by decide) rfl ?_
  refine L_X7_talkersOnTrunk C h1 hM ?_ (mK S) 0 (by omega)
  refine X_iload_n (pc := 41) C 2 dX7_talkersOnTrunk_41 rfl rfl ?_
  exact X_iret (pc := 42) C (Nat.zero_le _) (Nat.zero_le _) dX7_talkersOnTrunk_42 ⟨rfl, rfl⟩

set_option maxRecDepth 100000 in
set_option maxHeartbeats 4000000 in
theorem L_X7_cordsUsed (C : XC p s m args meth c P A 3 RX7 cX7_cordsUsed (some .int)) {τ : XS} {S F L : Nat → Int32} (h1 : xI1 P) (hM : MI S) (kx : XW p l e rm_X7_cordsUsed s m args below meth c P A 3 0 0 Q (mW τ S F L) 39 [(0, .ref (P.2.2.1 (.inr 9))), (1, .int (nI (mCords S (mK S)))), (2, .int (nI (mK S)))] []) : ∀ (k i : Nat), i + k = mK S → XW p l e rm_X7_cordsUsed s m args below meth c P A 3 0 0 Q (mW τ S F L) 4 [(0, .ref (P.2.2.1 (.inr 9))), (1, .int (nI (mCords S (i)))), (2, .int (nI (i)))] [] := by
  have hbd := hM.k40
  intro k
  induction k with
  | zero =>
    intro i hi
    have e9 : i = mK S := by omega
    subst e9
    refine X_iload_n (pc := 4) C 2 dX7_cordsUsed_4 rfl rfl ?_
    refine X_aload_n (pc := 5) C 0 dX7_cordsUsed_5 rfl rfl ?_
    refine G_X7_9 (pc := 6) C (by assumption) dX7_cordsUsed_6 ?_
    refine X_iconst (pc := 9) (v := 5) C dX7_cordsUsed_9 (by decide) ?_
    refine X_ialdN (j := 5) (pc := 10) C (by first | exact h1 _ (by decide) (by decide)) rfl (by omega) (by decide) dX7_cordsUsed_10 ?_
    rw [mW_10]
    rw [hM.k]
    refine X_icmp_ge (pc := 11) C 39 dX7_cordsUsed_11 (by decide) (fun h11 => ?_) (fun h11 => ?_)
    · skip
      exact kx
    · exact absurd (nI_le (Nat.le_refl _) (n31 (by omega))) h11
  | succ k ih =>
    intro i hi
    have hlt : i < mK S := by omega
    refine X_iload_n (pc := 4) C 2 dX7_cordsUsed_4 rfl rfl ?_
    refine X_aload_n (pc := 5) C 0 dX7_cordsUsed_5 rfl rfl ?_
    refine G_X7_9 (pc := 6) C (by assumption) dX7_cordsUsed_6 ?_
    refine X_iconst (pc := 9) (v := 5) C dX7_cordsUsed_9 (by decide) ?_
    refine X_ialdN (j := 5) (pc := 10) C (by first | exact h1 _ (by decide) (by decide)) rfl (by omega) (by decide) dX7_cordsUsed_10 ?_
    rw [mW_10]
    rw [hM.k]
    refine X_icmp_ge (pc := 11) C 39 dX7_cordsUsed_11 (by decide) (fun h11 => ?_) (fun h11 => ?_)
    · exact absurd (nle h11) (by omega)
    · skip
      refine X_aload_n (pc := 14) C 0 dX7_cordsUsed_14 rfl rfl ?_
      refine X_iload_n (pc := 15) C 2 dX7_cordsUsed_15 rfl rfl ?_
      refine K_X7_95 (pc := 16) C (by assumption) (c_X7_isTalking l P τ S F L h1 i (by omega) _ rfl) ⟨Nat.le_of_ble_eq_true rfl, Nat.le_of_ble_eq_true rfl⟩ ⟨rfl, rfl⟩ ⟨Nat.zero_le _, Nat.zero_le _⟩ (Nat.le_of_ble_eq_true rfl) dX7_cordsUsed_16 ?_
      refine X_if_eq (pc := 19) C 33 dX7_cordsUsed_19 (by decide) (fun h19 => ?_) (fun h19 => ?_)
      · have g9 : ¬ (sC S 4 i = 1 ∧ ¬ mOwn S i) := fun q => bz0 h19 q.1
        first | refine X_iincN (pc := 33) (lv1 := [(0, _), (1, _), (2, _)]) C dX7_cordsUsed_33 rfl (by decide) (by decide) rfl ?_ | refine X_iinc (pc := 33) (kk := 1) (lv1 := [(0, _), (1, _), (2, _)]) C dX7_cordsUsed_33 rfl (by decide) (by decide) rfl ?_
        refine X_goto (pc := 36) C 4 dX7_cordsUsed_36 (by decide) ?_
        exact XW.eq rfl (by first | rw [mCords, cCnt_n g9] | rw [mCords, cCnt_y g9]) rfl (ih (i + 1) (by omega))
      · skip
        refine X_aload_n (pc := 22) C 0 dX7_cordsUsed_22 rfl rfl ?_
        refine X_iload_n (pc := 23) C 2 dX7_cordsUsed_23 rfl rfl ?_
        refine K_X7_103 (pc := 24) C (by assumption) (c_X7_isOwnLine l P τ S F L h1 hM i hlt _ rfl) ⟨Nat.le_of_ble_eq_true rfl, Nat.le_of_ble_eq_true rfl⟩ ⟨rfl, rfl⟩ ⟨Nat.zero_le _, Nat.zero_le _⟩ (Nat.le_of_ble_eq_true rfl) dX7_cordsUsed_24 ?_
        refine X_if_ne (pc := 27) C 33 dX7_cordsUsed_27 (by decide) (fun h27 => ?_) (fun h27 => ?_)
        · have g9 : ¬ (sC S 4 i = 1 ∧ ¬ mOwn S i) := fun q => q.2 (bz1 h27)
          first | refine X_iincN (pc := 33) (lv1 := [(0, _), (1, _), (2, _)]) C dX7_cordsUsed_33 rfl (by decide) (by decide) rfl ?_ | refine X_iinc (pc := 33) (kk := 1) (lv1 := [(0, _), (1, _), (2, _)]) C dX7_cordsUsed_33 rfl (by decide) (by decide) rfl ?_
          refine X_goto (pc := 36) C 4 dX7_cordsUsed_36 (by decide) ?_
          exact XW.eq rfl (by first | rw [mCords, cCnt_n g9] | rw [mCords, cCnt_y g9]) rfl (ih (i + 1) (by omega))
        · have g9 : sC S 4 i = 1 ∧ ¬ mOwn S i := ⟨bz1 h19, bz0 h27⟩
          first | refine X_iincN (pc := 30) (lv1 := [(0, _), (1, _), (2, _)]) C dX7_cordsUsed_30 rfl (by decide) (by decide) rfl ?_ | refine X_iinc (pc := 30) (kk := 1) (lv1 := [(0, _), (1, _), (2, _)]) C dX7_cordsUsed_30 rfl (by decide) (by decide) rfl ?_
          first | refine X_iincN (pc := 33) (lv1 := [(0, _), (1, _), (2, _)]) C dX7_cordsUsed_33 rfl (by decide) (by decide) rfl ?_ | refine X_iinc (pc := 33) (kk := 1) (lv1 := [(0, _), (1, _), (2, _)]) C dX7_cordsUsed_33 rfl (by decide) (by decide) rfl ?_
          refine X_goto (pc := 36) C 4 dX7_cordsUsed_36 (by decide) ?_
          exact XW.eq rfl (by first | rw [mCords, cCnt_n g9] | rw [mCords, cCnt_y g9]) rfl (ih (i + 1) (by omega))

set_option maxRecDepth 100000 in
set_option maxHeartbeats 4000000 in
theorem c_X7_cordsUsed (l : Launch) (P : XP) (τ : XS) (S F L : Nat → Int32) (h1 : xI1 P) (hM : MI S) : XF l yX7_cordsUsed cX7_cordsUsed 3 (some .int) rm_X7_cordsUsed P [.ref (P.2.2.1 (.inr 9))] (mW τ S F L) (some (.int (nI (mCords S (mK S))))) (mW τ S F L) := by
  refine XM.of (by decide +kernel) (Nat.le_of_ble_eq_true rfl) (fun p e s m args below meth c A C => ?_)
  replace C : XC p s m args meth c P A 3 RX7 cX7_cordsUsed (some .int) := C
  refine XW.eq (lv' := [(0, _)]) rfl rfl rfl ?_
  refine X_iconst (pc := 0) (v := 0) C dX7_cordsUsed_0 (by decide) ?_
  refine X_istore_n (pc := 1) (lv1 := [(0, _), (1, _)]) C 1 dX7_cordsUsed_1 rfl (by decide) rfl ?_
  refine X_iconst (pc := 2) (v := 0) C dX7_cordsUsed_2 (by decide) ?_
  refine X_istore_n (pc := 3) (lv1 := [(0, _), (1, _), (2, _)]) C 2 dX7_cordsUsed_3 rfl (by decide) rfl ?_
  refine L_X7_cordsUsed C h1 hM ?_ (mK S) 0 (by omega)
  refine X_iload_n (pc := 39) C 1 dX7_cordsUsed_39 rfl rfl ?_
  exact X_iret (pc := 40) C (Nat.zero_le _) (Nat.zero_le _) dX7_cordsUsed_40 ⟨rfl, rfl⟩

set_option maxRecDepth 100000 in
set_option maxHeartbeats 4000000 in
theorem L_X7_callsIn (C : XC p s m args meth c P A 4 RX7 cX7_callsIn (some .int)) {τ : XS} {S F L : Nat → Int32} (h1 : xI1 P) (hM : MI S) {x : Int32} (kx : XW p l e rm_X7_callsIn s m args below meth c P A 4 0 0 Q (mW τ S F L) 33 [(0, .ref (P.2.2.1 (.inr 9))), (1, .int x), (2, .int (nI (cCount (fun c => sC S 4 c) x (mK S)))), (3, .int (nI (mK S)))] []) : ∀ (k i : Nat), i + k = mK S → XW p l e rm_X7_callsIn s m args below meth c P A 4 0 0 Q (mW τ S F L) 4 [(0, .ref (P.2.2.1 (.inr 9))), (1, .int x), (2, .int (nI (cCount (fun c => sC S 4 c) x (i)))), (3, .int (nI (i)))] [] := by
  have hbd := hM.k40
  intro k
  induction k with
  | zero =>
    intro i hi
    have e9 : i = mK S := by omega
    subst e9
    refine X_iload_n (pc := 4) C 3 dX7_callsIn_4 rfl rfl ?_
    refine X_aload_n (pc := 5) C 0 dX7_callsIn_5 rfl rfl ?_
    refine G_X7_9 (pc := 6) C (by assumption) dX7_callsIn_6 ?_
    refine X_iconst (pc := 9) (v := 5) C dX7_callsIn_9 (by decide) ?_
    refine X_ialdN (j := 5) (pc := 10) C (by first | exact h1 _ (by decide) (by decide)) rfl (by omega) (by decide) dX7_callsIn_10 ?_
    rw [mW_10]
    rw [hM.k]
    refine X_icmp_ge (pc := 11) C 33 dX7_callsIn_11 (by decide) (fun h11 => ?_) (fun h11 => ?_)
    · skip
      exact kx
    · exact absurd (nI_le (Nat.le_refl _) (n31 (by omega))) h11
  | succ k ih =>
    intro i hi
    have hlt : i < mK S := by omega
    refine X_iload_n (pc := 4) C 3 dX7_callsIn_4 rfl rfl ?_
    refine X_aload_n (pc := 5) C 0 dX7_callsIn_5 rfl rfl ?_
    refine G_X7_9 (pc := 6) C (by assumption) dX7_callsIn_6 ?_
    refine X_iconst (pc := 9) (v := 5) C dX7_callsIn_9 (by decide) ?_
    refine X_ialdN (j := 5) (pc := 10) C (by first | exact h1 _ (by decide) (by decide)) rfl (by omega) (by decide) dX7_callsIn_10 ?_
    rw [mW_10]
    rw [hM.k]
    refine X_icmp_ge (pc := 11) C 33 dX7_callsIn_11 (by decide) (fun h11 => ?_) (fun h11 => ?_)
    · exact absurd (nle h11) (by omega)
    · skip
      refine X_aload_n (pc := 14) C 0 dX7_callsIn_14 rfl rfl ?_
      refine X_iload_n (pc := 15) C 3 dX7_callsIn_15 rfl rfl ?_
      refine X_iconst (pc := 16) (v := 4) C dX7_callsIn_16 (by decide) ?_
      refine K_X7_88 (pc := 17) C (by assumption) (c_X7_ofCall l P τ S F L h1 i 4 (by omega) (by decide) _ 4 rfl rfl) ⟨Nat.le_of_ble_eq_true rfl, Nat.le_of_ble_eq_true rfl⟩ ⟨rfl, rfl⟩ ⟨Nat.zero_le _, Nat.zero_le _⟩ (Nat.le_of_ble_eq_true rfl) dX7_callsIn_17 ?_
      refine X_iload_n (pc := 20) C 1 dX7_callsIn_20 rfl rfl ?_
      refine X_icmp_ne (pc := 21) C 27 dX7_callsIn_21 (by decide) (fun h21 => ?_) (fun h21 => ?_)
      · skip
        first | refine X_iincN (pc := 27) (lv1 := [(0, _), (1, _), (2, _), (3, _)]) C dX7_callsIn_27 rfl (by decide) (by decide) rfl ?_ | refine X_iinc (pc := 27) (kk := 1) (lv1 := [(0, _), (1, _), (2, _), (3, _)]) C dX7_callsIn_27 rfl (by decide) (by decide) rfl ?_
        refine X_goto (pc := 30) C 4 dX7_callsIn_30 (by decide) ?_
        exact XW.eq rfl (by simp [cCount, h21]) rfl (ih (i + 1) (by omega))
      · skip
        first | refine X_iincN (pc := 24) (lv1 := [(0, _), (1, _), (2, _), (3, _)]) C dX7_callsIn_24 rfl (by decide) (by decide) rfl ?_ | refine X_iinc (pc := 24) (kk := 1) (lv1 := [(0, _), (1, _), (2, _), (3, _)]) C dX7_callsIn_24 rfl (by decide) (by decide) rfl ?_
        first | refine X_iincN (pc := 27) (lv1 := [(0, _), (1, _), (2, _), (3, _)]) C dX7_callsIn_27 rfl (by decide) (by decide) rfl ?_ | refine X_iinc (pc := 27) (kk := 1) (lv1 := [(0, _), (1, _), (2, _), (3, _)]) C dX7_callsIn_27 rfl (by decide) (by decide) rfl ?_
        refine X_goto (pc := 30) C 4 dX7_callsIn_30 (by decide) ?_
        exact XW.eq rfl (by simp [cCount, h21]) rfl (ih (i + 1) (by omega))

set_option maxRecDepth 100000 in
set_option maxHeartbeats 4000000 in
theorem c_X7_callsIn (l : Launch) (P : XP) (τ : XS) (S F L : Nat → Int32) (h1 : xI1 P) (hM : MI S) (x : Int32) : XF l yX7_callsIn cX7_callsIn 4 (some .int) rm_X7_callsIn P [.ref (P.2.2.1 (.inr 9)), .int x] (mW τ S F L) (some (.int (nI (cCount (fun c => sC S 4 c) x (mK S))))) (mW τ S F L) := by
  refine XM.of (by decide +kernel) (Nat.le_of_ble_eq_true rfl) (fun p e s m args below meth c A C => ?_)
  replace C : XC p s m args meth c P A 4 RX7 cX7_callsIn (some .int) := C
  refine XW.eq (lv' := [(0, _), (1, _)]) rfl rfl rfl ?_
  refine X_iconst (pc := 0) (v := 0) C dX7_callsIn_0 (by decide) ?_
  refine X_istore_n (pc := 1) (lv1 := [(0, _), (1, _), (2, _)]) C 2 dX7_callsIn_1 rfl (by decide) rfl ?_
  refine X_iconst (pc := 2) (v := 0) C dX7_callsIn_2 (by decide) ?_
  refine X_istore_n (pc := 3) (lv1 := [(0, _), (1, _), (2, _), (3, _)]) C 3 dX7_callsIn_3 rfl (by decide) rfl ?_
  refine L_X7_callsIn C h1 hM ?_ (mK S) 0 (by omega)
  refine X_iload_n (pc := 33) C 2 dX7_callsIn_33 rfl rfl ?_
  exact X_iret (pc := 34) C (Nat.zero_le _) (Nat.zero_le _) dX7_callsIn_34 ⟨rfl, rfl⟩

set_option maxRecDepth 100000 in
set_option maxHeartbeats 4000000 in
theorem c_X7_why (l : Launch) (P : XP) (τ : XS) (S F L : Nat → Int32) (h1 : xI1 P) (hM : MI S) (j : Nat) (hj : j < mK S) (x : Int32) (hx : x = nI j) : XF l yX7_why cX7_why 3 (some .int) rm_X7_why P [.ref (P.2.2.1 (.inr 9)), .int x] (mW τ S F L) (some (.int (mWhy S j))) (mW τ S F L) := by
  refine XM.of (by decide +kernel) (Nat.le_of_ble_eq_true rfl) (fun p e s m args below meth c A C => ?_)
  replace C : XC p s m args meth c P A 3 RX7 cX7_why (some .int) := C
  refine XW.eq (lv' := [(0, _), (1, _)]) rfl rfl rfl ?_
  refine X_aload_n (pc := 0) C 0 dX7_why_0 rfl rfl ?_
  refine X_aload_n (pc := 1) C 0 dX7_why_1 rfl rfl ?_
  refine X_aload_n (pc := 2) C 0 dX7_why_2 rfl rfl ?_
  refine X_iload_n (pc := 3) C 1 dX7_why_3 rfl rfl ?_
  refine X_iconst (pc := 4) (v := 0) C dX7_why_4 (by decide) ?_
  refine K_X7_88 (pc := 5) C (by assumption) (c_X7_ofCall l P τ S F L h1 j 0 (by have := hM.k40; omega) (by decide) _ 0 hx rfl) ⟨Nat.le_of_ble_eq_true rfl, Nat.le_of_ble_eq_true rfl⟩ ⟨rfl, rfl⟩ ⟨Nat.zero_le _, Nat.zero_le _⟩ (Nat.le_of_ble_eq_true rfl) dX7_why_5 ?_
  refine X_iconst (pc := 8) (v := 0) C dX7_why_8 (by decide) ?_
  refine K_X7_92 (pc := 9) C (by assumption) (c_X7_ofUser l P τ S F L h1 (cN (sC S 0 j)) 0 ((hM.ca hj).1) (by decide) _ 0 ((hM.ca hj).2) rfl) ⟨Nat.le_of_ble_eq_true rfl, Nat.le_of_ble_eq_true rfl⟩ ⟨rfl, rfl⟩ ⟨Nat.zero_le _, Nat.zero_le _⟩ (Nat.le_of_ble_eq_true rfl) dX7_why_9 ?_
  refine K_X7_106 (pc := 12) C (by assumption) (c_X7_talkersOnLine l P τ S F L h1 hM _) ⟨Nat.le_of_ble_eq_true rfl, Nat.le_of_ble_eq_true rfl⟩ ⟨rfl, rfl⟩ ⟨Nat.zero_le _, Nat.zero_le _⟩ (Nat.le_of_ble_eq_true rfl) dX7_why_12 ?_
  refine X_if_le (pc := 15) C 20 dX7_why_15 (by decide) (fun h15 => ?_) (fun h15 => ?_)
  · have g15 := nle0 h15 (Nat.le_trans (cCnt_le _ _) (by have := hM.k40; omega))
    refine X_aload_n (pc := 20) C 0 dX7_why_20 rfl rfl ?_
    refine X_iload_n (pc := 21) C 1 dX7_why_21 rfl rfl ?_
    refine X_iconst (pc := 22) (v := 2) C dX7_why_22 (by decide) ?_
    refine K_X7_88 (pc := 23) C (by assumption) (c_X7_ofCall l P τ S F L h1 j 2 (by have := hM.k40; omega) (by decide) _ 2 hx rfl) ⟨Nat.le_of_ble_eq_true rfl, Nat.le_of_ble_eq_true rfl⟩ ⟨rfl, rfl⟩ ⟨Nat.zero_le _, Nat.zero_le _⟩ (Nat.le_of_ble_eq_true rfl) dX7_why_23 ?_
    refine X_iconst (pc := 26) (v := (-1)) C dX7_why_26 (by decide) ?_
    refine X_icmp_ne (pc := 27) C 56 dX7_why_27 (by decide) (fun h27 => ?_) (fun h27 => ?_)
    · skip
      refine X_aload_n (pc := 56) C 0 dX7_why_56 rfl rfl ?_
      refine X_aload_n (pc := 57) C 0 dX7_why_57 rfl rfl ?_
      refine X_iload_n (pc := 58) C 1 dX7_why_58 rfl rfl ?_
      refine X_iconst (pc := 59) (v := 2) C dX7_why_59 (by decide) ?_
      refine K_X7_88 (pc := 60) C (by assumption) (c_X7_ofCall l P τ S F L h1 j 2 (by have := hM.k40; omega) (by decide) _ 2 hx rfl) ⟨Nat.le_of_ble_eq_true rfl, Nat.le_of_ble_eq_true rfl⟩ ⟨rfl, rfl⟩ ⟨Nat.zero_le _, Nat.zero_le _⟩ (Nat.le_of_ble_eq_true rfl) dX7_why_60 ?_
      refine K_X7_109 (pc := 63) C (by assumption) (c_X7_talkersOnTrunk l P τ S F L h1 hM _) ⟨Nat.le_of_ble_eq_true rfl, Nat.le_of_ble_eq_true rfl⟩ ⟨rfl, rfl⟩ ⟨Nat.zero_le _, Nat.zero_le _⟩ (Nat.le_of_ble_eq_true rfl) dX7_why_63 ?_
      refine X_if_le (pc := 66) C 73 dX7_why_66 (by decide) (fun h66 => ?_) (fun h66 => ?_)
      · have g66 := nle0 h66 (Nat.le_trans (cCnt_le _ _) (by have := hM.k40; omega))
        refine X_iconst (pc := 73) (v := 0) C dX7_why_73 (by decide) ?_
        refine X_istore_n (pc := 74) (lv1 := [(0, _), (1, _), (2, _)]) C 2 dX7_why_74 rfl (by decide) rfl ?_
        refine X_iload_n (pc := 75) C 2 dX7_why_75 rfl rfl ?_
        refine X_if_eq (pc := 76) C 81 dX7_why_76 (by decide) (fun h76 => ?_) (fun h76 => ?_)
        · skip
          refine X_aload_n (pc := 81) C 0 dX7_why_81 rfl rfl ?_
          refine X_iload_n (pc := 82) C 1 dX7_why_82 rfl rfl ?_
          refine K_X7_103 (pc := 83) C (by assumption) (c_X7_isOwnLine l P τ S F L h1 hM j hj _ hx) ⟨Nat.le_of_ble_eq_true rfl, Nat.le_of_ble_eq_true rfl⟩ ⟨rfl, rfl⟩ ⟨Nat.zero_le _, Nat.zero_le _⟩ (Nat.le_of_ble_eq_true rfl) dX7_why_83 ?_
          refine X_if_ne (pc := 86) C 106 dX7_why_86 (by decide) (fun h86 => ?_) (fun h86 => ?_)
          · have g86 := bz1 h86
            refine X_iconst (pc := 106) (v := 0) C dX7_why_106 (by decide) ?_
            exact X_iret (pc := 107) C (Nat.zero_le _) (Nat.zero_le _) dX7_why_107 ⟨by rw [mWhy, if_neg g15, if_neg (fun q => q.elim (fun r => h27 r.1) (fun r => g66 r.2)), if_neg (fun q => q.1 g86)], rfl⟩
          · have g86 := bz0 h86
            refine X_aload_n (pc := 89) C 0 dX7_why_89 rfl rfl ?_
            refine K_X7_112 (pc := 90) C (by assumption) (c_X7_cordsUsed l P τ S F L h1 hM) ⟨Nat.le_of_ble_eq_true rfl, Nat.le_of_ble_eq_true rfl⟩ ⟨rfl, rfl⟩ ⟨Nat.zero_le _, Nat.zero_le _⟩ (Nat.le_of_ble_eq_true rfl) dX7_why_90 ?_
            refine X_aload_n (pc := 93) C 0 dX7_why_93 rfl rfl ?_
            refine G_X7_9 (pc := 94) C (by assumption) dX7_why_94 ?_
            refine X_iconst (pc := 97) (v := 2) C dX7_why_97 (by decide) ?_
            refine X_ialdN (j := 2) (pc := 98) C (by first | exact h1 _ (by decide) (by decide)) rfl (by omega) (by decide) dX7_why_98 ?_
            rw [mW_10]
            refine X_icmp_ne (pc := 99) C 106 dX7_why_99 (by decide) (fun h99 => ?_) (fun h99 => ?_)
            · skip
              refine X_iconst (pc := 106) (v := 0) C dX7_why_106 (by decide) ?_
              exact X_iret (pc := 107) C (Nat.zero_le _) (Nat.zero_le _) dX7_why_107 ⟨by rw [mWhy, if_neg g15, if_neg (fun q => q.elim (fun r => h27 r.1) (fun r => g66 r.2)), if_neg (fun q => h99 q.2)], rfl⟩
            · skip
              refine X_iconst (pc := 102) (v := 3) C dX7_why_102 (by decide) ?_
              refine X_goto (pc := 103) C 107 dX7_why_103 (by decide) ?_
              exact X_iret (pc := 107) C (Nat.zero_le _) (Nat.zero_le _) dX7_why_107 ⟨by rw [mWhy, if_neg g15, if_neg (fun q => q.elim (fun r => h27 r.1) (fun r => g66 r.2)), if_pos ⟨g86, h99⟩], rfl⟩
        · exact absurd h76 (by decide)
      · have g66 := nnle0 h66
        refine X_iconst (pc := 69) (v := 1) C dX7_why_69 (by decide) ?_
        refine X_goto (pc := 70) C 74 dX7_why_70 (by decide) ?_
        refine X_istore_n (pc := 74) (lv1 := [(0, _), (1, _), (2, _)]) C 2 dX7_why_74 rfl (by decide) rfl ?_
        refine X_iload_n (pc := 75) C 2 dX7_why_75 rfl rfl ?_
        refine X_if_eq (pc := 76) C 81 dX7_why_76 (by decide) (fun h76 => ?_) (fun h76 => ?_)
        · exact absurd h76 (by decide)
        · skip
          refine X_iconst (pc := 79) (v := 2) C dX7_why_79 (by decide) ?_
          exact X_iret (pc := 80) C (Nat.zero_le _) (Nat.zero_le _) dX7_why_80 ⟨by rw [mWhy, if_neg g15, if_pos (Or.inr ⟨h27, g66⟩)], rfl⟩
    · skip
      refine X_aload_n (pc := 30) C 0 dX7_why_30 rfl rfl ?_
      refine X_aload_n (pc := 31) C 0 dX7_why_31 rfl rfl ?_
      refine X_aload_n (pc := 32) C 0 dX7_why_32 rfl rfl ?_
      refine X_iload_n (pc := 33) C 1 dX7_why_33 rfl rfl ?_
      refine X_iconst (pc := 34) (v := 1) C dX7_why_34 (by decide) ?_
      refine K_X7_88 (pc := 35) C (by assumption) (c_X7_ofCall l P τ S F L h1 j 1 (by have := hM.k40; omega) (by decide) _ 1 hx rfl) ⟨Nat.le_of_ble_eq_true rfl, Nat.le_of_ble_eq_true rfl⟩ ⟨rfl, rfl⟩ ⟨Nat.zero_le _, Nat.zero_le _⟩ (Nat.le_of_ble_eq_true rfl) dX7_why_35 ?_
      refine X_iconst (pc := 38) (v := 0) C dX7_why_38 (by decide) ?_
      refine K_X7_92 (pc := 39) C (by assumption) (c_X7_ofUser l P τ S F L h1 (cN (sC S 1 j)) 0 ((hM.ot hj h27).1) (by decide) _ 0 ((hM.ot hj h27).2) rfl) ⟨Nat.le_of_ble_eq_true rfl, Nat.le_of_ble_eq_true rfl⟩ ⟨rfl, rfl⟩ ⟨Nat.zero_le _, Nat.zero_le _⟩ (Nat.le_of_ble_eq_true rfl) dX7_why_39 ?_
      refine K_X7_106 (pc := 42) C (by assumption) (c_X7_talkersOnLine l P τ S F L h1 hM _) ⟨Nat.le_of_ble_eq_true rfl, Nat.le_of_ble_eq_true rfl⟩ ⟨rfl, rfl⟩ ⟨Nat.zero_le _, Nat.zero_le _⟩ (Nat.le_of_ble_eq_true rfl) dX7_why_42 ?_
      refine X_if_le (pc := 45) C 52 dX7_why_45 (by decide) (fun h45 => ?_) (fun h45 => ?_)
      · have g45 := nle0 h45 (Nat.le_trans (cCnt_le _ _) (by have := hM.k40; omega))
        refine X_iconst (pc := 52) (v := 0) C dX7_why_52 (by decide) ?_
        refine X_goto (pc := 53) C 74 dX7_why_53 (by decide) ?_
        refine X_istore_n (pc := 74) (lv1 := [(0, _), (1, _), (2, _)]) C 2 dX7_why_74 rfl (by decide) rfl ?_
        refine X_iload_n (pc := 75) C 2 dX7_why_75 rfl rfl ?_
        refine X_if_eq (pc := 76) C 81 dX7_why_76 (by decide) (fun h76 => ?_) (fun h76 => ?_)
        · skip
          refine X_aload_n (pc := 81) C 0 dX7_why_81 rfl rfl ?_
          refine X_iload_n (pc := 82) C 1 dX7_why_82 rfl rfl ?_
          refine K_X7_103 (pc := 83) C (by assumption) (c_X7_isOwnLine l P τ S F L h1 hM j hj _ hx) ⟨Nat.le_of_ble_eq_true rfl, Nat.le_of_ble_eq_true rfl⟩ ⟨rfl, rfl⟩ ⟨Nat.zero_le _, Nat.zero_le _⟩ (Nat.le_of_ble_eq_true rfl) dX7_why_83 ?_
          refine X_if_ne (pc := 86) C 106 dX7_why_86 (by decide) (fun h86 => ?_) (fun h86 => ?_)
          · have g86 := bz1 h86
            refine X_iconst (pc := 106) (v := 0) C dX7_why_106 (by decide) ?_
            exact X_iret (pc := 107) C (Nat.zero_le _) (Nat.zero_le _) dX7_why_107 ⟨by rw [mWhy, if_neg g15, if_neg (fun q => q.elim (fun r => g45 r.2) (fun r => r.1 h27)), if_neg (fun q => q.1 g86)], rfl⟩
          · have g86 := bz0 h86
            refine X_aload_n (pc := 89) C 0 dX7_why_89 rfl rfl ?_
            refine K_X7_112 (pc := 90) C (by assumption) (c_X7_cordsUsed l P τ S F L h1 hM) ⟨Nat.le_of_ble_eq_true rfl, Nat.le_of_ble_eq_true rfl⟩ ⟨rfl, rfl⟩ ⟨Nat.zero_le _, Nat.zero_le _⟩ (Nat.le_of_ble_eq_true rfl) dX7_why_90 ?_
            refine X_aload_n (pc := 93) C 0 dX7_why_93 rfl rfl ?_
            refine G_X7_9 (pc := 94) C (by assumption) dX7_why_94 ?_
            refine X_iconst (pc := 97) (v := 2) C dX7_why_97 (by decide) ?_
            refine X_ialdN (j := 2) (pc := 98) C (by first | exact h1 _ (by decide) (by decide)) rfl (by omega) (by decide) dX7_why_98 ?_
            rw [mW_10]
            refine X_icmp_ne (pc := 99) C 106 dX7_why_99 (by decide) (fun h99 => ?_) (fun h99 => ?_)
            · skip
              refine X_iconst (pc := 106) (v := 0) C dX7_why_106 (by decide) ?_
              exact X_iret (pc := 107) C (Nat.zero_le _) (Nat.zero_le _) dX7_why_107 ⟨by rw [mWhy, if_neg g15, if_neg (fun q => q.elim (fun r => g45 r.2) (fun r => r.1 h27)), if_neg (fun q => h99 q.2)], rfl⟩
            · skip
              refine X_iconst (pc := 102) (v := 3) C dX7_why_102 (by decide) ?_
              refine X_goto (pc := 103) C 107 dX7_why_103 (by decide) ?_
              exact X_iret (pc := 107) C (Nat.zero_le _) (Nat.zero_le _) dX7_why_107 ⟨by rw [mWhy, if_neg g15, if_neg (fun q => q.elim (fun r => g45 r.2) (fun r => r.1 h27)), if_pos ⟨g86, h99⟩], rfl⟩
        · exact absurd h76 (by decide)
      · have g45 := nnle0 h45
        refine X_iconst (pc := 48) (v := 1) C dX7_why_48 (by decide) ?_
        refine X_goto (pc := 49) C 74 dX7_why_49 (by decide) ?_
        refine X_istore_n (pc := 74) (lv1 := [(0, _), (1, _), (2, _)]) C 2 dX7_why_74 rfl (by decide) rfl ?_
        refine X_iload_n (pc := 75) C 2 dX7_why_75 rfl rfl ?_
        refine X_if_eq (pc := 76) C 81 dX7_why_76 (by decide) (fun h76 => ?_) (fun h76 => ?_)
        · exact absurd h76 (by decide)
        · skip
          refine X_iconst (pc := 79) (v := 2) C dX7_why_79 (by decide) ?_
          exact X_iret (pc := 80) C (Nat.zero_le _) (Nat.zero_le _) dX7_why_80 ⟨by rw [mWhy, if_neg g15, if_pos (Or.inl ⟨h27, g45⟩)], rfl⟩
  · have g15 := nnle0 h15
    refine X_iconst (pc := 18) (v := 1) C dX7_why_18 (by decide) ?_
    exact X_iret (pc := 19) C (Nat.zero_le _) (Nat.zero_le _) dX7_why_19 ⟨by rw [mWhy, if_pos g15], rfl⟩

set_option maxRecDepth 100000 in
set_option maxHeartbeats 4000000 in
theorem L_X7_ears (C : XC p s m args meth c P A 6 RX7 cX7_ears (some .int)) {τ : XS} {S F L : Nat → Int32} (h1 : xI1 P) (hM : MI S) {x y : Int32} (hx : xok x 15) (hy : y = -1 ∨ xok y 15) (kx : XW p l e rm_X7_ears s m args below meth c P A 6 0 0 Q (mW τ S F L) 91 [(0, .ref (P.2.2.1 (.inr 9))), (1, .int x), (2, .int y), (3, .int (cSet (mEarQ S x y) (mU S))), (4, .int (nI (mU S)))] []) : ∀ (k i : Nat), i + k = mU S → XW p l e rm_X7_ears s m args below meth c P A 6 0 0 Q (mW τ S F L) 5 [(0, .ref (P.2.2.1 (.inr 9))), (1, .int x), (2, .int y), (3, .int (cSet (mEarQ S x y) (i))), (4, .int (nI (i)))] [] := by
  have hbd := hM.u15
  intro k
  induction k with
  | zero =>
    intro i hi
    have e9 : i = mU S := by omega
    subst e9
    refine X_iload (pc := 5) C dX7_ears_5 rfl ?_
    refine X_aload_n (pc := 7) C 0 dX7_ears_7 rfl rfl ?_
    refine G_X7_9 (pc := 8) C (by assumption) dX7_ears_8 ?_
    refine X_iconst (pc := 11) (v := 4) C dX7_ears_11 (by decide) ?_
    refine X_ialdN (j := 4) (pc := 12) C (by first | exact h1 _ (by decide) (by decide)) rfl (by omega) (by decide) dX7_ears_12 ?_
    rw [mW_10]
    rw [hM.u]
    refine X_icmp_ge (pc := 13) C 91 dX7_ears_13 (by decide) (fun h13 => ?_) (fun h13 => ?_)
    · skip
      exact kx
    · exact absurd (nI_le (Nat.le_refl _) (n31 (by omega))) h13
  | succ k ih =>
    intro i hi
    have hlt : i < mU S := by omega
    refine X_iload (pc := 5) C dX7_ears_5 rfl ?_
    refine X_aload_n (pc := 7) C 0 dX7_ears_7 rfl rfl ?_
    refine G_X7_9 (pc := 8) C (by assumption) dX7_ears_8 ?_
    refine X_iconst (pc := 11) (v := 4) C dX7_ears_11 (by decide) ?_
    refine X_ialdN (j := 4) (pc := 12) C (by first | exact h1 _ (by decide) (by decide)) rfl (by omega) (by decide) dX7_ears_12 ?_
    rw [mW_10]
    rw [hM.u]
    refine X_icmp_ge (pc := 13) C 91 dX7_ears_13 (by decide) (fun h13 => ?_) (fun h13 => ?_)
    · exact absurd (nle h13) (by omega)
    · skip
      refine X_iload (pc := 16) C dX7_ears_16 rfl ?_
      refine X_iload_n (pc := 18) C 1 dX7_ears_18 rfl rfl ?_
      refine X_icmp_eq (pc := 19) C 85 dX7_ears_19 (by decide) (fun h19 => ?_) (fun h19 => ?_)
      · have g9 : ¬ (mEarQ S x y i) := fun q => q.1 h19
        first | refine X_iincN (pc := 85) (lv1 := [(0, _), (1, _), (2, _), (3, _), (4, _)]) C dX7_ears_85 rfl (by decide) (by decide) rfl ?_ | refine X_iinc (pc := 85) (kk := 1) (lv1 := [(0, _), (1, _), (2, _), (3, _), (4, _)]) C dX7_ears_85 rfl (by decide) (by decide) rfl ?_
        refine X_goto (pc := 88) C 5 dX7_ears_88 (by decide) ?_
        exact XW.less (lv' := [(0, _), (1, _), (2, _), (3, _), (4, _)]) [0, 1, 2, 3, 4] rfl (XW.eq rfl (by first | rw [cSet_n g9] | rw [cSet_y g9]) rfl (ih (i + 1) (by omega)))
      · skip
        refine X_iload (pc := 22) C dX7_ears_22 rfl ?_
        refine X_iload_n (pc := 24) C 2 dX7_ears_24 rfl rfl ?_
        refine X_icmp_eq (pc := 25) C 85 dX7_ears_25 (by decide) (fun h25 => ?_) (fun h25 => ?_)
        · have g9 : ¬ (mEarQ S x y i) := fun q => q.2.1 h25
          first | refine X_iincN (pc := 85) (lv1 := [(0, _), (1, _), (2, _), (3, _), (4, _)]) C dX7_ears_85 rfl (by decide) (by decide) rfl ?_ | refine X_iinc (pc := 85) (kk := 1) (lv1 := [(0, _), (1, _), (2, _), (3, _), (4, _)]) C dX7_ears_85 rfl (by decide) (by decide) rfl ?_
          refine X_goto (pc := 88) C 5 dX7_ears_88 (by decide) ?_
          exact XW.less (lv' := [(0, _), (1, _), (2, _), (3, _), (4, _)]) [0, 1, 2, 3, 4] rfl (XW.eq rfl (by first | rw [cSet_n g9] | rw [cSet_y g9]) rfl (ih (i + 1) (by omega)))
        · skip
          refine X_aload_n (pc := 28) C 0 dX7_ears_28 rfl rfl ?_
          refine X_iload (pc := 29) C dX7_ears_29 rfl ?_
          refine X_iconst (pc := 31) (v := 2) C dX7_ears_31 (by decide) ?_
          refine K_X7_92 (pc := 32) C (by assumption) (c_X7_ofUser l P τ S F L h1 i 2 (by omega) (by decide) _ 2 rfl rfl) ⟨Nat.le_of_ble_eq_true rfl, Nat.le_of_ble_eq_true rfl⟩ ⟨rfl, rfl⟩ ⟨Nat.zero_le _, Nat.zero_le _⟩ (Nat.le_of_ble_eq_true rfl) dX7_ears_32 ?_
          refine X_iconst (pc := 35) (v := 5) C dX7_ears_35 (by decide) ?_
          refine X_icmp_ge (pc := 36) C 42 dX7_ears_36 (by decide) (fun h36 => ?_) (fun h36 => ?_)
          · skip
            refine X_aload_n (pc := 42) C 0 dX7_ears_42 rfl rfl ?_
            refine X_iload (pc := 43) C dX7_ears_43 rfl ?_
            refine X_iconst (pc := 45) (v := 0) C dX7_ears_45 (by decide) ?_
            refine K_X7_92 (pc := 46) C (by assumption) (c_X7_ofUser l P τ S F L h1 i 0 (by omega) (by decide) _ 0 rfl rfl) ⟨Nat.le_of_ble_eq_true rfl, Nat.le_of_ble_eq_true rfl⟩ ⟨rfl, rfl⟩ ⟨Nat.zero_le _, Nat.zero_le _⟩ (Nat.le_of_ble_eq_true rfl) dX7_ears_46 ?_
            refine X_istore (pc := 49) (lv1 := [(0, _), (1, _), (2, _), (3, _), (4, _), (5, _)]) C dX7_ears_49 (by decide) rfl ?_
            refine X_iload (pc := 51) C dX7_ears_51 rfl ?_
            refine X_aload_n (pc := 53) C 0 dX7_ears_53 rfl rfl ?_
            refine X_iload_n (pc := 54) C 1 dX7_ears_54 rfl rfl ?_
            refine X_iconst (pc := 55) (v := 0) C dX7_ears_55 (by decide) ?_
            refine K_X7_92 (pc := 56) C (by assumption) (c_X7_ofUser l P τ S F L h1 (cN x) 0 (xok_c hx).1 (by decide) _ 0 (xok_c hx).2 rfl) ⟨Nat.le_of_ble_eq_true rfl, Nat.le_of_ble_eq_true rfl⟩ ⟨rfl, rfl⟩ ⟨Nat.zero_le _, Nat.zero_le _⟩ (Nat.le_of_ble_eq_true rfl) dX7_ears_56 ?_
            refine X_icmp_eq (pc := 59) C 78 dX7_ears_59 (by decide) (fun h59 => ?_) (fun h59 => ?_)
            · have g9 : mEarQ S x y i := ⟨h19, h25, Int32.not_lt.mpr h36, Or.inl h59⟩
              refine X_iload_n (pc := 78) C 3 dX7_ears_78 rfl rfl ?_
              refine X_iconst (pc := 79) (v := 1) C dX7_ears_79 (by decide) ?_
              refine X_iload (pc := 80) C dX7_ears_80 rfl ?_
              refine X_ishl (pc := 82) C dX7_ears_82 ?_
              refine X_ior (pc := 83) C dX7_ears_83 ?_
              refine X_istore_n (pc := 84) (lv1 := [(0, _), (1, _), (2, _), (3, _), (4, _), (5, _)]) C 3 dX7_ears_84 rfl (by decide) rfl ?_
              first | refine X_iincN (pc := 85) (lv1 := [(0, _), (1, _), (2, _), (3, _), (4, _), (5, _)]) C dX7_ears_85 rfl (by decide) (by decide) rfl ?_ | refine X_iinc (pc := 85) (kk := 1) (lv1 := [(0, _), (1, _), (2, _), (3, _), (4, _), (5, _)]) C dX7_ears_85 rfl (by decide) (by decide) rfl ?_
              refine X_goto (pc := 88) C 5 dX7_ears_88 (by decide) ?_
              exact XW.less (lv' := [(0, _), (1, _), (2, _), (3, _), (4, _)]) [0, 1, 2, 3, 4] rfl (XW.eq rfl (by first | rw [cSet_n g9] | rw [cSet_y g9]) rfl (ih (i + 1) (by omega)))
            · skip
              refine X_iload_n (pc := 62) C 2 dX7_ears_62 rfl rfl ?_
              refine X_iconst (pc := 63) (v := (-1)) C dX7_ears_63 (by decide) ?_
              refine X_icmp_eq (pc := 64) C 85 dX7_ears_64 (by decide) (fun h64 => ?_) (fun h64 => ?_)
              · have g9 : ¬ (mEarQ S x y i) := fun q => q.2.2.2.elim h59 (fun r => r.1 h64)
                first | refine X_iincN (pc := 85) (lv1 := [(0, _), (1, _), (2, _), (3, _), (4, _), (5, _)]) C dX7_ears_85 rfl (by decide) (by decide) rfl ?_ | refine X_iinc (pc := 85) (kk := 1) (lv1 := [(0, _), (1, _), (2, _), (3, _), (4, _), (5, _)]) C dX7_ears_85 rfl (by decide) (by decide) rfl ?_
                refine X_goto (pc := 88) C 5 dX7_ears_88 (by decide) ?_
                exact XW.less (lv' := [(0, _), (1, _), (2, _), (3, _), (4, _)]) [0, 1, 2, 3, 4] rfl (XW.eq rfl (by first | rw [cSet_n g9] | rw [cSet_y g9]) rfl (ih (i + 1) (by omega)))
              · skip
                refine X_iload (pc := 67) C dX7_ears_67 rfl ?_
                refine X_aload_n (pc := 69) C 0 dX7_ears_69 rfl rfl ?_
                refine X_iload_n (pc := 70) C 2 dX7_ears_70 rfl rfl ?_
                refine X_iconst (pc := 71) (v := 0) C dX7_ears_71 (by decide) ?_
                refine K_X7_92 (pc := 72) C (by assumption) (c_X7_ofUser l P τ S F L h1 (cN y) 0 (xok_c (hy.resolve_left h64)).1 (by decide) _ 0 (xok_c (hy.resolve_left h64)).2 rfl) ⟨Nat.le_of_ble_eq_true rfl, Nat.le_of_ble_eq_true rfl⟩ ⟨rfl, rfl⟩ ⟨Nat.zero_le _, Nat.zero_le _⟩ (Nat.le_of_ble_eq_true rfl) dX7_ears_72 ?_
                refine X_icmp_ne (pc := 75) C 85 dX7_ears_75 (by decide) (fun h75 => ?_) (fun h75 => ?_)
                · have g9 : ¬ (mEarQ S x y i) := fun q => q.2.2.2.elim h59 (fun r => h75 r.2)
                  first | refine X_iincN (pc := 85) (lv1 := [(0, _), (1, _), (2, _), (3, _), (4, _), (5, _)]) C dX7_ears_85 rfl (by decide) (by decide) rfl ?_ | refine X_iinc (pc := 85) (kk := 1) (lv1 := [(0, _), (1, _), (2, _), (3, _), (4, _), (5, _)]) C dX7_ears_85 rfl (by decide) (by decide) rfl ?_
                  refine X_goto (pc := 88) C 5 dX7_ears_88 (by decide) ?_
                  exact XW.less (lv' := [(0, _), (1, _), (2, _), (3, _), (4, _)]) [0, 1, 2, 3, 4] rfl (XW.eq rfl (by first | rw [cSet_n g9] | rw [cSet_y g9]) rfl (ih (i + 1) (by omega)))
                · have g9 : mEarQ S x y i := ⟨h19, h25, Int32.not_lt.mpr h36, Or.inr ⟨h64, h75⟩⟩
                  refine X_iload_n (pc := 78) C 3 dX7_ears_78 rfl rfl ?_
                  refine X_iconst (pc := 79) (v := 1) C dX7_ears_79 (by decide) ?_
                  refine X_iload (pc := 80) C dX7_ears_80 rfl ?_
                  refine X_ishl (pc := 82) C dX7_ears_82 ?_
                  refine X_ior (pc := 83) C dX7_ears_83 ?_
                  refine X_istore_n (pc := 84) (lv1 := [(0, _), (1, _), (2, _), (3, _), (4, _), (5, _)]) C 3 dX7_ears_84 rfl (by decide) rfl ?_
                  first | refine X_iincN (pc := 85) (lv1 := [(0, _), (1, _), (2, _), (3, _), (4, _), (5, _)]) C dX7_ears_85 rfl (by decide) (by decide) rfl ?_ | refine X_iinc (pc := 85) (kk := 1) (lv1 := [(0, _), (1, _), (2, _), (3, _), (4, _), (5, _)]) C dX7_ears_85 rfl (by decide) (by decide) rfl ?_
                  refine X_goto (pc := 88) C 5 dX7_ears_88 (by decide) ?_
                  exact XW.less (lv' := [(0, _), (1, _), (2, _), (3, _), (4, _)]) [0, 1, 2, 3, 4] rfl (XW.eq rfl (by first | rw [cSet_n g9] | rw [cSet_y g9]) rfl (ih (i + 1) (by omega)))
          · have g9 : ¬ (mEarQ S x y i) := fun q => q.2.2.1 (Int32.not_le.mp h36)
            refine X_goto (pc := 39) C 85 dX7_ears_39 (by decide) ?_
            first | refine X_iincN (pc := 85) (lv1 := [(0, _), (1, _), (2, _), (3, _), (4, _)]) C dX7_ears_85 rfl (by decide) (by decide) rfl ?_ | refine X_iinc (pc := 85) (kk := 1) (lv1 := [(0, _), (1, _), (2, _), (3, _), (4, _)]) C dX7_ears_85 rfl (by decide) (by decide) rfl ?_
            refine X_goto (pc := 88) C 5 dX7_ears_88 (by decide) ?_
            exact XW.less (lv' := [(0, _), (1, _), (2, _), (3, _), (4, _)]) [0, 1, 2, 3, 4] rfl (XW.eq rfl (by first | rw [cSet_n g9] | rw [cSet_y g9]) rfl (ih (i + 1) (by omega)))

set_option maxRecDepth 100000 in
set_option maxHeartbeats 4000000 in
theorem c_X7_ears (l : Launch) (P : XP) (τ : XS) (S F L : Nat → Int32) (h1 : xI1 P) (hM : MI S) (x y : Int32) (hx : xok x 15) (hy : y = -1 ∨ xok y 15) : XF l yX7_ears cX7_ears 6 (some .int) rm_X7_ears P [.ref (P.2.2.1 (.inr 9)), .int x, .int y] (mW τ S F L) (some (.int (mEars S x y))) (mW τ S F L) := by
  refine XM.of (by decide +kernel) (Nat.le_of_ble_eq_true rfl) (fun p e s m args below meth c A C => ?_)
  replace C : XC p s m args meth c P A 6 RX7 cX7_ears (some .int) := C
  refine XW.eq (lv' := [(0, _), (1, _), (2, _)]) rfl rfl rfl ?_
  refine X_iconst (pc := 0) (v := 0) C dX7_ears_0 (by decide) ?_
  refine X_istore_n (pc := 1) (lv1 := [(0, _), (1, _), (2, _), (3, _)]) C 3 dX7_ears_1 rfl (by decide) rfl ?_
  refine X_iconst (pc := 2) (v := 0) C dX7_ears_2 (by decide) ?_
  refine X_istore (pc := 3) (lv1 := [(0, _), (1, _), (2, _), (3, _), (4, _)]) C dX7_ears_3 (by decide) rfl ?_
  refine L_X7_ears C h1 hM hx hy ?_ (mU S) 0 (by omega)
  refine X_iload_n (pc := 91) C 3 dX7_ears_91 rfl rfl ?_
  exact X_iret (pc := 92) C (Nat.zero_le _) (Nat.zero_le _) dX7_ears_92 ⟨rfl, rfl⟩

end XP31

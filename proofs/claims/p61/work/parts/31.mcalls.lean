/-! THE REFERENCE: calls -/
theorem xok_c {x : Int32} {n : Nat} (h : xok x n) (hn : n ≤ 1000000 := by omega) : cN x < n ∧ x = nI (cN x) := by
  obtain ⟨j, hj, rfl⟩ := xok_of h hn
  rw [cN, nI_clamp (n31 (by omega))]
  exact ⟨hj, rfl⟩
theorem xok_mono {x : Int32} {n k : Nat} (h : xok x n) (hk : n ≤ k) : xok x k := ⟨h.1, by have := h.2; omega⟩
theorem xok_m1 {n : Nat} : ¬ xok (-1) n := fun h => absurd h.1 (by decide)
/-- the counts -/
abbrev mL (S : Nat → Int32) : Nat := cN (S 1)
abbrev mT (S : Nat → Int32) : Nat := cN (S 3)
abbrev mU (S : Nat → Int32) : Nat := cN (S 4)
abbrev mK (S : Nat → Int32) : Nat := cN (S 5)
/-- whom call c joins -/
def CR (S : Nat → Int32) (nu nt c : Nat) : Prop := xok (sC S 0 c) nu ∧ ((sC S 2 c = -1 ∧ xok (sC S 1 c) nu) ∨ (sC S 1 c = -1 ∧ xok (sC S 2 c) nt))
def MI (S : Nat → Int32) : Prop := S 1 = nI (mL S) ∧ mL S ≤ 6 ∧ S 3 = nI (mT S) ∧ mT S ≤ 4 ∧ S 4 = nI (mU S) ∧ mU S ≤ 15 ∧ S 5 = nI (mK S) ∧ mK S ≤ 40 ∧ ∀ c, c < mK S → CR S (mU S) (mT S) c
theorem MI.l {S : Nat → Int32} (h : MI S) : S 1 = nI (mL S) := h.1
theorem MI.l6 {S : Nat → Int32} (h : MI S) : mL S ≤ 6 := h.2.1
theorem MI.t {S : Nat → Int32} (h : MI S) : S 3 = nI (mT S) := h.2.2.1
theorem MI.t4 {S : Nat → Int32} (h : MI S) : mT S ≤ 4 := h.2.2.2.1
theorem MI.u {S : Nat → Int32} (h : MI S) : S 4 = nI (mU S) := h.2.2.2.2.1
theorem MI.u15 {S : Nat → Int32} (h : MI S) : mU S ≤ 15 := h.2.2.2.2.2.1
theorem MI.k {S : Nat → Int32} (h : MI S) : S 5 = nI (mK S) := h.2.2.2.2.2.2.1
theorem MI.k40 {S : Nat → Int32} (h : MI S) : mK S ≤ 40 := h.2.2.2.2.2.2.2.1
theorem MI.c {S : Nat → Int32} (h : MI S) {c : Nat} (hc : c < mK S) : CR S (mU S) (mT S) c := h.2.2.2.2.2.2.2.2 c hc
theorem MI.ca {S : Nat → Int32} (h : MI S) {c : Nat} (hc : c < mK S) : cN (sC S 0 c) < 15 ∧ sC S 0 c = nI (cN (sC S 0 c)) := by
  have h1 := xok_c (h.c hc).1 (by have := h.u15; omega)
  have := h.u15
  exact ⟨by omega, h1.2⟩
theorem MI.ot {S : Nat → Int32} (h : MI S) {c : Nat} (hc : c < mK S) (ht : sC S 2 c = -1) : cN (sC S 1 c) < 15 ∧ sC S 1 c = nI (cN (sC S 1 c)) := by
  have hu := h.u15
  rcases (h.c hc).2 with ⟨-, h2⟩ | ⟨-, h2⟩
  · have h1 := xok_c h2 (by omega)
    exact ⟨by omega, h1.2⟩
  · rw [ht] at h2
    exact absurd h2 xok_m1
theorem MI.tr {S : Nat → Int32} (h : MI S) {c : Nat} (hc : c < mK S) (ht : ¬ sC S 2 c = -1) : cN (sC S 2 c) < 4 ∧ sC S 2 c = nI (cN (sC S 2 c)) := by
  have hu := h.t4
  rcases (h.c hc).2 with ⟨h2, -⟩ | ⟨-, h2⟩
  · exact absurd h2 ht
  · have h1 := xok_c h2 (by omega)
    exact ⟨by omega, h1.2⟩
theorem MI.oy {S : Nat → Int32} (h : MI S) {c : Nat} (hc : c < mK S) : sC S 1 c = -1 ∨ xok (sC S 1 c) 15 := by
  rcases (h.c hc).2 with ⟨-, h2⟩ | ⟨h2, -⟩
  · exact Or.inr (xok_mono h2 h.u15)
  · exact Or.inl h2
/-- the places that no start and no end changes -/
def fx (n : Nat) : Prop := n < 10 ∨ (190 ≤ n ∧ (n - 190) % 9 < 4)
theorem CR.fx {S S1 : Nat → Int32} {nu nt c : Nat} (h : CR S nu nt c) (hs : ∀ n, fx n → S1 n = S n) : CR S1 nu nt c := by
  have e : ∀ w, w < 4 → sC S1 w c = sC S w c := fun w hw => hs _ (Or.inr ⟨by omega, by omega⟩)
  unfold CR at h ⊢
  rw [e 0 (by decide), e 1 (by decide), e 2 (by decide)]
  exact h
theorem MI.fx {S S1 : Nat → Int32} (h : MI S) (hs : ∀ n, fx n → S1 n = S n) : MI S1 := by
  unfold MI mL mT mU mK at h ⊢
  rw [hs 1 (Or.inl (by decide)), hs 3 (Or.inl (by decide)), hs 4 (Or.inl (by decide)), hs 5 (Or.inl (by decide))]
  obtain ⟨a, b, c, d, e, f, g, i, j⟩ := h
  exact ⟨a, b, c, d, e, f, g, i, fun q hq => (j q hq).fx hs⟩
theorem nle0 {a : Nat} (h : nI a ≤ 0) (ha : a ≤ 1000000) : ¬ 0 < a := fun q => nI_nle q (n31 ha) h
theorem nnle0 {a : Nat} (h : ¬ nI a ≤ 0) : 0 < a := Nat.pos_of_ne_zero (fun q => h (by rw [q]; decide))
/-- how many of the first places fulfil q; which, as a set -/
noncomputable def cCnt (q : Nat → Prop) : Nat → Nat
  | 0 => 0
  | k + 1 => @ite _ (q k) (Classical.propDecidable _) (cCnt q k + 1) (cCnt q k)
theorem cCnt_y {q : Nat → Prop} {k : Nat} (h : q k) : cCnt q (k + 1) = cCnt q k + 1 := if_pos h
theorem cCnt_n {q : Nat → Prop} {k : Nat} (h : ¬ q k) : cCnt q (k + 1) = cCnt q k := if_neg h
theorem cCnt_le (q : Nat → Prop) : ∀ k, cCnt q k ≤ k
  | 0 => Nat.le_refl _
  | k + 1 => by
    have := cCnt_le q k
    by_cases h : q k
    · rw [cCnt_y h]; omega
    · rw [cCnt_n h]; omega
noncomputable def cSet (q : Nat → Prop) : Nat → Int32
  | 0 => 0
  | k + 1 => @ite _ (q k) (Classical.propDecidable _) (cSet q k ||| (1 : Int32) <<< (nI k &&& 31)) (cSet q k)
theorem cSet_y {q : Nat → Prop} {k : Nat} (h : q k) : cSet q (k + 1) = cSet q k ||| (1 : Int32) <<< (nI k &&& 31) := if_pos h
theorem cSet_n {q : Nat → Prop} {k : Nat} (h : ¬ q k) : cSet q (k + 1) = cSet q k := if_neg h
abbrev mUses (S : Nat → Int32) (c : Nat) (x : Int32) : Prop := sU S 0 (cN (sC S 0 c)) = x ∨ (sC S 2 c = -1 ∧ sU S 0 (cN (sC S 1 c)) = x)
abbrev mOwn (S : Nat → Int32) (c : Nat) : Prop := sC S 2 c = -1 ∧ sU S 0 (cN (sC S 1 c)) = sU S 0 (cN (sC S 0 c))
noncomputable def mLine (S : Nat → Int32) (x : Int32) : Nat → Nat := cCnt (fun c => sC S 4 c = 1 ∧ mUses S c x)
noncomputable def mTrk (S : Nat → Int32) (x : Int32) : Nat → Nat := cCnt (fun c => sC S 4 c = 1 ∧ sC S 2 c = x)
noncomputable def mCords (S : Nat → Int32) : Nat → Nat := cCnt (fun c => sC S 4 c = 1 ∧ ¬ mOwn S c)
noncomputable def mWhy (S : Nat → Int32) (c : Nat) : Int32 :=
  if 0 < mLine S (sU S 0 (cN (sC S 0 c))) (mK S) then 1
  else if (sC S 2 c = -1 ∧ 0 < mLine S (sU S 0 (cN (sC S 1 c))) (mK S)) ∨ (¬ sC S 2 c = -1 ∧ 0 < mTrk S (sC S 2 c) (mK S)) then 2
  else if ¬ mOwn S c ∧ nI (mCords S (mK S)) = S 2 then 3 else 0
def mEarQ (S : Nat → Int32) (x y : Int32) (u : Nat) : Prop := ¬ nI u = x ∧ ¬ nI u = y ∧ ¬ sU S 2 u < 5 ∧ (sU S 0 u = sU S 0 (cN x) ∨ (¬ y = -1 ∧ sU S 0 u = sU S 0 (cN y)))
noncomputable def mEars (S : Nat → Int32) (x y : Int32) : Int32 := cSet (mEarQ S x y) (mU S)
theorem tix {x : Int32} (h : x = nI (cN x)) : (6 : Int32) + x = nI (6 + cN x) := by
  rw [show (6 : Int32) = nI 6 from rfl]
  conv => lhs; rw [h]
  rw [nI_add]
def mCost (S : Nat → Int32) (c : Nat) : Int32 :=
  if sC S 4 c = 1 ∨ sC S 4 c = 2 then
    (if sC S 2 c = -1 then 5 else S (6 + cN (sC S 2 c)) * xmax 1 (((if sC S 4 c = 1 then S 0 else sC S 6 c) - sC S 5 c + 59) / 60))
  else 0
def mHear (S : Nat → Int32) (e t : Int32) : Nat → (Nat → Int32)
  | 0 => S
  | k + 1 => if e >>> (nI k &&& 31) &&& 1 = 1 then upd (mHear S e t k) (10 + 12 * k + 4) (sU (mHear S e t k) 4 k ||| t) else mHear S e t k
theorem mHear_y {S : Nat → Int32} {e t : Int32} {k : Nat} (h : e >>> (nI k &&& 31) &&& 1 = 1) : mHear S e t (k + 1) = upd (mHear S e t k) (10 + 12 * k + 4) (sU (mHear S e t k) 4 k ||| t) := if_pos h
theorem mHear_n {S : Nat → Int32} {e t : Int32} {k : Nat} (h : ¬ e >>> (nI k &&& 31) &&& 1 = 1) : mHear S e t (k + 1) = mHear S e t k := if_neg h
theorem mHear_o {S : Nat → Int32} {e t : Int32} {n : Nat} : ∀ k, (∀ j, j < k → n ≠ 14 + 12 * j) → mHear S e t k n = S n
  | 0, _ => rfl
  | k + 1, h => by
    have ih := mHear_o (S := S) (e := e) (t := t) (n := n) k (fun j hj => h j (by omega))
    by_cases g : e >>> (nI k &&& 31) &&& 1 = 1
    · rw [mHear_y g, upd_ne (by have := h k (by omega); omega), ih]
    · rw [mHear_n g, ih]
def mTold (S : Nat → Int32) (x y : Int32) : Int32 := if y = -1 then sU S 4 (cN x) else sU S 4 (cN x) ||| sU S 4 (cN y)
def mTell (S : Nat → Int32) (x y : Int32) : Nat → Int32 := if y = -1 then S else upd (upd S (10 + 12 * cN x + 4) (mTold S x y)) (10 + 12 * cN y + 4) (mTold S x y)
noncomputable def mStart0 (S : Nat → Int32) (c : Nat) : Nat → Int32 := mHear (mTell S (sC S 0 c) (sC S 1 c)) (mEars S (sC S 0 c) (sC S 1 c)) (mTold S (sC S 0 c) (sC S 1 c)) (mU S)
noncomputable def mStart (S : Nat → Int32) (c : Nat) : Nat → Int32 :=
  upd (upd (upd (upd (mStart0 S c) (190 + 9 * c + 4) 1) (190 + 9 * c + 5) (S 0)) (190 + 9 * c + 7) (mEars S (sC S 0 c) (sC S 1 c))) (190 + 9 * c + 8) (xvolW (mEars S (sC S 0 c) (sC S 1 c)))
theorem mTell_o {S : Nat → Int32} {x y : Int32} {n : Nat} (h : ∀ j, n ≠ 14 + 12 * j) : mTell S x y n = S n := by
  unfold mTell
  by_cases g : y = -1
  · rw [if_pos g]
  · rw [if_neg g, upd_ne (by have := h (cN y); omega), upd_ne (by have := h (cN x); omega)]
theorem mStart0_fx {S : Nat → Int32} {c n : Nat} (hM : MI S) (hc : c < mK S) (h : n < 14 ∨ 190 ≤ n) : mStart0 S c n = S n := by
  have hu := hM.u15
  unfold mStart0
  rw [mHear_o _ (fun j hj => by omega)]
  unfold mTell
  by_cases g : sC S 1 c = -1
  · rw [if_pos g]
  · have ha := (hM.ca hc).1
    have ho : cN (sC S 1 c) < 15 := by
      rcases hM.oy hc with q | q
      · exact absurd q g
      · exact (xok_c q).1
    rw [if_neg g, upd_ne (by omega), upd_ne (by omega)]
theorem mStart_fx {S : Nat → Int32} {c : Nat} (hM : MI S) (hc : c < mK S) : ∀ n, fx n → mStart S c n = S n := fun n hn => by
  unfold mStart
  have hk := hM.k40
  rcases hn with h | ⟨h, h2⟩
  · rw [upd_ne (by omega), upd_ne (by omega), upd_ne (by omega), upd_ne (by omega), mStart0_fx hM hc (by omega)]
  · rw [upd_ne (by omega), upd_ne (by omega), upd_ne (by omega), upd_ne (by omega), mStart0_fx hM hc (by omega)]
theorem MI.start {S : Nat → Int32} {c : Nat} (hM : MI S) (hc : c < mK S) : MI (mStart S c) := hM.fx (mStart_fx hM hc)
section XP31
variable {p : Program} {l : Launch} {e : Env} {R : Room} {s : State} {m : MethodId} {args : Array Value} {below : List Frame} {meth : Method} {c : Code} {P : XP} {A : Nat → Prop} {nL cells slots : Nat} {Q : State → Prop} {cc : ByteArray} {ret : Option FieldType} {σ : XS} {pc : Nat} {lv : List (Nat × Value)} {st : List Value}
end XP31

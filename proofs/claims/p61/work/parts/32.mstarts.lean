/-! THE REFERENCE: calls start and end -/
theorem sC_upd {S : Nat → Int32} {k w c : Nat} {v : Int32} (h : 190 + 9 * c + w ≠ k) : sC (upd S k v) w c = sC S w c := upd_ne h
/-- the row in which call c has been asked for -/
def mReq0 (S : Nat → Int32) (x y t u : Int32) : Nat → Int32 :=
  upd (upd (upd (upd (upd (upd (upd (upd (upd (upd S 5 (nI (mK S + 1))) (190 + 9 * mK S + 0) x) (190 + 9 * mK S + 1) y) (190 + 9 * mK S + 2) t) (190 + 9 * mK S + 3) u) (190 + 9 * mK S + 4) 0) (190 + 9 * mK S + 5) (-1)) (190 + 9 * mK S + 6) (-1)) (190 + 9 * mK S + 7) 0) (190 + 9 * mK S + 8) 100
theorem mReq0_o {S : Nat → Int32} {x y t u : Int32} {n : Nat} (h : n ≠ 5) (h2 : n < 190 + 9 * mK S ∨ 199 + 9 * mK S ≤ n) : mReq0 S x y t u n = S n := by
  unfold mReq0
  rw [upd_ne (by omega), upd_ne (by omega), upd_ne (by omega), upd_ne (by omega), upd_ne (by omega), upd_ne (by omega), upd_ne (by omega), upd_ne (by omega), upd_ne (by omega), upd_ne (by omega)]
theorem mReq0_5 {S : Nat → Int32} {x y t u : Int32} : mReq0 S x y t u 5 = nI (mK S + 1) := by
  unfold mReq0
  rw [upd_ne (by omega), upd_ne (by omega), upd_ne (by omega), upd_ne (by omega), upd_ne (by omega), upd_ne (by omega), upd_ne (by omega), upd_ne (by omega), upd_ne (by omega), upd_at]
theorem mReq0_c {S : Nat → Int32} {x y t u : Int32} : sC (mReq0 S x y t u) 0 (mK S) = x ∧ sC (mReq0 S x y t u) 1 (mK S) = y ∧ sC (mReq0 S x y t u) 2 (mK S) = t ∧ sC (mReq0 S x y t u) 3 (mK S) = u ∧ sC (mReq0 S x y t u) 4 (mK S) = 0 ∧ sC (mReq0 S x y t u) 5 (mK S) = -1 ∧ sC (mReq0 S x y t u) 6 (mK S) = -1 ∧ sC (mReq0 S x y t u) 7 (mK S) = 0 ∧ sC (mReq0 S x y t u) 8 (mK S) = 100 := by
  unfold mReq0 sC
  refine ⟨?_, ?_, ?_, ?_, ?_, ?_, ?_, ?_, ?_⟩ <;> simp [upd]
theorem mReq0_K {S : Nat → Int32} {x y t u : Int32} (hk : mK S < 40) : mK (mReq0 S x y t u) = mK S + 1 := by
  rw [mK, mReq0_5, cN, nI_clamp (n31 (by omega))]
theorem MI.req {S : Nat → Int32} {x y t u : Int32} (h : MI S) (hk : mK S < 40) (hx : xok x (mU S)) (hyt : (t = -1 ∧ xok y (mU S)) ∨ (y = -1 ∧ xok t (mT S))) : MI (mReq0 S x y t u) := by
  have e5 := mReq0_K (x := x) (y := y) (t := t) (u := u) hk
  have o : ∀ n, n ≠ 5 → n < 190 + 9 * mK S ∨ 199 + 9 * mK S ≤ n → mReq0 S x y t u n = S n := fun n h1 h2 => mReq0_o h1 h2
  have eu : mU (mReq0 S x y t u) = mU S := by rw [mU, mU, o 4 (by decide) (by omega)]
  have et : mT (mReq0 S x y t u) = mT S := by rw [mT, mT, o 3 (by decide) (by omega)]
  have el : mL (mReq0 S x y t u) = mL S := by rw [mL, mL, o 1 (by decide) (by omega)]
  refine ⟨?_, ?_, ?_, ?_, ?_, ?_, ?_, ?_, ?_⟩
  · rw [el, o 1 (by decide) (by omega)]; exact h.l
  · rw [el]; exact h.l6
  · rw [et, o 3 (by decide) (by omega)]; exact h.t
  · rw [et]; exact h.t4
  · rw [eu, o 4 (by decide) (by omega)]; exact h.u
  · rw [eu]; exact h.u15
  · rw [e5, mReq0_5]
  · rw [e5]; omega
  · intro c hc
    rw [e5] at hc
    rw [eu, et]
    by_cases g : c = mK S
    · subst g
      obtain ⟨q0, q1, q2, -⟩ := mReq0_c (S := S) (x := x) (y := y) (t := t) (u := u)
      unfold CR
      rw [q0, q1, q2]
      exact ⟨hx, hyt⟩
    · have e : ∀ w, w < 3 → sC (mReq0 S x y t u) w c = sC S w c := fun w hw => o _ (by omega) (by omega)
      have := h.c (c := c) (by omega)
      unfold CR at this ⊢
      rw [e 0 (by decide), e 1 (by decide), e 2 (by decide)]
      exact this
noncomputable def mReq (S : Nat → Int32) (x y t u : Int32) : Nat → Int32 := if mWhy (mReq0 S x y t u) (mK S) = 0 then mStart (mReq0 S x y t u) (mK S) else mReq0 S x y t u
theorem MI.req1 {S : Nat → Int32} {x y t u : Int32} (h : MI S) (hk : mK S < 40) (hx : xok x (mU S)) (hyt : (t = -1 ∧ xok y (mU S)) ∨ (y = -1 ∧ xok t (mT S))) : MI (mReq S x y t u) := by
  unfold mReq
  split
  · exact (h.req hk hx hyt).start (by rw [mReq0_K hk]; omega)
  · exact h.req hk hx hyt
/-- the first waiting calls of urgency u start -/
noncomputable def mWait (S : Nat → Int32) (u : Int32) : Nat → (Nat → Int32) × Nat
  | 0 => (S, 0)
  | k + 1 => if sC (mWait S u k).1 4 k = 0 ∧ sC (mWait S u k).1 3 k = u ∧ mWhy (mWait S u k).1 k = 0 then (mStart (mWait S u k).1 k, (mWait S u k).2 + 1) else mWait S u k
theorem mWait_y {S : Nat → Int32} {u : Int32} {k : Nat} (h : sC (mWait S u k).1 4 k = 0 ∧ sC (mWait S u k).1 3 k = u ∧ mWhy (mWait S u k).1 k = 0) : mWait S u (k + 1) = (mStart (mWait S u k).1 k, (mWait S u k).2 + 1) := if_pos h
theorem mWait_n {S : Nat → Int32} {u : Int32} {k : Nat} (h : ¬ (sC (mWait S u k).1 4 k = 0 ∧ sC (mWait S u k).1 3 k = u ∧ mWhy (mWait S u k).1 k = 0)) : mWait S u (k + 1) = mWait S u k := if_neg h
theorem mK_fx {S S1 : Nat → Int32} (h : ∀ n, fx n → S1 n = S n) : mK S1 = mK S := by rw [mK, mK, h 5 (Or.inl (by decide))]
theorem mWait_fx {S : Nat → Int32} {u : Int32} (hM : MI S) : ∀ k, k ≤ mK S → ∀ n, fx n → (mWait S u k).1 n = S n
  | 0, _, n, _ => rfl
  | k + 1, hk, n, hn => by
    have ih := mWait_fx (u := u) hM k (by omega)
    by_cases g : sC (mWait S u k).1 4 k = 0 ∧ sC (mWait S u k).1 3 k = u ∧ mWhy (mWait S u k).1 k = 0
    · rw [mWait_y g]
      show mStart (mWait S u k).1 k n = S n
      rw [mStart_fx (hM.fx ih) (by rw [mK_fx ih]; omega) n hn, ih n hn]
    · rw [mWait_n g]
      exact ih n hn
theorem mWait_le (S : Nat → Int32) (u : Int32) : ∀ k, (mWait S u k).2 ≤ k
  | 0 => Nat.le_refl _
  | k + 1 => by
    have ih := mWait_le S u k
    by_cases g : sC (mWait S u k).1 4 k = 0 ∧ sC (mWait S u k).1 3 k = u ∧ mWhy (mWait S u k).1 k = 0
    · rw [mWait_y g]; show (mWait S u k).2 + 1 ≤ k + 1; omega
    · rw [mWait_n g]; omega
noncomputable def mWaits (S : Nat → Int32) : (Nat → Int32) × Nat := ((mWait (mWait S 1 (mK S)).1 0 (mK S)).1, (mWait S 1 (mK S)).2 + (mWait (mWait S 1 (mK S)).1 0 (mK S)).2)
def mFin0 (S : Nat → Int32) (c : Nat) : Nat → Int32 := upd (upd (upd S (10 + 12 * cN (sC S 0 c) + 3) (sU S 3 (cN (sC S 0 c)) + mCost S c)) (190 + 9 * c + 4) (if sC S 4 c = 1 then 2 else 3)) (190 + 9 * c + 6) (S 0)
theorem mFin0_fx {S : Nat → Int32} {c : Nat} (hM : MI S) (hc : c < mK S) : ∀ n, fx n → mFin0 S c n = S n := fun n hn => by
  have h1 := (hM.ca hc).1
  have hk := hM.k40
  unfold mFin0
  rcases hn with h | ⟨h, h2⟩
  · rw [upd_ne (by omega), upd_ne (by omega), upd_ne (by omega)]
  · rw [upd_ne (by omega), upd_ne (by omega), upd_ne (by omega)]
noncomputable def mFin (S : Nat → Int32) (c : Nat) : (Nat → Int32) × Nat := mWaits (mFin0 S c)
theorem mWaits_fx {S : Nat → Int32} (hM : MI S) : ∀ n, fx n → (mWaits S).1 n = S n := fun n hn => by
  have h1 := mWait_fx (u := 1) hM (mK S) (Nat.le_refl _)
  have h2 := mWait_fx (u := 0) (hM.fx h1) (mK S) (by rw [mK_fx h1]; omega) n hn
  show (mWait (mWait S 1 (mK S)).1 0 (mK S)).1 n = S n
  rw [h2, h1 n hn]
theorem mFin_fx {S : Nat → Int32} {c : Nat} (hM : MI S) (hc : c < mK S) : ∀ n, fx n → (mFin S c).1 n = S n := fun n hn => by
  show (mWaits (mFin0 S c)).1 n = S n
  rw [mWaits_fx (hM.fx (mFin0_fx hM hc)) n hn, mFin0_fx hM hc n hn]
theorem MI.fin {S : Nat → Int32} {c : Nat} (hM : MI S) (hc : c < mK S) : MI (mFin S c).1 := hM.fx (mFin_fx hM hc)
section XP32
variable {p : Program} {l : Launch} {e : Env} {R : Room} {s : State} {m : MethodId} {args : Array Value} {below : List Frame} {meth : Method} {c : Code} {P : XP} {A : Nat → Prop} {nL cells slots : Nat} {Q : State → Prop} {cc : ByteArray} {ret : Option FieldType} {σ : XS} {pc : Nat} {lv : List (Nat × Value)} {st : List Value}
end XP32

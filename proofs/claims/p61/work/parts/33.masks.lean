/-! THE REFERENCE: what is asked -/
theorem tix2 (j : Nat) : (6 : Int32) + nI j = nI (6 + j) := by rw [show (6 : Int32) = nI 6 from rfl, nI_add]
/-- how many rings code j has; how long they last -/
def mRg : Nat → Nat → Nat
  | 0, _ => 0
  | k + 1, j => if j ≤ 1 then 0 else mRg k (j / 2) + 1
def mSec : Nat → Nat → Int32 → Int32
  | 0, _, n => n
  | k + 1, j, n => if j ≤ 1 then n else mSec k (j / 2) (n + if j % 2 = 1 then 4 else 2)
theorem shr1 : ∀ j : Nat, j < 64 → nI j >>> ((1 : Int32) &&& 31) = nI (j / 2) := by decide +kernel
theorem rem2 : ∀ j : Nat, j < 64 → nI j - nI j / 2 * 2 = nI (j % 2) := by decide +kernel
theorem mRg_le : ∀ k j, mRg k j ≤ k
  | 0, _ => Nat.le_refl _
  | k + 1, j => by
    unfold mRg
    have := mRg_le k (j / 2)
    split <;> omega
def mBest (f : Nat → Int32) : Nat → Nat
  | 0 => 0
  | k + 1 => if f (mBest f k) < f k then k else mBest f k
theorem mBest_le (f : Nat → Int32) : ∀ k, 0 < k → mBest f k < k
  | k + 1, _ => by
    unfold mBest
    split
    · omega
    · cases k with
      | zero => exact Nat.zero_lt_one
      | succ q => have := mBest_le f (q + 1) (by omega); omega
theorem mBest_1 (f : Nat → Int32) : mBest f 1 = 0 := if_neg Int32.lt_irrefl
theorem mBest_y {f : Nat → Int32} {k : Nat} (h : ¬ f k ≤ f (mBest f k)) : mBest f (k + 1) = k := if_pos (Int32.not_le.mp h)
theorem mBest_n {f : Nat → Int32} {k : Nat} (h : f k ≤ f (mBest f k)) : mBest f (k + 1) = mBest f k := if_neg (Int32.not_lt.mpr h)
def mQuiet (f : Nat → Int32) (x : Int32) : Nat → Int32 × Int32
  | 0 => (-1, 0)
  | k + 1 => if nI k = x ∨ (¬ (mQuiet f x k).1 = -1 ∧ (mQuiet f x k).2 ≤ f k) then mQuiet f x k else (nI k, f k)
theorem mQuiet_n {f : Nat → Int32} {x : Int32} {k : Nat} (h : nI k = x ∨ (¬ (mQuiet f x k).1 = -1 ∧ (mQuiet f x k).2 ≤ f k)) : mQuiet f x (k + 1) = mQuiet f x k := if_pos h
theorem mQuiet_y {f : Nat → Int32} {x : Int32} {k : Nat} (h : ¬ (nI k = x ∨ (¬ (mQuiet f x k).1 = -1 ∧ (mQuiet f x k).2 ≤ f k))) : mQuiet f x (k + 1) = (nI k, f k) := if_neg h
def mLess (S : Nat → Int32) (s : Int32) : Nat → Int32
  | 0 => s
  | k + 1 => if sC S 4 k = 2 then mLess S s k - mCost S k else mLess S s k
def mNb : Nat → Int32
  | 0 => -1
  | k + 1 => nI k
theorem mNb_1 : ∀ k : Nat, mNb k + 1 = mNb (k + 1)
  | 0 => by decide
  | k + 1 => nI_1 k
theorem mNb_e : ∀ k : Nat, mNb k = nI k - 1
  | 0 => by decide
  | k + 1 => (nI_pred k).symm
theorem nI_m1 (k : Nat) : nI k - 1 + 1 = nI (k + 1) - 1 := by rw [nI_pred, Int32.sub_add_cancel]
/-- the names' lengths; the codes -/
def MN (S : Nat → Int32) : Prop := ∀ u, u < mU S → xok (sU S 5 u) 7
def MC (S : Nat → Int32) : Prop := ∀ u, u < mU S → xok (sU S 1 u) 64
theorem nIw (w : Nat) : (6 : Int32) + nI w = nI (6 + w) := tix2 w
section XP33
variable {p : Program} {l : Launch} {e : Env} {R : Room} {s : State} {m : MethodId} {args : Array Value} {below : List Frame} {meth : Method} {c : Code} {P : XP} {A : Nat → Prop} {nL cells slots : Nat} {Q : State → Prop} {cc : ByteArray} {ret : Option FieldType} {σ : XS} {pc : Nat} {lv : List (Nat × Value)} {st : List Value}
/-- call c waits ahead of one of urgency u, of number x -/
def mAh (S : Nat → Int32) (u x : Int32) (c : Nat) : Prop := sC S 4 c = 0 ∧ (u < sC S 3 c ∨ (sC S 3 c = u ∧ nI c < x))
/-- what is wrong with a pair -/
def mTh (S : Nat → Int32) (x y : Int32) : Int32 := if xok x (mU S) ∧ xok y (mU S) then (if x = y then 2 else 0) else 1
theorem mTh_0 {S : Nat → Int32} {x y : Int32} (h : mTh S x y = 0) : xok x (mU S) ∧ xok y (mU S) := by
  unfold mTh at h
  by_cases g : xok x (mU S) ∧ xok y (mU S)
  · exact g
  · rw [if_neg g] at h; exact absurd h (by decide)
end XP33

/-! THE REFERENCE: what is changed -/
theorem upd_upd {f : Nat → Int32} {k : Nat} {a b : Int32} : upd (upd f k a) k b = upd f k b := by
  funext n
  by_cases h : n = k <;> simp [upd, h]
theorem xA_xA {σ : XS} {i : XI} {f g : Nat → Int32} : xA (xA σ i f) i g = xA σ i g := by
  refine mW_ext (fun j => ?_) rfl
  unfold xA
  by_cases h : j = i <;> simp [h]
theorem upd_76 {f : Nat → Int32} {a : Int32} : upd f 7 a 6 = f 6 := upd_ne (by decide)
theorem m550 (c : Nat) : nI c * 550 = nI (c * 550) := nI_m c 550
theorem mW_uo {τ : XS} {S F L : Nat → Int32} {j : XI} {k : Nat} {v : Int32} (h : j ≠ .inr 10) (h2 : j ≠ .inr 9) (h3 : j ≠ .inr 18) : xu (mW τ S F L) j k v = mW (xu τ j k v) S F L := by rw [xu, mW_o h h2 h3, mW_Ao h h2 h3]; rfl
def mNx (ch : Nat) : Nat := if ch = 8 then 8 else ch + 1
/-- the kept rows with f behind them -/
def mRem (K f : Nat → Int32) (ch : Nat) : Nat → Int32 := if ch = 8 then va_cpy f (va_cpy K K 550 0 3850) 0 3850 550 else va_cpy f K 0 (ch * 550) 550
/-- .. the world with them -/
def mRw (τ : XS) (f : Nat → Int32) (ch : Nat) : XS := xA τ (.inr 12) (mRem (τ.1 (.inr 12)) f ch)
def ub (u : Int32) : Int32 := if u = 0 then 0 else 1
def mThC (S : Nat → Int32) (x y : Int32) : Int32 := if xok x (mU S) ∧ xok y (mU S) then (if x = y then 2 else if mK S = 40 then 3 else 0) else 1
def mThT (S : Nat → Int32) (x y : Int32) : Int32 := if xok x (mU S) ∧ xok y (mT S) then (if mK S = 40 then 2 else 0) else 1
def mThE (S : Nat → Int32) (x : Int32) : Int32 := if xok x (mK S) then (if 2 ≤ sC S 4 (cN x) then 2 else 0) else 1
def mThW (S : Nat → Int32) (v : Int32) : Int32 := if 1 ≤ v ∧ v ≤ 9999 then (if S 0 + v ≤ 999999 then 0 else 2) else 1
def mThM (S : Nat → Int32) (x v : Int32) : Int32 := if xok x (mU S) then (if 0 ≤ v ∧ v ≤ 9 then 0 else 2) else 1
def mThR (τ : XS) (x : Int32) : Int32 := if xok x 2 then (if τ.1 (.inr 15) (cN x) = 0 then 2 else 0) else 1
theorem mIn_2 (x : Int32) : mIn x 0 1 = if xok x 2 then 1 else 0 := mIn_ok (n := 2) (by decide)
theorem mIn_b {x a b : Int32} : mIn x a b = if a ≤ x ∧ x ≤ b then 1 else 0 := rfl
theorem i24 : (24 : Int32) + -8 = 16 := by decide
theorem i16 : (16 : Int32) + -8 = 8 := by decide
theorem i8_ : (8 : Int32) + -8 = 0 := by decide
def mPut4 (τ : XS) (n : Nat) (v : Int32) : XS := xu (xu (xu (xu τ (.inr 16) n (v >>> ((24 : Int32) &&& 31) &&& 255)) (.inr 16) (n + 1) (v >>> ((16 : Int32) &&& 31) &&& 255)) (.inr 16) (n + 2) (v >>> ((8 : Int32) &&& 31) &&& 255)) (.inr 16) (n + 3) (v >>> ((0 : Int32) &&& 31) &&& 255)
section XP34
variable {p : Program} {l : Launch} {e : Env} {R : Room} {s : State} {m : MethodId} {args : Array Value} {below : List Frame} {meth : Method} {c : Code} {P : XP} {A : Nat → Prop} {nL cells slots : Nat} {Q : State → Prop} {cc : ByteArray} {ret : Option FieldType} {σ : XS} {pc : Nat} {lv : List (Nat × Value)} {st : List Value}
theorem mThC_0 {S : Nat → Int32} {x y : Int32} (h : mThC S x y = 0) (hM : MI S) : xok x (mU S) ∧ xok y (mU S) ∧ mK S < 40 := by
  unfold mThC at h
  have := hM.k40
  by_cases g : xok x (mU S) ∧ xok y (mU S)
  · rw [if_pos g] at h
    by_cases g1 : x = y
    · rw [if_pos g1] at h; exact absurd h (by decide)
    · rw [if_neg g1] at h
      by_cases g2 : mK S = 40
      · rw [if_pos g2] at h; exact absurd h (by decide)
      · exact ⟨g.1, g.2, by omega⟩
  · rw [if_neg g] at h; exact absurd h (by decide)
theorem mThT_0 {S : Nat → Int32} {x y : Int32} (h : mThT S x y = 0) (hM : MI S) : xok x (mU S) ∧ xok y (mT S) ∧ mK S < 40 := by
  unfold mThT at h
  have := hM.k40
  by_cases g : xok x (mU S) ∧ xok y (mT S)
  · rw [if_pos g] at h
    by_cases g2 : mK S = 40
    · rw [if_pos g2] at h; exact absurd h (by decide)
    · exact ⟨g.1, g.2, by omega⟩
  · rw [if_neg g] at h; exact absurd h (by decide)
theorem mThE_0 {S : Nat → Int32} {x : Int32} (h : mThE S x = 0) : xok x (mK S) ∧ ¬ 2 ≤ sC S 4 (cN x) := by
  unfold mThE at h
  by_cases g : xok x (mK S)
  · rw [if_pos g] at h
    by_cases g1 : 2 ≤ sC S 4 (cN x)
    · rw [if_pos g1] at h; exact absurd h (by decide)
    · exact ⟨g, g1⟩
  · rw [if_neg g] at h; exact absurd h (by decide)
theorem mThM_0 {S : Nat → Int32} {x v : Int32} (h : mThM S x v = 0) : xok x (mU S) ∧ 0 ≤ v ∧ v ≤ 9 := by
  unfold mThM at h
  by_cases g : xok x (mU S)
  · rw [if_pos g] at h
    by_cases g1 : 0 ≤ v ∧ v ≤ 9
    · exact ⟨g, g1⟩
    · rw [if_neg g1] at h; exact absurd h (by decide)
  · rw [if_neg g] at h; exact absurd h (by decide)
theorem mThR_0 {τ : XS} {x : Int32} (h : mThR τ x = 0) : xok x 2 := by
  unfold mThR at h
  by_cases g : xok x 2
  · exact g
  · rw [if_neg g] at h; exact absurd h (by decide)
end XP34
def MS (S : Nat → Int32) : Prop := MI S ∧ MN S ∧ MC S

/-! THE FACE: the list of calls -/
def uOut (σ : XS) (w : Nat) (v : Int32) : XS := xu (xu σ (.inr 8) w v) (.inr 0) 6 (nI (w + 1))
def uPut : XS → Nat → List Int32 → XS
  | σ, _, [] => σ
  | σ, w, v :: L => uPut (uOut σ w v) (w + 1) L
theorem uPut_app : ∀ (L1 L2 : List Int32) (σ : XS) (w : Nat), uPut σ w (L1 ++ L2) = uPut (uPut σ w L1) (w + L1.length) L2
  | [], L2, σ, w => rfl
  | v :: L1, L2, σ, w => by
    rw [List.cons_append, uPut, uPut, uPut_app L1 L2, List.length_cons, show w + 1 + L1.length = w + (L1.length + 1) by omega]
theorem uOut_o {σ : XS} {w : Nat} {v : Int32} {i : XI} (h8 : i ≠ .inr 8) (h0 : i ≠ .inr 0) : (uOut σ w v).1 i = σ.1 i := by rw [uOut, xu_ne _ _ _ h0, xu_ne _ _ _ h8]
theorem uOut_w {σ : XS} {w : Nat} {v : Int32} : (uOut σ w v).1 (.inr 0) 6 = nI (w + 1) := xu_self _ _ _ _
/-- board 0 is as it was -/
def BO (σ τ : XS) : Prop := (∀ k, τ.1 (.inl (0, k)) = σ.1 (.inl (0, k))) ∧ τ.2 = σ.2
theorem BO.rfl {σ : XS} : BO σ σ := ⟨fun _ => _root_.rfl, _root_.rfl⟩
theorem BO.out {σ τ : XS} {w : Nat} {v : Int32} (h : BO σ τ) : BO σ (uOut τ w v) := ⟨fun k => by rw [uOut_o (by simp) (by simp)]; exact h.1 k, by rw [uOut, xu_l, xu_l]; exact h.2⟩
theorem BO.put {σ : XS} : ∀ (L : List Int32) (τ : XS) (w : Nat), BO σ τ → BO σ (uPut τ w L)
  | [], τ, w, h => h
  | v :: L, τ, w, h => BO.put L _ _ h.out
theorem uPut_w : ∀ (L : List Int32) (σ : XS) (w : Nat), σ.1 (.inr 0) 6 = nI w → (uPut σ w L).1 (.inr 0) 6 = nI (w + L.length)
  | [], σ, w, h => h
  | v :: L, σ, w, h => by
    rw [uPut, uPut_w L _ (w + 1) uOut_w, List.length_cons, show w + 1 + L.length = w + (L.length + 1) by omega]
/-- a name's letters -/
def nmL (x : Int64) : Nat → Nat → List Int32
  | 0, _ => []
  | k + 1, i => if xlet x i = 0 then nmL x k (i + 1) else xlet x i :: nmL x k (i + 1)
theorem nmL_le (x : Int64) : ∀ k i, (nmL x k i).length ≤ k
  | 0, i => Nat.le_refl _
  | k + 1, i => by
    unfold nmL
    have h := nmL_le x k (i + 1)
    by_cases g : xlet x i = 0
    · rw [if_pos g]; omega
    · rw [if_neg g, List.length_cons]; omega
def nmF (nf : Nat → Int64) (nu : Nat) (x : Int32) : Int64 := if xok x nu then nf x.toNatClampNeg else 0
/-- what call j is written as, behind w bytes -/
def cwL (nf : Nat → Int64) (st ca ot tr : Nat → Int32) (nu j w : Nat) : List Int32 :=
  (if w = 0 then [] else [32]) ++ (nmL (nmF nf nu (ca j)) 6 0 ++ ((if st j = 1 then 45 else 63) :: (if tr j = -1 then nmL (nmF nf nu (ot j)) 6 0 else [48 + tr j])))
theorem cwL_le {nf : Nat → Int64} {st ca ot tr : Nat → Int32} {nu j w : Nat} : (cwL nf st ca ot tr nu j w).length ≤ 14 := by
  unfold cwL
  have h1 := nmL_le (nmF nf nu (ca j)) 6 0
  have h2 := nmL_le (nmF nf nu (ot j)) 6 0
  have e1 : (if w = 0 then ([] : List Int32) else [32]).length ≤ 1 := by split <;> decide
  have e2 : (if tr j = -1 then nmL (nmF nf nu (ot j)) 6 0 else [48 + tr j]).length ≤ 6 := by
    split
    · exact h2
    · simp
  rw [List.length_append, List.length_append, List.length_cons]
  omega
def wcL (nf : Nat → Int64) (st ca ot tr : Nat → Int32) (nu : Nat) : Nat → Nat → Nat → List Int32
  | 0, _, _ => []
  | k + 1, j, w => if st j = 2 ∨ st j = 3 then wcL nf st ca ot tr nu k (j + 1) w else cwL nf st ca ot tr nu j w ++ wcL nf st ca ot tr nu k (j + 1) (w + (cwL nf st ca ot tr nu j w).length)
section XP24
variable {p : Program} {l : Launch} {e : Env} {R : Room} {s : State} {m : MethodId} {args : Array Value} {below : List Frame} {meth : Method} {c : Code} {P : XP} {A : Nat → Prop} {nL cells slots : Nat} {Q : State → Prop} {cc : ByteArray} {ret : Option FieldType} {σ : XS} {pc : Nat} {lv : List (Nat × Value)} {st : List Value}

end XP24

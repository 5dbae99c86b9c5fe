/-! THE REFERENCE: its row, its fields, its letters; leaves -/
def mW (τ : XS) (S F L : Nat → Int32) : XS := xA (xA (xA τ (.inr 10) S) (.inr 9) F) (.inr 18) L
theorem mW_10 {τ : XS} {S F L : Nat → Int32} : (mW τ S F L).1 (.inr 10) = S := by simp [mW, xA]
theorem mW_9 {τ : XS} {S F L : Nat → Int32} : (mW τ S F L).1 (.inr 9) = F := by simp [mW, xA]
theorem mW_18 {τ : XS} {S F L : Nat → Int32} : (mW τ S F L).1 (.inr 18) = L := by simp [mW, xA]
theorem mW_o {τ : XS} {S F L : Nat → Int32} {i : XI} (h : i ≠ .inr 10) (h2 : i ≠ .inr 9) (h3 : i ≠ .inr 18) : (mW τ S F L).1 i = τ.1 i := by simp [mW, xA, h, h2, h3]
theorem mW_l {τ : XS} {S F L : Nat → Int32} : (mW τ S F L).2 = τ.2 := rfl
theorem mW_ext {σ τ : XS} (h : ∀ i, σ.1 i = τ.1 i) (h2 : σ.2 = τ.2) : σ = τ := Prod.ext (funext h) h2
theorem mW_A10 {τ : XS} {S F L S1 : Nat → Int32} : xA (mW τ S F L) (.inr 10) S1 = mW τ S1 F L := by
  refine mW_ext (fun i => ?_) rfl
  unfold mW xA
  by_cases h : i = .inr 10
  · subst h; simp
  · simp [h]
theorem mW_A9 {τ : XS} {S F L F1 : Nat → Int32} : xA (mW τ S F L) (.inr 9) F1 = mW τ S F1 L := by
  refine mW_ext (fun i => ?_) rfl
  unfold mW xA
  by_cases h : i = .inr 9
  · subst h; simp
  · simp [h]
theorem mW_A18 {τ : XS} {S F L L1 : Nat → Int32} : xA (mW τ S F L) (.inr 18) L1 = mW τ S F L1 := by
  refine mW_ext (fun i => ?_) rfl
  unfold mW xA
  by_cases h : i = .inr 18
  · subst h; simp
  · simp [h]
theorem mW_Ao {τ : XS} {S F L f : Nat → Int32} {j : XI} (h : j ≠ .inr 10) (h2 : j ≠ .inr 9) (h3 : j ≠ .inr 18) : xA (mW τ S F L) j f = mW (xA τ j f) S F L := by
  refine mW_ext (fun i => ?_) rfl
  unfold mW xA
  by_cases g : i = j
  · subst g; simp [h, h2, h3]
  · simp [g]
theorem mW_u10 {τ : XS} {S F L : Nat → Int32} {k : Nat} {v : Int32} : xu (mW τ S F L) (.inr 10) k v = mW τ (upd S k v) F L := by rw [xu, mW_10, mW_A10]
theorem mW_u9 {τ : XS} {S F L : Nat → Int32} {k : Nat} {v : Int32} : xu (mW τ S F L) (.inr 9) k v = mW τ S (upd F k v) L := by rw [xu, mW_9, mW_A9]
theorem mW_u18 {τ : XS} {S F L : Nat → Int32} {k : Nat} {v : Int32} : xu (mW τ S F L) (.inr 18) k v = mW τ S F (upd L k v) := by rw [xu, mW_18, mW_A18]
theorem mW_id (σ : XS) : σ = mW σ (σ.1 (.inr 10)) (σ.1 (.inr 9)) (σ.1 (.inr 18)) := by
  refine mW_ext (fun i => ?_) rfl
  unfold mW xA
  by_cases h : i = .inr 18
  · subst h; simp
  · by_cases h2 : i = .inr 9
    · subst h2; simp
    · by_cases h3 : i = .inr 10
      · subst h3; simp
      · simp [h, h2, h3]
theorem upd_at {f : Nat → Int32} {k : Nat} {v : Int32} : upd f k v k = v := by simp [upd]
theorem upd_ne {f : Nat → Int32} {k n : Nat} {v : Int32} (h : n ≠ k) : upd f k v n = f n := by simp [upd, h]
/-- what stands of user u, of call c -/
abbrev sU (S : Nat → Int32) (w u : Nat) : Int32 := S (10 + 12 * u + w)
abbrev sC (S : Nat → Int32) (w c : Nat) : Int32 := S (190 + 9 * c + w)
abbrev cN (x : Int32) : Nat := x.toNatClampNeg
theorem nI_m (a b : Nat) : nI a * nI b = nI (a * b) := (Int32.ofNat_mul a b).symm
def mFl (a b d : Int32) : Int32 := if ¬ a = 0 then 1 else if ¬ b = 0 then 2 else if ¬ d = 0 then 3 else 0
theorem bz00 {p : Prop} {hp : Decidable p} (h : (if p then (0 : Int32) else 1) = 0) : p := Classical.byContradiction fun q => by rw [if_neg q] at h; exact absurd h (by decide)
theorem bz01 {p : Prop} {hp : Decidable p} (h : ¬ (if p then (0 : Int32) else 1) = 0) : ¬ p := fun q => h (if_pos q)
theorem mFl_1 {p : Prop} {hp : Decidable p} : mFl (if p then 0 else 1) 0 0 = if p then 0 else 1 := by by_cases h : p <;> simp [mFl, h]
theorem if01_0 {p : Prop} {hp : Decidable p} : (if (if p then (0 : Int32) else 1) = 0 then (0 : Int32) else 1) = if p then 0 else 1 := by by_cases h : p <;> simp [h]
theorem nar_if {p : Prop} {hp : Decidable p} {a b : Int32} (ha : a = 0 ∨ a = 1) (hb : b = 0 ∨ b = 1) : vp_nar .boolean (if p then a else b) = if p then a else b := nar01 (by by_cases h : p <;> simp [h, ha, hb])
theorem uix (u w : Nat) : (10 : Int32) + 12 * nI u + nI w = nI (10 + 12 * u + w) := by
  rw [show (10 : Int32) = nI 10 from rfl, show (12 : Int32) = nI 12 from rfl, nI_m, nI_add, nI_add]
theorem cix (u w : Nat) : (190 : Int32) + 9 * nI u + nI w = nI (190 + 9 * u + w) := by
  rw [show (190 : Int32) = nI 190 from rfl, show (9 : Int32) = nI 9 from rfl, nI_m, nI_add, nI_add]
def mIn (x a b : Int32) : Int32 := if a ≤ x ∧ x ≤ b then 1 else 0
theorem mIn_ok {x : Int32} {n : Nat} (hn : n ≤ 1000000) : mIn x 0 (nI n - 1) = if xok x n then 1 else 0 := by
  unfold mIn
  have e : (0 ≤ x ∧ x ≤ nI n - 1) ↔ xok x n := by
    cases n with
    | zero =>
      constructor
      · intro h
        have h1 := Int32.le_iff_toInt_le.mp h.1
        have h2 := Int32.le_iff_toInt_le.mp h.2
        rw [show (nI 0 - 1).toInt = -1 from by decide] at h2
        rw [show (0 : Int32).toInt = 0 from by decide] at h1
        omega
      · intro h
        obtain ⟨h1, h2⟩ := h
        omega
    | succ k =>
      rw [nI_pred]
      unfold xok
      rw [Int32.le_iff_toInt_le, Int32.le_iff_toInt_le, nI_toInt (by omega), show (0 : Int32).toInt = 0 from by decide]
      omega
  by_cases h : xok x n
  · rw [if_pos h, if_pos (e.mpr h)]
  · rw [if_neg h, if_neg (fun q => h (e.mp q))]
section XP30
variable {p : Program} {l : Launch} {e : Env} {R : Room} {s : State} {m : MethodId} {args : Array Value} {below : List Frame} {meth : Method} {c : Code} {P : XP} {A : Nat → Prop} {nL cells slots : Nat} {Q : State → Prop} {cc : ByteArray} {ret : Option FieldType} {σ : XS} {pc : Nat} {lv : List (Nat × Value)} {st : List Value}
end XP30

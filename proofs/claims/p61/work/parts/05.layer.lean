/-! THE WORLD BY NAMES. Cells have names (XI): .inl (b, k) is cell k of board b (0: the present one, 1: the reader's trial, 2 to 9: the history's, 10 and 11: the saved ones), .inr k the others; what changes is XS: the ints of each cell, the longs of each cell. A method's contract speaks of XS alone. -/
abbrev XI : Type := (Nat × Nat) ⊕ Nat
abbrev XS : Type := (XI → Nat → Int32) × (XI → Nat → Int64)
/-- the tables' numbers, the arrays' classes, the addresses, the cells that are there, the texts' addresses, the raw cells (told as they are) -/
abbrev XP : Type := va_G × (Nat → ClassId) × (XI → Nat) × List XI × (Nat → Nat) × (Nat → Nat) × va_W
/-- the shape of a cell: an object (its class, for each field none: an int, some j: a reference to j), or an array (kind 0 int, 1 boolean, 2 long, 3 boards; length) -/
def xsh : XI → (Nat × List (Option XI)) ⊕ (Nat × Nat)
  | .inl (b, 0) => .inl (0, [some (.inl (b, 1)), some (.inl (b, 8)), some (.inl (b, 19)), none, none, none, none])
  | .inl (b, 1) => .inl (5, [some (.inl (b, 2)), some (.inl (b, 3)), some (.inl (b, 4)), some (.inl (b, 5)), some (.inl (b, 6)), some (.inl (b, 7)), none])
  | .inl (_, 2) => .inr (2, 15)
  | .inl (_, 3) => .inr (0, 15)
  | .inl (_, 4) => .inr (0, 15)
  | .inl (_, 5) => .inr (0, 15)
  | .inl (_, 6) => .inr (0, 15)
  | .inl (_, 7) => .inr (0, 15)
  | .inl (b, 8) => .inl (1, [some (.inl (b, 9)), some (.inl (b, 10)), some (.inl (b, 11)), some (.inl (b, 12)), some (.inl (b, 13)), some (.inl (b, 14)), some (.inl (b, 15)), some (.inl (b, 16)), some (.inl (b, 17)), some (.inl (b, 18)), none])
  | .inl (_, 9) => .inr (0, 40)
  | .inl (_, 10) => .inr (0, 40)
  | .inl (_, 11) => .inr (0, 40)
  | .inl (_, 12) => .inr (0, 40)
  | .inl (_, 13) => .inr (1, 40)
  | .inl (_, 14) => .inr (0, 40)
  | .inl (_, 15) => .inr (1, 40)
  | .inl (_, 16) => .inr (0, 40)
  | .inl (_, 17) => .inr (0, 40)
  | .inl (_, 18) => .inr (0, 40)
  | .inl (_, _) => .inr (0, 4)
  | .inr 0 => .inl (6, [some (.inl (0, 0)), some (.inr 1), some (.inr 4), some (.inr 6), some (.inr 7), some (.inr 8), none])
  | .inr 1 => .inl (4, [some (.inr 2), some (.inl (1, 0)), none, none])
  | .inr 2 => .inl (3, [some (.inr 3), none, none, none, none, none])
  | .inr 3 => .inr (0, 700)
  | .inr 4 => .inl (2, [some (.inr 5), none, none])
  | .inr 5 => .inr (3, 8)
  | .inr 6 => .inr (3, 2)
  | .inr 7 => .inr (1, 2)
  | .inr 8 => .inr (0, 560)
  | .inr _ => .inr (2, 1)
/-- what an array of boards holds -/
def xrr : XI → Nat → XI
  | .inr 5, k => .inl (2 + k, 0)
  | _, k => .inl (10 + k, 0)
def xv (P : XP) (σ : XS) (i : XI) (k : Nat) : Option XI → Value
  | none => .int (σ.1 i k)
  | some j => .ref (P.2.2.1 j)
def xfs (P : XP) (σ : XS) (i : XI) : Nat → List (Option XI) → List Value
  | _, [] => []
  | k, t :: ts => xv P σ i k t :: xfs P σ i (k + 1) ts
def xar (P : XP) (σ : XS) (i : XI) (n : Nat) : Nat → ClassId × vp_A
  | 0 => (P.2.1 0, n, .inl (σ.1 i))
  | 1 => (P.2.1 1, n, .inl (σ.1 i))
  | 2 => (P.2.1 2, n, .inr (.inl (σ.2 i)))
  | _ => (P.2.1 3, n, .inr (.inr (.inr (.inr (fun k => some (P.2.2.1 (xrr i k)))))))
def xce (P : XP) (σ : XS) (i : XI) : va_E := match xsh i with
  | .inl q => .inr (q.1, xfs P σ i 0 q.2)
  | .inr q => .inl (xar P σ i q.2 q.1)
def xw (P : XP) (σ : XS) : va_W := P.2.2.2.1.map (fun i => (P.2.2.1 i, xce P σ i)) ++ P.2.2.2.2.2.2
def xtys (P : XP) : List (ClassId × FieldType) := [(P.2.1 0, .int), (P.2.1 1, .boolean), (P.2.1 2, .long), (P.2.1 3, .object "CordBoard$Board"), (P.2.1 4, .byte), (P.2.1 5, .object "java/lang/String")]
/-- the ints of cell i are f -/
def xA (σ : XS) (i : XI) (f : Nat → Int32) : XS := (fun j => if j = i then f else σ.1 j, σ.2)
def xL (σ : XS) (i : XI) (f : Nat → Int64) : XS := (σ.1, fun j => if j = i then f else σ.2 j)
/-- int k of cell i is v -/
def xu (σ : XS) (i : XI) (k : Nat) (v : Int32) : XS := xA σ i (upd (σ.1 i) k v)
theorem xA_self (σ : XS) (i : XI) (f : Nat → Int32) : (xA σ i f).1 i = f := by simp [xA]
theorem xA_ne (σ : XS) {i j : XI} (f : Nat → Int32) (h : j ≠ i) : (xA σ i f).1 j = σ.1 j := by simp [xA, h]
theorem xA_l (σ : XS) (i : XI) (f : Nat → Int32) : (xA σ i f).2 = σ.2 := rfl
theorem xL_self (σ : XS) (i : XI) (f : Nat → Int64) : (xL σ i f).2 i = f := by simp [xL]
theorem xL_ne (σ : XS) {i j : XI} (f : Nat → Int64) (h : j ≠ i) : (xL σ i f).2 j = σ.2 j := by simp [xL, h]
theorem xL_i (σ : XS) (i : XI) (f : Nat → Int64) : (xL σ i f).1 = σ.1 := rfl
theorem xu_self (σ : XS) (i : XI) (k : Nat) (v : Int32) : (xu σ i k v).1 i k = v := by simp [xu, xA, upd]
theorem xu_nk (σ : XS) (i : XI) {k n : Nat} (v : Int32) (h : n ≠ k) : (xu σ i k v).1 i n = σ.1 i n := by simp [xu, xA, upd, h]
theorem xu_ne (σ : XS) {i j : XI} (k : Nat) (v : Int32) (h : j ≠ i) : (xu σ i k v).1 j = σ.1 j := by simp [xu, xA, h]
theorem xu_l (σ : XS) (i : XI) (k : Nat) (v : Int32) : (xu σ i k v).2 = σ.2 := rfl
theorem xu_ap (σ : XS) (i j : XI) (k n : Nat) (v : Int32) : (xu σ i k v).1 j n = if j = i ∧ n = k then v else σ.1 j n := by
  by_cases h : j = i
  · subst h
    by_cases hk : n = k
    · subst hk; simp [xu, xA, upd]
    · simp [xu, xA, upd, hk]
  · simp [xu, xA, h]
theorem xA_ap (σ : XS) (i j : XI) (f : Nat → Int32) (n : Nat) : (xA σ i f).1 j n = if j = i then f n else σ.1 j n := by
  by_cases h : j = i <;> simp [xA, h]
theorem xL_ap (σ : XS) (i j : XI) (f : Nat → Int64) (n : Nat) : (xL σ i f).2 j n = if j = i then f n else σ.2 j n := by
  by_cases h : j = i <;> simp [xL, h]
theorem xfs_len {P : XP} {σ : XS} {i : XI} : ∀ (tm : List (Option XI)) (k : Nat), (xfs P σ i k tm).length = tm.length
  | [], _ => rfl
  | _ :: ts, k => by rw [xfs, List.length_cons, List.length_cons, xfs_len ts]
theorem xfs_get {P : XP} {σ : XS} {i : XI} : ∀ (tm : List (Option XI)) (k j : Nat) (t : Option XI), tm[j]? = some t → (xfs P σ i k tm)[j]? = some (xv P σ i (k + j) t)
  | [], _, j, t, h => by simp at h
  | x :: ts, k, 0, t, h => by
    rw [List.getElem?_cons_zero] at h
    cases h
    rfl
  | x :: ts, k, j + 1, t, h => by
    rw [List.getElem?_cons_succ] at h
    rw [xfs, List.getElem?_cons_succ, xfs_get ts (k + 1) j t h, show k + 1 + j = k + (j + 1) by omega]
theorem xfs_far {P : XP} {σ : XS} {i : XI} {n : Nat} {v : Int32} : ∀ (tm : List (Option XI)) (k : Nat), n < k → xfs P (xu σ i n v) i k tm = xfs P σ i k tm
  | [], _, _ => rfl
  | t :: ts, k, h => by
    rw [xfs, xfs, xfs_far ts (k + 1) (by omega)]
    congr 1
    cases t with
    | none => exact congrArg Value.int (xu_nk σ i v (by omega))
    | some j => rfl
theorem xfs_set {P : XP} {σ : XS} {i : XI} {v : Int32} : ∀ (tm : List (Option XI)) (k j : Nat), tm[j]? = some none → (xfs P σ i k tm).set j (.int v) = xfs P (xu σ i (k + j) v) i k tm
  | [], _, j, h => by simp at h
  | x :: ts, k, 0, h => by
    rw [List.getElem?_cons_zero] at h
    cases h
    rw [xfs, xfs, List.set_cons_zero, Nat.add_zero, xfs_far ts (k + 1) (by omega)]
    congr 1
    exact congrArg Value.int (xu_self σ i k v).symm
  | x :: ts, k, j + 1, h => by
    rw [List.getElem?_cons_succ] at h
    rw [xfs, xfs, List.set_cons_succ, xfs_set ts (k + 1) j h, show k + 1 + j = k + (j + 1) by omega]
    congr 1
    cases x with
    | none => exact congrArg Value.int (xu_nk σ i v (by omega)).symm
    | some j => rfl
theorem xfs_cg {P : XP} {σ σ' : XS} {i : XI} (h : σ'.1 i = σ.1 i) : ∀ (tm : List (Option XI)) (k : Nat), xfs P σ' i k tm = xfs P σ i k tm
  | [], _ => rfl
  | t :: ts, k => by
    rw [xfs, xfs, xfs_cg h ts]
    congr 1
    cases t with
    | none => exact congrArg Value.int (congrFun h k)
    | some j => rfl
theorem xce_cg {P : XP} {σ σ' : XS} {i : XI} (h : σ'.1 i = σ.1 i) (h2 : σ'.2 i = σ.2 i) : xce P σ' i = xce P σ i := by
  unfold xce
  cases xsh i with
  | inl q => exact congrArg (fun z => Sum.inr (q.1, z)) (xfs_cg h q.2 0)
  | inr q =>
    refine congrArg Sum.inl ?_
    rcases q with ⟨kd, n⟩
    match kd with
    | 0 => simp only [xar, h]
    | 1 => simp only [xar, h]
    | 2 => simp only [xar, h2]
    | _ + 3 => rfl
theorem xw_get {P : XP} {σ : XS} {i : XI} (hi : i ∈ P.2.2.2.1) : ∃ k : Nat, (xw P σ)[k]? = some (P.2.2.1 i, xce P σ i) :=
  List.getElem?_of_mem (List.mem_append_left _ (List.mem_map.mpr ⟨i, hi, rfl⟩))
theorem xw_ad {P : XP} {σ σ' : XS} {k : Nat} {q : Nat × va_E} (h : (xw P σ)[k]? = some q) : ∃ q' : Nat × va_E, (xw P σ')[k]? = some q' ∧ q'.1 = q.1 := by
  unfold xw at h ⊢
  by_cases hk : k < P.2.2.2.1.length
  · rw [List.getElem?_append_left (by rw [List.length_map]; exact hk), List.getElem?_map] at h ⊢
    cases hb : P.2.2.2.1[k]? with
    | none => rw [hb] at h; cases h
    | some b => rw [hb] at h; cases h; exact ⟨_, rfl, rfl⟩
  · rw [List.getElem?_append_right (by rw [List.length_map]; omega), List.length_map] at h ⊢
    exact ⟨q, h, rfl⟩
theorem xw_D {P : XP} {A : Nat → Prop} {σ : XS} (h : va_D A (xw P σ)) (σ' : XS) : va_D A (xw P σ') := by
  refine ⟨fun i j x y hx hy hxy => ?_, fun k q hq => ?_⟩
  · obtain ⟨x', hx', ex⟩ := xw_ad (σ' := σ) hx
    obtain ⟨y', hy', ey⟩ := xw_ad (σ' := σ) hy
    exact h.1 i j x' y' hx' hy' (ex.trans (hxy.trans ey.symm))
  · obtain ⟨q', hq', e⟩ := xw_ad (σ' := σ) hq
    rw [← e]
    exact h.2 k q' hq'
theorem xw_A {P : XP} {σ σ' : XS} {sz q : Nat} (h : va_A (xw P σ) sz q) : va_A (xw P σ') sz q := by
  rcases h with ⟨k, e, h⟩ | h
  · obtain ⟨q', hq', e'⟩ := xw_ad (σ' := σ') h
    have e'' : q'.1 = q := e'
    subst e''
    exact Or.inl ⟨k, q'.2, hq'⟩
  · exact Or.inr h
theorem xw_nth {P : XP} {σ : XS} {n : Nat} {i : XI} (h : P.2.2.2.1[n]? = some i) : (xw P σ)[n]? = some (P.2.2.1 i, xce P σ i) := by
  have hl := (List.getElem?_eq_some_iff.mp h).1
  unfold xw
  rw [List.getElem?_append_left (by rw [List.length_map]; exact hl), List.getElem?_map, h]
  rfl
theorem xw_set {P : XP} {A : Nat → Prop} {σ σ' : XS} {i : XI} {k : Nat} {e : va_E} (hD : va_D A (xw P σ)) (hi : i ∈ P.2.2.2.1) (hk : (xw P σ)[k]? = some (P.2.2.1 i, e)) (ho : ∀ j, j ≠ i → xce P σ' j = xce P σ j) : (xw P σ).set k (P.2.2.1 i, xce P σ' i) = xw P σ' := by
  have hl := (List.getElem?_eq_some_iff.mp hk).1
  obtain ⟨n, hn⟩ := List.getElem?_of_mem hi
  have hn2 := xw_nth (σ := σ) hn
  have hkn : k = n := hD.1 k n _ _ hk hn2 rfl
  subst hkn
  have hkl := (List.getElem?_eq_some_iff.mp hn).1
  apply List.ext_getElem?
  intro j
  by_cases hj : j = k
  · subst hj
    rw [List.getElem?_set_self hl, xw_nth hn]
  · rw [List.getElem?_set_ne (Ne.symm hj)]
    by_cases hjl : j < P.2.2.2.1.length
    · obtain ⟨b, hb⟩ : ∃ b, P.2.2.2.1[j]? = some b := ⟨_, List.getElem?_eq_getElem hjl⟩
      have hbi : b ≠ i := by
        intro q
        subst q
        exact hj (hD.1 j k _ _ (xw_nth hb) hn2 rfl)
      rw [xw_nth hb, xw_nth hb, ho b hbi]
    · unfold xw
      rw [List.getElem?_append_right (by rw [List.length_map]; omega), List.getElem?_append_right (by rw [List.length_map]; omega), List.length_map, List.length_map]
theorem xce_o {P : XP} {σ : XS} {i : XI} {ci : Nat} {tm : List (Option XI)} (h : xsh i = .inl (ci, tm)) : xce P σ i = .inr (ci, xfs P σ i 0 tm) := by
  unfold xce
  rw [h]
theorem xce_r {P : XP} {σ : XS} {i : XI} {kd n : Nat} (h : xsh i = .inr (kd, n)) : xce P σ i = .inl (xar P σ i n kd) := by
  unfold xce
  rw [h]
/-- what a method may take as given of the machine: links of private members of nest mates (the tables' words), texts -/
def xN (U : State) : Prop := va_Nw (.methodLinkNest RX5 41 yX6_bit "CordBoard") U ∧ va_Nw (.methodLinkNest RX5 53 yX6_ringsIn "CordBoard") U ∧ va_Nw (.methodLinkNest RX0 63 yX6_trunkBit "CordBoard") U ∧ va_Nw (.methodLinkNest RX0 101 yX6_bit "CordBoard") U
theorem xN.warm {s U : State} (hW : s.WarmedH U.vm) (h : xN s) : xN U := ⟨va_Nw.warmM hW h.1, va_Nw.warmM hW h.2.1, va_Nw.warmM hW h.2.2.1, va_Nw.warmM hW h.2.2.2⟩
theorem xN.same {s U : State} (hv : s.vm = U.vm) (h : xN s) : xN U := ⟨va_Nw.same rfl hv h.1, va_Nw.same rfl hv h.2.1, va_Nw.same rfl hv h.2.2.1, va_Nw.same rfl hv h.2.2.2⟩


/-- the texts' lengths and letters, by their places -/

def xLen : List Nat := [5, 5, 4, 4, 3, 4, 4, 6, 121, 2, 2, 1, 6, 6, 6]
def xByt : List (List Int32) := [[98, 111, 97, 114, 100], [116, 114, 117, 110, 107], [117, 115, 101, 114], [99, 97, 108, 108], [101, 110, 100], [119, 97, 105, 116], [109, 111, 111, 100], [117, 114, 103, 101, 110, 116], [98, 111, 97, 114, 100, 32, 51, 32, 50, 59, 32, 116, 114, 117, 110, 107, 32, 50, 48, 59, 32, 117, 115, 101, 114, 32, 97, 110, 110, 32, 48, 32, 115, 115, 32, 50, 59, 32, 117, 115, 101, 114, 32, 98, 101, 97, 32, 48, 32, 115, 108, 32, 55, 59, 32, 117, 115, 101, 114, 32, 99, 97, 108, 32, 48, 32, 108, 32, 53, 59, 32, 117, 115, 101, 114, 32, 100, 111, 116, 32, 49, 32, 115, 32, 48, 59, 32, 117, 115, 101, 114, 32, 101, 118, 101, 32, 49, 32, 108, 108, 32, 57, 59, 32, 117, 115, 101, 114, 32, 102, 97, 121, 32, 50, 32, 115, 108, 115, 32, 54, 59], [115, 115], [115, 108], [108], [98, 111, 97, 114, 100, 32], [116, 114, 117, 110, 107, 32], [117, 115, 101, 114, 32, 117]]

/-- Integer's tables of digits -/
def xDig1 (k : Nat) : Value := .int (nI (48 + k % 10))
def xDig2 (k : Nat) : Value := .int (nI (48 + k / 10))
/-- .. and the constants that the JDK's text methods read -/
def xT (P : XP) (A : Nat → Prop) (U : State) (H : Heap) : Prop := vk_S 15 xLen xByt P.2.2.2.2.1 P.2.2.2.2.2.1 A U H ∧ va_Z "java/lang/String" "COMPACT_STRINGS" "Z" (.int 1) A U H ∧ va_Zq "jdk/internal/util/Preconditions" "SIOOBE_FORMATTER" "Ljava/util/function/BiFunction;" A U H ∧ va_AO "java/lang/String" U ∧ ∃ g : Nat × Nat, (va_Z "java/lang/Integer" "DigitOnes" "[B" (.ref g.1) A U H ∧ va_T .byte g.1 100 xDig1 A U H) ∧ (va_Z "java/lang/Integer" "DigitTens" "[B" (.ref g.2) A U H ∧ va_T .byte g.2 100 xDig2 A U H)


theorem xT.moved {P : XP} {A : Nat → Prop} {u U : State} {H : Heap} (hvm : u.vm.Alike U.vm) (h : xT P A u H) : xT P A U H := by
  obtain ⟨h1, h2, h3, h4, g, ⟨h5, h6⟩, h7, h8⟩ := h
  exact ⟨vk_S.moved hvm h1, va_Z.moved hvm h2, va_Zq.moved hvm h3, va_AO.moved hvm h4, g, ⟨va_Z.moved hvm h5, va_T.moved hvm h6⟩, va_Z.moved hvm h7, va_T.moved hvm h8⟩
theorem xT.kept {P : XP} {A : Nat → Prop} {U : State} {H H1 : Heap} (h : xT P A U H) (hq : ∀ a : Nat, a < H.size → ¬ A a → H1[a]? = H[a]?) : xT P A U H1 := by
  obtain ⟨h1, h2, h3, h4, g, ⟨h5, h6⟩, h7, h8⟩ := h
  exact ⟨vk_S.kept h1 hq, va_Z.kept h2 hq, va_Zq.kept h3 hq, h4, g, ⟨va_Z.kept h5 hq, va_T.kept h6 hq⟩, va_Z.kept h7 hq, va_T.kept h8 hq⟩
theorem xT.narrow {P : XP} {A B : Nat → Prop} {U : State} {H : Heap} (h : xT P A U H) (hAB : ∀ q, B q → A q) : xT P B U H := by
  obtain ⟨h1, h2, h3, h4, g, ⟨h5, h6⟩, h7, h8⟩ := h
  exact ⟨vk_S.narrow h1 hAB, va_Z.narrow h2 hAB, va_Zq.narrow h3 hAB, h4, g, ⟨va_Z.narrow h5 hAB, va_T.narrow h6 hAB⟩, va_Z.narrow h7 hAB, va_T.narrow h8 hAB⟩
/-- the places at which a text is loaded: the class, the pool's place, the text, which of the nine -/
def xRl : List (String × Nat × String × Nat) := [(RX4, 42, "board", 0), (RX4, 67, "trunk", 1), (RX4, 73, "user", 2), (RX4, 102, "call", 3), (RX4, 110, "end", 4), (RX4, 115, "wait", 5), (RX4, 120, "mood", 6), (RX4, 135, "urgent", 7), (RX6, 46, "board 3 2; trunk 20; user ann 0 ss 2; user bea 0 sl 7; user cal 0 l 5; user dot 1 s 0; user eve 1 ll 9; user fay 2 sls 6;", 8), (RL, 225, "ss", 9), (RL, 227, "sl", 10), (RL, 229, "l", 11), (RL, 234, "board ", 12), (RL, 245, "trunk ", 13), (RL, 250, "user u", 14), (RX6, 46, "board 3 2; trunk 20; user ann 0 ss 2; user bea 0 sl 7; user cal 0 l 5; user dot 1 s 0; user eve 1 ll 9; user fay 2 sls 6;", 8), (RX6, 46, "board 3 2; trunk 20; user ann 0 ss 2; user bea 0 sl 7; user cal 0 l 5; user dot 1 s 0; user eve 1 ll 9; user fay 2 sls 6;", 8), (RX6, 46, "board 3 2; trunk 20; user ann 0 ss 2; user bea 0 sl 7; user cal 0 l 5; user dot 1 s 0; user eve 1 ll 9; user fay 2 sls 6;", 8), (RX6, 87, "the length is out of range", 15), (RX6, 330, "there is no such subscriber", 16), (RX6, 333, "nobody calls himself", 17), (RX6, 342, "there are too many calls", 18), (RX6, 337, "there is no such trunk", 19), (RX6, 340, "there is no such call", 20), (RX6, 151, "the call is over", 21), (RX6, 158, "the seconds are out of range", 22), (RX6, 164, "the clock would go too far", 23), (RX6, 166, "the curiosity is out of range", 24), (RX6, 172, "there is no change to undo", 25), (RX6, 46, "board 3 2; trunk 20; user ann 0 ss 2; user bea 0 sl 7; user cal 0 l 5; user dot 1 s 0; user eve 1 ll 9; user fay 2 sls 6;", 8), (RX6, 46, "board 3 2; trunk 20; user ann 0 ss 2; user bea 0 sl 7; user cal 0 l 5; user dot 1 s 0; user eve 1 ll 9; user fay 2 sls 6;", 8), (RX6, 335, "there is no such line", 28)]
def xR (P : XP) (U : State) : Prop := ∀ q ∈ xRl, vk_R q.1 q.2.1 q.2.2.1 (P.2.2.2.2.1 q.2.2.2) U
/-- what a throw reads of the machine, and what a handler does: two statics of Throwable, words that the tables decide -/
def xXw : List Cond := [Cond.declares ⟨"java/lang/RuntimeException", "<init>", "(Ljava/lang/String;)V"⟩, Cond.declares ⟨"java/lang/Exception", "<init>", "(Ljava/lang/String;)V"⟩, Cond.declares ⟨"java/lang/Throwable", "<init>", "(Ljava/lang/String;)V"⟩, Cond.castable "java/lang/IndexOutOfBoundsException" "java/lang/IndexOutOfBoundsException", Cond.castable "java/lang/IllegalArgumentException" "java/lang/IllegalArgumentException", Cond.castable "java/lang/IllegalStateException" "java/lang/IllegalStateException", Cond.castable "[B" "java/lang/Cloneable"]
theorem xXw_t : ∀ w ∈ xXw, w.onTables = true := by decide +kernel
def xXn : List (String × String) := [("java/lang/IllegalArgumentException", "java/lang/IndexOutOfBoundsException"), ("java/lang/IllegalStateException", "java/lang/IndexOutOfBoundsException"), ("java/lang/IllegalStateException", "java/lang/IllegalArgumentException")]
def xX (A : Nat → Prop) (U : State) (H : Heap) : Prop := vx_Zq Bundle.tN "UNASSIGNED_STACK" Bundle.steD A U H ∧ vx_Zq Bundle.tN "SUPPRESSED_SENTINEL" Bundle.listD A U H ∧ (∀ w ∈ xXw, va_Nw w U) ∧ ∀ q ∈ xXn, va_Nc q.1 q.2 U
theorem xXw_same {s U : State} (hv : s.vm = U.vm) (h : ∀ w ∈ xXw, va_Nw w s) : ∀ w ∈ xXw, va_Nw w U := fun w hw => va_Nw.same (xXw_t w hw) hv (h w hw)
theorem xXw_warm {s U : State} (hW : s.WarmedH U.vm) (h : ∀ w ∈ xXw, va_Nw w s) : ∀ w ∈ xXw, va_Nw w U := by
  intro w hw
  have hz := h w hw
  simp only [xXw, List.mem_cons, List.not_mem_nil, or_false] at hw
  rcases hw with rfl | rfl | rfl | rfl | rfl | rfl | rfl
  · exact va_Nw.warmD hW hz
  · exact va_Nw.warmD hW hz
  · exact va_Nw.warmD hW hz
  · exact va_Nw.warmC hW hz
  · exact va_Nw.warmC hW hz
  · exact va_Nw.warmC hW hz
  · exact va_Nw.warmC hW hz
theorem xX.same {A : Nat → Prop} {u U : State} {H : Heap} (hv : u.vm = U.vm) (h : xX A u H) : xX A U H := ⟨h.1.moved (hv ▸ Vm.Alike.refl u.vm), h.2.1.moved (hv ▸ Vm.Alike.refl u.vm), xXw_same hv h.2.2.1, fun q hq => (h.2.2.2 q hq).moved (hv ▸ Vm.Alike.refl u.vm)⟩
theorem xX.warm {A : Nat → Prop} {s U : State} {H : Heap} (hW : s.WarmedH U.vm) (h : xX A s H) : xX A U H := ⟨h.1.moved hW.alike, h.2.1.moved hW.alike, xXw_warm hW h.2.2.1, fun q hq => (h.2.2.2 q hq).moved hW.alike⟩
theorem xX.kept {A : Nat → Prop} {U : State} {H H1 : Heap} (h : xX A U H) (hq : ∀ a : Nat, a < H.size → ¬ A a → H1[a]? = H[a]?) : xX A U H1 := ⟨h.1.kept hq, h.2.1.kept hq, h.2.2⟩
theorem xX.narrow {A B : Nat → Prop} {U : State} {H : Heap} (h : xX A U H) (hAB : ∀ q, B q → A q) : xX B U H := ⟨h.1.narrow hAB, h.2.1.narrow hAB, h.2.2⟩
def xE (P : XP) (A : Nat → Prop) (U : State) (H : Heap) : Prop := xN U ∧ xT P A U H ∧ xR P U ∧ xX A U H
theorem xE.same {P : XP} {A : Nat → Prop} {u U : State} {H : Heap} (hv : u.vm = U.vm) (h : xE P A u H) : xE P A U H := ⟨h.1.same hv, h.2.1.moved (hv ▸ Vm.Alike.refl u.vm), fun q hq => vk_R.same hv.symm (h.2.2.1 q hq), h.2.2.2.same hv⟩
theorem xE.warm {P : XP} {A : Nat → Prop} {s U : State} {H : Heap} (hW : s.WarmedH U.vm) (h : xE P A s H) : xE P A U H := ⟨h.1.warm hW, h.2.1.moved hW.alike, fun q hq => vk_R.warm hW (h.2.2.1 q hq), h.2.2.2.warm hW⟩
theorem xE.kept {P : XP} {A : Nat → Prop} {U : State} {H H1 : Heap} (h : xE P A U H) (hq : ∀ a : Nat, a < H.size → ¬ A a → H1[a]? = H[a]?) : xE P A U H1 := ⟨h.1, h.2.1.kept hq, h.2.2.1, h.2.2.2.kept hq⟩
theorem xE.narrow {P : XP} {A B : Nat → Prop} {U : State} {H : Heap} (h : xE P A U H) (hAB : ∀ q, B q → A q) : xE P B U H := ⟨h.1, h.2.1.narrow hAB, h.2.2.1, h.2.2.2.narrow hAB⟩
/-- which cells are there: all of board b; the class's other cells; the model's -/
def xIn (P : XP) (b : Nat) : Prop := ∀ k : Nat, k < 20 → (Sum.inl (b, k) : XI) ∈ P.2.2.2.1
def xI0 (P : XP) : Prop := ∀ k : Nat, k < 9 → (Sum.inr k : XI) ∈ P.2.2.2.1
/-! THE WALK: what holds all along a method's body (XC), and the goal at a point of it (XW) -/
def XC (p : Program) (s : State) (m : MethodId) (args : Array Value) (meth : Method) (c : Code) (P : XP) (A : Nat → Prop) (nL : Nat) (own : String) (cc : ByteArray) (ret : Option FieldType) : Prop :=
  p.tables.exec = Jvm.exec ∧ c.code = cc ∧ c.maxLocals = nL ∧ s.vm.findClass own = some m.cls ∧ (∀ w ∈ xTB, w.before args s = true) ∧ va_K P.1 vwCl (xtys P) s ∧ (∀ σ : XS, va_D A (xw P σ)) ∧ (∀ q : Nat, s.heap.size ≤ q → A q) ∧ meth.sig.returnType = ret ∧ meth.locks = false ∧ xE P A s s.heap
def XW (p : Program) (l : Launch) (e : Env) (R : Room) (s : State) (m : MethodId) (args : Array Value) (below : List Frame) (meth : Method) (c : Code) (P : XP) (A : Nat → Prop) (nL cells slots : Nat) (Q : State → Prop) (σ : XS) (pc : Nat) (lv : List (Nat × Value)) (st : List Value) : Prop :=
  ∀ (H : Heap) (locs : List Loc) (ls : Array Slot), va_P P.1 vwCl (xw P σ) H → va_S A s.heap H locs → lv_has ls nL lv → W p l e R s m args below meth c H locs cells slots Q (F0 m pc ls st)
/-- a local's value -/
def xlk : List (Nat × Value) → Nat → Option Value
  | [], _ => none
  | (j, v) :: t, i => match Nat.beq j i with
    | true => some v
    | false => xlk t i
theorem xlk_mem : ∀ {lv : List (Nat × Value)} {i : Nat} {v : Value}, xlk lv i = some v → (i, v) ∈ lv
  | [], _, _, h => by cases h
  | (j, w) :: t, i, v, h => by
    unfold xlk at h
    cases hb : Nat.beq j i with
    | true =>
      rw [hb] at h
      have e : j = i := Nat.eq_of_beq_eq_true hb
      subst e
      cases h
      exact List.mem_cons_self
    | false =>
      rw [hb] at h
      exact List.mem_cons_of_mem _ (xlk_mem h)
theorem xlk_at {ls : Array Slot} {nL : Nat} {lv : List (Nat × Value)} (h : lv_has ls nL lv) {i : Nat} {v : Value} (hk : xlk lv i = some v) : ls[i]? = some (.val v) := h.2.2 (i, v) (xlk_mem hk)
/-- a value of one slot (of two) stored into local i; the list stays in order -/
def xst (lv : List (Nat × Value)) (i : Nat) (v : Value) : List (Nat × Value) := lv.filter (fun q => Nat.blt q.1 i && !(Nat.beq (q.1 + 1) i && Nat.beq q.2.category 2)) ++ (i, v) :: lv.filter (fun q => Nat.blt i q.1)
def xst2 (lv : List (Nat × Value)) (i : Nat) (v : Value) : List (Nat × Value) := lv.filter (fun q => Nat.blt q.1 i && !(Nat.beq (q.1 + 1) i && Nat.beq q.2.category 2)) ++ (i, v) :: lv.filter (fun q => Nat.blt (i + 1) q.1)
theorem nblt {a b : Nat} (h : Nat.blt a b = true) : a < b := by simpa [Nat.blt_eq] using h
theorem xst_has {ls : Array Slot} {nL i : Nat} {v : Value} {lv : List (Nat × Value)} (h : lv_has ls nL ((i, v) :: lv.filter (fun q => !(q.1 == i) && !(q.1 + 1 == i && q.2.category == 2)))) : lv_has ls nL (xst lv i v) := by
  refine ⟨h.1, h.2.1, fun q hq => h.2.2 q ?_⟩
  rcases List.mem_append.mp hq with hq | hq
  · obtain ⟨h1, h2⟩ := List.mem_filter.mp hq
    simp only [Bool.and_eq_true, Bool.not_eq_true'] at h2
    have hl := nblt h2.1
    refine List.mem_cons_of_mem _ (List.mem_filter.mpr ⟨h1, ?_⟩)
    have h3 : (q.1 + 1 == i && q.2.category == 2) = false := by
      cases hb : Nat.beq (q.1 + 1) i with
      | false =>
        have h5 : ¬ q.1 + 1 = i := Nat.ne_of_beq_eq_false hb
        simp [h5]
      | true =>
        have h4 := h2.2
        rw [hb] at h4
        have h5 : Nat.beq q.2.category 2 = false := by simpa using h4
        have h6 : ¬ q.2.category = 2 := Nat.ne_of_beq_eq_false h5
        simp [h6]
    rw [h3]
    have : ¬ q.1 = i := by omega
    simp [this]
  · rcases List.mem_cons.mp hq with rfl | hq
    · exact List.mem_cons_self
    · obtain ⟨h1, h2⟩ := List.mem_filter.mp hq
      have hl := nblt h2
      refine List.mem_cons_of_mem _ (List.mem_filter.mpr ⟨h1, ?_⟩)
      have e1 : ¬ q.1 = i := by omega
      have e2 : ¬ q.1 + 1 = i := by omega
      simp [e1, e2]
theorem xst2_has {ls : Array Slot} {nL i : Nat} {v : Value} {lv : List (Nat × Value)} (h : lv_has ls nL ((i, v) :: lv.filter (fun q => !(q.1 == i) && (!(q.1 == i + 1) && !(q.1 + 1 == i && q.2.category == 2))))) : lv_has ls nL (xst2 lv i v) := by
  refine ⟨h.1, h.2.1, fun q hq => h.2.2 q ?_⟩
  rcases List.mem_append.mp hq with hq | hq
  · obtain ⟨h1, h2⟩ := List.mem_filter.mp hq
    simp only [Bool.and_eq_true, Bool.not_eq_true'] at h2
    have hl := nblt h2.1
    refine List.mem_cons_of_mem _ (List.mem_filter.mpr ⟨h1, ?_⟩)
    have h3 : (q.1 + 1 == i && q.2.category == 2) = false := by
      cases hb : Nat.beq (q.1 + 1) i with
      | false =>
        have h5 : ¬ q.1 + 1 = i := Nat.ne_of_beq_eq_false hb
        simp [h5]
      | true =>
        have h4 := h2.2
        rw [hb] at h4
        have h5 : Nat.beq q.2.category 2 = false := by simpa using h4
        have h6 : ¬ q.2.category = 2 := Nat.ne_of_beq_eq_false h5
        simp [h6]
    rw [h3]
    have e1 : ¬ q.1 = i := by omega
    have e2 : ¬ q.1 = i + 1 := by omega
    simp [e1, e2]
  · rcases List.mem_cons.mp hq with rfl | hq
    · exact List.mem_cons_self
    · obtain ⟨h1, h2⟩ := List.mem_filter.mp hq
      have hl := nblt h2
      refine List.mem_cons_of_mem _ (List.mem_filter.mpr ⟨h1, ?_⟩)
      have e1 : ¬ q.1 = i := by omega
      have e2 : ¬ q.1 + 1 = i := by omega
      have e3 : ¬ q.1 = i + 1 := by omega
      simp [e1, e2, e3]
section XLAY
variable {p : Program} {l : Launch} {e : Env} {R : Room} {s : State} {m : MethodId} {args : Array Value} {below : List Frame} {meth : Method} {c : Code} {P : XP} {A : Nat → Prop} {nL cells slots : Nat} {Q : State → Prop} {own : String} {cc : ByteArray} {ret : Option FieldType} {σ : XS} {pc : Nat} {lv : List (Nat × Value)} {st : List Value}
theorem XC.hts (C : XC p s m args meth c P A nL own cc ret) : ∀ w ∈ xTB, w.before args s = true := C.2.2.2.2.1
theorem XC.hK (C : XC p s m args meth c P A nL own cc ret) : va_K P.1 vwCl (xtys P) s := C.2.2.2.2.2.1
theorem XC.hD (C : XC p s m args meth c P A nL own cc ret) : ∀ σ : XS, va_D A (xw P σ) := C.2.2.2.2.2.2.1
theorem XC.hA (C : XC p s m args meth c P A nL own cc ret) : ∀ q : Nat, s.heap.size ≤ q → A q := C.2.2.2.2.2.2.2.1
theorem XC.hr (C : XC p s m args meth c P A nL own cc ret) : meth.sig.returnType = ret := C.2.2.2.2.2.2.2.2.1
theorem XC.hlk (C : XC p s m args meth c P A nL own cc ret) : meth.locks = false := C.2.2.2.2.2.2.2.2.2.1
theorem XC.hE (C : XC p s m args meth c P A nL own cc ret) : xE P A s s.heap := C.2.2.2.2.2.2.2.2.2.2
theorem XW.eq {σ' : XS} {lv' : List (Nat × Value)} {st' : List Value} (h : σ = σ') (h1 : lv = lv') (h2 : st = st') (k : XW p l e R s m args below meth c P A nL cells slots Q σ' pc lv' st') : XW p l e R s m args below meth c P A nL cells slots Q σ pc lv st := by
  subst h; subst h1; subst h2; exact k
theorem XW.less {lv' : List (Nat × Value)} (ks : List Nat) (h : lv_pick lv ks = lv') (k : XW p l e R s m args below meth c P A nL cells slots Q σ pc lv' st) : XW p l e R s m args below meth c P A nL cells slots Q σ pc lv st := fun H locs ls hP hS hl => k H locs ls hP hS (lv_sub hl ks h)
theorem X_iconst (C : XC p s m args meth c P A nL own cc ret) {n : Int} {v : Int32} (d : decode cc pc = .ok (.iconst n, 1)) (hv : Int32.ofInt n = v) (k : XW p l e R s m args below meth c P A nL cells slots Q σ (pc + 1) lv (.int v :: st)) : XW p l e R s m args below meth c P A nL cells slots Q σ pc lv st := fun H locs ls hP hS hl => lv_iconst C.1 C.2.1 d hv (k H locs ls hP hS hl)
theorem X_bipush (C : XC p s m args meth c P A nL own cc ret) {n : Int} {v : Int32} (d : decode cc pc = .ok (.bipush n, 2)) (hv : (Int8.ofInt n).toInt32 = v) (k : XW p l e R s m args below meth c P A nL cells slots Q σ (pc + 2) lv (.int v :: st)) : XW p l e R s m args below meth c P A nL cells slots Q σ pc lv st := fun H locs ls hP hS hl => lv_bipush C.1 C.2.1 d hv (k H locs ls hP hS hl)
theorem X_sipush (C : XC p s m args meth c P A nL own cc ret) {n : Int} {v : Int32} (d : decode cc pc = .ok (.sipush n, 3)) (hv : (Int16.ofInt n).toInt32 = v) (k : XW p l e R s m args below meth c P A nL cells slots Q σ (pc + 3) lv (.int v :: st)) : XW p l e R s m args below meth c P A nL cells slots Q σ pc lv st := fun H locs ls hP hS hl => lv_sipush C.1 C.2.1 d hv (k H locs ls hP hS hl)
theorem X_lconst (C : XC p s m args meth c P A nL own cc ret) {n : Fin 2} {v : Int64} (d : decode cc pc = .ok (.lconst n, 1)) (hv : Int64.ofNat (n : Nat) = v) (k : XW p l e R s m args below meth c P A nL cells slots Q σ (pc + 1) lv (.long v :: st)) : XW p l e R s m args below meth c P A nL cells slots Q σ pc lv st := fun H locs ls hP hS hl => lv_lconst C.1 C.2.1 d hv (k H locs ls hP hS hl)
theorem X_ldc (C : XC p s m args meth c P A nL own cc ret) {index : Nat} {v : Int32} (hk : Cond.constant own index v ∈ xTB) (d : decode cc pc = .ok (.ldc index, 2)) (k : XW p l e R s m args below meth c P A nL cells slots Q σ (pc + 2) lv (.int v :: st)) : XW p l e R s m args below meth c P A nL cells slots Q σ pc lv st := fun H locs ls hP hS hl => lv_ldc C.1 C.2.1 C.2.2.2.1 (C.hts _ hk) d (k H locs ls hP hS hl)
theorem X_ldcw (C : XC p s m args meth c P A nL own cc ret) {index : Nat} {v : Int32} (hk : Cond.constant own index v ∈ xTB) (d : decode cc pc = .ok (.ldc_w index, 3)) (k : XW p l e R s m args below meth c P A nL cells slots Q σ (pc + 3) lv (.int v :: st)) : XW p l e R s m args below meth c P A nL cells slots Q σ pc lv st := fun H locs ls hP hS hl => lv_ldcw C.1 C.2.1 C.2.2.2.1 (C.hts _ hk) d (k H locs ls hP hS hl)
theorem X_iload_n (C : XC p s m args meth c P A nL own cc ret) {k : Fin 4} (i : Nat) {x : Int32} (d : decode cc pc = .ok (.iload_n k, 1)) (hi : (k : Nat) = i) (hl : xlk lv i = some (.int x)) (k9 : XW p l e R s m args below meth c P A nL cells slots Q σ (pc + 1) lv (.int x :: st)) : XW p l e R s m args below meth c P A nL cells slots Q σ pc lv st := fun H locs ls hP hS hz => lv_iload_n C.1 C.2.1 d hi (xlk_at hz hl) (k9 H locs ls hP hS hz)
theorem X_iload (C : XC p s m args meth c P A nL own cc ret) {i : Nat} {x : Int32} (d : decode cc pc = .ok (.iload i, 2)) (hl : xlk lv i = some (.int x)) (k9 : XW p l e R s m args below meth c P A nL cells slots Q σ (pc + 2) lv (.int x :: st)) : XW p l e R s m args below meth c P A nL cells slots Q σ pc lv st := fun H locs ls hP hS hz => lv_iload C.1 C.2.1 d (xlk_at hz hl) (k9 H locs ls hP hS hz)
theorem X_lload_n (C : XC p s m args meth c P A nL own cc ret) {k : Fin 4} (i : Nat) {x : Int64} (d : decode cc pc = .ok (.lload_n k, 1)) (hi : (k : Nat) = i) (hl : xlk lv i = some (.long x)) (k9 : XW p l e R s m args below meth c P A nL cells slots Q σ (pc + 1) lv (.long x :: st)) : XW p l e R s m args below meth c P A nL cells slots Q σ pc lv st := fun H locs ls hP hS hz => lv_lload_n C.1 C.2.1 d hi (xlk_at hz hl) (k9 H locs ls hP hS hz)
theorem X_lload (C : XC p s m args meth c P A nL own cc ret) {i : Nat} {x : Int64} (d : decode cc pc = .ok (.lload i, 2)) (hl : xlk lv i = some (.long x)) (k9 : XW p l e R s m args below meth c P A nL cells slots Q σ (pc + 2) lv (.long x :: st)) : XW p l e R s m args below meth c P A nL cells slots Q σ pc lv st := fun H locs ls hP hS hz => lv_lload C.1 C.2.1 d (xlk_at hz hl) (k9 H locs ls hP hS hz)
theorem X_aload_n (C : XC p s m args meth c P A nL own cc ret) {k : Fin 4} (i : Nat) {x : Nat} (d : decode cc pc = .ok (.aload_n k, 1)) (hi : (k : Nat) = i) (hl : xlk lv i = some (.ref x)) (k9 : XW p l e R s m args below meth c P A nL cells slots Q σ (pc + 1) lv (.ref x :: st)) : XW p l e R s m args below meth c P A nL cells slots Q σ pc lv st := fun H locs ls hP hS hz => lv_aload_n C.1 C.2.1 d hi (xlk_at hz hl) (k9 H locs ls hP hS hz)
theorem X_aload (C : XC p s m args meth c P A nL own cc ret) {i : Nat} {x : Nat} (d : decode cc pc = .ok (.aload i, 2)) (hl : xlk lv i = some (.ref x)) (k9 : XW p l e R s m args below meth c P A nL cells slots Q σ (pc + 2) lv (.ref x :: st)) : XW p l e R s m args below meth c P A nL cells slots Q σ pc lv st := fun H locs ls hP hS hz => lv_aload C.1 C.2.1 d (xlk_at hz hl) (k9 H locs ls hP hS hz)
theorem X_dload_n (C : XC p s m args meth c P A nL own cc ret) {k : Fin 4} (i : Nat) {x : UInt64} (d : decode cc pc = .ok (.dload_n k, 1)) (hi : (k : Nat) = i) (hl : xlk lv i = some (.double x)) (k9 : XW p l e R s m args below meth c P A nL cells slots Q σ (pc + 1) lv (.double x :: st)) : XW p l e R s m args below meth c P A nL cells slots Q σ pc lv st := fun H locs ls hP hS hz => lv_dload_n C.1 C.2.1 d hi (xlk_at hz hl) (k9 H locs ls hP hS hz)
theorem X_dload (C : XC p s m args meth c P A nL own cc ret) {i : Nat} {x : UInt64} (d : decode cc pc = .ok (.dload i, 2)) (hl : xlk lv i = some (.double x)) (k9 : XW p l e R s m args below meth c P A nL cells slots Q σ (pc + 2) lv (.double x :: st)) : XW p l e R s m args below meth c P A nL cells slots Q σ pc lv st := fun H locs ls hP hS hz => lv_dload C.1 C.2.1 d (xlk_at hz hl) (k9 H locs ls hP hS hz)
theorem X_istore_n (C : XC p s m args meth c P A nL own cc ret) {k : Fin 4} (i : Nat) {x : Int32} {lv1 : List (Nat × Value)} (d : decode cc pc = .ok (.istore_n k, 1)) (hi : (k : Nat) = i) (hn : i < nL) (hl : xst lv i (.int x) = lv1) (k9 : XW p l e R s m args below meth c P A nL cells slots Q σ (pc + 1) lv1 st) : XW p l e R s m args below meth c P A nL cells slots Q σ pc lv (.int x :: st) := fun H locs ls hP hS hz => lv_istore_n C.1 C.2.1 d hi hz hn rfl (fun ls1 h1 => k9 H locs ls1 hP hS (hl ▸ xst_has h1))
theorem X_istore (C : XC p s m args meth c P A nL own cc ret) {i : Nat} {x : Int32} {lv1 : List (Nat × Value)} (d : decode cc pc = .ok (.istore i, 2)) (hn : i < nL) (hl : xst lv i (.int x) = lv1) (k9 : XW p l e R s m args below meth c P A nL cells slots Q σ (pc + 2) lv1 st) : XW p l e R s m args below meth c P A nL cells slots Q σ pc lv (.int x :: st) := fun H locs ls hP hS hz => lv_istore C.1 C.2.1 d hz hn rfl (fun ls1 h1 => k9 H locs ls1 hP hS (hl ▸ xst_has h1))
theorem X_astore_n (C : XC p s m args meth c P A nL own cc ret) {k : Fin 4} (i : Nat) {x : Nat} {lv1 : List (Nat × Value)} (d : decode cc pc = .ok (.astore_n k, 1)) (hi : (k : Nat) = i) (hn : i < nL) (hl : xst lv i (.ref x) = lv1) (k9 : XW p l e R s m args below meth c P A nL cells slots Q σ (pc + 1) lv1 st) : XW p l e R s m args below meth c P A nL cells slots Q σ pc lv (.ref x :: st) := fun H locs ls hP hS hz => lv_astore_n C.1 C.2.1 d hi hz hn rfl (fun ls1 h1 => k9 H locs ls1 hP hS (hl ▸ xst_has h1))
theorem X_astore (C : XC p s m args meth c P A nL own cc ret) {i : Nat} {x : Nat} {lv1 : List (Nat × Value)} (d : decode cc pc = .ok (.astore i, 2)) (hn : i < nL) (hl : xst lv i (.ref x) = lv1) (k9 : XW p l e R s m args below meth c P A nL cells slots Q σ (pc + 2) lv1 st) : XW p l e R s m args below meth c P A nL cells slots Q σ pc lv (.ref x :: st) := fun H locs ls hP hS hz => lv_astore C.1 C.2.1 d hz hn rfl (fun ls1 h1 => k9 H locs ls1 hP hS (hl ▸ xst_has h1))
theorem X_lstore_n (C : XC p s m args meth c P A nL own cc ret) {k : Fin 4} (i : Nat) {x : Int64} {lv1 : List (Nat × Value)} (d : decode cc pc = .ok (.lstore_n k, 1)) (hi : (k : Nat) = i) (hn : i + 1 < nL) (hl : xst2 lv i (.long x) = lv1) (k9 : XW p l e R s m args below meth c P A nL cells slots Q σ (pc + 1) lv1 st) : XW p l e R s m args below meth c P A nL cells slots Q σ pc lv (.long x :: st) := fun H locs ls hP hS hz => lv_lstore_n C.1 C.2.1 d hi hz hn rfl (fun ls1 h1 => k9 H locs ls1 hP hS (hl ▸ xst2_has h1))
theorem X_lstore (C : XC p s m args meth c P A nL own cc ret) {i : Nat} {x : Int64} {lv1 : List (Nat × Value)} (d : decode cc pc = .ok (.lstore i, 2)) (hn : i + 1 < nL) (hl : xst2 lv i (.long x) = lv1) (k9 : XW p l e R s m args below meth c P A nL cells slots Q σ (pc + 2) lv1 st) : XW p l e R s m args below meth c P A nL cells slots Q σ pc lv (.long x :: st) := fun H locs ls hP hS hz => lv_lstore C.1 C.2.1 d hz hn rfl (fun ls1 h1 => k9 H locs ls1 hP hS (hl ▸ xst2_has h1))
theorem X_dstore_n (C : XC p s m args meth c P A nL own cc ret) {k : Fin 4} (i : Nat) {x : UInt64} {lv1 : List (Nat × Value)} (d : decode cc pc = .ok (.dstore_n k, 1)) (hi : (k : Nat) = i) (hn : i + 1 < nL) (hl : xst2 lv i (.double x) = lv1) (k9 : XW p l e R s m args below meth c P A nL cells slots Q σ (pc + 1) lv1 st) : XW p l e R s m args below meth c P A nL cells slots Q σ pc lv (.double x :: st) := fun H locs ls hP hS hz => lv_dstore_n C.1 C.2.1 d hi hz hn rfl (fun ls1 h1 => k9 H locs ls1 hP hS (hl ▸ xst2_has h1))
theorem X_dstore (C : XC p s m args meth c P A nL own cc ret) {i : Nat} {x : UInt64} {lv1 : List (Nat × Value)} (d : decode cc pc = .ok (.dstore i, 2)) (hn : i + 1 < nL) (hl : xst2 lv i (.double x) = lv1) (k9 : XW p l e R s m args below meth c P A nL cells slots Q σ (pc + 2) lv1 st) : XW p l e R s m args below meth c P A nL cells slots Q σ pc lv (.double x :: st) := fun H locs ls hP hS hz => lv_dstore C.1 C.2.1 d hz hn rfl (fun ls1 h1 => k9 H locs ls1 hP hS (hl ▸ xst2_has h1))
theorem xlk_pl {lv : List (Nat × Value)} {i : Nat} {v : Value} (h : xlk lv i = some v) : ∃ k : Nat, lv[k]? = some (i, v) := List.getElem?_of_mem (xlk_mem h)
theorem X_iinc (C : XC p s m args meth c P A nL own cc ret) {i : Nat} {n : Int} {x kk : Int32} {lv1 : List (Nat × Value)} (d : decode cc pc = .ok (.iinc i n, 3)) (hx : xlk lv i = some (.int x)) (hv : Int32.ofInt n = kk) (hn : i < nL) (hl : xst lv i (.int (x + kk)) = lv1) (k9 : XW p l e R s m args below meth c P A nL cells slots Q σ (pc + 3) lv1 st) : XW p l e R s m args below meth c P A nL cells slots Q σ pc lv st := fun H locs ls hP hS hz => by
  obtain ⟨k, hk⟩ := xlk_pl hx
  exact lv_iinc C.1 C.2.1 d hz hk (by rw [hv]) hn rfl (fun ls1 h1 => k9 H locs ls1 hP hS (hl ▸ xst_has h1))
theorem X_iincN (C : XC p s m args meth c P A nL own cc ret) {i : Nat} {n : Int} {j : Nat} {lv1 : List (Nat × Value)} (d : decode cc pc = .ok (.iinc i n, 3)) (hx : xlk lv i = some (.int (nI j))) (hv : Int32.ofInt n = 1) (hn : i < nL) (hl : xst lv i (.int (nI (j + 1))) = lv1) (k9 : XW p l e R s m args below meth c P A nL cells slots Q σ (pc + 3) lv1 st) : XW p l e R s m args below meth c P A nL cells slots Q σ pc lv st := X_iinc C d hx hv hn (by rw [nI_1]; exact hl) k9
theorem X_iadd (C : XC p s m args meth c P A nL own cc ret) {x y : Int32} (d : decode cc pc = .ok (.iadd, 1)) (k : XW p l e R s m args below meth c P A nL cells slots Q σ (pc + 1) lv (.int (x + y) :: st)) : XW p l e R s m args below meth c P A nL cells slots Q σ pc lv (.int y :: .int x :: st) := fun H locs ls hP hS hl => lv_iadd C.1 C.2.1 d (k H locs ls hP hS hl)
theorem X_isub (C : XC p s m args meth c P A nL own cc ret) {x y : Int32} (d : decode cc pc = .ok (.isub, 1)) (k : XW p l e R s m args below meth c P A nL cells slots Q σ (pc + 1) lv (.int (x - y) :: st)) : XW p l e R s m args below meth c P A nL cells slots Q σ pc lv (.int y :: .int x :: st) := fun H locs ls hP hS hl => lv_isub C.1 C.2.1 d (k H locs ls hP hS hl)
theorem X_imul (C : XC p s m args meth c P A nL own cc ret) {x y : Int32} (d : decode cc pc = .ok (.imul, 1)) (k : XW p l e R s m args below meth c P A nL cells slots Q σ (pc + 1) lv (.int (x * y) :: st)) : XW p l e R s m args below meth c P A nL cells slots Q σ pc lv (.int y :: .int x :: st) := fun H locs ls hP hS hl => lv_imul C.1 C.2.1 d (k H locs ls hP hS hl)
theorem X_iand (C : XC p s m args meth c P A nL own cc ret) {x y : Int32} (d : decode cc pc = .ok (.iand, 1)) (k : XW p l e R s m args below meth c P A nL cells slots Q σ (pc + 1) lv (.int (x &&& y) :: st)) : XW p l e R s m args below meth c P A nL cells slots Q σ pc lv (.int y :: .int x :: st) := fun H locs ls hP hS hl => lv_iand C.1 C.2.1 d (k H locs ls hP hS hl)
theorem X_ior (C : XC p s m args meth c P A nL own cc ret) {x y : Int32} (d : decode cc pc = .ok (.ior, 1)) (k : XW p l e R s m args below meth c P A nL cells slots Q σ (pc + 1) lv (.int (x ||| y) :: st)) : XW p l e R s m args below meth c P A nL cells slots Q σ pc lv (.int y :: .int x :: st) := fun H locs ls hP hS hl => lv_ior C.1 C.2.1 d (k H locs ls hP hS hl)
theorem X_ixor (C : XC p s m args meth c P A nL own cc ret) {x y : Int32} (d : decode cc pc = .ok (.ixor, 1)) (k : XW p l e R s m args below meth c P A nL cells slots Q σ (pc + 1) lv (.int (x ^^^ y) :: st)) : XW p l e R s m args below meth c P A nL cells slots Q σ pc lv (.int y :: .int x :: st) := fun H locs ls hP hS hl => lv_ixor C.1 C.2.1 d (k H locs ls hP hS hl)
theorem X_ishl (C : XC p s m args meth c P A nL own cc ret) {x y : Int32} (d : decode cc pc = .ok (.ishl, 1)) (k : XW p l e R s m args below meth c P A nL cells slots Q σ (pc + 1) lv (.int (x <<< (y &&& 31)) :: st)) : XW p l e R s m args below meth c P A nL cells slots Q σ pc lv (.int y :: .int x :: st) := fun H locs ls hP hS hl => lv_ishl C.1 C.2.1 d (k H locs ls hP hS hl)
theorem X_ishr (C : XC p s m args meth c P A nL own cc ret) {x y : Int32} (d : decode cc pc = .ok (.ishr, 1)) (k : XW p l e R s m args below meth c P A nL cells slots Q σ (pc + 1) lv (.int (x >>> (y &&& 31)) :: st)) : XW p l e R s m args below meth c P A nL cells slots Q σ pc lv (.int y :: .int x :: st) := fun H locs ls hP hS hl => lv_ishr C.1 C.2.1 d (k H locs ls hP hS hl)
theorem X_idiv (C : XC p s m args meth c P A nL own cc ret) {x y : Int32} (d : decode cc pc = .ok (.idiv, 1)) (hne : ¬ y = 0) (k : XW p l e R s m args below meth c P A nL cells slots Q σ (pc + 1) lv (.int (x / y) :: st)) : XW p l e R s m args below meth c P A nL cells slots Q σ pc lv (.int y :: .int x :: st) := fun H locs ls hP hS hl => lv_idiv C.1 C.2.1 d hne (k H locs ls hP hS hl)
theorem X_irem (C : XC p s m args meth c P A nL own cc ret) {x y : Int32} (d : decode cc pc = .ok (.irem, 1)) (hne : ¬ y = 0) (k : XW p l e R s m args below meth c P A nL cells slots Q σ (pc + 1) lv (.int (x - x / y * y) :: st)) : XW p l e R s m args below meth c P A nL cells slots Q σ pc lv (.int y :: .int x :: st) := fun H locs ls hP hS hl => lv_irem C.1 C.2.1 d hne (k H locs ls hP hS hl)
theorem X_ineg (C : XC p s m args meth c P A nL own cc ret) {x : Int32} (d : decode cc pc = .ok (.ineg, 1)) (k : XW p l e R s m args below meth c P A nL cells slots Q σ (pc + 1) lv (.int (-x) :: st)) : XW p l e R s m args below meth c P A nL cells slots Q σ pc lv (.int x :: st) := fun H locs ls hP hS hl => lv_ineg C.1 C.2.1 d (k H locs ls hP hS hl)
theorem X_lor (C : XC p s m args meth c P A nL own cc ret) {x y : Int64} (d : decode cc pc = .ok (.lor, 1)) (k : XW p l e R s m args below meth c P A nL cells slots Q σ (pc + 1) lv (.long (x ||| y) :: st)) : XW p l e R s m args below meth c P A nL cells slots Q σ pc lv (.long y :: .long x :: st) := fun H locs ls hP hS hl => lv_lor C.1 C.2.1 d (k H locs ls hP hS hl)
theorem X_i2l (C : XC p s m args meth c P A nL own cc ret) {x : Int32} (d : decode cc pc = .ok (.i2l, 1)) (k : XW p l e R s m args below meth c P A nL cells slots Q σ (pc + 1) lv (.long x.toInt64 :: st)) : XW p l e R s m args below meth c P A nL cells slots Q σ pc lv (.int x :: st) := fun H locs ls hP hS hl => lv_i2l C.1 C.2.1 d rfl (k H locs ls hP hS hl)
theorem X_l2i (C : XC p s m args meth c P A nL own cc ret) {x : Int64} (d : decode cc pc = .ok (.l2i, 1)) (k : XW p l e R s m args below meth c P A nL cells slots Q σ (pc + 1) lv (.int x.toInt32 :: st)) : XW p l e R s m args below meth c P A nL cells slots Q σ pc lv (.long x :: st) := fun H locs ls hP hS hl => lv_l2i C.1 C.2.1 d rfl (k H locs ls hP hS hl)
theorem X_i2c (C : XC p s m args meth c P A nL own cc ret) {x : Int32} (d : decode cc pc = .ok (.i2c, 1)) (k : XW p l e R s m args below meth c P A nL cells slots Q σ (pc + 1) lv (.int (x.toUInt32 % 65536).toInt32 :: st)) : XW p l e R s m args below meth c P A nL cells slots Q σ pc lv (.int x :: st) := fun H locs ls hP hS hl => lv_i2c C.1 C.2.1 d rfl (k H locs ls hP hS hl)
theorem X_iushr (C : XC p s m args meth c P A nL own cc ret) {x y : Int32} (d : decode cc pc = .ok (.iushr, 1)) (k : XW p l e R s m args below meth c P A nL cells slots Q σ (pc + 1) lv (.int (x.toUInt32 >>> (y.toUInt32 &&& Int32.toUInt32 31)).toInt32 :: st)) : XW p l e R s m args below meth c P A nL cells slots Q σ pc lv (.int y :: .int x :: st) := fun H locs ls hP hS hl => lv_iushr C.1 C.2.1 d rfl (k H locs ls hP hS hl)
theorem X_lshl (C : XC p s m args meth c P A nL own cc ret) {x : Int64} {y : Int32} (d : decode cc pc = .ok (.lshl, 1)) (k : XW p l e R s m args below meth c P A nL cells slots Q σ (pc + 1) lv (.long (x <<< (y.toInt64 &&& 63)) :: st)) : XW p l e R s m args below meth c P A nL cells slots Q σ pc lv (.int y :: .long x :: st) := fun H locs ls hP hS hl => lv_lshl C.1 C.2.1 d rfl (k H locs ls hP hS hl)
theorem X_lshr (C : XC p s m args meth c P A nL own cc ret) {x : Int64} {y : Int32} (d : decode cc pc = .ok (.lshr, 1)) (k : XW p l e R s m args below meth c P A nL cells slots Q σ (pc + 1) lv (.long (x >>> (y.toInt64 &&& 63)) :: st)) : XW p l e R s m args below meth c P A nL cells slots Q σ pc lv (.int y :: .long x :: st) := fun H locs ls hP hS hl => lv_lshr C.1 C.2.1 d rfl (k H locs ls hP hS hl)
theorem X_dup (C : XC p s m args meth c P A nL own cc ret) {a : Value} (d : decode cc pc = .ok (.dup, 1)) (ha : a.category = 1) (k : XW p l e R s m args below meth c P A nL cells slots Q σ (pc + 1) lv (a :: a :: st)) : XW p l e R s m args below meth c P A nL cells slots Q σ pc lv (a :: st) := fun H locs ls hP hS hl => lv_dup C.1 C.2.1 d ha (k H locs ls hP hS hl)
theorem X_dup2 (C : XC p s m args meth c P A nL own cc ret) {a b : Value} (d : decode cc pc = .ok (.dup2, 1)) (ha : a.category = 1) (hb : b.category = 1) (k : XW p l e R s m args below meth c P A nL cells slots Q σ (pc + 1) lv (a :: b :: a :: b :: st)) : XW p l e R s m args below meth c P A nL cells slots Q σ pc lv (a :: b :: st) := fun H locs ls hP hS hl => lv_dup2_11 C.1 C.2.1 d ha hb (k H locs ls hP hS hl)
theorem X_pop (C : XC p s m args meth c P A nL own cc ret) {a : Value} (d : decode cc pc = .ok (.pop, 1)) (ha : a.category = 1) (k : XW p l e R s m args below meth c P A nL cells slots Q σ (pc + 1) lv st) : XW p l e R s m args below meth c P A nL cells slots Q σ pc lv (a :: st) := fun H locs ls hP hS hl => lv_pop C.1 C.2.1 d ha (k H locs ls hP hS hl)
theorem X_goto (C : XC p s m args meth c P A nL own cc ret) {off : Int} (tgt : Nat) (d : decode cc pc = .ok (.goto off, 3)) (ht : (pc : Int) + off = (tgt : Int)) (k : XW p l e R s m args below meth c P A nL cells slots Q σ tgt lv st) : XW p l e R s m args below meth c P A nL cells slots Q σ pc lv st := fun H locs ls hP hS hl => lv_goto C.1 C.2.1 d ht (k H locs ls hP hS hl)
theorem X_if_eq (C : XC p s m args meth c P A nL own cc ret) {x : Int32} {off : Int} (tgt : Nat) (d : decode cc pc = .ok (.ifCond .eq off, 3)) (ht : (pc : Int) + off = (tgt : Int)) (kt : x = 0 → XW p l e R s m args below meth c P A nL cells slots Q σ tgt lv st) (kf : ¬ x = 0 → XW p l e R s m args below meth c P A nL cells slots Q σ (pc + 3) lv st) : XW p l e R s m args below meth c P A nL cells slots Q σ pc lv (.int x :: st) := fun H locs ls hP hS hl => lv_if_eq C.1 C.2.1 d ht (fun h => kt h H locs ls hP hS hl) (fun h => kf h H locs ls hP hS hl)
theorem X_icmp_eq (C : XC p s m args meth c P A nL own cc ret) {x y : Int32} {off : Int} (tgt : Nat) (d : decode cc pc = .ok (.if_icmp .eq off, 3)) (ht : (pc : Int) + off = (tgt : Int)) (kt : x = y → XW p l e R s m args below meth c P A nL cells slots Q σ tgt lv st) (kf : ¬ x = y → XW p l e R s m args below meth c P A nL cells slots Q σ (pc + 3) lv st) : XW p l e R s m args below meth c P A nL cells slots Q σ pc lv (.int y :: .int x :: st) := fun H locs ls hP hS hl => lv_icmp_eq C.1 C.2.1 d ht (fun h => kt h H locs ls hP hS hl) (fun h => kf h H locs ls hP hS hl)
theorem X_if_ne (C : XC p s m args meth c P A nL own cc ret) {x : Int32} {off : Int} (tgt : Nat) (d : decode cc pc = .ok (.ifCond .ne off, 3)) (ht : (pc : Int) + off = (tgt : Int)) (kt : ¬ x = 0 → XW p l e R s m args below meth c P A nL cells slots Q σ tgt lv st) (kf : x = 0 → XW p l e R s m args below meth c P A nL cells slots Q σ (pc + 3) lv st) : XW p l e R s m args below meth c P A nL cells slots Q σ pc lv (.int x :: st) := fun H locs ls hP hS hl => lv_if_ne C.1 C.2.1 d ht (fun h => kt h H locs ls hP hS hl) (fun h => kf h H locs ls hP hS hl)
theorem X_icmp_ne (C : XC p s m args meth c P A nL own cc ret) {x y : Int32} {off : Int} (tgt : Nat) (d : decode cc pc = .ok (.if_icmp .ne off, 3)) (ht : (pc : Int) + off = (tgt : Int)) (kt : ¬ x = y → XW p l e R s m args below meth c P A nL cells slots Q σ tgt lv st) (kf : x = y → XW p l e R s m args below meth c P A nL cells slots Q σ (pc + 3) lv st) : XW p l e R s m args below meth c P A nL cells slots Q σ pc lv (.int y :: .int x :: st) := fun H locs ls hP hS hl => lv_icmp_ne C.1 C.2.1 d ht (fun h => kt h H locs ls hP hS hl) (fun h => kf h H locs ls hP hS hl)
theorem X_if_lt (C : XC p s m args meth c P A nL own cc ret) {x : Int32} {off : Int} (tgt : Nat) (d : decode cc pc = .ok (.ifCond .lt off, 3)) (ht : (pc : Int) + off = (tgt : Int)) (kt : x < 0 → XW p l e R s m args below meth c P A nL cells slots Q σ tgt lv st) (kf : ¬ (x < 0) → XW p l e R s m args below meth c P A nL cells slots Q σ (pc + 3) lv st) : XW p l e R s m args below meth c P A nL cells slots Q σ pc lv (.int x :: st) := fun H locs ls hP hS hl => lv_if_lt C.1 C.2.1 d ht (fun h => kt h H locs ls hP hS hl) (fun h => kf h H locs ls hP hS hl)
theorem X_icmp_lt (C : XC p s m args meth c P A nL own cc ret) {x y : Int32} {off : Int} (tgt : Nat) (d : decode cc pc = .ok (.if_icmp .lt off, 3)) (ht : (pc : Int) + off = (tgt : Int)) (kt : x < y → XW p l e R s m args below meth c P A nL cells slots Q σ tgt lv st) (kf : ¬ (x < y) → XW p l e R s m args below meth c P A nL cells slots Q σ (pc + 3) lv st) : XW p l e R s m args below meth c P A nL cells slots Q σ pc lv (.int y :: .int x :: st) := fun H locs ls hP hS hl => lv_icmp_lt C.1 C.2.1 d ht (fun h => kt h H locs ls hP hS hl) (fun h => kf h H locs ls hP hS hl)
theorem X_if_ge (C : XC p s m args meth c P A nL own cc ret) {x : Int32} {off : Int} (tgt : Nat) (d : decode cc pc = .ok (.ifCond .ge off, 3)) (ht : (pc : Int) + off = (tgt : Int)) (kt : 0 ≤ x → XW p l e R s m args below meth c P A nL cells slots Q σ tgt lv st) (kf : ¬ (0 ≤ x) → XW p l e R s m args below meth c P A nL cells slots Q σ (pc + 3) lv st) : XW p l e R s m args below meth c P A nL cells slots Q σ pc lv (.int x :: st) := fun H locs ls hP hS hl => lv_if_ge C.1 C.2.1 d ht (fun h => kt h H locs ls hP hS hl) (fun h => kf h H locs ls hP hS hl)
theorem X_icmp_ge (C : XC p s m args meth c P A nL own cc ret) {x y : Int32} {off : Int} (tgt : Nat) (d : decode cc pc = .ok (.if_icmp .ge off, 3)) (ht : (pc : Int) + off = (tgt : Int)) (kt : y ≤ x → XW p l e R s m args below meth c P A nL cells slots Q σ tgt lv st) (kf : ¬ (y ≤ x) → XW p l e R s m args below meth c P A nL cells slots Q σ (pc + 3) lv st) : XW p l e R s m args below meth c P A nL cells slots Q σ pc lv (.int y :: .int x :: st) := fun H locs ls hP hS hl => lv_icmp_ge C.1 C.2.1 d ht (fun h => kt h H locs ls hP hS hl) (fun h => kf h H locs ls hP hS hl)
theorem X_if_gt (C : XC p s m args meth c P A nL own cc ret) {x : Int32} {off : Int} (tgt : Nat) (d : decode cc pc = .ok (.ifCond .gt off, 3)) (ht : (pc : Int) + off = (tgt : Int)) (kt : 0 < x → XW p l e R s m args below meth c P A nL cells slots Q σ tgt lv st) (kf : ¬ (0 < x) → XW p l e R s m args below meth c P A nL cells slots Q σ (pc + 3) lv st) : XW p l e R s m args below meth c P A nL cells slots Q σ pc lv (.int x :: st) := fun H locs ls hP hS hl => lv_if_gt C.1 C.2.1 d ht (fun h => kt h H locs ls hP hS hl) (fun h => kf h H locs ls hP hS hl)
theorem X_icmp_gt (C : XC p s m args meth c P A nL own cc ret) {x y : Int32} {off : Int} (tgt : Nat) (d : decode cc pc = .ok (.if_icmp .gt off, 3)) (ht : (pc : Int) + off = (tgt : Int)) (kt : y < x → XW p l e R s m args below meth c P A nL cells slots Q σ tgt lv st) (kf : ¬ (y < x) → XW p l e R s m args below meth c P A nL cells slots Q σ (pc + 3) lv st) : XW p l e R s m args below meth c P A nL cells slots Q σ pc lv (.int y :: .int x :: st) := fun H locs ls hP hS hl => lv_icmp_gt C.1 C.2.1 d ht (fun h => kt h H locs ls hP hS hl) (fun h => kf h H locs ls hP hS hl)
theorem X_if_le (C : XC p s m args meth c P A nL own cc ret) {x : Int32} {off : Int} (tgt : Nat) (d : decode cc pc = .ok (.ifCond .le off, 3)) (ht : (pc : Int) + off = (tgt : Int)) (kt : x ≤ 0 → XW p l e R s m args below meth c P A nL cells slots Q σ tgt lv st) (kf : ¬ (x ≤ 0) → XW p l e R s m args below meth c P A nL cells slots Q σ (pc + 3) lv st) : XW p l e R s m args below meth c P A nL cells slots Q σ pc lv (.int x :: st) := fun H locs ls hP hS hl => lv_if_le C.1 C.2.1 d ht (fun h => kt h H locs ls hP hS hl) (fun h => kf h H locs ls hP hS hl)
theorem X_icmp_le (C : XC p s m args meth c P A nL own cc ret) {x y : Int32} {off : Int} (tgt : Nat) (d : decode cc pc = .ok (.if_icmp .le off, 3)) (ht : (pc : Int) + off = (tgt : Int)) (kt : x ≤ y → XW p l e R s m args below meth c P A nL cells slots Q σ tgt lv st) (kf : ¬ (x ≤ y) → XW p l e R s m args below meth c P A nL cells slots Q σ (pc + 3) lv st) : XW p l e R s m args below meth c P A nL cells slots Q σ pc lv (.int y :: .int x :: st) := fun H locs ls hP hS hl => lv_icmp_le C.1 C.2.1 d ht (fun h => kt h H locs ls hP hS hl) (fun h => kf h H locs ls hP hS hl)
theorem X_lcmp (C : XC p s m args meth c P A nL own cc ret) {x y : Int64} (d : decode cc pc = .ok (.lcmp, 1)) (k : XW p l e R s m args below meth c P A nL cells slots Q σ (pc + 1) lv (.int (lg_cmp x y) :: st)) : XW p l e R s m args below meth c P A nL cells slots Q σ pc lv (.long y :: .long x :: st) := fun H locs ls hP hS hl => W.lcmp C.1 C.2.1 d (k H locs ls hP hS hl)
theorem X_get (C : XC p s m args meth c P A nL own cc ret) {i : XI} {ci idx : Nat} {tm : List (Option XI)} {CN : String} {T : u_T} {N : Nat} (k : Nat) {t : Option XI} (hi : i ∈ P.2.2.2.1) (hs : xsh i = .inl (ci, tm)) (hc : vwCl[ci]? = some (CN, T, N)) (hin : ∀ w ∈ u_ws CN T N, w ∈ xTB) (hk : k < N) (ht : tm[k]? = some t) (hf : Cond.fieldLink own idx (T k).1 (T k).2.1 (T k).2.2.1 ∈ xTB) (d : decode cc pc = .ok (.getfield idx, 3)) (kk : XW p l e R s m args below meth c P A nL cells slots Q σ (pc + 3) lv (xv P σ i k t :: st)) : XW p l e R s m args below meth c P A nL cells slots Q σ pc lv (.ref (P.2.2.1 i) :: st) := by
  intro H locs ls hP hS hl
  obtain ⟨q, hq⟩ := xw_get (σ := σ) hi
  rw [xce_o hs] at hq
  have hv := xfs_get (P := P) (σ := σ) (i := i) tm 0 k t ht
  rw [Nat.zero_add] at hv
  exact va_get C.1 C.2.1 C.hts hin C.2.2.2.1 C.hK hP q hq hc k hk (C.hts _ hf) (fun _ h9 => h9) hv d (kk H locs ls hP hS hl)
theorem X_put (C : XC p s m args meth c P A nL own cc ret) {i : XI} {ci idx : Nat} {tm : List (Option XI)} {CN : String} {T : u_T} {N : Nat} (k : Nat) {v : Int32} (ty0 : Nat → FieldType) (hty : ∀ k, k < N → parseFieldDescriptor (T k).2.2.1 = some (ty0 k)) (hnm : ∀ a, a < N → ∀ b, b < N → a ≠ b → (T a).2.1 ≠ (T b).2.1) (hi : i ∈ P.2.2.2.1) (hs : xsh i = .inl (ci, tm)) (hc : vwCl[ci]? = some (CN, T, N)) (hin : ∀ w ∈ u_ws CN T N, w ∈ xTB) (hk : k < N) (ht : tm[k]? = some none) (hf : Cond.fieldLink own idx (T k).1 (T k).2.1 (T k).2.2.1 ∈ xTB) (hfin : (T k).2.2.2 = false) (hn : narrow (ty0 k) (.int v) = .int v) (hfit : fits (ty0 k) (.int v) = true) (d : decode cc pc = .ok (.putfield idx, 3)) (kk : XW p l e R s m args below meth c P A nL cells slots Q (xu σ i k v) (pc + 3) lv st) : XW p l e R s m args below meth c P A nL cells slots Q σ pc lv (.int v :: .ref (P.2.2.1 i) :: st) := by
  intro H locs ls hP hS hl
  obtain ⟨q, hq⟩ := xw_get (σ := σ) hi
  have hq0 := hq
  rw [xce_o hs] at hq
  refine va_put C.1 C.2.1 C.hts hin ty0 hty hnm C.2.2.2.1 C.hK hP (C.hD σ) hS q hq hc k hk (C.hts _ hf) (fun _ h9 => h9) hfin (hty k hk) hn hfit (by rw [xfs_len]; exact (List.getElem?_eq_some_iff.mp ht).1) d (fun H1 locs1 hP1 hD1 hS1 => ?_)
  have e1 := xfs_set (P := P) (σ := σ) (i := i) (v := v) tm 0 k ht
  rw [Nat.zero_add] at e1
  rw [e1, ← xce_o (P := P) (σ := xu σ i k v) hs, xw_set (σ' := xu σ i k v) (C.hD σ) hi hq0 (fun j hj => xce_cg (xu_ne σ k v hj) rfl)] at hP1
  exact kk H1 locs1 ls hP1 hS1 hl
theorem X_iald (C : XC p s m args meth c P A nL own cc ret) {i : XI} {n : Nat} {x : Int32} (hi : i ∈ P.2.2.2.1) (hs : xsh i = .inr (0, n)) (hx : vp_in x n) (d : decode cc pc = .ok (.iaload, 1)) (kk : XW p l e R s m args below meth c P A nL cells slots Q σ (pc + 1) lv (.int (σ.1 i x.toNatClampNeg) :: st)) : XW p l e R s m args below meth c P A nL cells slots Q σ pc lv (.int x :: .ref (P.2.2.1 i) :: st) := by
  intro H locs ls hP hS hl
  obtain ⟨q, hq⟩ := xw_get (σ := σ) hi
  rw [xce_r hs] at hq
  exact va_iald C.1 C.2.1 C.hK hP q 0 hq rfl hx d (kk H locs ls hP hS hl)
theorem X_zald (C : XC p s m args meth c P A nL own cc ret) {i : XI} {n : Nat} {x : Int32} (hi : i ∈ P.2.2.2.1) (hs : xsh i = .inr (1, n)) (hx : vp_in x n) (d : decode cc pc = .ok (.baload, 1)) (kk : XW p l e R s m args below meth c P A nL cells slots Q σ (pc + 1) lv (.int (σ.1 i x.toNatClampNeg) :: st)) : XW p l e R s m args below meth c P A nL cells slots Q σ pc lv (.int x :: .ref (P.2.2.1 i) :: st) := by
  intro H locs ls hP hS hl
  obtain ⟨q, hq⟩ := xw_get (σ := σ) hi
  rw [xce_r hs] at hq
  exact va_zald C.1 C.2.1 C.hK hP q 1 hq rfl hx d (kk H locs ls hP hS hl)
theorem X_lald (C : XC p s m args meth c P A nL own cc ret) {i : XI} {n : Nat} {x : Int32} (hi : i ∈ P.2.2.2.1) (hs : xsh i = .inr (2, n)) (hx : vp_in x n) (d : decode cc pc = .ok (.laload, 1)) (kk : XW p l e R s m args below meth c P A nL cells slots Q σ (pc + 1) lv (.long (σ.2 i x.toNatClampNeg) :: st)) : XW p l e R s m args below meth c P A nL cells slots Q σ pc lv (.int x :: .ref (P.2.2.1 i) :: st) := by
  intro H locs ls hP hS hl
  obtain ⟨q, hq⟩ := xw_get (σ := σ) hi
  rw [xce_r hs] at hq
  exact va_lald C.1 C.2.1 C.hK hP q 2 hq rfl hx d (kk H locs ls hP hS hl)
theorem X_aald (C : XC p s m args meth c P A nL own cc ret) {i : XI} {n : Nat} {x : Int32} (hi : i ∈ P.2.2.2.1) (hs : xsh i = .inr (3, n)) (hx : vp_in x n) (d : decode cc pc = .ok (.aaload, 1)) (kk : XW p l e R s m args below meth c P A nL cells slots Q σ (pc + 1) lv (.ref (P.2.2.1 (xrr i x.toNatClampNeg)) :: st)) : XW p l e R s m args below meth c P A nL cells slots Q σ pc lv (.int x :: .ref (P.2.2.1 i) :: st) := by
  intro H locs ls hP hS hl
  obtain ⟨q, hq⟩ := xw_get (σ := σ) hi
  rw [xce_r hs] at hq
  exact va_aldq C.1 C.2.1 C.hK hP q 3 hq rfl hx d (kk H locs ls hP hS hl)
theorem X_iast (C : XC p s m args meth c P A nL own cc ret) {i : XI} {n : Nat} {x v : Int32} (hi : i ∈ P.2.2.2.1) (hs : xsh i = .inr (0, n)) (hx : vp_in x n) (d : decode cc pc = .ok (.iastore, 1)) (kk : XW p l e R s m args below meth c P A nL cells slots Q (xu σ i x.toNatClampNeg v) (pc + 1) lv st) : XW p l e R s m args below meth c P A nL cells slots Q σ pc lv (.int v :: .int x :: .ref (P.2.2.1 i) :: st) := by
  intro H locs ls hP hS hl
  obtain ⟨q, hq⟩ := xw_get (σ := σ) hi
  have hq0 := hq
  rw [xce_r hs] at hq
  refine va_iast C.1 C.2.1 C.hK hP (C.hD σ) hS q 0 hq rfl hx d (fun H1 locs1 hP1 hD1 hS1 => ?_)
  have e1 : (.inl (P.2.1 0, n, .inl (upd (σ.1 i) x.toNatClampNeg v)) : va_E) = xce P (xu σ i x.toNatClampNeg v) i := by
    rw [xce_r hs]
    show _ = (.inl (P.2.1 0, n, .inl ((xu σ i x.toNatClampNeg v).1 i)) : va_E)
    unfold xu
    rw [xA_self]
  rw [e1, xw_set (C.hD σ) hi hq0 (fun j hj => xce_cg (xu_ne σ _ v hj) rfl)] at hP1
  exact kk H1 locs1 ls hP1 hS1 hl
theorem X_zast (C : XC p s m args meth c P A nL own cc ret) {i : XI} {n : Nat} {x v : Int32} (hi : i ∈ P.2.2.2.1) (hs : xsh i = .inr (1, n)) (hx : vp_in x n) (d : decode cc pc = .ok (.bastore, 1)) (kk : XW p l e R s m args below meth c P A nL cells slots Q (xu σ i x.toNatClampNeg (vp_nar .boolean v)) (pc + 1) lv st) : XW p l e R s m args below meth c P A nL cells slots Q σ pc lv (.int v :: .int x :: .ref (P.2.2.1 i) :: st) := by
  intro H locs ls hP hS hl
  obtain ⟨q, hq⟩ := xw_get (σ := σ) hi
  have hq0 := hq
  rw [xce_r hs] at hq
  refine va_zast C.1 C.2.1 C.hK hP (C.hD σ) hS q 1 hq rfl hx d (fun H1 locs1 hP1 hD1 hS1 => ?_)
  have e1 : (.inl (P.2.1 1, n, .inl (upd (σ.1 i) x.toNatClampNeg (vp_nar .boolean v))) : va_E) = xce P (xu σ i x.toNatClampNeg (vp_nar .boolean v)) i := by
    rw [xce_r hs]
    show _ = (.inl (P.2.1 1, n, .inl ((xu σ i x.toNatClampNeg (vp_nar .boolean v)).1 i)) : va_E)
    unfold xu
    rw [xA_self]
  rw [e1, xw_set (C.hD σ) hi hq0 (fun j hj => xce_cg (xu_ne σ _ _ hj) rfl)] at hP1
  exact kk H1 locs1 ls hP1 hS1 hl
theorem X_last (C : XC p s m args meth c P A nL own cc ret) {i : XI} {n : Nat} {x : Int32} {v : Int64} (hi : i ∈ P.2.2.2.1) (hs : xsh i = .inr (2, n)) (hx : vp_in x n) (d : decode cc pc = .ok (.lastore, 1)) (kk : XW p l e R s m args below meth c P A nL cells slots Q (xL σ i (vp_updL (σ.2 i) x.toNatClampNeg v)) (pc + 1) lv st) : XW p l e R s m args below meth c P A nL cells slots Q σ pc lv (.long v :: .int x :: .ref (P.2.2.1 i) :: st) := by
  intro H locs ls hP hS hl
  obtain ⟨q, hq⟩ := xw_get (σ := σ) hi
  have hq0 := hq
  rw [xce_r hs] at hq
  refine va_last C.1 C.2.1 C.hK hP (C.hD σ) hS q 2 hq rfl hx d (fun H1 locs1 hP1 hD1 hS1 => ?_)
  have e1 : (.inl (P.2.1 2, n, .inr (.inl (vp_updL (σ.2 i) x.toNatClampNeg v))) : va_E) = xce P (xL σ i (vp_updL (σ.2 i) x.toNatClampNeg v)) i := by
    rw [xce_r hs]
    show _ = (.inl (P.2.1 2, n, .inr (.inl ((xL σ i (vp_updL (σ.2 i) x.toNatClampNeg v)).2 i))) : va_E)
    rw [xL_self]
  rw [e1, xw_set (σ' := xL σ i (vp_updL (σ.2 i) x.toNatClampNeg v)) (C.hD σ) hi hq0 (fun j hj => xce_cg rfl (xL_ne σ _ hj))] at hP1
  exact kk H1 locs1 ls hP1 hS1 hl
theorem X_ialdN (C : XC p s m args meth c P A nL own cc ret) {i : XI} {n j : Nat} (hi : i ∈ P.2.2.2.1) (hs : xsh i = .inr (0, n)) (hx : j < n) (hn : n < 2 ^ 31) (d : decode cc pc = .ok (.iaload, 1)) (kk : XW p l e R s m args below meth c P A nL cells slots Q σ (pc + 1) lv (.int (σ.1 i j) :: st)) : XW p l e R s m args below meth c P A nL cells slots Q σ pc lv (.int (nI j) :: .ref (P.2.2.1 i) :: st) := X_iald C hi hs (vp_in_nI hx hn) d (by rw [nI_clamp (Nat.lt_trans hx hn)]; exact kk)
theorem X_zaldN (C : XC p s m args meth c P A nL own cc ret) {i : XI} {n j : Nat} (hi : i ∈ P.2.2.2.1) (hs : xsh i = .inr (1, n)) (hx : j < n) (hn : n < 2 ^ 31) (d : decode cc pc = .ok (.baload, 1)) (kk : XW p l e R s m args below meth c P A nL cells slots Q σ (pc + 1) lv (.int (σ.1 i j) :: st)) : XW p l e R s m args below meth c P A nL cells slots Q σ pc lv (.int (nI j) :: .ref (P.2.2.1 i) :: st) := X_zald C hi hs (vp_in_nI hx hn) d (by rw [nI_clamp (Nat.lt_trans hx hn)]; exact kk)
theorem X_laldN (C : XC p s m args meth c P A nL own cc ret) {i : XI} {n j : Nat} (hi : i ∈ P.2.2.2.1) (hs : xsh i = .inr (2, n)) (hx : j < n) (hn : n < 2 ^ 31) (d : decode cc pc = .ok (.laload, 1)) (kk : XW p l e R s m args below meth c P A nL cells slots Q σ (pc + 1) lv (.long (σ.2 i j) :: st)) : XW p l e R s m args below meth c P A nL cells slots Q σ pc lv (.int (nI j) :: .ref (P.2.2.1 i) :: st) := X_lald C hi hs (vp_in_nI hx hn) d (by rw [nI_clamp (Nat.lt_trans hx hn)]; exact kk)
theorem X_aaldN (C : XC p s m args meth c P A nL own cc ret) {i : XI} {n j : Nat} (hi : i ∈ P.2.2.2.1) (hs : xsh i = .inr (3, n)) (hx : j < n) (hn : n < 2 ^ 31) (d : decode cc pc = .ok (.aaload, 1)) (kk : XW p l e R s m args below meth c P A nL cells slots Q σ (pc + 1) lv (.ref (P.2.2.1 (xrr i j)) :: st)) : XW p l e R s m args below meth c P A nL cells slots Q σ pc lv (.int (nI j) :: .ref (P.2.2.1 i) :: st) := X_aald C hi hs (vp_in_nI hx hn) d (by rw [nI_clamp (Nat.lt_trans hx hn)]; exact kk)
theorem X_iastN (C : XC p s m args meth c P A nL own cc ret) {i : XI} {n j : Nat} {v : Int32} (hi : i ∈ P.2.2.2.1) (hs : xsh i = .inr (0, n)) (hx : j < n) (hn : n < 2 ^ 31) (d : decode cc pc = .ok (.iastore, 1)) (kk : XW p l e R s m args below meth c P A nL cells slots Q (xu σ i j v) (pc + 1) lv st) : XW p l e R s m args below meth c P A nL cells slots Q σ pc lv (.int v :: .int (nI j) :: .ref (P.2.2.1 i) :: st) := X_iast C hi hs (vp_in_nI hx hn) d (by rw [nI_clamp (Nat.lt_trans hx hn)]; exact kk)
theorem X_zastN (C : XC p s m args meth c P A nL own cc ret) {i : XI} {n j : Nat} {v : Int32} (hi : i ∈ P.2.2.2.1) (hs : xsh i = .inr (1, n)) (hx : j < n) (hn : n < 2 ^ 31) (hv : vp_nar .boolean v = v) (d : decode cc pc = .ok (.bastore, 1)) (kk : XW p l e R s m args below meth c P A nL cells slots Q (xu σ i j v) (pc + 1) lv st) : XW p l e R s m args below meth c P A nL cells slots Q σ pc lv (.int v :: .int (nI j) :: .ref (P.2.2.1 i) :: st) := X_zast C hi hs (vp_in_nI hx hn) d (by rw [nI_clamp (Nat.lt_trans hx hn), hv]; exact kk)
theorem X_lastN (C : XC p s m args meth c P A nL own cc ret) {i : XI} {n j : Nat} {v : Int64} (hi : i ∈ P.2.2.2.1) (hs : xsh i = .inr (2, n)) (hx : j < n) (hn : n < 2 ^ 31) (d : decode cc pc = .ok (.lastore, 1)) (kk : XW p l e R s m args below meth c P A nL cells slots Q (xL σ i (vp_updL (σ.2 i) j v)) (pc + 1) lv st) : XW p l e R s m args below meth c P A nL cells slots Q σ pc lv (.long v :: .int (nI j) :: .ref (P.2.2.1 i) :: st) := X_last C hi hs (vp_in_nI hx hn) d (by rw [nI_clamp (Nat.lt_trans hx hn)]; exact kk)
/-- System.arraycopy between two int arrays, two boolean ones, two of longs -/
theorem X_copyi (C : XC p s m args meth c P A nL own cc ret) {i j : XI} {n0 n1 idx : Nat} {sp dp n : Nat} (hi : i ∈ P.2.2.2.1) (hj : j ∈ P.2.2.2.1) (hs : xsh i = .inr (0, n0)) (hs1 : xsh j = .inr (0, n1)) (hm : Cond.methodLink own idx arraycopyName ∈ xTB) (h4 : sp + n ≤ n0) (h5 : dp + n ≤ n1) (hn0 : n0 < 2 ^ 31) (hn1 : n1 < 2 ^ 31) (hfr : 1 ≤ R.frames) (hlo : (st.map fun v => v.category).sum + 31 ≤ R.locals) (d : decode cc pc = .ok (.invokestatic idx, 3)) (kk : XW p l e R s m args below meth c P A nL cells slots Q (xA σ j (va_cpy (σ.1 i) (σ.1 j) sp dp n)) (pc + 3) lv st) : XW p l e R s m args below meth c P A nL cells slots Q σ pc lv (.int (nI n) :: .int (nI dp) :: .ref (P.2.2.1 j) :: .int (nI sp) :: .ref (P.2.2.1 i) :: st) := by
  intro H locs ls hP hS hl
  obtain ⟨q, hq⟩ := xw_get (σ := σ) hi
  obtain ⟨q1, hq1⟩ := xw_get (σ := σ) hj
  have hq0 := hq1
  rw [xce_r hs] at hq
  rw [xce_r hs1] at hq1
  have b1 : sp < 2 ^ 31 := by omega
  have b2 : dp < 2 ^ 31 := by omega
  have b3 : n < 2 ^ 31 := by omega
  refine va_copyi C.1 C.2.1 (C.2.2.1.trans hl.1.symm) C.2.2.2.1 (C.hts _ hm) (C.hts _ m_v_arraycopyName) (C.hts _ m_t_arraycopyName) (C.hts _ m_n_J10) C.hK hP (C.hD σ) hS q q1 0 0 hq hq1 rfl rfl rfl (nI_pos b1) (nI_pos b2) (nI_pos b3) (by rw [nI_clamp b1, nI_clamp b3]; exact h4) (by rw [nI_clamp b2, nI_clamp b3]; exact h5) (fun _ _ => rfl) hfr (Nat.le_trans (Nat.add_le_add_left (by decide +kernel) _) hlo) d (fun H1 locs1 hP1 hD1 hS1 => ?_)
  rw [nI_clamp b1, nI_clamp b2, nI_clamp b3] at hP1
  have e1 : (.inl (P.2.1 0, n1, .inl (va_cpy (σ.1 i) (σ.1 j) sp dp n)) : va_E) = xce P (xA σ j (va_cpy (σ.1 i) (σ.1 j) sp dp n)) j := by
    rw [xce_r hs1]
    show _ = (.inl (P.2.1 0, n1, .inl ((xA σ j (va_cpy (σ.1 i) (σ.1 j) sp dp n)).1 j)) : va_E)
    rw [xA_self]
  rw [e1, xw_set (C.hD σ) hj hq0 (fun a ha => xce_cg (xA_ne σ _ ha) rfl)] at hP1
  exact kk H1 locs1 ls hP1 hS1 hl
theorem X_copyz (C : XC p s m args meth c P A nL own cc ret) {i j : XI} {n0 n1 idx : Nat} {sp dp n : Nat} (hi : i ∈ P.2.2.2.1) (hj : j ∈ P.2.2.2.1) (hs : xsh i = .inr (1, n0)) (hs1 : xsh j = .inr (1, n1)) (hm : Cond.methodLink own idx arraycopyName ∈ xTB) (h4 : sp + n ≤ n0) (h5 : dp + n ≤ n1) (hn0 : n0 < 2 ^ 31) (hn1 : n1 < 2 ^ 31) (hfit : ∀ k, k < n0 → fits .boolean (.int (σ.1 i k)) = true) (hfr : 1 ≤ R.frames) (hlo : (st.map fun v => v.category).sum + 31 ≤ R.locals) (d : decode cc pc = .ok (.invokestatic idx, 3)) (kk : XW p l e R s m args below meth c P A nL cells slots Q (xA σ j (va_cpy (σ.1 i) (σ.1 j) sp dp n)) (pc + 3) lv st) : XW p l e R s m args below meth c P A nL cells slots Q σ pc lv (.int (nI n) :: .int (nI dp) :: .ref (P.2.2.1 j) :: .int (nI sp) :: .ref (P.2.2.1 i) :: st) := by
  intro H locs ls hP hS hl
  obtain ⟨q, hq⟩ := xw_get (σ := σ) hi
  obtain ⟨q1, hq1⟩ := xw_get (σ := σ) hj
  have hq0 := hq1
  rw [xce_r hs] at hq
  rw [xce_r hs1] at hq1
  have b1 : sp < 2 ^ 31 := by omega
  have b2 : dp < 2 ^ 31 := by omega
  have b3 : n < 2 ^ 31 := by omega
  refine va_copyi C.1 C.2.1 (C.2.2.1.trans hl.1.symm) C.2.2.2.1 (C.hts _ hm) (C.hts _ m_v_arraycopyName) (C.hts _ m_t_arraycopyName) (C.hts _ m_n_J10) C.hK hP (C.hD σ) hS q q1 1 1 hq hq1 rfl rfl rfl (nI_pos b1) (nI_pos b2) (nI_pos b3) (by rw [nI_clamp b1, nI_clamp b3]; exact h4) (by rw [nI_clamp b2, nI_clamp b3]; exact h5) (fun k hk => by rw [nI_clamp b1]; rw [nI_clamp b3] at hk; exact hfit _ (by omega)) hfr (Nat.le_trans (Nat.add_le_add_left (by decide +kernel) _) hlo) d (fun H1 locs1 hP1 hD1 hS1 => ?_)
  rw [nI_clamp b1, nI_clamp b2, nI_clamp b3] at hP1
  have e1 : (.inl (P.2.1 1, n1, .inl (va_cpy (σ.1 i) (σ.1 j) sp dp n)) : va_E) = xce P (xA σ j (va_cpy (σ.1 i) (σ.1 j) sp dp n)) j := by
    rw [xce_r hs1]
    show _ = (.inl (P.2.1 1, n1, .inl ((xA σ j (va_cpy (σ.1 i) (σ.1 j) sp dp n)).1 j)) : va_E)
    rw [xA_self]
  rw [e1, xw_set (C.hD σ) hj hq0 (fun a ha => xce_cg (xA_ne σ _ ha) rfl)] at hP1
  exact kk H1 locs1 ls hP1 hS1 hl
theorem X_copyl (C : XC p s m args meth c P A nL own cc ret) {i j : XI} {n0 n1 idx : Nat} {sp dp n : Nat} (hi : i ∈ P.2.2.2.1) (hj : j ∈ P.2.2.2.1) (hs : xsh i = .inr (2, n0)) (hs1 : xsh j = .inr (2, n1)) (hm : Cond.methodLink own idx arraycopyName ∈ xTB) (h4 : sp + n ≤ n0) (h5 : dp + n ≤ n1) (hn0 : n0 < 2 ^ 31) (hn1 : n1 < 2 ^ 31) (hfr : 1 ≤ R.frames) (hlo : (st.map fun v => v.category).sum + 31 ≤ R.locals) (d : decode cc pc = .ok (.invokestatic idx, 3)) (kk : XW p l e R s m args below meth c P A nL cells slots Q (xL σ j (va_cpy (σ.2 i) (σ.2 j) sp dp n)) (pc + 3) lv st) : XW p l e R s m args below meth c P A nL cells slots Q σ pc lv (.int (nI n) :: .int (nI dp) :: .ref (P.2.2.1 j) :: .int (nI sp) :: .ref (P.2.2.1 i) :: st) := by
  intro H locs ls hP hS hl
  obtain ⟨q, hq⟩ := xw_get (σ := σ) hi
  obtain ⟨q1, hq1⟩ := xw_get (σ := σ) hj
  have hq0 := hq1
  rw [xce_r hs] at hq
  rw [xce_r hs1] at hq1
  have b1 : sp < 2 ^ 31 := by omega
  have b2 : dp < 2 ^ 31 := by omega
  have b3 : n < 2 ^ 31 := by omega
  refine va_copyl C.1 C.2.1 (C.2.2.1.trans hl.1.symm) C.2.2.2.1 (C.hts _ hm) (C.hts _ m_v_arraycopyName) (C.hts _ m_t_arraycopyName) (C.hts _ m_n_J10) C.hK hP (C.hD σ) hS q q1 2 2 hq hq1 rfl rfl rfl (nI_pos b1) (nI_pos b2) (nI_pos b3) (by rw [nI_clamp b1, nI_clamp b3]; exact h4) (by rw [nI_clamp b2, nI_clamp b3]; exact h5) (fun _ _ => rfl) hfr (Nat.le_trans (Nat.add_le_add_left (by decide +kernel) _) hlo) d (fun H1 locs1 hP1 hD1 hS1 => ?_)
  rw [nI_clamp b1, nI_clamp b2, nI_clamp b3] at hP1
  have e1 : (.inl (P.2.1 2, n1, .inr (.inl (va_cpy (σ.2 i) (σ.2 j) sp dp n))) : va_E) = xce P (xL σ j (va_cpy (σ.2 i) (σ.2 j) sp dp n)) j := by
    rw [xce_r hs1]
    show _ = (.inl (P.2.1 2, n1, .inr (.inl ((xL σ j (va_cpy (σ.2 i) (σ.2 j) sp dp n)).2 j))) : va_E)
    rw [xL_self]
  rw [e1, xw_set (σ' := xL σ j (va_cpy (σ.2 i) (σ.2 j) sp dp n)) (C.hD σ) hj hq0 (fun a ha => xce_cg rfl (xL_ne σ _ ha))] at hP1
  exact kk H1 locs1 ls hP1 hS1 hl
/-! CONTRACTS: method y, called with as over the world σ, returns v and leaves σ1, with Post v σ1 -/
def XPre (P : XP) (σ : XS) (sz : Nat) (U : State) : Prop := U.heap.size = sz ∧ va_P P.1 vwCl (xw P σ) U.heap ∧ va_K P.1 vwCl (xtys P) U ∧ va_D (fun _ => True) (xw P σ) ∧ xE P (va_A (xw P σ) sz) U U.heap
def XQ (P : XP) (A : Nat → Prop) (Post : Option Value → XS → Prop) : Array Value → State → Outcome → State → Prop := fun _ st oc t => (∃ (v : Option Value) (σ1 : XS), oc = .returned v ∧ Post v σ1 ∧ va_P P.1 vwCl (xw P σ1) t.heap) ∧ va_F A st t
def XM (l : Launch) (y : MethodName) (cc : ByteArray) (nL : Nat) (ret : Option FieldType) (rm : Room) (P : XP) (as : List Value) (σ : XS) (Post : Option Value → XS → Prop) : Prop :=
  ∀ sz : Nat, Met l y (Cond.code y cc nL ret :: xTB) rm (va_Pc as (XPre P σ sz)) (XQ P (va_A (xw P σ) sz) Post) rm.cells rm.slots (va_A (xw P σ) sz)
/-- .. where the answer and the world are known -/
abbrev XF (l : Launch) (y : MethodName) (cc : ByteArray) (nL : Nat) (ret : Option FieldType) (rm : Room) (P : XP) (as : List Value) (σ : XS) (v : Option Value) (σ1 : XS) : Prop := XM l y cc nL ret rm P as σ (fun v9 σ9 => v9 = v ∧ σ9 = σ1)
theorem XM.mono {y : MethodName} {rm : Room} {as : List Value} {Post Post1 : Option Value → XS → Prop} (h : XM l y cc nL ret rm P as σ Post) (hp : ∀ v σ1, Post v σ1 → Post1 v σ1) : XM l y cc nL ret rm P as σ Post1 := by
  intro sz p e ha hc hk s m args below hf hfit hpre htr
  obtain ⟨k, o, h1, h2, h3, ⟨⟨v, σ1, q1, q2, q3⟩, q4⟩, q5⟩ := h sz p e ha hc hk s m args below hf hfit hpre htr
  exact ⟨k, o, h1, h2, h3, ⟨⟨v, σ1, q1, hp v σ1 q2, q3⟩, q4⟩, q5⟩
theorem XM.of {y : MethodName} {rm : Room} {as : List Value} {Post : Option Value → XS → Prop} (hy : plainName y.cls = true) (hn : (lg_sl as).length ≤ nL)
    (body : ∀ (p : Program) (e : Env) (s : State) (m : MethodId) (args : Array Value) (below : List Frame) (meth : Method) (c : Code) (A : Nat → Prop), XC p s m args meth c P A nL y.cls cc ret → XW p l e rm s m args below meth c P A nL 0 0 (MQ below (XQ P A Post) args s rm.cells rm.slots A) σ 0 (lv_args 0 as) []) : XM l y cc nL ret rm P as σ Post := by
  intro sz
  refine Met.ofW (cc := cc) (maxL := nL) (ret := ret) hy rfl ?_
  intro p e s m args below meth c s₁ B hml hv
  obtain ⟨rfl, hsz, hP, hK, hD0, hE⟩ := hv
  have hts := atoms_spec (ws := Cond.code y cc nL ret :: xTB) B.pre
  have hown : s.vm.findClass y.cls = some m.cls := findClass_of_methodNamed B.named
  subst hsz
  have hD : va_D (va_A (xw P σ) s.heap.size) (xw P σ) := hD0.self
  have hl := lv_entry as (n := nL) hn
  rw [lg_entry_eq]
  exact body p e s m _ below meth c _ ⟨B.exec, B.bytes, hml, hown, fun w hw => hts w (List.mem_cons_of_mem _ hw), hK, fun σ1 => xw_D hD σ1, fun q h => Or.inr h, B.returns, B.notSynchronized, hE⟩ s.heap [] _ hP va_S.rf hl

theorem X_iret {Post : Option Value → XS → Prop} {v : Int32} {mc ms : Nat} (C : XC p s m args meth c P A nL own cc (some .int)) (hc : cells ≤ mc) (hs : slots ≤ ms) (d : decode cc pc = .ok (.ireturn, 1)) (hp : Post (some (.int v)) σ) : XW p l e R s m args below meth c P A nL cells slots (MQ below (XQ P A Post) args s mc ms A) σ pc lv [.int v] := fun H locs ls hP hS _ => W.widen hc hs (W.iret C.1 C.2.1 C.hr (fun t ht _ => ⟨⟨_, σ, rfl, hp, by rw [ht]; exact hP⟩, hS.F ht⟩) hS.2.2 d C.hlk)
theorem X_zret {Post : Option Value → XS → Prop} {v : Int32} {mc ms : Nat} {ty : FieldType} (C : XC p s m args meth c P A nL own cc (some ty)) (hc : cells ≤ mc) (hs : slots ≤ ms) (hn : narrow ty (.int v) = .int v) (d : decode cc pc = .ok (.ireturn, 1)) (hp : Post (some (.int v)) σ) : XW p l e R s m args below meth c P A nL cells slots (MQ below (XQ P A Post) args s mc ms A) σ pc lv [.int v] := fun H locs ls hP hS _ => W.widen hc hs (W.zret C.1 C.2.1 C.hr hn (fun t ht _ => ⟨⟨_, σ, rfl, hp, by rw [ht]; exact hP⟩, hS.F ht⟩) hS.2.2 d C.hlk)
theorem X_lret {Post : Option Value → XS → Prop} {v : Int64} {mc ms : Nat} (C : XC p s m args meth c P A nL own cc (some .long)) (hc : cells ≤ mc) (hs : slots ≤ ms) (d : decode cc pc = .ok (.lreturn, 1)) (hp : Post (some (.long v)) σ) : XW p l e R s m args below meth c P A nL cells slots (MQ below (XQ P A Post) args s mc ms A) σ pc lv [.long v] := fun H locs ls hP hS _ => W.widen hc hs (W.lret C.1 C.2.1 C.hr (fun t ht _ => ⟨⟨_, σ, rfl, hp, by rw [ht]; exact hP⟩, hS.F ht⟩) hS.2.2 d C.hlk)
theorem X_vret {Post : Option Value → XS → Prop} {mc ms : Nat} (C : XC p s m args meth c P A nL own cc none) (hc : cells ≤ mc) (hs : slots ≤ ms) (d : decode cc pc = .ok (.return_, 1)) (hp : Post none σ) : XW p l e R s m args below meth c P A nL cells slots (MQ below (XQ P A Post) args s mc ms A) σ pc lv [] := fun H locs ls hP hS _ => W.widen hc hs (W.vret C.1 C.2.1 C.hr (fun t ht _ => ⟨⟨_, σ, rfl, hp, by rw [ht]; exact hP⟩, hS.F ht⟩) hS.2.2 d C.hlk)
theorem xGood {y : MethodName} {cy : ByteArray} {ny : Nat} {ry : Option FieldType} (hc : Cond.code y cy ny ry ∈ xTB) : GoodIn xTB (Cond.code y cy ny ry :: xTB) := fun w hw => by
  rcases List.mem_cons.mp hw with rfl | hw
  · exact ⟨hc, xTB_good _ hc⟩
  · exact ⟨hw, xTB_good _ hw⟩
theorem xBlind {as : List Value} {sz : Nat} : FrameBlind (va_Pc as (XPre P σ sz)) := fun a U g mk q => by
  obtain ⟨q0, q1, qP, qK, qD, qE⟩ := q
  exact ⟨q0, q1, qP, va_K.moved (u := U) (U := U.calling g mk a) (Vm.Alike.refl U.vm) qK, qD, xE.same (u := U) (U := U.calling g mk a) (H := U.heap) rfl qE⟩
theorem xw_free {H : Heap} {locs : List Loc} (hD : ∀ σ : XS, va_D A (xw P σ)) (hA : ∀ q : Nat, s.heap.size ≤ q → A q) (hS : va_S A s.heap H locs) : ∀ q : Nat, va_A (xw P σ) H.size q → A q := fun q h => by
  rcases h with ⟨k, e, h⟩ | h
  · exact (hD σ).2 k (q, e) h
  · exact hA q (Nat.le_trans hS.1 h)
theorem xPre_at {H : Heap} {locs : List Loc} {U : State} (C : XC p s m args meth c P A nL own cc ret) (hP : va_P P.1 vwCl (xw P σ) H) (hS : va_S A s.heap H locs) (hU : U.heap = H) (hW : s.WarmedH U.vm) : XPre P σ H.size U :=
  ⟨by rw [hU], by rw [hU]; exact hP, va_K.moved hW.alike C.hK, (C.hD σ).weaken (fun _ _ _ _ => trivial), by rw [hU]; exact ((C.hE.kept hS.2.1).narrow (xw_free C.hD C.hA hS)).warm hW⟩
theorem X_after {H : Heap} {locs : List Loc} {ls : Array Slot} {mc ms : Nat} {st0 st1 : List Value} {Post : Option Value → XS → Prop} {a : Array Value} (C : XC p s m args meth c P A nL own cc ret) (hS : va_S A s.heap H locs) (hl : lv_has ls nL lv)
    (hr : va_Run p l e R s m args below meth c H locs cells slots mc ms (F0 m pc ls st0) st1 (XQ P (va_A (xw P σ) H.size) Post a) (va_A (xw P σ) H.size))
    (k : ∀ (v : Option Value) (σ1 : XS), Post v σ1 → XW p l e R s m args below meth c P A nL (cells + mc) (slots + ms) Q σ1 (pc + 3) lv (v.toList ++ st1)) : W p l e R s m args below meth c H locs cells slots Q (F0 m pc ls st0) := by
  intro T hT X
  obtain ⟨v, st₀, t, T', L, h0, X', hL, e1, e2, ⟨⟨v1, σ1, hv, hp, hPt⟩, hz, hk⟩, stp⟩ := hr T hT X
  cases hv
  rw [h0] at hz hk
  have hF := xw_free (σ := σ) C.hD C.hA hS
  obtain ⟨t2, a1, b1⟩ := k v σ1 hp T'.heap (locs ++ L) ls (by rw [e1]; exact hPt)
    ⟨Nat.le_trans hS.1 (by rw [e1]; exact hz), fun q h1 h2 => by rw [e1, hk q (Nat.lt_of_lt_of_le h1 hS.1) (fun z => h2 (hF q z))]; exact hS.2.1 q h1 h2, fun q hq => by
      rcases List.mem_append.mp hq with h | h
      · exact hS.2.2 q h
      · exact hF _ (hL q h)⟩ hl T' rfl X'
  exact ⟨t2, stp t2 a1, b1⟩
/-- calls: a method of a cell's own class; a static one of the same class; a private one of a nest mate -/
theorem X_callV (C : XC p s m args meth c P A nL own cc ret) {y : MethodName} {cy : ByteArray} {ny : Nat} {ry : Option FieldType} {rm : Room} {i : XI} {ci : Nat} {tm : List (Option XI)} {q9 : vw_C} (As : List Value) {n index : Nat} {Post : Option Value → XS → Prop} (hM : XM l y cy ny ry rm P (.ref (P.2.2.1 i) :: As) σ Post) (hc : Cond.code y cy ny ry ∈ xTB) (hlk : Cond.methodLink own index y ∈ xTB) (hin : Cond.instanceMethod y ∈ xTB) (hse : Cond.selects y.cls y y ∈ xTB) (hini : Cond.initialized y.cls ∈ xTB) (hd : y.cls ≠ "java/lang/invoke/MethodHandle" ∧ y.cls ≠ "java/lang/invoke/VarHandle" ∧ (parseMethodDescriptor y.desc).map (fun d => d.parameters.length) = some n) (hR : rm.frames + 1 ≤ R.frames ∧ 8 + (ny + 11) + rm.locals ≤ R.locals) (hcl : cells + rm.cells ≤ R.cells ∧ slots + rm.slots ≤ R.slots)
    (hi : i ∈ P.2.2.2.1) (hs : xsh i = .inl (ci, tm)) (hci : vwCl[ci]? = some q9) (hq : q9.1 = y.cls) (hn : As.length = n) (hst : (st.map fun v => v.category).sum ≤ 8) {st0 : List Value} (h0 : st0 = As.reverse ++ .ref (P.2.2.1 i) :: st) (d : decode cc pc = .ok (.invokevirtual index, 3)) (k : ∀ (v : Option Value) (σ1 : XS), Post v σ1 → XW p l e R s m args below meth c P A nL (cells + rm.cells) (slots + rm.slots) Q σ1 (pc + 3) lv (v.toList ++ st)) : XW p l e R s m args below meth c P A nL cells slots Q σ pc lv st0 := by
  intro H locs ls hP hS hl
  subst h0
  obtain ⟨q, hqq⟩ := xw_get (σ := σ) hi
  rw [xce_o hs] at hqq
  have hrecv := va_recv C.hK hP hci hqq
  rw [hq] at hrecv
  exact X_after (σ := σ) C hS hl (va_runV (C := y.cls) (As := As) (rest := st) ⟨C.1, C.2.1, C.2.2.1, C.2.2.2.1, C.hts⟩ (hM H.size) ⟨callB_of n C.hts (xGood hc) rfl rfl rfl (C.hts _ hini) (C.hts _ hlk) hd hR, C.hts _ hin, C.hts _ hse⟩ ⟨xBlind, hrecv, fun U hU hW => ⟨rfl, xPre_at C hP hS hU hW⟩⟩ rfl hn hl.1 rfl (lv_room hst) d hcl) k
theorem X_callS (C : XC p s m args meth c P A nL own cc ret) {y : MethodName} {cy : ByteArray} {ny : Nat} {ry : Option FieldType} {rm : Room} (As : List Value) {n index : Nat} {Post : Option Value → XS → Prop} (hM : XM l y cy ny ry rm P As σ Post) (hc : Cond.code y cy ny ry ∈ xTB) (hlk : Cond.methodLink own index y ∈ xTB) (hin : Cond.static y ∈ xTB) (hini : Cond.initialized y.cls ∈ xTB) (hd : y.cls ≠ "java/lang/invoke/MethodHandle" ∧ y.cls ≠ "java/lang/invoke/VarHandle" ∧ (parseMethodDescriptor y.desc).map (fun d => d.parameters.length) = some n) (hR : rm.frames + 1 ≤ R.frames ∧ 8 + (ny + 11) + rm.locals ≤ R.locals) (hcl : cells + rm.cells ≤ R.cells ∧ slots + rm.slots ≤ R.slots)
    (hn : As.length = n) (hst : (st.map fun v => v.category).sum ≤ 8) {st0 : List Value} (h0 : st0 = As.reverse ++ st) (d : decode cc pc = .ok (.invokestatic index, 3)) (k : ∀ (v : Option Value) (σ1 : XS), Post v σ1 → XW p l e R s m args below meth c P A nL (cells + rm.cells) (slots + rm.slots) Q σ1 (pc + 3) lv (v.toList ++ st)) : XW p l e R s m args below meth c P A nL cells slots Q σ pc lv st0 := by
  intro H locs ls hP hS hl
  subst h0
  exact X_after (σ := σ) C hS hl (va_runS (As := As) (rest := st) ⟨C.1, C.2.1, C.2.2.1, C.2.2.2.1, C.hts⟩ (hM H.size) ⟨callB_of n C.hts (xGood hc) rfl rfl rfl (C.hts _ hini) (C.hts _ hlk) hd hR, C.hts _ hin⟩ ⟨xBlind, fun U hU hW => ⟨rfl, xPre_at C hP hS hU hW⟩⟩ rfl hn hl.1 rfl (lv_room hst) d hcl) k

theorem X_callSN (C : XC p s m args meth c P A nL own cc ret) {y : MethodName} {host : String} {cy : ByteArray} {ny : Nat} {ry : Option FieldType} {rm : Room} (As : List Value) {n index : Nat} {Post : Option Value → XS → Prop} (hM : XM l y cy ny ry rm P As σ Post) (hc : Cond.code y cy ny ry ∈ xTB) (hlk : va_Nw (.methodLinkNest own index y host) s) (hin : Cond.static y ∈ xTB) (hini : Cond.initialized y.cls ∈ xTB) (hd : y.cls ≠ "java/lang/invoke/MethodHandle" ∧ y.cls ≠ "java/lang/invoke/VarHandle" ∧ (parseMethodDescriptor y.desc).map (fun d => d.parameters.length) = some n) (hR : rm.frames + 1 ≤ R.frames ∧ 8 + (ny + 11) + rm.locals ≤ R.locals) (hcl : cells + rm.cells ≤ R.cells ∧ slots + rm.slots ≤ R.slots)
    (hn : As.length = n) (hst : (st.map fun v => v.category).sum ≤ 8) {st0 : List Value} (h0 : st0 = As.reverse ++ st) (d : decode cc pc = .ok (.invokestatic index, 3)) (k : ∀ (v : Option Value) (σ1 : XS), Post v σ1 → XW p l e R s m args below meth c P A nL (cells + rm.cells) (slots + rm.slots) Q σ1 (pc + 3) lv (v.toList ++ st)) : XW p l e R s m args below meth c P A nL cells slots Q σ pc lv st0 := by
  intro H locs ls hP hS hl
  subst h0
  exact X_after (σ := σ) C hS hl (va_runSN (As := As) (rest := st) ⟨C.1, C.2.1, C.2.2.1, C.2.2.2.1, C.hts⟩ (hM H.size) ⟨va_cnB n C.hts (xGood hc) rfl rfl rfl hlk (C.hts _ hini) hd hR, C.hts _ hin, trivial⟩ ⟨xBlind, fun U hU hW => ⟨rfl, xPre_at C hP hS hU hW⟩⟩ rfl hn hl.1 rfl (lv_room hst) d hcl) k
end XLAY

/-! THE LAW'S ENTRY: what the Statement gives of the start -/
def tmL : List (String × Nat) := [("CordBoard$Reader", 42), ("CordBoard$Reader", 67), ("CordBoard$Reader", 73), ("CordBoard$Reader", 102), ("CordBoard$Reader", 110), ("CordBoard$Reader", 115), ("CordBoard$Reader", 120), ("CordBoard$Reader", 135), ("CordBoard", 46), ("CordBoardLaw", 225), ("CordBoardLaw", 227), ("CordBoardLaw", 229), ("CordBoardLaw", 234), ("CordBoardLaw", 245), ("CordBoardLaw", 250), ("CordBoard", 87), ("CordBoard", 330), ("CordBoard", 333), ("CordBoard", 342), ("CordBoard", 337), ("CordBoard", 340), ("CordBoard", 151), ("CordBoard", 158), ("CordBoard", 164), ("CordBoard", 166), ("CordBoard", 172), ("CordBoard", 46), ("CordBoard", 46), ("CordBoard", 335)]
def tmC (q : Nat) : Term := Term.string (tmL.getD q ("", 0)).1 (tmL.getD q ("", 0)).2
/-- the premises, one by one -/
def lvs : List Cond := flatC (Jvm.Cond.and given_1 narrow_1)
def ixE : List Nat := [375, 384, 393, 401, 419, 426, 434, 409, 250, 783, 789, 795, 800, 810, 820, 534, 615, 671, 695, 589, 564, 723, 442, 474, 743, 504, 250, 250, 646]
def ixC : List Nat := [376, 385, 394, 402, 420, 427, 435, 410, 251, 784, 790, 796, 801, 811, 821]
def ixA : List Nat := [377, 386, 395, 403, 421, 428, 436, 411, 252, 785, 791, 797, 802, 812, 822]
def ixL : List Nat := [378, 387, 396, 404, 422, 429, 437, 412, 253, 786, 792, 798, 803, 813, 823]
abbrev tmV (q : Nat) : Term := .field (tmC q) "java/lang/String" "value" "[B"
set_option maxRecDepth 100000 in
theorem lv_ex : ∀ q, q < 29 → lvs[ixE.getD q 0]? = some (.exactly (tmC q) "java/lang/String") := by decide +kernel
set_option maxRecDepth 100000 in
theorem lv_co : ∀ q, q < 15 → lvs[ixC.getD q 0]? = some (.eq (.field (tmC q) "java/lang/String" "coder" "B") (.int 0)) := by decide +kernel
set_option maxRecDepth 100000 in
theorem lv_ar : ∀ q, q < 15 → lvs[ixA.getD q 0]? = some (.arrayOf (tmV q) .byte) := by decide +kernel
set_option maxRecDepth 100000 in
theorem lv_le : ∀ q, q < 15 → lvs[ixL.getD q 0]? = some (.eq (.length (tmV q)) (.int (Int32.ofNat (xLen.getD q 0)))) := by decide +kernel
set_option maxRecDepth 100000 in
theorem lv_el : ∀ q, q < 15 → ∀ j, j < xLen.getD q 0 → lvs[ixL.getD q 0 + 1 + j]? = some (.eq (.elem (tmV q) (.int (Int32.ofNat j))) (.int ((xByt.getD q []).getD j 0))) := by decide +kernel
set_option maxRecDepth 100000 in
theorem sep15 : ∀ i, i < 15 → ∀ j, j < 15 → (Int32.ofNat (xLen.getD i 0) = Int32.ofNat (xLen.getD j 0) ∧ (xByt.getD i []).getD 0 0 = (xByt.getD j []).getD 0 0 ∧ (xLen.getD i 0 ≤ 1 ∨ (xByt.getD i []).getD 1 0 = (xByt.getD j []).getD 1 0)) → i = j := by decide +kernel
theorem len15 : ∀ i, i < 15 → 0 < xLen.getD i 0 ∧ xLen.getD i 0 < 2 ^ 31 := by decide +kernel
section XP87
variable {s : State} {b : Nat}
theorem lv_use (hgv : (Jvm.Cond.and given_1 narrow_1).before #[Value.ref b] s = true) {i : Nat} {w : Cond} (h : lvs[i]? = some w) : w.before #[Value.ref b] s = true := flat_of_before _ hgv w (List.mem_of_getElem? h)
/-- one text -/
theorem tx_one (hgv : (Jvm.Cond.and given_1 narrow_1).before #[Value.ref b] s = true) {A : Nat → Prop} (hA : ∀ a : Nat, a < s.heap.size → ¬ A a) (q : Nat) (hq : q < 15) : ∃ a v : Nat, (tmC q).eval #[Value.ref b] s none [] s = some (.ref a) ∧ va_O "java/lang/String" a A s s.heap ∧ va_OF "java/lang/String" "coder" "B" (.int 0) a A s s.heap ∧ va_OF "java/lang/String" "value" "[B" (.ref v) a A s s.heap ∧ va_T .byte v (xLen.getD q 0) (fun j => .int ((xByt.getD q []).getD j 0)) A s s.heap := by
  obtain ⟨adK, adV, h1, h2⟩ := vk_Sof (N := 1) (tm := fun _ => tmC q) (len := [xLen.getD q 0]) (byt := [xByt.getD q []]) (A := A) (s := s) (args := #[Value.ref b]) (fun i hi => by
    obtain rfl : i = 0 := by omega
    exact (len15 q hq).2) (fun i hi => lv_use hgv (lv_ex q (by omega))) (fun i hi => lv_use hgv (lv_co q hq)) (fun i hi => lv_use hgv (lv_ar q hq)) (fun i hi => by
    obtain rfl : i = 0 := by omega
    exact lv_use hgv (lv_le q hq)) (fun i hi j hj => by
    obtain rfl : i = 0 := by omega
    exact lv_use hgv (lv_el q hq j hj)) (fun i j hi hj hij => absurd (show i = j by omega) hij) hA
  have h3 := h1.1 0 (by decide)
  exact ⟨adK 0, adV 0, h2 0 (by decide), h3.1, h3.2.1, h3.2.2.1, h3.2.2.2⟩
theorem ev_len {t u : Term} {args : Array Value} (h : t.eval args s none [] s = u.eval args s none [] s) : (Term.length t).eval args s none [] s = (Term.length u).eval args s none [] s := by
  simp only [Term.eval, h]
theorem ev_elem {t u k : Term} {args : Array Value} (h : t.eval args s none [] s = u.eval args s none [] s) : (Term.elem t k).eval args s none [] s = (Term.elem u k).eval args s none [] s := by
  simp only [Term.eval, h]
theorem int_in {x y : Int32} (h : (some (Value.int x) : Option Value) = some (.int y)) : x = y := by
  cases h
  rfl
/-- the texts -/
theorem tx_all (hgv : (Jvm.Cond.and given_1 narrow_1).before #[Value.ref b] s = true) {A : Nat → Prop} (hA : ∀ a : Nat, a < s.heap.size → ¬ A a) : ∃ adK adV : Nat → Nat, vk_S 15 xLen xByt adK adV A s s.heap ∧ ∀ q, q < 29 → (tmC q).eval #[Value.ref b] s none [] s = some (.ref (adK q)) := by
  have h0 : ∀ q : Nat, ∃ z : Nat × Nat, q < 29 → (tmC q).eval #[Value.ref b] s none [] s = some (.ref z.1) ∧ (q < 15 → va_O "java/lang/String" z.1 A s s.heap ∧ va_OF "java/lang/String" "coder" "B" (.int 0) z.1 A s s.heap ∧ va_OF "java/lang/String" "value" "[B" (.ref z.2) z.1 A s s.heap ∧ va_T .byte z.2 (xLen.getD q 0) (fun j => .int ((xByt.getD q []).getD j 0)) A s s.heap) := by
    intro q
    by_cases h9 : q < 15
    · obtain ⟨a, v, h1, h2⟩ := tx_one hgv hA q h9
      exact ⟨(a, v), fun _ => ⟨h1, fun _ => h2⟩⟩
    · by_cases h29 : q < 29
      · obtain ⟨a, c, cell, k, h1, -⟩ := Cond.exactly_spec (args := #[Value.ref b]) (first := s) (o := none) (s := s) (idx := []) (t := tmC q) (cls := "java/lang/String") (lv_use hgv (lv_ex q h29))
        exact ⟨(a, 0), fun _ => ⟨h1, fun z => absurd z h9⟩⟩
      · exact ⟨(0, 0), fun z => absurd z h29⟩
  obtain ⟨ad, had⟩ := Classical.axiomOfChoice h0
  refine ⟨fun i => (ad i).1, fun i => (ad i).2, ⟨fun i hi => (had i (by omega)).2 hi, fun i j hi hj e => ?_⟩, fun i hi => (had i hi).1⟩
  have e0 : (tmC i).eval #[Value.ref b] s none [] s = (tmC j).eval #[Value.ref b] s none [] s := by
    rw [(had i (by omega)).1, (had j (by omega)).1]
    exact congrArg (fun z => some (Value.ref z)) e
  have e1 : (tmV i).eval #[Value.ref b] s none [] s = (tmV j).eval #[Value.ref b] s none [] s := by
    rw [va_fe (had i (by omega)).1, va_fe (had j (by omega)).1]
    exact congrArg (fun z => s.fieldOf? z "java/lang/String" "value" "[B") e
  have l1 := va_eqt (lv_use hgv (lv_le i hi))
  have l2 := va_eqt (lv_use hgv (lv_le j hj))
  rw [ev_len e1, l2] at l1
  have k1 := va_eqt (lv_use hgv (lv_el i hi 0 (len15 i hi).1))
  have k2 := va_eqt (lv_use hgv (lv_el j hj 0 (len15 j hj).1))
  rw [ev_elem e1, k2] at k1
  have hl : xLen.getD i 0 = xLen.getD j 0 := by
    have := int_in l1
    exact (nI_eq (len15 i hi).2 (len15 j hj).2).mp this.symm
  refine sep15 i hi j hj ⟨(int_in l1).symm, (int_in k1).symm, ?_⟩
  by_cases h1 : xLen.getD i 0 ≤ 1
  · exact Or.inl h1
  refine Or.inr ?_
  replace h1 : 1 < xLen.getD i 0 := by omega
  have m1 := va_eqt (lv_use hgv (lv_el i hi 1 h1))
  have m2 := va_eqt (lv_use hgv (lv_el j hj 1 (by rw [← hl]; exact h1)))
  rw [ev_elem e1, m2] at m1
  exact (int_in m1).symm
theorem ev_eq {t u : Term} {args : Array Value} {a : Nat} (h : (Cond.eq t u).before args s = true) (ht : t.eval args s none [] s = some (.ref a)) : u.eval args s none [] s = some (.ref a) := by
  cases hu : u.eval args s none [] s with
  | none => simp [Cond.before, Cond.holds, Cond.value, ht, hu] at h
  | some w =>
    cases w with
    | ref c =>
      simp [Cond.before, Cond.holds, Cond.value, ht, hu] at h
      subst h
      rfl
    | _ => simp [Cond.before, Cond.holds, Cond.value, ht, hu] at h

set_option maxRecDepth 100000 in
set_option maxHeartbeats 4000000 in
theorem xR_of (hts : ∀ w ∈ lw_tbl, w.before #[Value.ref b] s = true) (hgv : (Jvm.Cond.and given_1 narrow_1).before #[Value.ref b] s = true) {P : XP} (h : ∀ q, q < 29 → (tmC q).eval #[Value.ref b] s none [] s = some (.ref (P.2.2.2.2.1 q))) : xR P s := by
  unfold xR
  exact List.forall_mem_cons.mpr ⟨vk_R.of (A := #[Value.ref b]) (hts _ (List.mem_of_getElem? (i := 344) (by decide +kernel))) (h 0 (by decide)), List.forall_mem_cons.mpr ⟨vk_R.of (A := #[Value.ref b]) (hts _ (List.mem_of_getElem? (i := 378) (by decide +kernel))) (h 1 (by decide)), List.forall_mem_cons.mpr ⟨vk_R.of (A := #[Value.ref b]) (hts _ (List.mem_of_getElem? (i := 387) (by decide +kernel))) (h 2 (by decide)), List.forall_mem_cons.mpr ⟨vk_R.of (A := #[Value.ref b]) (hts _ (List.mem_of_getElem? (i := 491) (by decide +kernel))) (h 3 (by decide)), List.forall_mem_cons.mpr ⟨vk_R.of (A := #[Value.ref b]) (hts _ (List.mem_of_getElem? (i := 559) (by decide +kernel))) (h 4 (by decide)), List.forall_mem_cons.mpr ⟨vk_R.of (A := #[Value.ref b]) (hts _ (List.mem_of_getElem? (i := 587) (by decide +kernel))) (h 5 (by decide)), List.forall_mem_cons.mpr ⟨vk_R.of (A := #[Value.ref b]) (hts _ (List.mem_of_getElem? (i := 594) (by decide +kernel))) (h 6 (by decide)), List.forall_mem_cons.mpr ⟨vk_R.of (A := #[Value.ref b]) (hts _ (List.mem_of_getElem? (i := 504) (by decide +kernel))) (h 7 (by decide)), List.forall_mem_cons.mpr ⟨vk_R.of (A := #[Value.ref b]) (hts _ (List.mem_of_getElem? (i := 252) (by decide +kernel))) (h 8 (by decide)), List.forall_mem_cons.mpr ⟨vk_R.of (A := #[Value.ref b]) (hts _ (List.mem_of_getElem? (i := 1332) (by decide +kernel))) (h 9 (by decide)), List.forall_mem_cons.mpr ⟨vk_R.of (A := #[Value.ref b]) (hts _ (List.mem_of_getElem? (i := 1333) (by decide +kernel))) (h 10 (by decide)), List.forall_mem_cons.mpr ⟨vk_R.of (A := #[Value.ref b]) (hts _ (List.mem_of_getElem? (i := 1334) (by decide +kernel))) (h 11 (by decide)), List.forall_mem_cons.mpr ⟨vk_R.of (A := #[Value.ref b]) (hts _ (List.mem_of_getElem? (i := 1335) (by decide +kernel))) (h 12 (by decide)), List.forall_mem_cons.mpr ⟨vk_R.of (A := #[Value.ref b]) (hts _ (List.mem_of_getElem? (i := 1336) (by decide +kernel))) (h 13 (by decide)), List.forall_mem_cons.mpr ⟨vk_R.of (A := #[Value.ref b]) (hts _ (List.mem_of_getElem? (i := 1337) (by decide +kernel))) (h 14 (by decide)), List.forall_mem_cons.mpr ⟨vk_R.of (A := #[Value.ref b]) (hts _ (List.mem_of_getElem? (i := 252) (by decide +kernel))) (h 8 (by decide)), List.forall_mem_cons.mpr ⟨vk_R.of (A := #[Value.ref b]) (hts _ (List.mem_of_getElem? (i := 252) (by decide +kernel))) (h 8 (by decide)), List.forall_mem_cons.mpr ⟨vk_R.of (A := #[Value.ref b]) (hts _ (List.mem_of_getElem? (i := 252) (by decide +kernel))) (h 8 (by decide)), List.forall_mem_cons.mpr ⟨vk_R.of (A := #[Value.ref b]) (hts _ (List.mem_of_getElem? (i := 744) (by decide +kernel))) (h 15 (by decide)), List.forall_mem_cons.mpr ⟨vk_R.of (A := #[Value.ref b]) (hts _ (List.mem_of_getElem? (i := 916) (by decide +kernel))) (h 16 (by decide)), List.forall_mem_cons.mpr ⟨vk_R.of (A := #[Value.ref b]) (hts _ (List.mem_of_getElem? (i := 1030) (by decide +kernel))) (h 17 (by decide)), List.forall_mem_cons.mpr ⟨vk_R.of (A := #[Value.ref b]) (hts _ (List.mem_of_getElem? (i := 1035) (by decide +kernel))) (h 18 (by decide)), List.forall_mem_cons.mpr ⟨vk_R.of (A := #[Value.ref b]) (hts _ (List.mem_of_getElem? (i := 868) (by decide +kernel))) (h 19 (by decide)), List.forall_mem_cons.mpr ⟨vk_R.of (A := #[Value.ref b]) (hts _ (List.mem_of_getElem? (i := 794) (by decide +kernel))) (h 20 (by decide)), List.forall_mem_cons.mpr ⟨vk_R.of (A := #[Value.ref b]) (hts _ (List.mem_of_getElem? (i := 1072) (by decide +kernel))) (h 21 (by decide)), List.forall_mem_cons.mpr ⟨vk_R.of (A := #[Value.ref b]) (hts _ (List.mem_of_getElem? (i := 679) (by decide +kernel))) (h 22 (by decide)), List.forall_mem_cons.mpr ⟨vk_R.of (A := #[Value.ref b]) (hts _ (List.mem_of_getElem? (i := 715) (by decide +kernel))) (h 23 (by decide)), List.forall_mem_cons.mpr ⟨vk_R.of (A := #[Value.ref b]) (hts _ (List.mem_of_getElem? (i := 1088) (by decide +kernel))) (h 24 (by decide)), List.forall_mem_cons.mpr ⟨vk_R.of (A := #[Value.ref b]) (hts _ (List.mem_of_getElem? (i := 729) (by decide +kernel))) (h 25 (by decide)), List.forall_mem_cons.mpr ⟨vk_R.of (A := #[Value.ref b]) (hts _ (List.mem_of_getElem? (i := 252) (by decide +kernel))) (h 8 (by decide)), List.forall_mem_cons.mpr ⟨vk_R.of (A := #[Value.ref b]) (hts _ (List.mem_of_getElem? (i := 252) (by decide +kernel))) (h 8 (by decide)), List.forall_mem_cons.mpr ⟨vk_R.of (A := #[Value.ref b]) (hts _ (List.mem_of_getElem? (i := 928) (by decide +kernel))) (h 28 (by decide)), fun _ h => absurd h List.not_mem_nil⟩⟩⟩⟩⟩⟩⟩⟩⟩⟩⟩⟩⟩⟩⟩⟩⟩⟩⟩⟩⟩⟩⟩⟩⟩⟩⟩⟩⟩⟩⟩⟩

theorem xN_of (hts : ∀ w ∈ lw_tbl, w.before #[Value.ref b] s = true) : xN s := ⟨va_Nw.of rfl (hts _ (List.mem_of_getElem? (i := 437) (by decide +kernel))), va_Nw.of rfl (hts _ (List.mem_of_getElem? (i := 423) (by decide +kernel))), va_Nw.of rfl (hts _ (List.mem_of_getElem? (i := 517) (by decide +kernel))), va_Nw.of rfl (hts _ (List.mem_of_getElem? (i := 546) (by decide +kernel)))⟩

theorem xN2_of (hts : ∀ w ∈ lw_tbl, w.before #[Value.ref b] s = true) : xN2 s := ⟨va_Nw.of rfl (hts _ (List.mem_of_getElem? (i := 43) (by decide +kernel))), va_Nw.of rfl (hts _ (List.mem_of_getElem? (i := 49) (by decide +kernel))), va_Nw.of rfl (hts _ (List.mem_of_getElem? (i := 87) (by decide +kernel))), va_Nw.of rfl (hts _ (List.mem_of_getElem? (i := 182) (by decide +kernel))), va_Nw.of rfl (hts _ (List.mem_of_getElem? (i := 188) (by decide +kernel))), va_Nw.of rfl (hts _ (List.mem_of_getElem? (i := 216) (by decide +kernel))), va_Nw.of rfl (hts _ (List.mem_of_getElem? (i := 240) (by decide +kernel))), va_AO.of (A := #[Value.ref b]) (hts _ (List.mem_of_getElem? (i := 239) (by decide +kernel)))⟩

theorem xXw_of (hts : ∀ w ∈ lw_tbl, w.before #[Value.ref b] s = true) : ∀ w ∈ xXw, va_Nw w s := List.forall_mem_cons.mpr ⟨va_Nw.of rfl (hts _ (List.mem_of_getElem? (i := 642) (by decide +kernel))), List.forall_mem_cons.mpr ⟨va_Nw.of rfl (hts _ (List.mem_of_getElem? (i := 644) (by decide +kernel))), List.forall_mem_cons.mpr ⟨va_Nw.of rfl (hts _ (List.mem_of_getElem? (i := 646) (by decide +kernel))), List.forall_mem_cons.mpr ⟨va_Nw.of rfl (hts _ (List.mem_of_getElem? (i := 787) (by decide +kernel))), List.forall_mem_cons.mpr ⟨va_Nw.of rfl (hts _ (List.mem_of_getElem? (i := 640) (by decide +kernel))), List.forall_mem_cons.mpr ⟨va_Nw.of rfl (hts _ (List.mem_of_getElem? (i := 708) (by decide +kernel))), List.forall_mem_cons.mpr ⟨va_Nw.of rfl (hts _ (List.mem_of_getElem? (i := 1151) (by decide +kernel))), fun _ h => absurd h List.not_mem_nil⟩⟩⟩⟩⟩⟩⟩

theorem xXn_of (hgv : (Jvm.Cond.and given_1 narrow_1).before #[Value.ref b] s = true) : ∀ q ∈ xXn, va_Nc q.1 q.2 s := List.forall_mem_cons.mpr ⟨va_Nc.of (args := #[Value.ref b]) (lv_use hgv (i := 248) (by decide +kernel)), List.forall_mem_cons.mpr ⟨va_Nc.of (args := #[Value.ref b]) (lv_use hgv (i := 249) (by decide +kernel)), List.forall_mem_cons.mpr ⟨va_Nc.of (args := #[Value.ref b]) (lv_use hgv (i := 227) (by decide +kernel)), fun _ h => absurd h List.not_mem_nil⟩⟩⟩

theorem xX_of (hts : ∀ w ∈ lw_tbl, w.before #[Value.ref b] s = true) (hgv : (Jvm.Cond.and given_1 narrow_1).before #[Value.ref b] s = true) {A : Nat → Prop} (hA : ∀ a : Nat, a < s.heap.size → ¬ A a) : xX A s s.heap := ⟨vx_Zqof (args := #[Value.ref b]) (hts _ (List.mem_of_getElem? (i := 665) (by decide +kernel))) (hts _ (List.mem_of_getElem? (i := 27) (by decide +kernel))) (lv_use hgv (i := 9) (by decide +kernel)) hA, vx_Zqof (args := #[Value.ref b]) (hts _ (List.mem_of_getElem? (i := 667) (by decide +kernel))) (hts _ (List.mem_of_getElem? (i := 27) (by decide +kernel))) (lv_use hgv (i := 10) (by decide +kernel)) hA, xXw_of hts, xXn_of hgv⟩

set_option maxRecDepth 100000 in
theorem lv_d1 : ∀ j, j < 100 → lvs[14 + j]? = some (.eq (.elem (.static "java/lang/Integer" "DigitOnes" "[B") (.int (Int32.ofNat j))) (.int (nI (48 + j % 10)))) := by decide +kernel
set_option maxRecDepth 100000 in
theorem lv_d2 : ∀ j, j < 100 → lvs[117 + j]? = some (.eq (.elem (.static "java/lang/Integer" "DigitTens" "[B") (.int (Int32.ofNat j))) (.int (nI (48 + j / 10)))) := by decide +kernel

theorem xE_of (hts : ∀ w ∈ lw_tbl, w.before #[Value.ref b] s = true) (hgv : (Jvm.Cond.and given_1 narrow_1).before #[Value.ref b] s = true) {A : Nat → Prop} (hA : ∀ a : Nat, a < s.heap.size → ¬ A a) {P : XP} (h1 : vk_S 15 xLen xByt P.2.2.2.2.1 P.2.2.2.2.2.1 A s s.heap) (h : ∀ q, q < 29 → (tmC q).eval #[Value.ref b] s none [] s = some (.ref (P.2.2.2.2.1 q))) : xE P A s s.heap := by
  obtain ⟨g1, e1, t1⟩ := va_Tof (args := #[Value.ref b]) (tm := .static "java/lang/Integer" "DigitOnes" "[B") (ty := .byte) (N := 100) (f := xDig1) (by decide) (lv_use hgv (i := 12) (by decide +kernel)) (va_eqt (lv_use hgv (i := 13) (by decide +kernel))) (fun j hj => va_eqt (lv_use hgv (lv_d1 j hj))) hA
  obtain ⟨g2, e2, t2⟩ := va_Tof (args := #[Value.ref b]) (tm := .static "java/lang/Integer" "DigitTens" "[B") (ty := .byte) (N := 100) (f := xDig2) (by decide) (lv_use hgv (i := 115) (by decide +kernel)) (va_eqt (lv_use hgv (i := 116) (by decide +kernel))) (fun j hj => va_eqt (lv_use hgv (lv_d2 j hj))) hA
  exact ⟨xN_of hts, ⟨h1, va_Zof (args := #[Value.ref b]) (hts _ (List.mem_of_getElem? (i := 266) (by decide +kernel))) (hts _ (List.mem_of_getElem? (i := 16) (by decide +kernel))) (va_eqt (lv_use hgv (i := 4) (by decide +kernel))) hA, va_Zqof (args := #[Value.ref b]) (hts _ (List.mem_of_getElem? (i := 282) (by decide +kernel))) (hts _ (List.mem_of_getElem? (i := 18) (by decide +kernel))) (lv_use hgv (i := 5) (by decide +kernel)) hA, va_AO.of (A := #[Value.ref b]) (hts _ (List.mem_of_getElem? (i := 1331) (by decide +kernel))), (g1, g2), ⟨va_Zof (args := #[Value.ref b]) (hts _ (List.mem_of_getElem? (i := 1249) (by decide +kernel))) (hts _ (List.mem_of_getElem? (i := 20) (by decide +kernel))) e1 hA, t1⟩, va_Zof (args := #[Value.ref b]) (hts _ (List.mem_of_getElem? (i := 1251) (by decide +kernel))) (hts _ (List.mem_of_getElem? (i := 20) (by decide +kernel))) e2 hA, t2⟩, xR_of hts hgv h, xX_of hts hgv hA⟩

theorem arr_of {ty : FieldType} {args : Array Value} (h : (Cond.arrayClass ty).before args s = true) : ∃ cA : ClassId, ArrOfT s cA ty ∧ s.vm.findClass ("[" ++ ty.toString) = some cA := by
  obtain ⟨cA, k, comp, h1, h2, h3⟩ := Cond.arrayClass_spec (args := args) (first := s) (o := none) (s := s) (idx := []) h
  exact ⟨cA, fun n z => ⟨(fun k h => by cases h), k, h2, comp, h3⟩, h1⟩
theorem arrq_of {C : String} {args : Array Value} (h : (Cond.arrayOver (.object C)).before args s = true) : ∃ cA : ClassId, ArrOfT s cA (.object C) ∧ va_RA s cA (.object C) := by
  obtain ⟨comp, cA, k, h1, -, h3, h4, h5⟩ := Cond.arrayOver_spec (args := args) (first := s) (o := none) (s := s) (idx := []) h
  exact ⟨cA, fun n z => ⟨(fun k h => by cases h), k, h3, comp, h4⟩, k, comp, h3, h4, h1, h5⟩
theorem xK_of (hts : ∀ w ∈ lw_tbl, w.before #[Value.ref b] s = true) (hx : ∀ w ∈ xTB, w.before #[Value.ref b] s = true) : ∃ (dC : Nat → ClassId) (dI : Nat → Nat → Nat) (aC : Nat → ClassId), va_K (dC, dI) vwCl [(aC 0, .int), (aC 1, .boolean), (aC 2, .long), (aC 3, .object "CordBoard$Board"), (aC 4, .byte), (aC 5, .object "java/lang/String")] s := by

  obtain ⟨c0, i0, k0⟩ := u_known hx inX0 (hx _ m_x_X0)
  obtain ⟨c1, i1, k1⟩ := u_known hx inX1 (hx _ m_x_X1)
  obtain ⟨c2, i2, k2⟩ := u_known hx inX2 (hx _ m_x_X2)
  obtain ⟨c3, i3, k3⟩ := u_known hx inX3 (hx _ m_x_X3)
  obtain ⟨c4, i4, k4⟩ := u_known hx inX4 (hx _ m_x_X4)
  obtain ⟨c5, i5, k5⟩ := u_known hx inX5 (hx _ m_x_X5)
  obtain ⟨c6, i6, k6⟩ := u_known hx inX6 (hx _ m_x_X6)
  obtain ⟨c7, i7, k7⟩ := u_known hx inJ4 (hx _ m_x_J4)
  obtain ⟨c8, i8, k8⟩ := u_known hx inJ0 (hx _ m_x_J0)
  obtain ⟨a0, p0, q0⟩ := arr_of (hx _ m_a_int)
  obtain ⟨a1, p1, q1⟩ := arr_of (hx _ m_a_boolean)
  obtain ⟨a2, p2, q2⟩ := arr_of (hx _ m_a_long)
  obtain ⟨a3, p3, q3⟩ := arrq_of (C := "CordBoard$Board") (hts _ (List.mem_of_getElem? (i := 239) (by decide +kernel)))
  obtain ⟨a4, p4, q4⟩ := arr_of (hx _ m_a_byte)
  obtain ⟨a5, p5, q5⟩ := arrq_of (C := "java/lang/String") (hts _ (List.mem_of_getElem? (i := 1331) (by decide +kernel)))
  refine ⟨fun k => match k with | 0 => c0 | 1 => c1 | 2 => c2 | 3 => c3 | 4 => c4 | 5 => c5 | 6 => c6 | 7 => c7 | _ => c8, fun k => match k with | 0 => i0 | 1 => i1 | 2 => i2 | 3 => i3 | 4 => i4 | 5 => i5 | 6 => i6 | 7 => i7 | _ => i8, fun k => match k with | 0 => a0 | 1 => a1 | 2 => a2 | 3 => a3 | 4 => a4 | _ => a5, fun k q hq => ?_, fun k q hq => ?_⟩
  · match k, hq with
    | 0, hq => cases hq; exact k0
    | 1, hq => cases hq; exact k1
    | 2, hq => cases hq; exact k2
    | 3, hq => cases hq; exact k3
    | 4, hq => cases hq; exact k4
    | 5, hq => cases hq; exact k5
    | 6, hq => cases hq; exact k6
    | 7, hq => cases hq; exact k7
    | 8, hq => cases hq; exact k8
    | k + 9, hq => simp [vwCl] at hq
  · match k, hq with
    | 0, hq => cases hq; exact ⟨p0, q0⟩
    | 1, hq => cases hq; exact ⟨p1, q1⟩
    | 2, hq => cases hq; exact ⟨p2, q2⟩
    | 3, hq => cases hq; exact ⟨p3, q3⟩
    | 4, hq => cases hq; exact ⟨p4, q4⟩
    | 5, hq => cases hq; exact ⟨p5, q5⟩
    | k + 6, hq => simp at hq
theorem hts2 (hts : ∀ w ∈ lw_tbl, w.before #[Value.ref b] s = true) : ∀ w ∈ lw_tb2, w.before #[Value.ref b] s = true := fun w hw => by
  unfold lw_tb2 at hw
  rcases List.mem_append.mp hw with h | h
  · exact hts w h
  · simp only [List.mem_cons, List.not_mem_nil, or_false] at h
    have z := hts (Cond.selects RJ4 yJ5_isLatin1_aae02 yJ5_isLatin1_aae02) (List.mem_of_getElem? (i := 1158) (by decide +kernel))
    rcases h with rfl | rfl | rfl | rfl | rfl
    · exact sel_asb z rfl (hts _ (List.mem_of_getElem? (i := 1124) (by decide +kernel))) (hts _ (List.mem_of_getElem? (i := 1125) (by decide +kernel))) ⟨by decide +kernel, by decide +kernel⟩
    · exact sel_asb z rfl (hts _ (List.mem_of_getElem? (i := 1128) (by decide +kernel))) (hts _ (List.mem_of_getElem? (i := 1129) (by decide +kernel))) ⟨by decide +kernel, by decide +kernel⟩
    · exact sel_asb z rfl (hts _ (List.mem_of_getElem? (i := 1132) (by decide +kernel))) (hts _ (List.mem_of_getElem? (i := 1133) (by decide +kernel))) ⟨by decide +kernel, by decide +kernel⟩
    · exact sel_asb z rfl (hts _ (List.mem_of_getElem? (i := 1177) (by decide +kernel))) (hts _ (List.mem_of_getElem? (i := 1178) (by decide +kernel))) ⟨by decide +kernel, by decide +kernel⟩
    · exact sel_asb z rfl (hts _ (List.mem_of_getElem? (i := 1181) (by decide +kernel))) (hts _ (List.mem_of_getElem? (i := 1182) (by decide +kernel))) ⟨by decide +kernel, by decide +kernel⟩
end XP87

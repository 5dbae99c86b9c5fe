/-! BITS (the first family begins with rows of kit/laws/BITS) -/
def bt (x : Int32) (i : Nat) : Bool := x.toBitVec.getLsbD i
theorem b_ext {x y : Int32} (h : ∀ i, i < 32 → bt x i = bt y i) : x = y := Int32.toBitVec_inj.mp (BitVec.eq_of_getLsbD_eq (fun i hi => h i hi))
theorem b_or (x y : Int32) (i : Nat) : bt (x ||| y) i = (bt x i || bt y i) := by unfold bt; rw [Int32.toBitVec_or, BitVec.getLsbD_or]
theorem b_and (x y : Int32) (i : Nat) : bt (x &&& y) i = (bt x i && bt y i) := by unfold bt; rw [Int32.toBitVec_and, BitVec.getLsbD_and]
theorem b_xor (x y : Int32) (i : Nat) : bt (x ^^^ y) i = (bt x i ^^ bt y i) := by unfold bt; rw [Int32.toBitVec_xor, BitVec.getLsbD_xor]
theorem b_m1 : ∀ i, i < 32 → bt (-1) i = true := by decide +kernel
theorem b_0 (i : Nat) : bt 0 i = false := BitVec.getLsbD_zero
theorem s_l : ∀ n, n < 32 → ((nI n &&& 31).toBitVec.smod 32).toNat = n := by decide +kernel
theorem b_sshr (n : Nat) (hn : n < 32) (x : Int32) {i : Nat} (hi : i < 32) : bt (x >>> (nI n &&& 31)) i = if n + i < 32 then bt x (n + i) else bt x 31 := by
  unfold bt
  rw [Int32.toBitVec_shiftRight]
  show (x.toBitVec.sshiftRight ((nI n &&& 31).toBitVec.smod 32).toNat).getLsbD i = _
  rw [s_l n hn, BitVec.getLsbD_sshiftRight, BitVec.msb_eq_getLsbD_last]
  simp [hi]
theorem zb_1 : ∀ i, i < 32 → bt 1 i = decide (i = 0) := by decide +kernel
theorem zb_shl : ∀ n, n < 32 → ∀ i, i < 32 → bt ((1 : Int32) <<< (nI n &&& 31)) i = decide (n = i) := by decide +kernel
theorem zb_and0 {x y : Int32} : x &&& y = 0 ↔ ∀ i, i < 32 → bt x i = true → ¬ bt y i = true := by
  constructor
  · intro h i hi h1 h2
    have h3 : bt (x &&& y) i = false := by rw [h, b_0]
    rw [b_and, h1, h2] at h3
    exact absurd h3 (by decide)
  · intro h
    refine b_ext (fun i hi => ?_)
    rw [b_and, b_0]
    cases h1 : bt x i with
    | false => rfl
    | true =>
      cases h2 : bt y i with
      | false => rfl
      | true => exact absurd h2 (h i hi h1)
theorem zb_tst {x : Int32} {n : Nat} (hn : n < 32) : x &&& (1 : Int32) <<< (nI n &&& 31) = 0 ↔ ¬ bt x n = true := by
  rw [zb_and0]
  constructor
  · intro h q
    exact h n hn q (by rw [zb_shl n hn n hn]; simp)
  · intro h i hi h1 h2
    rw [zb_shl n hn i hi] at h2
    have e : n = i := of_decide_eq_true h2
    exact h (e ▸ h1)
theorem zb_shr {e : Int32} {k : Nat} (hk : k < 32) : e >>> (nI k &&& 31) &&& 1 = 1 ↔ bt e k = true := by
  have h0 : bt (e >>> (nI k &&& 31)) 0 = bt e k := by rw [b_sshr k hk e (by decide), if_pos (by omega), Nat.add_zero]
  constructor
  · intro h
    have h1 : bt (e >>> (nI k &&& 31) &&& 1) 0 = true := by rw [h]; decide +kernel
    rw [b_and, h0, Bool.and_eq_true] at h1
    exact h1.1
  · intro h
    refine b_ext (fun i hi => ?_)
    rw [b_and, zb_1 i hi]
    by_cases g : i = 0
    · subst g; rw [h0, h]; rfl
    · simp [g]
theorem zb_shr0 {e : Int32} {k : Nat} (hk : k < 32) : e >>> (nI k &&& 31) &&& 1 = if bt e k = true then 1 else 0 := by
  by_cases h : bt e k = true
  · rw [if_pos h]; exact (zb_shr hk).mpr h
  · rw [if_neg h]
    have h0 : bt (e >>> (nI k &&& 31)) 0 = bt e k := by rw [b_sshr k hk e (by decide), if_pos (by omega), Nat.add_zero]
    refine b_ext (fun i hi => ?_)
    rw [b_and, zb_1 i hi, b_0]
    by_cases g : i = 0
    · subst g; rw [h0]; simp [h]
    · simp [g]
theorem zb_eq {x y : Int32} (h : ∀ i, i < 32 → (bt x i = true ↔ bt y i = true)) : x = y := b_ext (fun i hi => Bool.eq_iff_iff.mpr (h i hi))
theorem zb_orT {x y : Int32} {i : Nat} : bt (x ||| y) i = true ↔ bt x i = true ∨ bt y i = true := by rw [b_or, Bool.or_eq_true]
theorem zb_andT {x y : Int32} {i : Nat} : bt (x &&& y) i = true ↔ bt x i = true ∧ bt y i = true := by rw [b_and, Bool.and_eq_true]
theorem zb_not {x : Int32} {i : Nat} (hi : i < 32) : bt (x ^^^ (-1)) i = true ↔ ¬ bt x i = true := by
  rw [b_xor, b_m1 i hi]
  cases bt x i <;> simp
theorem zb_0 {i : Nat} : ¬ bt 0 i = true := by rw [b_0]; decide
theorem zb_bit {n i : Nat} (hn : n < 32) (hi : i < 32) : bt (xbit (nI n)) i = true ↔ n = i := by
  unfold xbit
  rw [if_pos (nI_pos' (n31 (by omega))), zb_shl n hn i hi, decide_eq_true_iff]
theorem zb_bitT {x : Int32} {n : Nat} (hn : n < 32) : x &&& xbit (nI n) = 0 ↔ ¬ bt x n = true := by
  unfold xbit
  rw [if_pos (nI_pos' (n31 (by omega))), zb_tst hn]
theorem zb_bitM : xbit (-1) = 0 := by decide +kernel
theorem zb_tbM : xtb (-1) = 0 := by decide +kernel
theorem zb_tb : ∀ t, t < 4 → ∀ i, i < 32 → bt (xtb (nI t)) i = decide (6 + t = i) := by decide +kernel
theorem zb_tbE : ∀ t, t < 4 → xtb (nI t) = (1 : Int32) <<< (nI (6 + t) &&& 31) := by decide +kernel
/-! sets and counts -/
theorem zb_set {q : Nat → Prop} : ∀ {n : Nat}, n ≤ 32 → ∀ {i : Nat}, i < 32 → (bt (cSet q n) i = true ↔ i < n ∧ q i)
  | 0, _, i, _ => ⟨fun h => absurd h zb_0, fun h => absurd h.1 (Nat.not_lt_zero _)⟩
  | n + 1, hn, i, hi => by
    have ih := zb_set (q := q) (n := n) (by omega) hi
    by_cases g : q n
    · rw [cSet_y g, zb_orT, ih, zb_shl n (by omega) i hi, decide_eq_true_iff]
      constructor
      · rintro (h | h)
        · exact ⟨by omega, h.2⟩
        · exact ⟨by omega, h ▸ g⟩
      · rintro ⟨h1, h2⟩
        by_cases e : n = i
        · exact Or.inr e
        · exact Or.inl ⟨by omega, h2⟩
    · rw [cSet_n g, ih]
      constructor
      · rintro ⟨h1, h2⟩; exact ⟨by omega, h2⟩
      · rintro ⟨h1, h2⟩
        by_cases e : n = i
        · exact absurd (e ▸ h2) g
        · exact ⟨by omega, h2⟩
theorem zc_pos {q : Nat → Prop} : ∀ {n : Nat}, 0 < cCnt q n ↔ ∃ c, c < n ∧ q c
  | 0 => ⟨fun h => absurd h (Nat.lt_irrefl _), fun ⟨_, h, _⟩ => absurd h (Nat.not_lt_zero _)⟩
  | n + 1 => by
    have ih := zc_pos (q := q) (n := n)
    by_cases g : q n
    · rw [cCnt_y g]
      exact ⟨fun _ => ⟨n, by omega, g⟩, fun _ => by omega⟩
    · rw [cCnt_n g, ih]
      constructor
      · rintro ⟨c, h1, h2⟩; exact ⟨c, by omega, h2⟩
      · rintro ⟨c, h1, h2⟩
        by_cases e : c = n
        · exact absurd (e ▸ h2) g
        · exact ⟨c, by omega, h2⟩
theorem zc_mono {p q : Nat → Prop} : ∀ {n : Nat}, (∀ c, c < n → p c → q c) → cCnt p n ≤ cCnt q n
  | 0, _ => Nat.le_refl _
  | n + 1, h => by
    have ih := zc_mono (p := p) (q := q) (n := n) (fun c hc => h c (by omega))
    by_cases g : p n
    · rw [cCnt_y g, cCnt_y (h n (by omega) g)]; omega
    · rw [cCnt_n g]
      by_cases g2 : q n
      · rw [cCnt_y g2]; omega
      · rw [cCnt_n g2]; exact ih
theorem zc_cg {p q : Nat → Prop} {n : Nat} (h : ∀ c, c < n → (p c ↔ q c)) : cCnt p n = cCnt q n := Nat.le_antisymm (zc_mono (fun c hc => (h c hc).mp)) (zc_mono (fun c hc => (h c hc).mpr))
theorem zc_one {p q : Nat → Prop} {j : Nat} : ∀ {n : Nat}, (∀ c, c < n → ¬ c = j → p c → q c) → cCnt p n ≤ cCnt q n + 1
  | 0, _ => Nat.zero_le _
  | n + 1, h => by
    by_cases e : n = j
    · have ih := zc_mono (p := p) (q := q) (n := n) (fun c hc => h c (by omega) (by omega))
      have h1 : cCnt p (n + 1) ≤ cCnt p n + 1 := by
        by_cases g : p n
        · rw [cCnt_y g]; omega
        · rw [cCnt_n g]; omega
      have h2 : cCnt q n ≤ cCnt q (n + 1) := by
        by_cases g : q n
        · rw [cCnt_y g]; omega
        · rw [cCnt_n g]; omega
      omega
    · have ih := zc_one (p := p) (q := q) (j := j) (n := n) (fun c hc => h c (by omega))
      by_cases g : p n
      · rw [cCnt_y g, cCnt_y (h n (by omega) e g)]; omega
      · rw [cCnt_n g]
        by_cases g2 : q n
        · rw [cCnt_y g2]; omega
        · rw [cCnt_n g2]; exact ih
theorem zc_count {f : Nat → Int32} {v : Int32} : ∀ {n : Nat}, cCount f v n = cCnt (fun c => f c = v) n
  | 0 => rfl
  | n + 1 => by
    unfold cCount
    by_cases g : f n = v
    · rw [if_pos g, cCnt_y (q := fun c => f c = v) g, zc_count]
    · rw [if_neg g, cCnt_n (q := fun c => f c = v) g, zc_count]
theorem zc_countc {f g : Nat → Int32} {v : Int32} {n : Nat} (h : ∀ c, c < n → f c = g c) : cCount f v n = cCount g v n := by
  rw [zc_count, zc_count]
  exact zc_cg (fun c hc => by rw [h c hc])
theorem zc_sum {f g : Nat → Int32} : ∀ {n : Nat}, (∀ c, c < n → f c = g c) → cSum f n = cSum g n
  | 0, _ => rfl
  | n + 1, h => by rw [cSum, cSum, zc_sum (n := n) (fun c hc => h c (by omega)), h n (by omega)]
theorem zc_first {p q : Nat → Bool} : ∀ {k i : Nat}, (∀ c, i ≤ c → c < i + k → p c = q c) → cFirst p k i = cFirst q k i
  | 0, _, _ => rfl
  | k + 1, i, h => by
    unfold cFirst
    rw [h i (by omega) (by omega), zc_first (k := k) (i := i + 1) (fun c h1 h2 => h c (by omega) (by omega))]
theorem zc_busy {st us : Nat → Int32} {i : Nat} : ∀ {n : Nat}, (bt (cBusy st us n) i = true ↔ ∃ c, c < n ∧ st c = 1 ∧ bt (us c) i = true)
  | 0 => ⟨fun h => absurd h zb_0, fun ⟨_, h, _⟩ => absurd h (Nat.not_lt_zero _)⟩
  | n + 1 => by
    have ih := zc_busy (st := st) (us := us) (i := i) (n := n)
    unfold cBusy
    by_cases g : st n = 1
    · rw [if_pos g, zb_orT, ih]
      constructor
      · rintro (⟨c, h1, h2⟩ | h)
        · exact ⟨c, by omega, h2⟩
        · exact ⟨n, by omega, g, h⟩
      · rintro ⟨c, h1, h2⟩
        by_cases e : c = n
        · exact Or.inr (e ▸ h2.2)
        · exact Or.inl ⟨c, by omega, h2⟩
    · rw [if_neg g, ih]
      constructor
      · rintro ⟨c, h1, h2⟩; exact ⟨c, by omega, h2⟩
      · rintro ⟨c, h1, h2⟩
        by_cases e : c = n
        · exact absurd (e ▸ h2.1) g
        · exact ⟨c, by omega, h2⟩
theorem zc_told {se : Nat → Int32} {ta : Int32} {i : Nat} : ∀ {n : Nat}, n ≤ 32 → (bt (cTold se ta n) i = true ↔ ∃ k, k < n ∧ bt ta k = true ∧ bt (se k) i = true)
  | 0, _ => ⟨fun h => absurd h zb_0, fun ⟨_, h, _⟩ => absurd h (Nat.not_lt_zero _)⟩
  | n + 1, hn => by
    have ih := zc_told (se := se) (ta := ta) (i := i) (n := n) (by omega)
    unfold cTold
    by_cases g : bt ta n = true
    · rw [if_pos (fun q => (zb_bitT (by omega)).mp q g), zb_orT, ih]
      constructor
      · rintro (⟨c, h1, h2⟩ | h)
        · exact ⟨c, by omega, h2⟩
        · exact ⟨n, by omega, g, h⟩
      · rintro ⟨c, h1, h2⟩
        by_cases e : c = n
        · exact Or.inr (e ▸ h2.2)
        · exact Or.inl ⟨c, by omega, h2⟩
    · rw [if_neg (fun q => q ((zb_bitT (by omega)).mpr g)), ih]
      constructor
      · rintro ⟨c, h1, h2⟩; exact ⟨c, by omega, h2⟩
      · rintro ⟨c, h1, h2⟩
        by_cases e : c = n
        · exact absurd (e ▸ h2.1) g
        · exact ⟨c, by omega, h2⟩
theorem zc_ears {li cu : Nat → Int32} {us : Int32} {i : Nat} (hi : i < 32) : ∀ {n : Nat}, n ≤ 32 → (bt (cEars li cu us n) i = true ↔ i < n ∧ ¬ us &&& xbit (li i) = 0 ∧ ¬ cu i < 5)
  | 0, _ => ⟨fun h => absurd h zb_0, fun h => absurd h.1 (Nat.not_lt_zero _)⟩
  | n + 1, hn => by
    have ih := zc_ears (li := li) (cu := cu) (us := us) hi (n := n) (by omega)
    unfold cEars
    by_cases g : ¬ us &&& xbit (li n) = 0 ∧ ¬ cu n < 5
    · rw [if_pos g, zb_orT, ih, zb_bit (by omega) hi]
      constructor
      · rintro (h | h)
        · exact ⟨by omega, h.2⟩
        · exact ⟨by omega, h ▸ g⟩
      · rintro ⟨h1, h2⟩
        by_cases e : n = i
        · exact Or.inr e
        · exact Or.inl ⟨by omega, h2⟩
    · rw [if_neg g, ih]
      constructor
      · rintro ⟨h1, h2⟩; exact ⟨by omega, h2⟩
      · rintro ⟨h1, h2⟩
        by_cases e : n = i
        · exact absurd (e ▸ h2) g
        · exact ⟨by omega, h2⟩
theorem zc_cords {st cn : Nat → Int32} : ∀ {n : Nat}, cCords st cn n = cCnt (fun c => st c = 1 ∧ ¬ cn c = 0) n
  | 0 => rfl
  | n + 1 => by
    unfold cCords
    by_cases g : st n = 1 ∧ ¬ cn n = 0
    · rw [if_pos g, cCnt_y (q := fun c => st c = 1 ∧ ¬ cn c = 0) g, zc_cords]
    · rw [if_neg g, cCnt_n (q := fun c => st c = 1 ∧ ¬ cn c = 0) g, zc_cords]
theorem zc_know {se : Nat → Int32} {x : Int32} : ∀ {n : Nat}, cKnow se x n = cCnt (fun c => ¬ se c &&& x = 0) n
  | 0 => rfl
  | n + 1 => by
    unfold cKnow
    by_cases g : ¬ se n &&& x = 0
    · rw [if_pos g, cCnt_y (q := fun c => ¬ se c &&& x = 0) g, zc_know]
    · rw [if_neg g, cCnt_n (q := fun c => ¬ se c &&& x = 0) g, zc_know]
/-! how many bits -/
theorem zp_1 : ∀ a, a < 6 → ∀ b, b < 6 → (xbc ((1 : Int32) <<< (nI a &&& 31) ||| (1 : Int32) <<< (nI b &&& 31) ||| 0) ≤ 1 ↔ a = b) := by decide +kernel
theorem zp_2 : ∀ a, a < 6 → ∀ t, t < 4 → ¬ xbc ((1 : Int32) <<< (nI a &&& 31) ||| 0 ||| xtb (nI t)) ≤ 1 := by decide +kernel

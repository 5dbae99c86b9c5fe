/-! NAMES: six letters in one number (begins with rows of kit/laws/BITS and COUNTS) -/
theorem nx_and (a b : Nat) : nI a &&& nI b = nI (a &&& b) := by
  apply Int32.toBitVec_inj.1
  show BitVec.ofNat 32 a &&& BitVec.ofNat 32 b = BitVec.ofNat 32 (a &&& b)
  apply BitVec.eq_of_getLsbD_eq
  intro i hi
  simp [hi]
theorem wb_tb (n : Nat) : (lN n).toBitVec = BitVec.ofNat 64 n := rfl
theorem wb_inj {a b : Int64} (h : a.toBitVec = b.toBitVec) : a = b := Int64.toBitVec_inj.mp h
theorem wb_c : ∀ k, k < 64 → ((nI k).toInt64 &&& 63) = lN k := by decide +kernel
theorem wb_sm : ∀ k, k < 64 → (BitVec.ofNat 64 k).smod 64 = BitVec.ofNat 64 k := by decide +kernel
theorem wb_shl (n : Nat) {k : Nat} (hk : k < 64) : lN n <<< ((nI k).toInt64 &&& 63) = lN (n * 2 ^ k) := by
  rw [wb_c k hk]
  apply wb_inj
  rw [Int64.toBitVec_shiftLeft, wb_tb, wb_tb, wb_tb, wb_sm k hk]
  apply BitVec.eq_of_toNat_eq
  rw [BitVec.shiftLeft_eq', BitVec.toNat_shiftLeft, BitVec.toNat_ofNat, BitVec.toNat_ofNat, BitVec.toNat_ofNat, Nat.mod_eq_of_lt (show k < 2 ^ 64 by omega), Nat.shiftLeft_eq, Nat.mul_mod, Nat.mod_mod, ← Nat.mul_mod]
theorem u_tn {n : Nat} (h : n < 2 ^ 64) : (UInt64.ofNat n).toNat = n := Nat.mod_eq_of_lt h
theorem g_or {k p a b : Nat} (hp : 2 ^ k = p) (ha : a < p) (h : b * p + a < 2 ^ 64) : lN (b * p) ||| lN a = lN (b * p + a) := by
  subst hp
  have h1 : b * 2 ^ k ||| a = b * 2 ^ k + a := by rw [← Nat.shiftLeft_eq, Nat.shiftLeft_add_eq_or_of_lt ha]
  have h3 : UInt64.ofNat (b * 2 ^ k) ||| UInt64.ofNat a = UInt64.ofNat (b * 2 ^ k + a) := UInt64.toNat_inj.mp (by rw [UInt64.toNat_or, u_tn (by omega), u_tn (by omega), u_tn h, h1])
  have h2 := congrArg UInt64.toInt64 h3
  exact h2
theorem g_or' {k p a b : Nat} (hp : 2 ^ k = p) (ha : a < p) (h : a + b * p < 2 ^ 64) : lN a ||| lN (b * p) = lN (a + b * p) := by
  rw [Int64.or_comm, g_or hp ha (by omega), Nat.add_comm]
theorem pf_lI {a : Nat} (h : a < 2 ^ 63) : (lN a).toInt = (a : Int) := lg_ofNat_toInt h
theorem pf_shr {a d : Nat} {D : Int64} (hD : (D.toBitVec.smod 64).toNat = d) (h : a < 2 ^ 62) : lN a >>> D = lN (a / 2 ^ d) := by
  have hd : a / 2 ^ d ≤ a := Nat.div_le_self _ _
  apply Int64.toInt_inj.mp
  have e : (lN a >>> D).toInt = (lN a).toInt >>> d := by
    rw [← hD]
    exact BitVec.toInt_sshiftRight ..
  rw [e, Int.shiftRight_eq_div_pow, pf_lI (by omega), pf_lI (by omega)]
  rfl
theorem fb_lN_inj {a b : Nat} (ha : a < 2 ^ 63) (hb : b < 2 ^ 63) : lN a = lN b ↔ a = b := by
  constructor
  · intro h
    have h1 : (BitVec.ofNat 64 a).toNat = (BitVec.ofNat 64 b).toNat := congrArg (fun x : Int64 => x.toBitVec.toNat) h
    rw [BitVec.toNat_ofNat, BitVec.toNat_ofNat, Nat.mod_eq_of_lt (by omega), Nat.mod_eq_of_lt (by omega)] at h1
    exact h1
  · rintro rfl; rfl
def zv (g : Nat → Nat) : Nat → Nat
  | 0 => 0
  | k + 1 => zv g k + g k * 256 ^ k
theorem zv_lt {g : Nat → Nat} (h : ∀ i, g i < 256) : ∀ k, zv g k < 256 ^ k
  | 0 => by rw [zv]; decide
  | k + 1 => by
    have h1 := zv_lt h k
    have h2 : g k * 256 ^ k ≤ 255 * 256 ^ k := Nat.mul_le_mul_right _ (by have := h k; omega)
    rw [zv, Nat.pow_succ]
    generalize 256 ^ k = p at *
    generalize g k * p = q at *
    omega
theorem zv_dm {a b p : Nat} (h : a < p) : (a + b * p) % p = a ∧ (a + b * p) / p = b := by
  constructor
  · rw [Nat.add_mul_mod_self_right, Nat.mod_eq_of_lt h]
  · rw [Nat.add_mul_div_right _ _ (by omega), Nat.div_eq_of_lt h, Nat.zero_add]
theorem zv_inj {g h : Nat → Nat} (hg : ∀ i, g i < 256) (hh : ∀ i, h i < 256) : ∀ k, zv g k = zv h k → ∀ i, i < k → g i = h i
  | 0, _, i, hi => absurd hi (Nat.not_lt_zero _)
  | k + 1, e, i, hi => by
    rw [zv, zv] at e
    have a := zv_dm (b := g k) (zv_lt hg k)
    have b := zv_dm (b := h k) (zv_lt hh k)
    rw [e] at a
    by_cases q : i = k
    · rw [q]; exact a.2.symm.trans b.2
    · exact zv_inj hg hh k (a.1.symm.trans b.1) i (by omega)
theorem zv_dig {g : Nat → Nat} (hg : ∀ i, g i < 256) {k : Nat} : ∀ n, k < n → zv g n / 256 ^ k % 256 = g k
  | n + 1, h => by
    rw [zv]
    by_cases q : k = n
    · subst q
      rw [(zv_dm (zv_lt hg k)).2, Nat.mod_eq_of_lt (hg k)]
    · have e : 256 ^ n = 256 ^ (n - k - 1) * 256 * 256 ^ k := by
        rw [← Nat.pow_succ, ← Nat.pow_add]
        congr 1
        omega
      rw [e, ← Nat.mul_assoc, Nat.add_mul_div_right _ _ (Nat.pow_pos (by decide)), ← Nat.mul_assoc, Nat.add_mul_mod_self_right]
      exact zv_dig hg n (by omega)
theorem zn_l : ∀ b, b < 256 → (nI b).toInt64 = lN b := by decide +kernel
theorem zn_val {f : Nat → Int32} {g : Nat → Nat} (hg : ∀ i, g i < 256) : ∀ k, k ≤ 6 → (∀ i, i < k → f i = nI (g i)) → xnm f k = lN (zv g k)
  | 0, _, _ => rfl
  | k + 1, hk, hf => by
    have e : (2 : Nat) ^ (8 * k) = 256 ^ k := Nat.pow_mul 2 8 k
    have h1 := zv_lt hg (k + 1)
    have h2 : (256 : Nat) ^ (k + 1) ≤ 256 ^ 6 := Nat.pow_le_pow_right (by decide) hk
    have h3 : (256 : Nat) ^ 6 < 2 ^ 64 := by decide
    rw [zv] at h1
    rw [xnm, zn_val hg k (by omega) (fun i hi => hf i (by omega)), hf k (by omega), zn_l _ (hg k), show (8 : Int32) * nI k = nI (8 * k) from nI_m 8 k, wb_shl _ (by omega), e, g_or' e (zv_lt hg k) (by omega), zv]
/-- a function of bytes -/
abbrev zby (f : Nat → Int32) : Prop := ∀ i, i < 6 → xok (f i) 256
def zg (f : Nat → Int32) (i : Nat) : Nat := cN (f i) % 256
theorem zg_lt (f : Nat → Int32) (i : Nat) : zg f i < 256 := Nat.mod_lt _ (by decide)
theorem zg_e {f : Nat → Int32} {i : Nat} (h : xok (f i) 256) : f i = nI (zg f i) := by
  have := xok_c h (by decide)
  unfold zg
  rw [Nat.mod_eq_of_lt this.1]
  exact this.2
theorem xnm_v {f : Nat → Int32} (h : zby f) : xnm f 6 = lN (zv (zg f) 6) := zn_val (zg_lt f) 6 (by decide) (fun i hi => zg_e (h i hi))
theorem xnm_inj {f h : Nat → Int32} (hf : zby f) (hh : zby h) : xnm f 6 = xnm h 6 ↔ ∀ i, i < 6 → f i = h i := by
  constructor
  · intro e i hi
    rw [xnm_v hf, xnm_v hh] at e
    have l1 := zv_lt (zg_lt f) 6
    have l2 := zv_lt (zg_lt h) 6
    have e2 := (fb_lN_inj (Nat.lt_trans l1 (by decide)) (Nat.lt_trans l2 (by decide))).mp e
    rw [zg_e (hf i hi), zg_e (hh i hi), zv_inj (zg_lt f) (zg_lt h) 6 e2 i hi]
  · exact fun e => xnm_cg e
theorem xlet_xnm {f : Nat → Int32} (hf : zby f) {i : Nat} (hi : i < 6) : xlet (xnm f 6) i = f i := by
  have l1 := zv_lt (zg_lt f) 6
  have e : (2 : Nat) ^ (8 * i) = 256 ^ i := Nat.pow_mul 2 8 i
  unfold xlet
  rw [xnm_v hf, wb_c _ (by omega), pf_shr (d := 8 * i) (by rw [wb_tb, wb_sm _ (by omega), BitVec.toNat_ofNat, Nat.mod_eq_of_lt (by omega)]) (Nat.lt_trans l1 (by decide)), lN_i, show (255 : Int32) = nI 255 from rfl, nx_and, show (255 : Nat) = 2 ^ 8 - 1 from rfl, Nat.and_two_pow_sub_one_eq_mod, e]
  show nI (zv (zg f) 6 / 256 ^ i % 256) = _
  rw [zv_dig (zg_lt f) 6 hi]
  exact (zg_e (hf i hi)).symm
theorem isL_256 {v : Int32} (h : isL v) : xok v 256 ∧ ¬ v = 0 := by
  have h1 := Int32.le_iff_toInt_le.mp h.1
  have h2 := Int32.le_iff_toInt_le.mp h.2
  have e1 : (97 : Int32).toInt = 97 := by decide
  have e2 : (122 : Int32).toInt = 122 := by decide
  rw [e1] at h1
  rw [e2] at h2
  refine ⟨⟨by omega, by omega⟩, fun q => ?_⟩
  rw [q] at h1
  exact absurd h1 (by decide)
theorem zby_if {f : Nat → Int32} {a : Nat} (hf : ∀ i, i < a → isL (f i)) : zby (fun i => if i < a then f i else 0) := fun i _ => by
  show xok (if i < a then f i else 0) 256
  by_cases g : i < a
  · rw [if_pos g]; exact (isL_256 (hf i g)).1
  · rw [if_neg g]; exact xok_nI (j := 0) (by decide)
theorem nm_eq {f h : Nat → Int32} {a b : Nat} (ha : a ≤ 6) (hb : b ≤ 6) (hf : ∀ i, i < a → isL (f i)) (hh : ∀ i, i < b → isL (h i)) : xnm (fun i => if i < a then f i else 0) 6 = xnm (fun i => if i < b then h i else 0) 6 ↔ a = b ∧ ∀ i, i < a → f i = h i := by
  rw [xnm_inj (zby_if hf) (zby_if hh)]
  constructor
  · intro e
    have e2 : a = b := by
      rcases Nat.lt_trichotomy a b with q | q | q
      · have := e a (by omega)
        rw [if_neg (Nat.lt_irrefl _), if_pos q] at this
        exact absurd this.symm (isL_256 (hh a q)).2
      · exact q
      · have := e b (by omega)
        rw [if_neg (Nat.lt_irrefl b), if_pos q] at this
        exact absurd this (isL_256 (hf b q)).2
    refine ⟨e2, fun i hi => ?_⟩
    have := e i (by omega)
    rw [if_pos hi, if_pos (e2 ▸ hi)] at this
    exact this
  · rintro ⟨rfl, e⟩ i hi
    by_cases g : i < a
    · rw [if_pos g, if_pos g]; exact e i g
    · rw [if_neg g, if_neg g]
/-- a user's letters -/
theorem MX.nm {S : Nat → Int32} (h : MX S) {u : Nat} (hu : u < mU S) : zby (fun i => if i < cN (sU S 5 u) then sU S (6 + i) u else 0) := zby_if (h.u hu).2.2.2
theorem MX.let {S : Nat → Int32} (h : MX S) {u : Nat} (hu : u < mU S) {i : Nat} (hi : i < 6) : xlet (mName S u) i = if i < cN (sU S 5 u) then sU S (6 + i) u else 0 := xlet_xnm (h.nm hu) hi

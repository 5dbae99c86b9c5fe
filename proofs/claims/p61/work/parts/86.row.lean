/-! THE ROW OF THE BOARD THAT WAS READ -/
def uF (q : Nat × Nat) (v w : Nat) : Int32 := if w = 0 then nI (q.1 / 3) else if w = 1 then coU q.1 else if w = 2 then nI q.2 else if w = 3 then 0 else if w = 4 then xbit (nI v) else if w = 5 then 2 else if w = 6 then 117 else if w = 7 then nI (97 + q.1) else 0
def rowS (ln co : Nat) (tl : List Nat) (us : List (Nat × Nat)) (k : Nat) : Int32 :=
  if k = 0 then 0 else if k = 1 then nI ln else if k = 2 then nI co else if k = 3 then nI tl.length else if k = 4 then nI us.length else if k = 5 then 0 else if k < 10 then nI (tl.getD (k - 6) 0) else uF (usx us ((k - 10) / 12)) ((k - 10) / 12) ((k - 10) % 12)
theorem u_M : ∀ u, u < 12 → xok (coU u) 64 ∧ 2 ≤ cN (coU u) := by decide +kernel
section R86
variable {ln co : Nat} {tl : List Nat} {us : List (Nat × Nat)}
theorem row_u {v w : Nat} (hw : w < 12) : sU (rowS ln co tl us) w v = uF (usx us v) v w := by
  show rowS ln co tl us (10 + 12 * v + w) = _
  unfold rowS
  rw [if_neg (by omega), if_neg (by omega), if_neg (by omega), if_neg (by omega), if_neg (by omega), if_neg (by omega), if_neg (by omega), show (10 + 12 * v + w - 10) / 12 = v by omega, show (10 + 12 * v + w - 10) % 12 = w by omega]
theorem row_L (h : ln ≤ 6) : mL (rowS ln co tl us) = ln := cNn (a := ln) (by omega)
theorem row_C (h : co ≤ 6) : cN (rowS ln co tl us 2) = co := cNn (a := co) (by omega)
theorem row_T (h : tl.length ≤ 4) : mT (rowS ln co tl us) = tl.length := cNn (a := tl.length) (by omega)
theorem row_U (h : us.length ≤ 12) : mU (rowS ln co tl us) = us.length := cNn (a := us.length) (by omega)
theorem row_K : mK (rowS ln co tl us) = 0 := cNn (a := 0) (by omega)
theorem row_t {i : Nat} (hi : i < 4) : rowS ln co tl us (6 + i) = nI (tl.getD i 0) := by
  unfold rowS
  rw [if_neg (by omega), if_neg (by omega), if_neg (by omega), if_neg (by omega), if_neg (by omega), if_neg (by omega), if_pos (by omega), show 6 + i - 6 = i by omega]
theorem row_MX (h1 : 1 ≤ ln ∧ ln ≤ 6) (h2 : 1 ≤ co ∧ co ≤ 6) (h4 : tl.length ≤ 4) (h12 : us.length ≤ 12) (hu : ∀ v, v < us.length → (usx us v).1 < 12 ∧ (usx us v).1 / 3 < ln) : MX (rowS ln co tl us) := by
  have eL := row_L (co := co) (tl := tl) (us := us) h1.2
  have eT := row_T (ln := ln) (co := co) (us := us) h4
  have eU := row_U (ln := ln) (co := co) (tl := tl) h12
  have eK := row_K (ln := ln) (co := co) (tl := tl) (us := us)
  have eC := row_C (ln := ln) (tl := tl) (us := us) h2.2
  refine ⟨⟨?_, fun u h => ?_, fun u h => ?_⟩, by rw [eL]; exact h1.1, ⟨by rw [eC]; rfl, by rw [eC]; exact h2.2, ?_⟩, fun u h => ?_, fun c hc => ?_⟩
  · unfold MI
    rw [eL, eT, eU, eK]
    exact ⟨rfl, h1.2, rfl, h4, rfl, by omega, rfl, by omega, fun c hc => absurd hc (Nat.not_lt_zero _)⟩
  · rw [row_u (by decide)]; show xok 2 7; decide
  · rw [eU] at h
    rw [row_u (by decide)]
    exact (u_M _ (hu u h).1).1
  · rw [eK]; exact Nat.zero_le _
  · rw [eU] at h
    have q := hu u h
    unfold MXu
    rw [row_u (by decide), row_u (by decide), row_u (by decide), eL]
    refine ⟨xok_nI (n := ln) q.2 (by omega), (u_M _ q.1).2, by show 1 ≤ cN 2; decide, fun i hi => ?_⟩
    have hi2 : i < 2 := hi
    obtain rfl | rfl : i = 0 ∨ i = 1 := by omega
    · rw [row_u (by decide)]; show isL 117; decide
    · rw [row_u (by decide)]; exact (u_L _ q.1).2
  · rw [eK] at hc
    exact absurd hc (Nat.not_lt_zero _)
theorem row_RB {B : Nat → Int32} {σ : XS} (h : PBd B σ ln co tl us) (h1 : 1 ≤ ln ∧ ln ≤ 6) (h2 : 1 ≤ co ∧ co ≤ 6) (h4 : tl.length ≤ 4) (h12 : us.length ≤ 12) (hu : ∀ v, v < us.length → (usx us v).1 < 12 ∧ (usx us v).1 / 3 < ln) : RB σ 1 (rowS ln co tl us) := by
  obtain ⟨⟨a1, a2, a3, a4, a5, a6, a7⟩, a8, a9⟩ := h
  refine ⟨⟨a2, a3, a4, a5, a6, a7⟩, fun i hi => ?_, fun v hv => ?_, fun c hc => ?_, row_MX h1 h2 h4 h12 hu⟩
  · rw [row_T h4] at hi
    rw [row_t (by omega)]
    exact a8 i hi
  · rw [row_U h12] at hv
    have q := a9 v hv
    unfold RBu
    rw [row_u (by decide), row_u (by decide), row_u (by decide), row_u (by decide), row_u (by decide)]
    refine ⟨q.1, q.2.1, q.2.2.1, q.2.2.2.1, q.2.2.2.2.1, ?_⟩
    rw [q.2.2.2.2.2]
    unfold mName nmW
    refine xnm_cg (fun i hi => ?_)
    rw [row_u (by decide), show cN (uF (usx us v) v 5) = 2 from by show cN 2 = 2; decide]
    by_cases g : i < 2
    · rw [if_pos g]
      obtain rfl | rfl : i = 0 ∨ i = 1 := by omega
      · rw [row_u (by decide)]; rfl
      · rw [row_u (by decide)]; rfl
    · rw [if_neg g, List.getD_eq_getElem?_getD, List.getElem?_eq_none (by show 2 ≤ i; omega)]; rfl
  · rw [row_K] at hc
    exact absurd hc (Nat.not_lt_zero _)
theorem sum0 {f : Nat → Int32} : ∀ n, (∀ i, i < n → f i = 0) → cSum f n = 0
  | 0, _ => rfl
  | n + 1, h => by rw [cSum, sum0 n (fun i hi => h i (by omega)), h n (by omega)]; rfl
theorem row_PS (h12 : us.length ≤ 12) : PS (rowS ln co tl us) 0 ∧ PB (rowS ln co tl us) ∧ PE (rowS ln co tl us) 0 := by
  have eK := row_K (ln := ln) (co := co) (tl := tl) (us := us)
  have eU := row_U (ln := ln) (co := co) (tl := tl) h12
  refine ⟨⟨rfl, by omega, fun c hc => ?_, fun a ha => ?_, fun t ht => ?_, ?_, fun u hu => ?_⟩, fun c hc => ?_, fun c hc => ?_⟩
  · rw [eK] at hc; exact absurd hc (Nat.not_lt_zero _)
  · rw [eK]; exact Nat.zero_le _
  · rw [eK]; exact Nat.zero_le _
  · rw [eK]
    exact sum0 _ (fun i _ => by rw [row_u (by decide)]; rfl)
  · rw [eU] at hu
    rw [row_u (by decide)]
    refine ⟨(zb_bit (by omega) (by omega)).mpr rfl, fun i h1 h2 q => ?_⟩
    have := (zb_bit (by omega) h2).mp q
    omega
  · rw [eK] at hc; exact absurd hc (Nat.not_lt_zero _)
  · rw [eK] at hc; exact absurd hc (Nat.not_lt_zero _)
/-- the world behind load -/
theorem load_fr {σ : XS} {n : Nat} : Fr 1 σ (rLoad σ n).2 := by
  unfold rLoad thn
  have f1 : Fr 1 σ (rBrd (uText σ n) n 0).2.1 := uText_fr.trans rBrd_fr
  split
  · exact f1
  · have f2 := f1.trans (rTols_fr (n := n) 5 (rBrd (uText σ n) n 0).2.1 (rBrd (uText σ n) n 0).2.2 0)
    try dsimp only
    split
    · exact f2
    · have f3 := f2.trans (rUsers_fr (σ := (rTols n 5 (rBrd (uText σ n) n 0).2.1 (rBrd (uText σ n) n 0).2.2 0).2.1) (n := n) (p := (rTols n 5 (rBrd (uText σ n) n 0).2.1 (rBrd (uText σ n) n 0).2.2 0).2.2))
      try dsimp only
      split
      · exact f3
      · have f4 := fun s p => f3.trans (rCmds_fr (n := n) 700 (rUsers (rTols n 5 (rBrd (uText σ n) n 0).2.1 (rBrd (uText σ n) n 0).2.2 0).2.1 n (rTols n 5 (rBrd (uText σ n) n 0).2.1 (rBrd (uText σ n) n 0).2.2 0).2.2).2.1 s p)
        try dsimp only
        split
        · exact f4 _ _
        · exact f4 _ _
theorem load_GV {B : Nat → Int32} {σ τ : XS} {o ch n : Nat} (hz : ∀ b, b < 12 → xZ σ b) (hH : Hi σ o ch) (e : rLoad σ n = (1, τ)) (h : PBd B τ ln co tl us) (h1 : 1 ≤ ln ∧ ln ≤ 6) (h2 : 1 ≤ co ∧ co ≤ 6) (h4 : tl.length ≤ 4) (hu1 : 1 ≤ us.length) (h12 : us.length ≤ 12) (hu : ∀ v, v < us.length → (usx us v).1 < 12 ∧ (usx us v).1 / 3 < ln) : GV (uTake (uShort τ) o ch) (rowS ln co tl us) (oNx o ch) (mNx ch) := by
  have hF : Fr 1 σ τ := by have := load_fr (σ := σ) (n := n); rw [e] at this; exact this
  have hz1 : ∀ b, b < 12 → xZ τ b := fun b hb => by
    by_cases g : b = 1
    · subst g; exact hF.2.2 (hz 1 hb)
    · exact hF.z g (hz b hb)
  have es : ∀ i, i ≠ .inr 2 → (uShort τ).1 i = τ.1 i := fun i hi => xu_ne _ _ _ hi
  have hz2 : ∀ b, b < 12 → xZ (uShort τ) b := fun b hb => xZ_o (hz1 b hb) (es _ (by simp)) (es _ (by simp))
  have hH2 : Hi (uShort τ) o ch := by have := hF.hi hH; unfold Hi at this ⊢; rw [es _ (by simp)]; exact this
  have hR : RG (uShort τ) 1 (rowS ln co tl us) := RG.fr ⟨row_RB h h1 h2 h4 h12 hu, by rw [row_U h12]; exact hu1⟩ (fun k => es _ (by simp)) (by unfold uShort; rw [xu_l])
  have hR2 : RG (uPush (uShort τ) o ch) 1 (rowS ln co tl us) := hR.fr (fun k => (uPush_b (Or.inl (by decide))).1) (uPush_b (k := 2) (Or.inl (by decide))).2
  have hzp := push_z (o := o) (ch := ch) hz2
  have hC : FS 0 (uPush (uShort τ) o ch) (uTake (uShort τ) o ch) := FS.copy (by decide) (hzp 1 (by decide))
  refine ⟨fun b hb => hC.z (hzp b hb), hR2.copy (by decide), ?_⟩
  have hh := push_h hH2
  unfold Hi at hh ⊢
  rw [hC.inr 4]
  exact hh
end R86
/-! words of four bytes -/
theorem b_shl8 (x : Int32) {i : Nat} (hi : i < 32) : bt (x <<< ((8 : Int32) &&& 31)) i = (decide (8 ≤ i) && bt x (i - 8)) := by
  unfold bt
  show (x.toBitVec <<< (((8 : Int32) &&& 31).toBitVec.smod 32)).getLsbD i = _
  rw [show ((8 : Int32) &&& 31).toBitVec.smod 32 = (8 : BitVec 32) by decide]
  show (x.toBitVec <<< 8).getLsbD i = _
  rw [BitVec.getLsbD_shiftLeft, decide_eq_true hi, Bool.true_and]
  by_cases g : i < 8
  · rw [decide_eq_true g, decide_eq_false (by omega)]; rfl
  · rw [decide_eq_false g, decide_eq_true (by omega)]; rfl
/-- a byte's bits -/
def by8 (c : Int32) : Prop := ∀ i, 8 ≤ i → i < 32 → bt c i = false
theorem by_255 : ∀ i, i < 32 → bt 255 i = decide (i < 8) := by decide +kernel
theorem by8_c : ∀ x, x < 128 → (List.range 32).all (fun i => decide (i < 8) || !bt (nI x) i) = true := by decide +kernel
theorem by8_n {x : Nat} (h : x < 128) : by8 (nI x) := fun i h1 h2 => by
  have := List.all_eq_true.mp (by8_c x h) i (List.mem_range.mpr h2)
  rw [decide_eq_false (by omega), Bool.false_or] at this
  cases hb : bt (nI x) i
  · rfl
  · rw [hb] at this; exact absurd this (by decide)
abbrev sh8 (v c : Int32) : Int32 := v <<< ((8 : Int32) &&& 31) ||| c
theorem L0 {v c : Int32} (hc : by8 c) : sh8 v c &&& 255 = c := b_ext (fun i hi => by
  rw [b_and, b_or, b_shl8 v hi, by_255 i hi]
  by_cases g : i < 8
  · rw [decide_eq_true g, decide_eq_false (by omega)]; simp
  · rw [decide_eq_false g, hc i (by omega) hi]; simp)
theorem Lk {v c : Int32} {k : Nat} (hk : k = 0 ∨ k = 8 ∨ k = 16) (hc : by8 c) : sh8 v c >>> ((nI (k + 8)) &&& 31) &&& 255 = v >>> ((nI k) &&& 31) &&& 255 := b_ext (fun i hi => by
  rw [b_and, b_and, by_255 i hi, b_sshr (k + 8) (by omega) _ hi, b_sshr k (by omega) _ hi]
  by_cases g : i < 8
  · rw [if_pos (by omega), if_pos (by omega), b_or, b_shl8 v (by omega), hc (k + 8 + i) (by omega) (by omega), decide_eq_true (show 8 ≤ k + 8 + i by omega), show k + 8 + i - 8 = k + i by omega]
    simp
  · rw [decide_eq_false g]; simp)
/-- the value of word: j bytes from place p on -/
def wd (t : List Int32) (p : Nat) : Nat → Int32
  | 0 => 0
  | j + 1 => sh8 (wd t p j) (t.getD (p + j) 0)
theorem wd_b {t : List Int32} {p : Nat} (h : ∀ j, by8 (t.getD j 0)) : wd t p 4 >>> ((24 : Int32) &&& 31) &&& 255 = t.getD p 0 ∧ wd t p 4 >>> ((16 : Int32) &&& 31) &&& 255 = t.getD (p + 1) 0 ∧ wd t p 4 >>> ((8 : Int32) &&& 31) &&& 255 = t.getD (p + 2) 0 ∧ wd t p 4 &&& 255 = t.getD (p + 3) 0 := by
  have s0 : ∀ v : Int32, v >>> ((nI 0) &&& 31) = v := sh0
  have e8 : (8 : Int32) = nI (0 + 8) := rfl
  have e16 : (16 : Int32) = nI (8 + 8) := rfl
  have e24 : (24 : Int32) = nI (16 + 8) := rfl
  have a : wd t p 4 = sh8 (wd t p 3) (t.getD (p + 3) 0) := rfl
  have b : wd t p 3 = sh8 (wd t p 2) (t.getD (p + 2) 0) := rfl
  have c : wd t p 2 = sh8 (wd t p 1) (t.getD (p + 1) 0) := rfl
  have d : wd t p 1 = sh8 0 (t.getD p 0) := rfl
  refine ⟨?_, ?_, ?_, ?_⟩
  · rw [a, e24, Lk (Or.inr (Or.inr rfl)) (h _), show (16 : Nat) = 8 + 8 from rfl, b, Lk (Or.inr (Or.inl rfl)) (h _), show (8 : Nat) = 0 + 8 from rfl, c, Lk (Or.inl rfl) (h _), s0, d, L0 (h _)]
  · rw [a, e16, Lk (Or.inr (Or.inl rfl)) (h _), show (8 : Nat) = 0 + 8 from rfl, b, Lk (Or.inl rfl) (h _), s0, c, L0 (h _)]
  · rw [a, e8, Lk (Or.inl rfl) (h _), s0, b, L0 (h _)]
  · rw [a, L0 (h _)]


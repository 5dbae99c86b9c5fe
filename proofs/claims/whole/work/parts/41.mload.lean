/-! THE REFERENCE: load and play -/
/-- behind the last command -/
noncomputable def mEndS (τ : XS) (q : MR × Nat) : Nat → Int32 := if q.1.2.1 20 = 0 then q.1.1 else va_cpy (τ.1 (.inr 14)) q.1.1 0 0 550
noncomputable def mEndF (q : MR × Nat) (ch : Nat) : Nat → Int32 := if q.1.2.1 20 = 0 then upd (upd q.1.2.1 10 0) 6 (nI (mNx ch)) else upd q.1.2.1 10 0
noncomputable def mEndT (τ : XS) (q : MR × Nat) (ch : Nat) : XS := if q.1.2.1 20 = 0 then mRw τ (τ.1 (.inr 14)) ch else τ
noncomputable def mEndW (τ : XS) (q : MR × Nat) (ch : Nat) : XS := mW (mEndT τ q ch) (mEndS τ q) (mEndF q ch) q.1.2.2
noncomputable def mEndV (q : MR × Nat) : Int32 := if q.1.2.1 20 = 0 then nI q.2 else -1
def mBgF (F : Nat → Int32) : Nat → Int32 := upd (upd (upd (upd (upd F 7 0) 18 0) 20 0) 12 0) 13 (-1)
def mBg (B : Nat → Int32) (n : Nat) (F : Nat → Int32) : Nat → Int32 := mNextF B n 0 (mBgF F)
def mBgT (τ : XS) (S : Nat → Int32) : XS := xA τ (.inr 14) (va_cpy S (τ.1 (.inr 14)) 0 0 550)
theorem mBg_TK {B F : Nat → Int32} {n : Nat} (hn : n ≤ 700) (h10 : F 10 = nI n) : TK n (mBg B n F) := by
  have h1 := tkE_in B (Nat.zero_le n)
  exact TK.mk hn (by rw [mBg, mNextF, upd_ne (by decide), upd_ne (by decide), upd_ne (by decide), upd_ne (by decide), mBgF, upd_ne (by decide), upd_ne (by decide), upd_ne (by decide), upd_ne (by decide), upd_ne (by decide)]; exact h10) (e := tkE B n 0) (s := tkS B n 0) (by rw [mBg, mNextF, upd_ne (by decide), upd_ne (by decide), upd_ne (by decide), upd_at]) (by rw [mBg, mNextF, upd_ne (by decide), upd_ne (by decide), upd_at]) h1.1 h1.2
theorem mBg_k {B F : Nat → Int32} {n k : Nat} (h1 : k ≠ 16) (h2 : k ≠ 17) (h3 : k ≠ 18) (h4 : k ≠ 19) : mBg B n F k = mBgF F k := by
  rw [mBg, mNextF, upd_ne h4, upd_ne h1, upd_ne h2, upd_ne h3]
theorem mBg_20 {B F : Nat → Int32} {n : Nat} : mBg B n F 20 = 0 := by rw [mBg_k (by decide) (by decide) (by decide) (by decide), mBgF, upd_ne (by decide), upd_ne (by decide), upd_at]
theorem mBg_6 {B F : Nat → Int32} {n : Nat} : mBg B n F 6 = F 6 := by rw [mBg_k (by decide) (by decide) (by decide) (by decide), mBgF, upd_ne (by decide), upd_ne (by decide), upd_ne (by decide), upd_ne (by decide), upd_ne (by decide)]
theorem mBg_16 {B F : Nat → Int32} {n : Nat} (hn : n ≤ 700) (h : ¬ mBg B n F 16 = 0) : 1 ≤ eF (mBg B n F) := by
  rw [mBg, mNextF, upd_ne (by decide), upd_at] at h
  have a := tkS_in B (Nat.zero_le n)
  have h1 := tkE_in B (Nat.zero_le n)
  have g : tkS B n 0 < n := Classical.byContradiction fun q => h (by rw [tkK, if_neg q])
  have e : eF (mBg B n F) = tkE B n 0 := by rw [eF, mBg, mNextF, upd_ne (by decide), upd_ne (by decide), upd_ne (by decide), upd_at, cN, nI_clamp (n31 (by omega))]
  rw [e]
  rcases Nat.eq_zero_or_pos (tkE B n 0) with q | q
  · exfalso
    have hs : tkS B n 0 = 0 := by omega
    have hk : n - 0 = (n - 1) + 1 := by omega
    unfold tkE at q
    rw [if_pos g, hs] at q
    by_cases gl : isL (B 0)
    · rw [if_pos gl, hk, cSkip, if_pos (by simp only [qL, decide_eq_true_eq]; exact gl)] at q
      have := (cSkip_in (qL B) (n - 1) (0 + 1)).1
      omega
    · rw [if_neg gl] at q
      by_cases gd : isD (B 0)
      · rw [if_pos gd, hk, cSkip, if_pos (by simp only [qD, decide_eq_true_eq]; exact gd)] at q
        have := (cSkip_in (qD B) (n - 1) (0 + 1)).1
        omega
      · rw [if_neg gd] at q
        omega
  · exact q
/-- a load's first steps -/
def mZ (S : Nat → Int32) (i : Nat) : Nat → Int32 := fun k => if k < i then 0 else S k
theorem mZ_0 {S : Nat → Int32} : mZ S 0 = S := by funext k; simp [mZ]
theorem mZ_s {S : Nat → Int32} {i : Nat} : upd (mZ S i) i 0 = mZ S (i + 1) := by
  funext k
  by_cases h : k = i
  · subst h; simp [upd, mZ]
  · have e : (k < i + 1) = (k < i) := by simp; omega
    simp [upd, mZ, h, e]
def mLd1 (B : Nat → Int32) (n : Nat) (F : Nat → Int32) : Nat → Int32 := mGo B n (mWr F (if mIs B F 0 = 0 then 1 else 0) 1)
def mLd2 (B : Nat → Int32) (n : Nat) (F : Nat → Int32) : Nat → Int32 := mNbF B n (mLd1 B n F) 1 6
def mLd3 (B : Nat → Int32) (n : Nat) (F : Nat → Int32) : Nat → Int32 := mNbF B n (mLd2 B n F) 1 6
def mLd4 (B : Nat → Int32) (n : Nat) (F : Nat → Int32) : Nat → Int32 := mGo B n (mWr (mLd3 B n F) (if mLd3 B n F 16 = 3 then 0 else 1) 1)
theorem mLd1_TK {B F : Nat → Int32} {n : Nat} (h : TK n F) : TK n (mLd1 B n F) := mGo_TK (mWr_TK h)
theorem mLd2_TK {B F : Nat → Int32} {n : Nat} (h : TK n F) : TK n (mLd2 B n F) := mNbF_TK (mLd1_TK h)
theorem mLd3_TK {B F : Nat → Int32} {n : Nat} (h : TK n F) : TK n (mLd3 B n F) := mNbF_TK (mLd2_TK h)
theorem mLd4_TK {B F : Nat → Int32} {n : Nat} (h : TK n F) : TK n (mLd4 B n F) := mGo_TK (mWr_TK (mLd3_TK h))
def mLdS (B : Nat → Int32) (n : Nat) (S F : Nat → Int32) : Nat → Int32 := upd (upd (mZ S 550) 1 (mNbV (mLd1 B n F) 1 6)) 2 (mNbV (mLd2 B n F) 1 6)
theorem mLdS_k {B S F : Nat → Int32} {n k : Nat} (h1 : k ≠ 1) (h2 : k ≠ 2) (h : k < 550) : mLdS B n S F k = 0 := by
  rw [mLdS, upd_ne h2, upd_ne h1]
  exact if_pos h
theorem mLdS_ok {B S F : Nat → Int32} {n : Nat} : MS (mLdS B n S F) ∧ mU (mLdS B n S F) = 0 ∧ mT (mLdS B n S F) = 0 ∧ mK (mLdS B n S F) = 0 := by
  have eu : mU (mLdS B n S F) = 0 := by rw [mU, mLdS_k (by decide) (by decide) (by decide)]; decide
  have et : mT (mLdS B n S F) = 0 := by rw [mT, mLdS_k (by decide) (by decide) (by decide)]; decide
  have ek : mK (mLdS B n S F) = 0 := by rw [mK, mLdS_k (by decide) (by decide) (by decide)]; decide
  have hv := mNbV_in (mLd1 B n F) (lo := 1) (hi := 6) (by decide)
  have e1 : mLdS B n S F 1 = mNbV (mLd1 B n F) 1 6 := by rw [mLdS, upd_ne (by decide), upd_at]
  have g1 : xok (mNbV (mLd1 B n F) 1 6) 7 := by
    have a := Int32.le_iff_toInt_le.mp hv.1
    have b := Int32.le_iff_toInt_le.mp hv.2
    rw [show (1 : Int32).toInt = 1 from by decide] at a
    rw [show (6 : Int32).toInt = 6 from by decide] at b
    exact ⟨by omega, by omega⟩
  have g2 := xok_c g1
  refine ⟨⟨⟨?_, ?_, ?_, ?_, ?_, ?_, ?_, ?_, ?_⟩, fun u hu => ?_, fun u hu => ?_⟩, eu, et, ek⟩
  · rw [mL, e1]; exact g2.2
  · rw [mL, e1]; omega
  · rw [et, mLdS_k (by decide) (by decide) (by decide)]; decide
  · rw [et]; decide
  · rw [eu, mLdS_k (by decide) (by decide) (by decide)]; decide
  · rw [eu]; decide
  · rw [ek, mLdS_k (by decide) (by decide) (by decide)]; decide
  · rw [ek]; decide
  · intro c hc
    rw [ek] at hc
    exact absurd hc (Nat.not_lt_zero _)
  · rw [eu] at hu
    exact absurd hu (Nat.not_lt_zero _)
  · rw [eu] at hu
    exact absurd hu (Nat.not_lt_zero _)
/-- the trunks; the subscribers -/
def mTs (B : Nat → Int32) (n : Nat) : Nat → (Nat → Int32) → (Nat → Int32) → (Nat → Int32) × (Nat → Int32)
  | 0, S, F => (S, F)
  | k + 1, S, F => if mIs B F 1 = 0 then (S, F) else mTs B n k (mTtS B n S F) (mTtF B n S F)
noncomputable def mUs (B : Nat → Int32) (n : Nat) : Nat → MR → MR
  | 0, r => r
  | k + 1, r => if mIs B r.2.1 2 = 0 then r else mUs B n k (mUtS B n r.1 r.2.1 r.2.2, mUtF B n r.1 r.2.1 r.2.2, mUtL B n r.1 r.2.1 r.2.2)
theorem mIs_w {B F : Nat → Int32} {q : Nat} (h : ¬ mIs B F q = 0) : F 20 = 0 := Classical.byContradiction fun z => h (if_neg (fun y => z y.1))
theorem mTs_ok {B : Nat → Int32} {n : Nat} : ∀ (k : Nat) (S F : Nat → Int32), MS S → TK n F → MS (mTs B n k S F).1 ∧ TK n (mTs B n k S F).2
  | 0, S, F, h1, h2 => ⟨h1, h2⟩
  | k + 1, S, F, h1, h2 => by
    unfold mTs
    by_cases g : mIs B F 1 = 0
    · rw [if_pos g]; exact ⟨h1, h2⟩
    · rw [if_neg g]; exact mTs_ok k _ _ h1.ttS (mTtF_TK h2)
theorem mUs_ok {B : Nat → Int32} {n : Nat} : ∀ (k : Nat) (r : MR), MS r.1 → TK n r.2.1 → MS (mUs B n k r).1 ∧ TK n (mUs B n k r).2.1
  | 0, r, h1, h2 => ⟨h1, h2⟩
  | k + 1, r, h1, h2 => by
    unfold mUs
    by_cases g : mIs B r.2.1 2 = 0
    · rw [if_pos g]; exact ⟨h1, h2⟩
    · rw [if_neg g]; exact mUs_ok k (mUtS B n r.1 r.2.1 r.2.2, mUtF B n r.1 r.2.1 r.2.2, mUtL B n r.1 r.2.1 r.2.2) (by dsimp only; exact h1.ut) (by dsimp only; exact mUtF_TK h2)
theorem mTtS_T {B S F : Nat → Int32} {n : Nat} (hM : MI S) (h : mTtF B n S F 20 = 0) : mT (mTtS B n S F) = mT S + 1 := by
  have ht := hM.t4
  rw [mTtS, if_pos h, mT, upd_at, cN, nI_clamp (n31 (by omega))]
theorem mUtS_U {B S F L : Nat → Int32} {n : Nat} (hM : MI S) (h : mUtF B n S F L 20 = 0) : mU (mUtS B n S F L) = mU S + 1 := by
  have ht := hM.u15
  unfold mUtF at h
  have h3 : mUt3 B n S F L 20 = 0 := Classical.byContradiction fun q => by rw [if_neg q] at h; exact q h
  rw [if_pos h3] at h
  rw [mUtS, if_pos h3, if_pos h, mU, upd_at, cN, nI_clamp (n31 (by omega))]
theorem mTtF_PG {B S F : Nat → Int32} {n : Nat} (h : TK n F) : PG F (mTtF B n S F) := ((mWr_PG.tr (mGo_PG (mWr_TK h))).tr (mNbF_PG (mTt1_TK h))).tr (mWr_PG.tr (mGo_PG (mWr_TK (mNbF_TK (mTt1_TK h)))))
theorem mTs_PG {B : Nat → Int32} {n : Nat} : ∀ (k : Nat) (S F : Nat → Int32), TK n F → PG F (mTs B n k S F).2
  | 0, S, F, h => PG.rf
  | k + 1, S, F, h => by
    unfold mTs
    by_cases g : mIs B F 1 = 0
    · rw [if_pos g]; exact PG.rf
    · rw [if_neg g]; exact (mTtF_PG h).tr (mTs_PG k _ _ (mTtF_TK h))
theorem mRhL_PG {B : Nat → Int32} : ∀ (k i : Nat) (F : Nat → Int32) (c : Int32), PG F (mRhL B k i F c).1
  | 0, _, F, c => PG.rf
  | k + 1, i, F, c => by
    unfold mRhL
    by_cases g : F 20 = 0
    · rw [if_pos g]; exact mWr_PG.tr (mRhL_PG k _ _ _)
    · rw [if_neg g]; exact PG.rf
theorem mAmb_PG {S : Nat → Int32} {x y : Int32} : ∀ (k v : Nat) (F : Nat → Int32), PG F (mAmb S x y k v F)
  | 0, _, F => PG.rf
  | k + 1, v, F => mWr_PG.tr (mAmb_PG k _ _)
theorem mUtF_PG {B S F L : Nat → Int32} {n : Nat} (h : TK n F) : PG F (mUtF B n S F L) := by
  have h1 : PG F (mUt1 B n S F) := (mWr_PG.tr mWr_PG).tr (mGo_PG (mWr_TK (mWr_TK h)))
  have h3 : PG F (mUt3 B n S F L) := (h1.tr mNhF_PG).tr mWr_PG
  have h5 : PG F (mUt5 B n S F L) := (h3.tr (mGo_PG (mUt3_TK h))).tr (mNbF_PG (mUt4_TK h))
  have h6 : PG F (mUt6 B n S F L) := by
    unfold mUt6
    by_cases g : mUt5 B n S F L 20 = 0
    · rw [if_pos g]; exact h5.tr (mWr_PG.tr (mRhL_PG _ _ _ _))
    · rw [if_neg g]; exact h5
  have h7 : PG F (mUt7 B n S F L) := h6.tr (mAmb_PG _ _ _)
  have h9 : PG F (mUt9 B n S F L) := (h7.tr (mGo_PG (mUt7_TK h))).tr (mNbF_PG (mUt8_TK h))
  have hA : PG F (mUtA B n S F L) := h9.tr (mWr_PG.tr (mGo_PG (mWr_TK (mUt9_TK h))))
  unfold mUtF
  by_cases g : mUt3 B n S F L 20 = 0
  · rw [if_pos g]; exact hA
  · rw [if_neg g]; exact h3
theorem mUs_PG {B : Nat → Int32} {n : Nat} : ∀ (k : Nat) (r : MR), TK n r.2.1 → PG r.2.1 (mUs B n k r).2.1
  | 0, r, h => PG.rf
  | k + 1, r, h => by
    unfold mUs
    by_cases g : mIs B r.2.1 2 = 0
    · rw [if_pos g]; exact PG.rf
    · rw [if_neg g]
      have h4 := mUs_PG (B := B) (n := n) k (mUtS B n r.1 r.2.1 r.2.2, mUtF B n r.1 r.2.1 r.2.2, mUtL B n r.1 r.2.1 r.2.2) (by dsimp only; exact mUtF_TK h)
      dsimp only at h4
      exact (mUtF_PG h).tr h4
/-- one subscriber, unless something is wrong -/
noncomputable def mU1 (B : Nat → Int32) (n : Nat) (r : MR) : MR := if r.2.1 20 = 0 then (mUtS B n r.1 r.2.1 r.2.2, mUtF B n r.1 r.2.1 r.2.2, mUtL B n r.1 r.2.1 r.2.2) else r
theorem mU1_ok {B : Nat → Int32} {n : Nat} {r : MR} (h1 : MS r.1) (h2 : TK n r.2.1) : MS (mU1 B n r).1 ∧ TK n (mU1 B n r).2.1 ∧ PG r.2.1 (mU1 B n r).2.1 := by
  unfold mU1
  by_cases g : r.2.1 20 = 0
  · rw [if_pos g]; dsimp only; exact ⟨h1.ut, mUtF_TK h2, mUtF_PG h2⟩
  · rw [if_neg g]; exact ⟨h1, h2, PG.rf⟩
noncomputable def mLdA (B : Nat → Int32) (n : Nat) (S F L : Nat → Int32) : MR := ((mTs B n 5 (mLdS B n S F) (mLd4 B n F)).1, (mTs B n 5 (mLdS B n S F) (mLd4 B n F)).2, L)
noncomputable def mLdB (B : Nat → Int32) (n : Nat) (S F L : Nat → Int32) : MR := mUs B n 15 (mU1 B n (mLdA B n S F L))
theorem mLd4_PG {B F : Nat → Int32} {n : Nat} (h : TK n F) : PG F (mLd4 B n F) := (((mWr_PG.tr (mGo_PG (mWr_TK h))).tr (mNbF_PG (mLd1_TK h))).tr (mNbF_PG (mLd2_TK h))).tr (mWr_PG.tr (mGo_PG (mWr_TK (mLd3_TK h))))
theorem mLdA_ok {B S F L : Nat → Int32} {n : Nat} (h : TK n F) : MS (mLdA B n S F L).1 ∧ TK n (mLdA B n S F L).2.1 ∧ PG F (mLdA B n S F L).2.1 := by
  unfold mLdA
  dsimp only
  have h1 := mTs_ok (B := B) (n := n) 5 (mLdS B n S F) (mLd4 B n F) mLdS_ok.1 (mLd4_TK h)
  exact ⟨h1.1, h1.2, (mLd4_PG h).tr (mTs_PG _ _ _ (mLd4_TK h))⟩
theorem mLdB_ok {B S F L : Nat → Int32} {n : Nat} (h : TK n F) : MS (mLdB B n S F L).1 ∧ TK n (mLdB B n S F L).2.1 ∧ PG F (mLdB B n S F L).2.1 := by
  unfold mLdB
  have h1 := mLdA_ok (B := B) (S := S) (L := L) h
  have h2 := mU1_ok (B := B) h1.1 h1.2.1
  have h3 := mUs_ok (B := B) 15 _ h2.1 h2.2.1
  exact ⟨h3.1, h3.2, (h1.2.2.tr h2.2.2).tr (mUs_PG 15 _ h2.2.1)⟩
theorem mTs_0 {B : Nat → Int32} {n : Nat} : ∀ (k : Nat) (S F : Nat → Int32), (mTs B n k S F).2 20 = 0 → F 20 = 0
  | 0, S, F, h => h
  | k + 1, S, F, h => by
    by_cases g : mIs B F 1 = 0
    · rw [mTs, if_pos g] at h; exact h
    · exact mIs_w g
theorem mUs_0 {B : Nat → Int32} {n : Nat} : ∀ (k : Nat) (r : MR), (mUs B n k r).2.1 20 = 0 → r.2.1 20 = 0
  | 0, r, h => h
  | k + 1, r, h => by
    by_cases g : mIs B r.2.1 2 = 0
    · rw [mUs, if_pos g] at h; exact h
    · exact mIs_w g
theorem mU1_0 {B : Nat → Int32} {n : Nat} {r : MR} (h : (mU1 B n r).2.1 20 = 0) : r.2.1 20 = 0 := Classical.byContradiction fun q => by
  rw [mU1, if_neg q] at h
  exact q h
theorem mLd4_0 {B F : Nat → Int32} {n : Nat} (h : mLd4 B n F 20 = 0) : F 20 = 0 ∧ ¬ mIs B F 0 = 0 ∧ mLd1 B n F = mNx1 B n F ∧ mLd2 B n F 20 = 0 ∧ mLd3 B n F 20 = 0 ∧ mLd3 B n F 16 = 3 ∧ mLd4 B n F = mNx1 B n (mLd3 B n F) := by
  unfold mLd4 at h ⊢
  rw [mGo_20] at h
  obtain ⟨h1, h2, h3⟩ := mWr_0 h
  rw [h3]
  have h4 : mLd2 B n F 20 = 0 := (mNbF_0 (F := mLd2 B n F) (lo := 1) (hi := 6) h1).1
  have h5 : mLd1 B n F 20 = 0 := (mNbF_0 (F := mLd1 B n F) (lo := 1) (hi := 6) h4).1
  have h6 := h5
  unfold mLd1 at h6
  rw [mGo_20] at h6
  obtain ⟨h7, h8, h9⟩ := mWr_0 h6
  exact ⟨h7, fun q => by rw [if_pos q] at h8; exact absurd h8 (by decide), by unfold mLd1; rw [h9, mGo, if_pos h7], h4, h1, Classical.byContradiction fun q => by rw [if_neg q] at h2; exact absurd h2 (by decide), if_pos h1⟩
theorem mLdB_0 {B S F L : Nat → Int32} {n : Nat} (h : (mLdB B n S F L).2.1 20 = 0) : (mLdA B n S F L).2.1 20 = 0 ∧ mLd4 B n F 20 = 0 := by
  unfold mLdB at h
  have h1 := mU1_0 (mUs_0 15 _ h)
  refine ⟨h1, ?_⟩
  unfold mLdA at h1
  dsimp only at h1
  exact mTs_0 5 _ _ h1
theorem mLdB_p {B S F L : Nat → Int32} {n : Nat} (hT : TK n F) (hp : ¬ F 16 = 0 → 1 ≤ eF F) (h : (mLdB B n S F L).2.1 20 = 0) : 1 ≤ eF (mLdB B n S F L).2.1 := by
  have h1 := (mLd4_0 (mLdB_0 h).2).2.1
  have h2 : ¬ F 16 = 0 := fun q => h1 (if_neg (fun z => by rw [z.2.1] at q; exact absurd q (by decide)))
  exact Nat.le_trans (hp h2) (mLdB_ok hT).2.2.1
theorem mr_eta (r : MR) : (r.1, r.2.1, r.2.2) = r := rfl
/-- what load answers -/
noncomputable def mLdV (q : MR × Nat) : Int32 := if q.1.2.1 20 = 0 then q.1.1 4 else -1
section XP41
variable {p : Program} {l : Launch} {e : Env} {R : Room} {s : State} {m : MethodId} {args : Array Value} {below : List Frame} {meth : Method} {c : Code} {P : XP} {A : Nat → Prop} {nL cells slots : Nat} {Q : State → Prop} {cc : ByteArray} {ret : Option FieldType} {σ : XS} {pc : Nat} {lv : List (Nat × Value)} {st : List Value}
set_option maxRecDepth 100000 in
set_option maxHeartbeats 4000000 in
theorem L_X7_commands (C : XC p s m args meth c P A 2 RX7 cX7_commands (some .int)) {τ : XS} (h1 : xI1 P) {n : Nat} : ∀ (k c0 : Nat) (r : MR), c0 + k = 700 → MS r.1 → TK n r.2.1 → (r.2.1 20 = 0 → ¬ r.2.1 16 = 0 → c0 + 1 ≤ eF r.2.1) → (XW p l e rm_X7_commands s m args below meth c P A 2 0 0 Q (mV τ (mCs (τ.1 (.inr 16)) n k r c0).1) 26 [(0, .ref (P.2.2.1 (.inr 9))), (1, .int (nI ((mCs (τ.1 (.inr 16)) n k r c0).2)))] []) → XW p l e rm_X7_commands s m args below meth c P A 2 0 0 Q (mV τ r) 2 [(0, .ref (P.2.2.1 (.inr 9))), (1, .int (nI (c0)))] [] := by
  intro k
  induction k with
  | zero =>
    intro c0 r hc hS hT hp kx
    have hn : ¬ (r.2.1 20 = 0 ∧ ¬ r.2.1 16 = 0) := fun q => by
      have h2 := hp q.1 q.2
      have h3 : eF r.2.1 ≤ n := hT.2.2.2.2.2
      have h4 := hT.1
      omega
    refine XW.eq (σ' := mW τ r.1 r.2.1 r.2.2) rfl rfl rfl ?_
    refine X_aload_n (pc := 2) C 0 dX7_commands_2 rfl rfl ?_
    refine G_X7_180 (pc := 3) C (by assumption) dX7_commands_3 ?_
    rw [mW_9]
    refine X_if_ne (pc := 6) C 26 dX7_commands_6 (by decide) (fun h6 => ?_) (fun h6 => ?_)
    · skip
      exact kx
    · skip
      refine X_aload_n (pc := 9) C 0 dX7_commands_9 rfl rfl ?_
      refine G_X7_164 (pc := 10) C (by assumption) dX7_commands_10 ?_
      rw [mW_9]
      refine X_if_eq (pc := 13) C 26 dX7_commands_13 (by decide) (fun h13 => ?_) (fun h13 => ?_)
      · skip
        exact kx
      · exact absurd ⟨h6, h13⟩ hn
  | succ k ih =>
    intro c0 r hc hS hT hp kx
    refine XW.eq (σ' := mW τ r.1 r.2.1 r.2.2) rfl rfl rfl ?_
    refine X_aload_n (pc := 2) C 0 dX7_commands_2 rfl rfl ?_
    refine G_X7_180 (pc := 3) C (by assumption) dX7_commands_3 ?_
    rw [mW_9]
    refine X_if_ne (pc := 6) C 26 dX7_commands_6 (by decide) (fun h6 => ?_) (fun h6 => ?_)
    · skip
      first
        | (rw [mCs_n (fun q => h6 q.1)] at kx; exact kx)
        | (rw [mCs_n (fun q => q.2 h13)] at kx; exact kx)
    · skip
      refine X_aload_n (pc := 9) C 0 dX7_commands_9 rfl rfl ?_
      refine G_X7_164 (pc := 10) C (by assumption) dX7_commands_10 ?_
      rw [mW_9]
      refine X_if_eq (pc := 13) C 26 dX7_commands_13 (by decide) (fun h13 => ?_) (fun h13 => ?_)
      · skip
        first
          | (rw [mCs_n (fun q => h6 q.1)] at kx; exact kx)
          | (rw [mCs_n (fun q => q.2 h13)] at kx; exact kx)
      · skip
        refine X_aload_n (pc := 16) C 0 dX7_commands_16 rfl rfl ?_
        refine K_X7_264 (pc := 17) C (by assumption) (c_X7_command l P _ _ _ _ h1 n hT hS) ⟨Nat.le_of_ble_eq_true rfl, Nat.le_of_ble_eq_true rfl⟩ ⟨rfl, rfl⟩ ⟨Nat.zero_le _, Nat.zero_le _⟩ (Nat.le_of_ble_eq_true rfl) dX7_commands_17 ?_
        first | refine X_iincN (pc := 20) (lv1 := [(0, _), (1, _)]) C dX7_commands_20 rfl (by decide) (by decide) rfl ?_ | refine X_iinc (pc := 20) (kk := 1) (lv1 := [(0, _), (1, _)]) C dX7_commands_20 rfl (by decide) (by decide) rfl ?_
        refine X_goto (pc := 23) C 2 dX7_commands_23 (by decide) ?_
        have hk := mCm_ok (B := (τ.1 (.inr 16))) hS hT
        exact ih (c0 + 1) (mCm (τ.1 (.inr 16)) n r) (by omega) hk.1 hk.2 (fun a b => by
          have h3 := mGo_step (B := (τ.1 (.inr 16))) (mCm0_ok (B := (τ.1 (.inr 16))) (L := r.2.2) hS hT).2 a b
          have h4 := (mCm0_PG (B := (τ.1 (.inr 16))) (S := r.1) (L := r.2.2) hT).1
          have h5 := hp h6 h13
          have h6 : eF (mCm (τ.1 (.inr 16)) n r).2.1 = eF (mGo (τ.1 (.inr 16)) n (mCm0 (τ.1 (.inr 16)) n r.1 r.2.1 r.2.2).2.1) := rfl
          omega) (by rw [mCs_y h6 h13] at kx; exact kx)

set_option maxRecDepth 100000 in
set_option maxHeartbeats 4000000 in
theorem c_X7_commands (l : Launch) (P : XP) (τ : XS) (S F L : Nat → Int32) (h1 : xI1 P) (n : Nat) (hT : TK n F) (hS : MS S) (ch : Nat) (hc8 : ch ≤ 8) (hch : F 6 = nI ch) (hp : F 20 = 0 → ¬ F 16 = 0 → 1 ≤ eF F) : XF l yX7_commands cX7_commands 2 (some .int) rm_X7_commands P [.ref (P.2.2.1 (.inr 9))] (mW τ S F L) (some (.int (mEndV (mCs (τ.1 (.inr 16)) n 700 (S, F, L) 0)))) (mEndW τ (mCs (τ.1 (.inr 16)) n 700 (S, F, L) 0) ch) := by
  refine XM.of (by decide +kernel) (Nat.le_of_ble_eq_true rfl) (fun p e s m args below meth c A C => ?_)
  replace C : XC p s m args meth c P A 2 RX7 cX7_commands (some .int) := C
  refine XW.eq (lv' := [(0, _)]) rfl rfl rfl ?_
  have hko := mCs_ok (B := (τ.1 (.inr 16))) 700 (S, F, L) 0 hS hT
  refine X_iconst (pc := 0) (v := 0) C dX7_commands_0 (by decide) ?_
  refine X_istore_n (pc := 1) (lv1 := [(0, _), (1, _)]) C 1 dX7_commands_1 rfl (by decide) rfl ?_
  refine L_X7_commands C h1 (n := n) 700 0 (S, F, L) (by omega) hS hT (fun a b => by rw [Nat.zero_add]; exact hp a b) ?_
  refine XW.eq (σ' := mW τ (mCs (τ.1 (.inr 16)) n 700 (S, F, L) 0).1.1 (mCs (τ.1 (.inr 16)) n 700 (S, F, L) 0).1.2.1 (mCs (τ.1 (.inr 16)) n 700 (S, F, L) 0).1.2.2) rfl rfl rfl ?_
  refine X_aload_n (pc := 26) C 0 dX7_commands_26 rfl rfl ?_
  refine X_iconst (pc := 27) (v := 0) C dX7_commands_27 (by decide) ?_
  refine U_X7_54 (pc := 28) C (by assumption) dX7_commands_28 ?_
  rw [mW_u9]
  refine X_aload_n (pc := 31) C 0 dX7_commands_31 rfl rfl ?_
  refine G_X7_180 (pc := 32) C (by assumption) dX7_commands_32 ?_
  rw [mW_9]
  rw [upd_ne (by decide)]
  refine X_if_eq (pc := 35) C 54 dX7_commands_35 (by decide) (fun h35 => ?_) (fun h35 => ?_)
  · skip
    refine X_aload_n (pc := 54) C 0 dX7_commands_54 rfl rfl ?_
    refine X_aload_n (pc := 55) C 0 dX7_commands_55 rfl rfl ?_
    refine G_X7_22 (pc := 56) C (by assumption) dX7_commands_56 ?_
    refine K_X7_267 (pc := 59) C (by assumption) (c_X7_remember14 l P _ _ _ _ h1 ch hc8 (by rw [upd_ne (by decide), hko.2.2.2.1]; exact hch)) ⟨Nat.le_of_ble_eq_true rfl, Nat.le_of_ble_eq_true rfl⟩ ⟨rfl, rfl⟩ ⟨Nat.zero_le _, Nat.zero_le _⟩ (Nat.le_of_ble_eq_true rfl) dX7_commands_59 ?_
    refine XW.eq (σ' := mEndW τ (mCs (τ.1 (.inr 16)) n 700 (S, F, L) 0) ch) (by rw [mEndW, mEndS, mEndF, mEndT, if_pos h35, if_pos h35, if_pos h35]) rfl rfl ?_
    have e20 : (mEndF (mCs (τ.1 (.inr 16)) n 700 (S, F, L) 0) ch) 20 = (mCs (τ.1 (.inr 16)) n 700 (S, F, L) 0).1.2.1 20 := by rw [mEndF]; first | rw [if_pos h35, upd_ne (by decide), upd_ne (by decide)] | rw [if_neg h35, upd_ne (by decide)]
    refine XW.eq (σ' := mW (mEndT τ (mCs (τ.1 (.inr 16)) n 700 (S, F, L) 0) ch) (mEndS τ (mCs (τ.1 (.inr 16)) n 700 (S, F, L) 0)) (mEndF (mCs (τ.1 (.inr 16)) n 700 (S, F, L) 0) ch) (mCs (τ.1 (.inr 16)) n 700 (S, F, L) 0).1.2.2) rfl rfl rfl ?_
    refine X_aload_n (pc := 62) C 0 dX7_commands_62 rfl rfl ?_
    refine G_X7_180 (pc := 63) C (by assumption) dX7_commands_63 ?_
    rw [mW_9]
    rw [e20]
    refine X_if_eq (pc := 66) C 73 dX7_commands_66 (by decide) (fun h66 => ?_) (fun h66 => ?_)
    · skip
      refine X_iload_n (pc := 73) C 1 dX7_commands_73 rfl rfl ?_
      exact X_iret (pc := 74) C (Nat.zero_le _) (Nat.zero_le _) dX7_commands_74 ⟨by first | rw [mEndV, if_pos h66] | rw [mEndV, if_neg h66], rfl⟩
    · skip
      refine X_iconst (pc := 69) (v := (-1)) C dX7_commands_69 (by decide) ?_
      refine X_goto (pc := 70) C 74 dX7_commands_70 (by decide) ?_
      exact X_iret (pc := 74) C (Nat.zero_le _) (Nat.zero_le _) dX7_commands_74 ⟨by first | rw [mEndV, if_pos h66] | rw [mEndV, if_neg h66], rfl⟩
  · skip
    refine X_aload_n (pc := 38) C 0 dX7_commands_38 rfl rfl ?_
    refine G_X7_22 (pc := 39) C (by assumption) dX7_commands_39 ?_
    refine X_iconst (pc := 42) (v := 0) C dX7_commands_42 (by decide) ?_
    refine X_aload_n (pc := 43) C 0 dX7_commands_43 rfl rfl ?_
    refine G_X7_9 (pc := 44) C (by assumption) dX7_commands_44 ?_
    refine X_iconst (pc := 47) (v := 0) C dX7_commands_47 (by decide) ?_
    refine K_X7_76 (pc := 48) C (c_X7_copy l P _ (sp := 0) (dp := 0) (h1 14 (by decide) (by decide)) (h1 10 (by decide) (by decide)) rfl rfl (by decide) (by decide) (by decide) (by decide)) ⟨Nat.le_of_ble_eq_true rfl, Nat.le_of_ble_eq_true rfl⟩ ⟨rfl, rfl⟩ ⟨Nat.zero_le _, Nat.zero_le _⟩ (Nat.le_of_ble_eq_true rfl) dX7_commands_48 ?_
    refine XW.eq (σ' := mEndW τ (mCs (τ.1 (.inr 16)) n 700 (S, F, L) 0) ch) (by rw [mW_o (i := .inr 14) (by decide) (by decide) (by decide), mW_10, mW_A10, mEndW, mEndS, mEndF, mEndT, if_neg h35, if_neg h35, if_neg h35]) rfl rfl ?_
    refine X_goto (pc := 51) C 62 dX7_commands_51 (by decide) ?_
    have e20 : (mEndF (mCs (τ.1 (.inr 16)) n 700 (S, F, L) 0) ch) 20 = (mCs (τ.1 (.inr 16)) n 700 (S, F, L) 0).1.2.1 20 := by rw [mEndF]; first | rw [if_pos h35, upd_ne (by decide), upd_ne (by decide)] | rw [if_neg h35, upd_ne (by decide)]
    refine XW.eq (σ' := mW (mEndT τ (mCs (τ.1 (.inr 16)) n 700 (S, F, L) 0) ch) (mEndS τ (mCs (τ.1 (.inr 16)) n 700 (S, F, L) 0)) (mEndF (mCs (τ.1 (.inr 16)) n 700 (S, F, L) 0) ch) (mCs (τ.1 (.inr 16)) n 700 (S, F, L) 0).1.2.2) rfl rfl rfl ?_
    refine X_aload_n (pc := 62) C 0 dX7_commands_62 rfl rfl ?_
    refine G_X7_180 (pc := 63) C (by assumption) dX7_commands_63 ?_
    rw [mW_9]
    rw [e20]
    refine X_if_eq (pc := 66) C 73 dX7_commands_66 (by decide) (fun h66 => ?_) (fun h66 => ?_)
    · skip
      refine X_iload_n (pc := 73) C 1 dX7_commands_73 rfl rfl ?_
      exact X_iret (pc := 74) C (Nat.zero_le _) (Nat.zero_le _) dX7_commands_74 ⟨by first | rw [mEndV, if_pos h66] | rw [mEndV, if_neg h66], rfl⟩
    · skip
      refine X_iconst (pc := 69) (v := (-1)) C dX7_commands_69 (by decide) ?_
      refine X_goto (pc := 70) C 74 dX7_commands_70 (by decide) ?_
      exact X_iret (pc := 74) C (Nat.zero_le _) (Nat.zero_le _) dX7_commands_74 ⟨by first | rw [mEndV, if_pos h66] | rw [mEndV, if_neg h66], rfl⟩

set_option maxRecDepth 100000 in
set_option maxHeartbeats 4000000 in
theorem c_X7_begin (l : Launch) (P : XP) (τ : XS) (S F L : Nat → Int32) (h1 : xI1 P) (n : Nat) (hn : n ≤ 700) (h10 : F 10 = nI n) : XF l yX7_begin cX7_begin 1 none rm_X7_begin P [.ref (P.2.2.1 (.inr 9))] (mW τ S F L) (none) (mW (mBgT τ S) S (mBg (τ.1 (.inr 16)) n F) L) := by
  refine XM.of (by decide +kernel) (Nat.le_of_ble_eq_true rfl) (fun p e s m args below meth c A C => ?_)
  replace C : XC p s m args meth c P A 1 RX7 cX7_begin none := C
  refine XW.eq (lv' := [(0, _)]) rfl rfl rfl ?_
  refine X_aload_n (pc := 0) C 0 dX7_begin_0 rfl rfl ?_
  refine X_iconst (pc := 1) (v := 0) C dX7_begin_1 (by decide) ?_
  refine U_X7_67 (pc := 2) C (by assumption) dX7_begin_2 ?_
  rw [mW_u9]
  refine X_aload_n (pc := 5) C 0 dX7_begin_5 rfl rfl ?_
  refine X_iconst (pc := 6) (v := 0) C dX7_begin_6 (by decide) ?_
  refine U_X7_158 (pc := 7) C (by assumption) dX7_begin_7 ?_
  rw [mW_u9]
  refine X_aload_n (pc := 10) C 0 dX7_begin_10 rfl rfl ?_
  refine X_iconst (pc := 11) (v := 0) C dX7_begin_11 (by decide) ?_
  refine U_X7_180 (pc := 12) C (by assumption) (by decide) (by decide) dX7_begin_12 ?_
  rw [mW_u9]
  refine X_aload_n (pc := 15) C 0 dX7_begin_15 rfl rfl ?_
  refine X_iconst (pc := 16) (v := 0) C dX7_begin_16 (by decide) ?_
  refine U_X7_184 (pc := 17) C (by assumption) dX7_begin_17 ?_
  rw [mW_u9]
  refine X_aload_n (pc := 20) C 0 dX7_begin_20 rfl rfl ?_
  refine X_iconst (pc := 21) (v := (-1)) C dX7_begin_21 (by decide) ?_
  refine U_X7_35 (pc := 22) C (by assumption) dX7_begin_22 ?_
  rw [mW_u9]
  refine X_aload_n (pc := 25) C 0 dX7_begin_25 rfl rfl ?_
  refine G_X7_9 (pc := 26) C (by assumption) dX7_begin_26 ?_
  refine X_iconst (pc := 29) (v := 0) C dX7_begin_29 (by decide) ?_
  refine X_aload_n (pc := 30) C 0 dX7_begin_30 rfl rfl ?_
  refine G_X7_22 (pc := 31) C (by assumption) dX7_begin_31 ?_
  refine X_iconst (pc := 34) (v := 0) C dX7_begin_34 (by decide) ?_
  refine K_X7_76 (pc := 35) C (c_X7_copy l P _ (sp := 0) (dp := 0) (h1 10 (by decide) (by decide)) (h1 14 (by decide) (by decide)) rfl rfl (by decide) (by decide) (by decide) (by decide)) ⟨Nat.le_of_ble_eq_true rfl, Nat.le_of_ble_eq_true rfl⟩ ⟨rfl, rfl⟩ ⟨Nat.zero_le _, Nat.zero_le _⟩ (Nat.le_of_ble_eq_true rfl) dX7_begin_35 ?_
  refine XW.eq (σ' := mW (mBgT τ S) S (mBgF F) L) (by rw [mW_10, mW_o (i := .inr 14) (by decide) (by decide) (by decide), mW_Ao (by decide) (by decide) (by decide), mBgT, mBgF]) rfl rfl ?_
  refine X_aload_n (pc := 38) C 0 dX7_begin_38 rfl rfl ?_
  refine K_X7_187 (pc := 39) C (by assumption) (c_X7_next l P _ _ _ _ h1 n hn (by rw [mBgF, upd_ne (by decide), upd_ne (by decide), upd_ne (by decide), upd_ne (by decide), upd_ne (by decide)]; exact h10) 0 (Nat.zero_le _) (by rw [mBgF, upd_ne (by decide), upd_ne (by decide), upd_ne (by decide), upd_at]; rfl)) ⟨Nat.le_of_ble_eq_true rfl, Nat.le_of_ble_eq_true rfl⟩ ⟨rfl, rfl⟩ ⟨Nat.zero_le _, Nat.zero_le _⟩ (Nat.le_of_ble_eq_true rfl) dX7_begin_39 ?_
  exact X_vret (pc := 42) C (Nat.zero_le _) (Nat.zero_le _) dX7_begin_42 ⟨rfl, rfl⟩

theorem mBgT_16 {τ : XS} {S : Nat → Int32} : (mBgT τ S).1 (.inr 16) = τ.1 (.inr 16) := xA_ne _ _ (by decide)
set_option maxRecDepth 100000 in
set_option maxHeartbeats 4000000 in
theorem c_X7_play (l : Launch) (P : XP) (τ : XS) (S F L : Nat → Int32) (h1 : xI1 P) (n : Nat) (hn : n ≤ 700) (h10 : F 10 = nI n) (hS : MS S) (ch : Nat) (hc8 : ch ≤ 8) (hch : F 6 = nI ch) : XF l yX7_play cX7_play 1 (some .int) rm_X7_play P [.ref (P.2.2.1 (.inr 9))] (mW τ S F L) (some (.int (mEndV (mCs (τ.1 (.inr 16)) n 700 (S, mBg (τ.1 (.inr 16)) n F, L) 0)))) (mEndW (mBgT τ S) (mCs (τ.1 (.inr 16)) n 700 (S, mBg (τ.1 (.inr 16)) n F, L) 0) ch) := by
  refine XM.of (by decide +kernel) (Nat.le_of_ble_eq_true rfl) (fun p e s m args below meth c A C => ?_)
  replace C : XC p s m args meth c P A 1 RX7 cX7_play (some .int) := C
  refine XW.eq (lv' := [(0, _)]) rfl rfl rfl ?_
  refine X_aload_n (pc := 0) C 0 dX7_play_0 rfl rfl ?_
  refine K_X7_271 (pc := 1) C (by assumption) (c_X7_begin l P _ _ _ _ h1 n hn h10) ⟨Nat.le_of_ble_eq_true rfl, Nat.le_of_ble_eq_true rfl⟩ ⟨rfl, rfl⟩ ⟨Nat.zero_le _, Nat.zero_le _⟩ (Nat.le_of_ble_eq_true rfl) dX7_play_1 ?_
  refine X_aload_n (pc := 4) C 0 dX7_play_4 rfl rfl ?_
  refine K_X7_282 (pc := 5) C (by assumption) (c_X7_commands l P _ _ _ _ h1 n (mBg_TK hn h10) hS ch hc8 (by rw [mBg_6]; exact hch) (fun _ a => mBg_16 hn a)) ⟨Nat.le_of_ble_eq_true rfl, Nat.le_of_ble_eq_true rfl⟩ ⟨rfl, rfl⟩ ⟨Nat.zero_le _, Nat.zero_le _⟩ (Nat.le_of_ble_eq_true rfl) dX7_play_5 ?_
  exact X_iret (pc := 8) C (Nat.zero_le _) (Nat.zero_le _) dX7_play_8 ⟨by rw [mBgT_16], by rw [mBgT_16]⟩

set_option maxRecDepth 100000 in
set_option maxHeartbeats 4000000 in
theorem L1_X7_load (C : XC p s m args meth c P A 2 RX7 cX7_load (some .int)) {τ : XS} {S F L : Nat → Int32} (h1 : xI1 P) (kx : XW p l e rm_X7_load s m args below meth c P A 2 0 0 Q (mW τ (mZ S 550) F L) 26 [(0, .ref (P.2.2.1 (.inr 9))), (1, .int (nI (550)))] []) : ∀ (k i : Nat), i + k = 550 → XW p l e rm_X7_load s m args below meth c P A 2 0 0 Q (mW τ (mZ S i) F L) 6 [(0, .ref (P.2.2.1 (.inr 9))), (1, .int (nI (i)))] [] := by
  intro k
  induction k with
  | zero =>
    intro i hi
    obtain rfl : i = 550 := by omega
    refine X_iload_n (pc := 6) C 1 dX7_load_6 rfl rfl ?_
    refine X_sipush (pc := 7) (v := 550) C dX7_load_7 (by decide) ?_
    refine X_icmp_ge (pc := 10) C 26 dX7_load_10 (by decide) (fun h10 => ?_) (fun h10 => ?_)
    · skip
      exact kx
    · exact absurd (show (550 : Int32) ≤ nI 550 from by decide) h10
  | succ k ih =>
    intro i hi
    have hlt : i < 550 := by omega
    refine X_iload_n (pc := 6) C 1 dX7_load_6 rfl rfl ?_
    refine X_sipush (pc := 7) (v := 550) C dX7_load_7 (by decide) ?_
    refine X_icmp_ge (pc := 10) C 26 dX7_load_10 (by decide) (fun h10 => ?_) (fun h10 => ?_)
    · exact absurd (nle (a := 550) (b := i) h10) (by omega)
    · skip
      refine X_aload_n (pc := 13) C 0 dX7_load_13 rfl rfl ?_
      refine G_X7_9 (pc := 14) C (by assumption) dX7_load_14 ?_
      refine X_iload_n (pc := 17) C 1 dX7_load_17 rfl rfl ?_
      refine X_iconst (pc := 18) (v := 0) C dX7_load_18 (by decide) ?_
      refine X_iastN (pc := 19) C (by first | exact h1 _ (by decide) (by decide)) rfl (by omega) (by decide) dX7_load_19 ?_
      rw [mW_u10]
      rw [mZ_s]
      first | refine X_iincN (pc := 20) (lv1 := [(0, _), (1, _)]) C dX7_load_20 rfl (by decide) (by decide) rfl ?_ | refine X_iinc (pc := 20) (kk := 1) (lv1 := [(0, _), (1, _)]) C dX7_load_20 rfl (by decide) (by decide) rfl ?_
      refine X_goto (pc := 23) C 6 dX7_load_23 (by decide) ?_
      exact ih (i + 1) (by omega)

set_option maxRecDepth 100000 in
set_option maxHeartbeats 4000000 in
theorem L2_X7_load (C : XC p s m args meth c P A 2 RX7 cX7_load (some .int)) {τ : XS} {L : Nat → Int32} (h1 : xI1 P) {n : Nat} {v1 : Int32} : ∀ (k i : Nat) (S F : Nat → Int32), i + k = 5 → MS S → TK n F → (F 20 = 0 → mT S = i) → (XW p l e rm_X7_load s m args below meth c P A 2 0 0 Q (mW τ (mTs (τ.1 (.inr 16)) n k S F).1 (mTs (τ.1 (.inr 16)) n k S F).2 L) 114 [(0, .ref (P.2.2.1 (.inr 9))), (1, .int v1)] []) → XW p l e rm_X7_load s m args below meth c P A 2 0 0 Q (mW τ S F L) 98 [(0, .ref (P.2.2.1 (.inr 9))), (1, .int v1)] [] := by
  intro k
  induction k with
  | zero =>
    intro i S F hi hS hT hp kx
    have hz : mIs (τ.1 (.inr 16)) F 1 = 0 := Classical.byContradiction fun q => by
      have h2 := hp (mIs_w q)
      have h3 := hS.1.t4
      omega
    refine X_aload_n (pc := 98) C 0 dX7_load_98 rfl rfl ?_
    refine X_ldcS (pc := 99) (q := 1) C (List.mem_of_getElem? (i := 10) rfl) dX7_load_99 ?_
    refine X_fV (i := .inr 9) (ci := 7) (n := 1) (pc := 101) C [.ref _] (c_X7_is l P _ _ _ _ h1 n hT 1 (by decide)) m_c_X7_is m_m_X7_208 m_i_X7_is m_s_X7_is m_n_X7 ⟨by decide +kernel, by decide +kernel, by decide +kernel⟩ ⟨Nat.le_of_ble_eq_true rfl, Nat.le_of_ble_eq_true rfl⟩ ⟨rfl, rfl⟩ ⟨Nat.zero_le _, Nat.zero_le _⟩ (h1 9 (by decide) (by decide)) rfl rfl rfl rfl (Nat.le_of_ble_eq_true rfl) rfl dX7_load_101 ?_
    refine X_if_eq (pc := 104) C 114 dX7_load_104 (by decide) (fun h104 => ?_) (fun h104 => ?_)
    · skip
      exact kx
    · exact absurd hz h104
  | succ k ih =>
    intro i S F hi hS hT hp kx
    refine X_aload_n (pc := 98) C 0 dX7_load_98 rfl rfl ?_
    refine X_ldcS (pc := 99) (q := 1) C (List.mem_of_getElem? (i := 10) rfl) dX7_load_99 ?_
    refine X_fV (i := .inr 9) (ci := 7) (n := 1) (pc := 101) C [.ref _] (c_X7_is l P _ _ _ _ h1 n hT 1 (by decide)) m_c_X7_is m_m_X7_208 m_i_X7_is m_s_X7_is m_n_X7 ⟨by decide +kernel, by decide +kernel, by decide +kernel⟩ ⟨Nat.le_of_ble_eq_true rfl, Nat.le_of_ble_eq_true rfl⟩ ⟨rfl, rfl⟩ ⟨Nat.zero_le _, Nat.zero_le _⟩ (h1 9 (by decide) (by decide)) rfl rfl rfl rfl (Nat.le_of_ble_eq_true rfl) rfl dX7_load_101 ?_
    refine X_if_eq (pc := 104) C 114 dX7_load_104 (by decide) (fun h104 => ?_) (fun h104 => ?_)
    · rw [mTs, if_pos h104] at kx
      exact kx
    · rw [mTs, if_neg h104] at kx
      refine X_aload_n (pc := 107) C 0 dX7_load_107 rfl rfl ?_
      refine K_X7_276 (pc := 108) C (by assumption) (c_X7_trunkTold l P _ _ _ _ h1 n hT hS.1) ⟨Nat.le_of_ble_eq_true rfl, Nat.le_of_ble_eq_true rfl⟩ ⟨rfl, rfl⟩ ⟨Nat.zero_le _, Nat.zero_le _⟩ (Nat.le_of_ble_eq_true rfl) dX7_load_108 ?_
      refine X_goto (pc := 111) C 98 dX7_load_111 (by decide) ?_
      exact ih (i + 1) _ _ (by omega) hS.ttS (mTtF_TK hT) (fun q => by rw [mTtS_T hS.1 q, hp (mIs_w h104)]) kx

set_option maxRecDepth 100000 in
set_option maxHeartbeats 4000000 in
theorem L3_X7_load (C : XC p s m args meth c P A 2 RX7 cX7_load (some .int)) {τ : XS} (h1 : xI1 P) {n : Nat} {v1 : Int32} : ∀ (k i : Nat) (r : MR), i + k = 16 → MS r.1 → TK n r.2.1 → (r.2.1 20 = 0 → mU r.1 = i) → (XW p l e rm_X7_load s m args below meth c P A 2 0 0 Q (mV τ (mUs (τ.1 (.inr 16)) n k r)) 141 [(0, .ref (P.2.2.1 (.inr 9))), (1, .int v1)] []) → XW p l e rm_X7_load s m args below meth c P A 2 0 0 Q (mV τ r) 125 [(0, .ref (P.2.2.1 (.inr 9))), (1, .int v1)] [] := by
  intro k
  induction k with
  | zero =>
    intro i r hi hS hT hp kx
    have hz : mIs (τ.1 (.inr 16)) r.2.1 2 = 0 := Classical.byContradiction fun q => by
      have h2 := hp (mIs_w q)
      have h3 := hS.1.u15
      omega
    refine XW.eq (σ' := mW τ r.1 r.2.1 r.2.2) rfl rfl rfl ?_
    refine X_aload_n (pc := 125) C 0 dX7_load_125 rfl rfl ?_
    refine X_ldcS (pc := 126) (q := 2) C (List.mem_of_getElem? (i := 11) rfl) dX7_load_126 ?_
    refine X_fV (i := .inr 9) (ci := 7) (n := 1) (pc := 128) C [.ref _] (c_X7_is l P _ _ _ _ h1 n hT 2 (by decide)) m_c_X7_is m_m_X7_208 m_i_X7_is m_s_X7_is m_n_X7 ⟨by decide +kernel, by decide +kernel, by decide +kernel⟩ ⟨Nat.le_of_ble_eq_true rfl, Nat.le_of_ble_eq_true rfl⟩ ⟨rfl, rfl⟩ ⟨Nat.zero_le _, Nat.zero_le _⟩ (h1 9 (by decide) (by decide)) rfl rfl rfl rfl (Nat.le_of_ble_eq_true rfl) rfl dX7_load_128 ?_
    refine X_if_eq (pc := 131) C 141 dX7_load_131 (by decide) (fun h131 => ?_) (fun h131 => ?_)
    · skip
      exact kx
    · exact absurd hz h131
  | succ k ih =>
    intro i r hi hS hT hp kx
    refine XW.eq (σ' := mW τ r.1 r.2.1 r.2.2) rfl rfl rfl ?_
    refine X_aload_n (pc := 125) C 0 dX7_load_125 rfl rfl ?_
    refine X_ldcS (pc := 126) (q := 2) C (List.mem_of_getElem? (i := 11) rfl) dX7_load_126 ?_
    refine X_fV (i := .inr 9) (ci := 7) (n := 1) (pc := 128) C [.ref _] (c_X7_is l P _ _ _ _ h1 n hT 2 (by decide)) m_c_X7_is m_m_X7_208 m_i_X7_is m_s_X7_is m_n_X7 ⟨by decide +kernel, by decide +kernel, by decide +kernel⟩ ⟨Nat.le_of_ble_eq_true rfl, Nat.le_of_ble_eq_true rfl⟩ ⟨rfl, rfl⟩ ⟨Nat.zero_le _, Nat.zero_le _⟩ (h1 9 (by decide) (by decide)) rfl rfl rfl rfl (Nat.le_of_ble_eq_true rfl) rfl dX7_load_128 ?_
    refine X_if_eq (pc := 131) C 141 dX7_load_131 (by decide) (fun h131 => ?_) (fun h131 => ?_)
    · rw [mUs, if_pos h131] at kx
      exact kx
    · rw [mUs, if_neg h131] at kx
      refine X_aload_n (pc := 134) C 0 dX7_load_134 rfl rfl ?_
      refine K_X7_279 (pc := 135) C (by assumption) (c_X7_userTold l P _ _ _ _ h1 n hT hS.1 hS.2.2) ⟨Nat.le_of_ble_eq_true rfl, Nat.le_of_ble_eq_true rfl⟩ ⟨rfl, rfl⟩ ⟨Nat.zero_le _, Nat.zero_le _⟩ (Nat.le_of_ble_eq_true rfl) dX7_load_135 ?_
      refine X_goto (pc := 138) C 125 dX7_load_138 (by decide) ?_
      refine XW.eq (σ' := mV τ (mUtS (τ.1 (.inr 16)) n r.1 r.2.1 r.2.2, mUtF (τ.1 (.inr 16)) n r.1 r.2.1 r.2.2, mUtL (τ.1 (.inr 16)) n r.1 r.2.1 r.2.2)) (by rw [mV]) rfl rfl ?_
      exact ih (i + 1) (mUtS (τ.1 (.inr 16)) n r.1 r.2.1 r.2.2, mUtF (τ.1 (.inr 16)) n r.1 r.2.1 r.2.2, mUtL (τ.1 (.inr 16)) n r.1 r.2.1 r.2.2) (by omega) (by dsimp only; exact hS.ut) (by dsimp only; exact mUtF_TK hT) (fun q => by dsimp only at q ⊢; rw [mUtS_U hS.1 q, hp (mIs_w h131)]) kx

theorem mTs_U {B : Nat → Int32} {n u : Nat} : ∀ (k : Nat) (S F : Nat → Int32), MS S → mU S = u → mU (mTs B n k S F).1 = u
  | 0, S, F, h, hu => hu
  | k + 1, S, F, h, hu => by
    unfold mTs
    by_cases g : mIs B F 1 = 0
    · rw [if_pos g]; exact hu
    · rw [if_neg g]
      refine mTs_U k _ _ h.ttS ?_
      unfold mTtS
      by_cases g2 : mTtF B n S F 20 = 0
      · have h4 : mT S ≤ 4 := h.1.t4
        rw [if_pos g2, mU, upd_ne (by decide), upd_ne (by omega)]; exact hu
      · rw [if_neg g2]; exact hu
set_option maxRecDepth 100000 in
set_option maxHeartbeats 4000000 in
theorem T_X7_load {Post : Option Value → XS → Prop} {mc ms : Nat} (C : XC p s m args meth c P A 2 RX7 cX7_load (some .int)) {τ : XS} {S F L : Nat → Int32} (h1 : xI1 P) (n : Nat) (hT : TK n F) (hp : ¬ F 16 = 0 → 1 ≤ eF F) (ch : Nat) (hc8 : ch ≤ 8) (hch : F 6 = nI ch) (hpp : Post (some (.int (mLdV (mCs (τ.1 (.inr 16)) n 700 (mLdB (τ.1 (.inr 16)) n S F L) 0)))) (mEndW τ (mCs (τ.1 (.inr 16)) n 700 (mLdB (τ.1 (.inr 16)) n S F L) 0) ch)) : XW p l e rm_X7_load s m args below meth c P A 2 0 0 (MQ below (XQ P A Post) args s mc ms A) (mW τ (mZ S 550) F L) 26 [(0, .ref (P.2.2.1 (.inr 9))), (1, .int (nI (550)))] [] := by
  have hkA := mLdA_ok (B := (τ.1 (.inr 16))) (S := S) (L := L) hT
  have hk1 := mU1_ok (B := (τ.1 (.inr 16))) hkA.1 hkA.2.1
  have hkB := mLdB_ok (B := (τ.1 (.inr 16))) (S := S) (L := L) hT
  have UZ : mU (mLdA (τ.1 (.inr 16)) n S F L).1 = 0 := by
    unfold mLdA
    dsimp only
    exact mTs_U 5 _ _ mLdS_ok.1 mLdS_ok.2.1
  refine X_aload_n (pc := 26) C 0 dX7_load_26 rfl rfl ?_
  refine X_aload_n (pc := 27) C 0 dX7_load_27 rfl rfl ?_
  refine X_ldcwS (pc := 28) (q := 0) C (List.mem_of_getElem? (i := 9) rfl) dX7_load_28 ?_
  refine X_fV (i := .inr 9) (ci := 7) (n := 1) (pc := 31) C [.ref _] (c_X7_is l P _ _ _ _ h1 n hT 0 (by decide)) m_c_X7_is m_m_X7_208 m_i_X7_is m_s_X7_is m_n_X7 ⟨by decide +kernel, by decide +kernel, by decide +kernel⟩ ⟨Nat.le_of_ble_eq_true rfl, Nat.le_of_ble_eq_true rfl⟩ ⟨rfl, rfl⟩ ⟨Nat.zero_le _, Nat.zero_le _⟩ (h1 9 (by decide) (by decide)) rfl rfl rfl rfl (Nat.le_of_ble_eq_true rfl) rfl dX7_load_31 ?_
  refine X_if_ne (pc := 34) C 41 dX7_load_34 (by decide) (fun h34 => ?_) (fun h34 => ?_)
  · have g34 : (if mIs (τ.1 (.inr 16)) F 0 = 0 then (1 : Int32) else 0) = 0 := if_neg h34
    refine X_iconst (pc := 41) (v := 0) C dX7_load_41 (by decide) ?_
    refine X_iconst (pc := 42) (v := 1) C dX7_load_42 (by decide) ?_
    refine K_X7_190 (pc := 43) C (by assumption) (c_X7_wrong l P _ _ _ _ h1 _ _) ⟨Nat.le_of_ble_eq_true rfl, Nat.le_of_ble_eq_true rfl⟩ ⟨rfl, rfl⟩ ⟨Nat.zero_le _, Nat.zero_le _⟩ (Nat.le_of_ble_eq_true rfl) dX7_load_43 ?_
    refine XW.eq (σ' := mW τ (mZ S 550) (mWr F (if mIs (τ.1 (.inr 16)) F 0 = 0 then (1 : Int32) else 0) 1) L) (by rw [g34]) rfl rfl ?_
    refine X_aload_n (pc := 46) C 0 dX7_load_46 rfl rfl ?_
    refine K_X7_194 (pc := 47) C (by assumption) (c_X7_go l P _ _ _ _ h1 n (mWr_TK hT)) ⟨Nat.le_of_ble_eq_true rfl, Nat.le_of_ble_eq_true rfl⟩ ⟨rfl, rfl⟩ ⟨Nat.zero_le _, Nat.zero_le _⟩ (Nat.le_of_ble_eq_true rfl) dX7_load_47 ?_
    refine XW.eq (σ' := mW τ (mZ S 550) (mLd1 (τ.1 (.inr 16)) n F) L) (by rfl) rfl rfl ?_
    refine X_aload_n (pc := 50) C 0 dX7_load_50 rfl rfl ?_
    refine G_X7_9 (pc := 51) C (by assumption) dX7_load_51 ?_
    refine X_iconst (pc := 54) (v := 1) C dX7_load_54 (by decide) ?_
    refine X_aload_n (pc := 55) C 0 dX7_load_55 rfl rfl ?_
    refine X_iconst (pc := 56) (v := 1) C dX7_load_56 (by decide) ?_
    refine X_bipush (pc := 57) (v := 6) C dX7_load_57 (by decide) ?_
    refine K_X7_203 (pc := 59) C (by assumption) (c_X7_number l P _ _ _ _ h1 n (mLd1_TK hT) 1 6) ⟨Nat.le_of_ble_eq_true rfl, Nat.le_of_ble_eq_true rfl⟩ ⟨rfl, rfl⟩ ⟨Nat.zero_le _, Nat.zero_le _⟩ (Nat.le_of_ble_eq_true rfl) dX7_load_59 ?_
    refine XW.eq (σ' := mW τ (mZ S 550) (mLd2 (τ.1 (.inr 16)) n F) L) rfl rfl rfl ?_
    refine X_iastN (j := 1) (pc := 62) C (by first | exact h1 _ (by decide) (by decide)) rfl (by omega) (by decide) dX7_load_62 ?_
    rw [mW_u10]
    refine X_aload_n (pc := 63) C 0 dX7_load_63 rfl rfl ?_
    refine G_X7_9 (pc := 64) C (by assumption) dX7_load_64 ?_
    refine X_iconst (pc := 67) (v := 2) C dX7_load_67 (by decide) ?_
    refine X_aload_n (pc := 68) C 0 dX7_load_68 rfl rfl ?_
    refine X_iconst (pc := 69) (v := 1) C dX7_load_69 (by decide) ?_
    refine X_bipush (pc := 70) (v := 6) C dX7_load_70 (by decide) ?_
    refine K_X7_203 (pc := 72) C (by assumption) (c_X7_number l P _ _ _ _ h1 n (mLd2_TK hT) 1 6) ⟨Nat.le_of_ble_eq_true rfl, Nat.le_of_ble_eq_true rfl⟩ ⟨rfl, rfl⟩ ⟨Nat.zero_le _, Nat.zero_le _⟩ (Nat.le_of_ble_eq_true rfl) dX7_load_72 ?_
    refine XW.eq (σ' := mW τ (upd (mZ S 550) 1 (mNbV (mLd1 (τ.1 (.inr 16)) n F) 1 6)) (mLd3 (τ.1 (.inr 16)) n F) L) rfl rfl rfl ?_
    refine X_iastN (j := 2) (pc := 75) C (by first | exact h1 _ (by decide) (by decide)) rfl (by omega) (by decide) dX7_load_75 ?_
    rw [mW_u10]
    refine XW.eq (σ' := mW τ (mLdS (τ.1 (.inr 16)) n S F) (mLd3 (τ.1 (.inr 16)) n F) L) (by rfl) rfl rfl ?_
    refine X_aload_n (pc := 76) C 0 dX7_load_76 rfl rfl ?_
    refine X_aload_n (pc := 77) C 0 dX7_load_77 rfl rfl ?_
    refine G_X7_164 (pc := 78) C (by assumption) dX7_load_78 ?_
    rw [mW_9]
    refine X_iconst (pc := 81) (v := 3) C dX7_load_81 (by decide) ?_
    refine X_icmp_eq (pc := 82) C 89 dX7_load_82 (by decide) (fun h82 => ?_) (fun h82 => ?_)
    · have g82 : (if (mLd3 (τ.1 (.inr 16)) n F) 16 = 3 then (0 : Int32) else 1) = 0 := if_pos h82
      refine X_iconst (pc := 89) (v := 0) C dX7_load_89 (by decide) ?_
      refine X_iconst (pc := 90) (v := 1) C dX7_load_90 (by decide) ?_
      refine K_X7_190 (pc := 91) C (by assumption) (c_X7_wrong l P _ _ _ _ h1 _ _) ⟨Nat.le_of_ble_eq_true rfl, Nat.le_of_ble_eq_true rfl⟩ ⟨rfl, rfl⟩ ⟨Nat.zero_le _, Nat.zero_le _⟩ (Nat.le_of_ble_eq_true rfl) dX7_load_91 ?_
      refine XW.eq (σ' := mW τ (mLdS (τ.1 (.inr 16)) n S F) (mWr (mLd3 (τ.1 (.inr 16)) n F) (if (mLd3 (τ.1 (.inr 16)) n F) 16 = 3 then (0 : Int32) else 1) 1) L) (by rw [g82]) rfl rfl ?_
      refine X_aload_n (pc := 94) C 0 dX7_load_94 rfl rfl ?_
      refine K_X7_194 (pc := 95) C (by assumption) (c_X7_go l P _ _ _ _ h1 n (mWr_TK (mLd3_TK hT))) ⟨Nat.le_of_ble_eq_true rfl, Nat.le_of_ble_eq_true rfl⟩ ⟨rfl, rfl⟩ ⟨Nat.zero_le _, Nat.zero_le _⟩ (Nat.le_of_ble_eq_true rfl) dX7_load_95 ?_
      refine XW.eq (σ' := mW τ (mLdS (τ.1 (.inr 16)) n S F) (mLd4 (τ.1 (.inr 16)) n F) L) (by rfl) rfl rfl ?_
      refine L2_X7_load C h1 (n := n) 5 0 (mLdS (τ.1 (.inr 16)) n S F) (mLd4 (τ.1 (.inr 16)) n F) (by omega) mLdS_ok.1 (mLd4_TK hT) (fun _ => mLdS_ok.2.2.1) ?_
      refine XW.eq (σ' := mW τ (mLdA (τ.1 (.inr 16)) n S F L).1 (mLdA (τ.1 (.inr 16)) n S F L).2.1 (mLdA (τ.1 (.inr 16)) n S F L).2.2) (by rw [mLdA]) rfl rfl ?_
      refine X_aload_n (pc := 114) C 0 dX7_load_114 rfl rfl ?_
      refine G_X7_180 (pc := 115) C (by assumption) dX7_load_115 ?_
      rw [mW_9]
      refine X_if_ne (pc := 118) C 125 dX7_load_118 (by decide) (fun h118 => ?_) (fun h118 => ?_)
      · skip
        refine XW.eq (σ' := mV τ (mU1 (τ.1 (.inr 16)) n (mLdA (τ.1 (.inr 16)) n S F L))) (by first | (rw [mV, mU1, if_neg h118]) | (rw [mV, mU1, if_pos h118])) rfl rfl ?_
        refine L3_X7_load C h1 (n := n) 15 1 (mU1 (τ.1 (.inr 16)) n (mLdA (τ.1 (.inr 16)) n S F L)) (by omega) hk1.1 hk1.2.1 (fun q => by
          have q1 := mU1_0 q
          rw [mU1, if_pos q1] at q ⊢
          dsimp only at q ⊢
          rw [mUtS_U hkA.1.1 q, UZ]) ?_
        refine XW.eq (σ' := mW τ (mLdB (τ.1 (.inr 16)) n S F L).1 (mLdB (τ.1 (.inr 16)) n S F L).2.1 (mLdB (τ.1 (.inr 16)) n S F L).2.2) (by rw [mV, mLdB]) rfl rfl ?_
        refine X_aload_n (pc := 141) C 0 dX7_load_141 rfl rfl ?_
        refine K_X7_282 (pc := 142) C (by assumption) (c_X7_commands l P _ _ _ _ h1 n hkB.2.1 hkB.1 ch hc8 (by rw [hkB.2.2.2.1]; exact hch) (fun a _ => mLdB_p hT hp a)) ⟨Nat.le_of_ble_eq_true rfl, Nat.le_of_ble_eq_true rfl⟩ ⟨rfl, rfl⟩ ⟨Nat.zero_le _, Nat.zero_le _⟩ (Nat.le_of_ble_eq_true rfl) dX7_load_142 ?_
        rw [mr_eta (mLdB (τ.1 (.inr 16)) n S F L)]
        refine X_iconst (pc := 145) (v := (-1)) C dX7_load_145 (by decide) ?_
        refine X_icmp_ne (pc := 146) C 153 dX7_load_146 (by decide) (fun h146 => ?_) (fun h146 => ?_)
        · have g20 : (mCs (τ.1 (.inr 16)) n 700 (mLdB (τ.1 (.inr 16)) n S F L) 0).1.2.1 20 = 0 := Classical.byContradiction fun q => h146 (by rw [mEndV, if_neg q])
          refine X_aload_n (pc := 153) C 0 dX7_load_153 rfl rfl ?_
          refine XW.eq (σ' := mW (mEndT τ (mCs (τ.1 (.inr 16)) n 700 (mLdB (τ.1 (.inr 16)) n S F L) 0) ch) (mEndS τ (mCs (τ.1 (.inr 16)) n 700 (mLdB (τ.1 (.inr 16)) n S F L) 0)) (mEndF (mCs (τ.1 (.inr 16)) n 700 (mLdB (τ.1 (.inr 16)) n S F L) 0) ch) (mCs (τ.1 (.inr 16)) n 700 (mLdB (τ.1 (.inr 16)) n S F L) 0).1.2.2) (by rw [mEndW]) rfl rfl ?_
          refine G_X7_9 (pc := 154) C (by assumption) dX7_load_154 ?_
          refine X_iconst (pc := 157) (v := 4) C dX7_load_157 (by decide) ?_
          refine X_ialdN (j := 4) (pc := 158) C (by first | exact h1 _ (by decide) (by decide)) rfl (by omega) (by decide) dX7_load_158 ?_
          rw [mW_10]
          rw [show mEndS τ (mCs (τ.1 (.inr 16)) n 700 (mLdB (τ.1 (.inr 16)) n S F L) 0) 4 = (mCs (τ.1 (.inr 16)) n 700 (mLdB (τ.1 (.inr 16)) n S F L) 0).1.1 4 from by rw [mEndS, if_pos g20]]
          exact X_iret (pc := 159) C (Nat.zero_le _) (Nat.zero_le _) dX7_load_159 (by rw [mEndW] at hpp; first | (rw [mLdV, if_pos g20] at hpp; exact hpp) | (rw [mLdV, if_neg g20] at hpp; exact hpp))
        · have g20 : ¬ (mCs (τ.1 (.inr 16)) n 700 (mLdB (τ.1 (.inr 16)) n S F L) 0).1.2.1 20 = 0 := fun q => by
            rw [mEndV, if_pos q] at h146
            have h5 := mCs_le (B := (τ.1 (.inr 16))) (n := n) 700 (mLdB (τ.1 (.inr 16)) n S F L) 0
            exact absurd (show nI (mCs (τ.1 (.inr 16)) n 700 (mLdB (τ.1 (.inr 16)) n S F L) 0).2 < 0 from by rw [h146]; decide) (nI_pos (n31 (by omega)))
          refine X_iconst (pc := 149) (v := (-1)) C dX7_load_149 (by decide) ?_
          refine X_goto (pc := 150) C 159 dX7_load_150 (by decide) ?_
          exact X_iret (pc := 159) C (Nat.zero_le _) (Nat.zero_le _) dX7_load_159 (by rw [mEndW] at hpp; first | (rw [mLdV, if_pos g20] at hpp; exact hpp) | (rw [mLdV, if_neg g20] at hpp; exact hpp))
      · skip
        refine X_aload_n (pc := 121) C 0 dX7_load_121 rfl rfl ?_
        refine K_X7_279 (pc := 122) C (by assumption) (c_X7_userTold l P _ _ _ _ h1 n hkA.2.1 hkA.1.1 hkA.1.2.2) ⟨Nat.le_of_ble_eq_true rfl, Nat.le_of_ble_eq_true rfl⟩ ⟨rfl, rfl⟩ ⟨Nat.zero_le _, Nat.zero_le _⟩ (Nat.le_of_ble_eq_true rfl) dX7_load_122 ?_
        refine XW.eq (σ' := mV τ (mU1 (τ.1 (.inr 16)) n (mLdA (τ.1 (.inr 16)) n S F L))) (by first | (rw [mV, mU1, if_neg h118]) | (rw [mV, mU1, if_pos h118])) rfl rfl ?_
        refine L3_X7_load C h1 (n := n) 15 1 (mU1 (τ.1 (.inr 16)) n (mLdA (τ.1 (.inr 16)) n S F L)) (by omega) hk1.1 hk1.2.1 (fun q => by
          have q1 := mU1_0 q
          rw [mU1, if_pos q1] at q ⊢
          dsimp only at q ⊢
          rw [mUtS_U hkA.1.1 q, UZ]) ?_
        refine XW.eq (σ' := mW τ (mLdB (τ.1 (.inr 16)) n S F L).1 (mLdB (τ.1 (.inr 16)) n S F L).2.1 (mLdB (τ.1 (.inr 16)) n S F L).2.2) (by rw [mV, mLdB]) rfl rfl ?_
        refine X_aload_n (pc := 141) C 0 dX7_load_141 rfl rfl ?_
        refine K_X7_282 (pc := 142) C (by assumption) (c_X7_commands l P _ _ _ _ h1 n hkB.2.1 hkB.1 ch hc8 (by rw [hkB.2.2.2.1]; exact hch) (fun a _ => mLdB_p hT hp a)) ⟨Nat.le_of_ble_eq_true rfl, Nat.le_of_ble_eq_true rfl⟩ ⟨rfl, rfl⟩ ⟨Nat.zero_le _, Nat.zero_le _⟩ (Nat.le_of_ble_eq_true rfl) dX7_load_142 ?_
        rw [mr_eta (mLdB (τ.1 (.inr 16)) n S F L)]
        refine X_iconst (pc := 145) (v := (-1)) C dX7_load_145 (by decide) ?_
        refine X_icmp_ne (pc := 146) C 153 dX7_load_146 (by decide) (fun h146 => ?_) (fun h146 => ?_)
        · have g20 : (mCs (τ.1 (.inr 16)) n 700 (mLdB (τ.1 (.inr 16)) n S F L) 0).1.2.1 20 = 0 := Classical.byContradiction fun q => h146 (by rw [mEndV, if_neg q])
          refine X_aload_n (pc := 153) C 0 dX7_load_153 rfl rfl ?_
          refine XW.eq (σ' := mW (mEndT τ (mCs (τ.1 (.inr 16)) n 700 (mLdB (τ.1 (.inr 16)) n S F L) 0) ch) (mEndS τ (mCs (τ.1 (.inr 16)) n 700 (mLdB (τ.1 (.inr 16)) n S F L) 0)) (mEndF (mCs (τ.1 (.inr 16)) n 700 (mLdB (τ.1 (.inr 16)) n S F L) 0) ch) (mCs (τ.1 (.inr 16)) n 700 (mLdB (τ.1 (.inr 16)) n S F L) 0).1.2.2) (by rw [mEndW]) rfl rfl ?_
          refine G_X7_9 (pc := 154) C (by assumption) dX7_load_154 ?_
          refine X_iconst (pc := 157) (v := 4) C dX7_load_157 (by decide) ?_
          refine X_ialdN (j := 4) (pc := 158) C (by first | exact h1 _ (by decide) (by decide)) rfl (by omega) (by decide) dX7_load_158 ?_
          rw [mW_10]
          rw [show mEndS τ (mCs (τ.1 (.inr 16)) n 700 (mLdB (τ.1 (.inr 16)) n S F L) 0) 4 = (mCs (τ.1 (.inr 16)) n 700 (mLdB (τ.1 (.inr 16)) n S F L) 0).1.1 4 from by rw [mEndS, if_pos g20]]
          exact X_iret (pc := 159) C (Nat.zero_le _) (Nat.zero_le _) dX7_load_159 (by rw [mEndW] at hpp; first | (rw [mLdV, if_pos g20] at hpp; exact hpp) | (rw [mLdV, if_neg g20] at hpp; exact hpp))
        · have g20 : ¬ (mCs (τ.1 (.inr 16)) n 700 (mLdB (τ.1 (.inr 16)) n S F L) 0).1.2.1 20 = 0 := fun q => by
            rw [mEndV, if_pos q] at h146
            have h5 := mCs_le (B := (τ.1 (.inr 16))) (n := n) 700 (mLdB (τ.1 (.inr 16)) n S F L) 0
            exact absurd (show nI (mCs (τ.1 (.inr 16)) n 700 (mLdB (τ.1 (.inr 16)) n S F L) 0).2 < 0 from by rw [h146]; decide) (nI_pos (n31 (by omega)))
          refine X_iconst (pc := 149) (v := (-1)) C dX7_load_149 (by decide) ?_
          refine X_goto (pc := 150) C 159 dX7_load_150 (by decide) ?_
          exact X_iret (pc := 159) C (Nat.zero_le _) (Nat.zero_le _) dX7_load_159 (by rw [mEndW] at hpp; first | (rw [mLdV, if_pos g20] at hpp; exact hpp) | (rw [mLdV, if_neg g20] at hpp; exact hpp))
    · have g82 : (if (mLd3 (τ.1 (.inr 16)) n F) 16 = 3 then (0 : Int32) else 1) = 1 := if_neg h82
      refine X_iconst (pc := 85) (v := 1) C dX7_load_85 (by decide) ?_
      refine X_goto (pc := 86) C 90 dX7_load_86 (by decide) ?_
      refine X_iconst (pc := 90) (v := 1) C dX7_load_90 (by decide) ?_
      refine K_X7_190 (pc := 91) C (by assumption) (c_X7_wrong l P _ _ _ _ h1 _ _) ⟨Nat.le_of_ble_eq_true rfl, Nat.le_of_ble_eq_true rfl⟩ ⟨rfl, rfl⟩ ⟨Nat.zero_le _, Nat.zero_le _⟩ (Nat.le_of_ble_eq_true rfl) dX7_load_91 ?_
      refine XW.eq (σ' := mW τ (mLdS (τ.1 (.inr 16)) n S F) (mWr (mLd3 (τ.1 (.inr 16)) n F) (if (mLd3 (τ.1 (.inr 16)) n F) 16 = 3 then (0 : Int32) else 1) 1) L) (by rw [g82]) rfl rfl ?_
      refine X_aload_n (pc := 94) C 0 dX7_load_94 rfl rfl ?_
      refine K_X7_194 (pc := 95) C (by assumption) (c_X7_go l P _ _ _ _ h1 n (mWr_TK (mLd3_TK hT))) ⟨Nat.le_of_ble_eq_true rfl, Nat.le_of_ble_eq_true rfl⟩ ⟨rfl, rfl⟩ ⟨Nat.zero_le _, Nat.zero_le _⟩ (Nat.le_of_ble_eq_true rfl) dX7_load_95 ?_
      refine XW.eq (σ' := mW τ (mLdS (τ.1 (.inr 16)) n S F) (mLd4 (τ.1 (.inr 16)) n F) L) (by rfl) rfl rfl ?_
      refine L2_X7_load C h1 (n := n) 5 0 (mLdS (τ.1 (.inr 16)) n S F) (mLd4 (τ.1 (.inr 16)) n F) (by omega) mLdS_ok.1 (mLd4_TK hT) (fun _ => mLdS_ok.2.2.1) ?_
      refine XW.eq (σ' := mW τ (mLdA (τ.1 (.inr 16)) n S F L).1 (mLdA (τ.1 (.inr 16)) n S F L).2.1 (mLdA (τ.1 (.inr 16)) n S F L).2.2) (by rw [mLdA]) rfl rfl ?_
      refine X_aload_n (pc := 114) C 0 dX7_load_114 rfl rfl ?_
      refine G_X7_180 (pc := 115) C (by assumption) dX7_load_115 ?_
      rw [mW_9]
      refine X_if_ne (pc := 118) C 125 dX7_load_118 (by decide) (fun h118 => ?_) (fun h118 => ?_)
      · skip
        refine XW.eq (σ' := mV τ (mU1 (τ.1 (.inr 16)) n (mLdA (τ.1 (.inr 16)) n S F L))) (by first | (rw [mV, mU1, if_neg h118]) | (rw [mV, mU1, if_pos h118])) rfl rfl ?_
        refine L3_X7_load C h1 (n := n) 15 1 (mU1 (τ.1 (.inr 16)) n (mLdA (τ.1 (.inr 16)) n S F L)) (by omega) hk1.1 hk1.2.1 (fun q => by
          have q1 := mU1_0 q
          rw [mU1, if_pos q1] at q ⊢
          dsimp only at q ⊢
          rw [mUtS_U hkA.1.1 q, UZ]) ?_
        refine XW.eq (σ' := mW τ (mLdB (τ.1 (.inr 16)) n S F L).1 (mLdB (τ.1 (.inr 16)) n S F L).2.1 (mLdB (τ.1 (.inr 16)) n S F L).2.2) (by rw [mV, mLdB]) rfl rfl ?_
        refine X_aload_n (pc := 141) C 0 dX7_load_141 rfl rfl ?_
        refine K_X7_282 (pc := 142) C (by assumption) (c_X7_commands l P _ _ _ _ h1 n hkB.2.1 hkB.1 ch hc8 (by rw [hkB.2.2.2.1]; exact hch) (fun a _ => mLdB_p hT hp a)) ⟨Nat.le_of_ble_eq_true rfl, Nat.le_of_ble_eq_true rfl⟩ ⟨rfl, rfl⟩ ⟨Nat.zero_le _, Nat.zero_le _⟩ (Nat.le_of_ble_eq_true rfl) dX7_load_142 ?_
        rw [mr_eta (mLdB (τ.1 (.inr 16)) n S F L)]
        refine X_iconst (pc := 145) (v := (-1)) C dX7_load_145 (by decide) ?_
        refine X_icmp_ne (pc := 146) C 153 dX7_load_146 (by decide) (fun h146 => ?_) (fun h146 => ?_)
        · have g20 : (mCs (τ.1 (.inr 16)) n 700 (mLdB (τ.1 (.inr 16)) n S F L) 0).1.2.1 20 = 0 := Classical.byContradiction fun q => h146 (by rw [mEndV, if_neg q])
          refine X_aload_n (pc := 153) C 0 dX7_load_153 rfl rfl ?_
          refine XW.eq (σ' := mW (mEndT τ (mCs (τ.1 (.inr 16)) n 700 (mLdB (τ.1 (.inr 16)) n S F L) 0) ch) (mEndS τ (mCs (τ.1 (.inr 16)) n 700 (mLdB (τ.1 (.inr 16)) n S F L) 0)) (mEndF (mCs (τ.1 (.inr 16)) n 700 (mLdB (τ.1 (.inr 16)) n S F L) 0) ch) (mCs (τ.1 (.inr 16)) n 700 (mLdB (τ.1 (.inr 16)) n S F L) 0).1.2.2) (by rw [mEndW]) rfl rfl ?_
          refine G_X7_9 (pc := 154) C (by assumption) dX7_load_154 ?_
          refine X_iconst (pc := 157) (v := 4) C dX7_load_157 (by decide) ?_
          refine X_ialdN (j := 4) (pc := 158) C (by first | exact h1 _ (by decide) (by decide)) rfl (by omega) (by decide) dX7_load_158 ?_
          rw [mW_10]
          rw [show mEndS τ (mCs (τ.1 (.inr 16)) n 700 (mLdB (τ.1 (.inr 16)) n S F L) 0) 4 = (mCs (τ.1 (.inr 16)) n 700 (mLdB (τ.1 (.inr 16)) n S F L) 0).1.1 4 from by rw [mEndS, if_pos g20]]
          exact X_iret (pc := 159) C (Nat.zero_le _) (Nat.zero_le _) dX7_load_159 (by rw [mEndW] at hpp; first | (rw [mLdV, if_pos g20] at hpp; exact hpp) | (rw [mLdV, if_neg g20] at hpp; exact hpp))
        · have g20 : ¬ (mCs (τ.1 (.inr 16)) n 700 (mLdB (τ.1 (.inr 16)) n S F L) 0).1.2.1 20 = 0 := fun q => by
            rw [mEndV, if_pos q] at h146
            have h5 := mCs_le (B := (τ.1 (.inr 16))) (n := n) 700 (mLdB (τ.1 (.inr 16)) n S F L) 0
            exact absurd (show nI (mCs (τ.1 (.inr 16)) n 700 (mLdB (τ.1 (.inr 16)) n S F L) 0).2 < 0 from by rw [h146]; decide) (nI_pos (n31 (by omega)))
          refine X_iconst (pc := 149) (v := (-1)) C dX7_load_149 (by decide) ?_
          refine X_goto (pc := 150) C 159 dX7_load_150 (by decide) ?_
          exact X_iret (pc := 159) C (Nat.zero_le _) (Nat.zero_le _) dX7_load_159 (by rw [mEndW] at hpp; first | (rw [mLdV, if_pos g20] at hpp; exact hpp) | (rw [mLdV, if_neg g20] at hpp; exact hpp))
      · skip
        refine X_aload_n (pc := 121) C 0 dX7_load_121 rfl rfl ?_
        refine K_X7_279 (pc := 122) C (by assumption) (c_X7_userTold l P _ _ _ _ h1 n hkA.2.1 hkA.1.1 hkA.1.2.2) ⟨Nat.le_of_ble_eq_true rfl, Nat.le_of_ble_eq_true rfl⟩ ⟨rfl, rfl⟩ ⟨Nat.zero_le _, Nat.zero_le _⟩ (Nat.le_of_ble_eq_true rfl) dX7_load_122 ?_
        refine XW.eq (σ' := mV τ (mU1 (τ.1 (.inr 16)) n (mLdA (τ.1 (.inr 16)) n S F L))) (by first | (rw [mV, mU1, if_neg h118]) | (rw [mV, mU1, if_pos h118])) rfl rfl ?_
        refine L3_X7_load C h1 (n := n) 15 1 (mU1 (τ.1 (.inr 16)) n (mLdA (τ.1 (.inr 16)) n S F L)) (by omega) hk1.1 hk1.2.1 (fun q => by
          have q1 := mU1_0 q
          rw [mU1, if_pos q1] at q ⊢
          dsimp only at q ⊢
          rw [mUtS_U hkA.1.1 q, UZ]) ?_
        refine XW.eq (σ' := mW τ (mLdB (τ.1 (.inr 16)) n S F L).1 (mLdB (τ.1 (.inr 16)) n S F L).2.1 (mLdB (τ.1 (.inr 16)) n S F L).2.2) (by rw [mV, mLdB]) rfl rfl ?_
        refine X_aload_n (pc := 141) C 0 dX7_load_141 rfl rfl ?_
        refine K_X7_282 (pc := 142) C (by assumption) (c_X7_commands l P _ _ _ _ h1 n hkB.2.1 hkB.1 ch hc8 (by rw [hkB.2.2.2.1]; exact hch) (fun a _ => mLdB_p hT hp a)) ⟨Nat.le_of_ble_eq_true rfl, Nat.le_of_ble_eq_true rfl⟩ ⟨rfl, rfl⟩ ⟨Nat.zero_le _, Nat.zero_le _⟩ (Nat.le_of_ble_eq_true rfl) dX7_load_142 ?_
        rw [mr_eta (mLdB (τ.1 (.inr 16)) n S F L)]
        refine X_iconst (pc := 145) (v := (-1)) C dX7_load_145 (by decide) ?_
        refine X_icmp_ne (pc := 146) C 153 dX7_load_146 (by decide) (fun h146 => ?_) (fun h146 => ?_)
        · have g20 : (mCs (τ.1 (.inr 16)) n 700 (mLdB (τ.1 (.inr 16)) n S F L) 0).1.2.1 20 = 0 := Classical.byContradiction fun q => h146 (by rw [mEndV, if_neg q])
          refine X_aload_n (pc := 153) C 0 dX7_load_153 rfl rfl ?_
          refine XW.eq (σ' := mW (mEndT τ (mCs (τ.1 (.inr 16)) n 700 (mLdB (τ.1 (.inr 16)) n S F L) 0) ch) (mEndS τ (mCs (τ.1 (.inr 16)) n 700 (mLdB (τ.1 (.inr 16)) n S F L) 0)) (mEndF (mCs (τ.1 (.inr 16)) n 700 (mLdB (τ.1 (.inr 16)) n S F L) 0) ch) (mCs (τ.1 (.inr 16)) n 700 (mLdB (τ.1 (.inr 16)) n S F L) 0).1.2.2) (by rw [mEndW]) rfl rfl ?_
          refine G_X7_9 (pc := 154) C (by assumption) dX7_load_154 ?_
          refine X_iconst (pc := 157) (v := 4) C dX7_load_157 (by decide) ?_
          refine X_ialdN (j := 4) (pc := 158) C (by first | exact h1 _ (by decide) (by decide)) rfl (by omega) (by decide) dX7_load_158 ?_
          rw [mW_10]
          rw [show mEndS τ (mCs (τ.1 (.inr 16)) n 700 (mLdB (τ.1 (.inr 16)) n S F L) 0) 4 = (mCs (τ.1 (.inr 16)) n 700 (mLdB (τ.1 (.inr 16)) n S F L) 0).1.1 4 from by rw [mEndS, if_pos g20]]
          exact X_iret (pc := 159) C (Nat.zero_le _) (Nat.zero_le _) dX7_load_159 (by rw [mEndW] at hpp; first | (rw [mLdV, if_pos g20] at hpp; exact hpp) | (rw [mLdV, if_neg g20] at hpp; exact hpp))
        · have g20 : ¬ (mCs (τ.1 (.inr 16)) n 700 (mLdB (τ.1 (.inr 16)) n S F L) 0).1.2.1 20 = 0 := fun q => by
            rw [mEndV, if_pos q] at h146
            have h5 := mCs_le (B := (τ.1 (.inr 16))) (n := n) 700 (mLdB (τ.1 (.inr 16)) n S F L) 0
            exact absurd (show nI (mCs (τ.1 (.inr 16)) n 700 (mLdB (τ.1 (.inr 16)) n S F L) 0).2 < 0 from by rw [h146]; decide) (nI_pos (n31 (by omega)))
          refine X_iconst (pc := 149) (v := (-1)) C dX7_load_149 (by decide) ?_
          refine X_goto (pc := 150) C 159 dX7_load_150 (by decide) ?_
          exact X_iret (pc := 159) C (Nat.zero_le _) (Nat.zero_le _) dX7_load_159 (by rw [mEndW] at hpp; first | (rw [mLdV, if_pos g20] at hpp; exact hpp) | (rw [mLdV, if_neg g20] at hpp; exact hpp))
  · have g34 : (if mIs (τ.1 (.inr 16)) F 0 = 0 then (1 : Int32) else 0) = 1 := if_pos h34
    refine X_iconst (pc := 37) (v := 1) C dX7_load_37 (by decide) ?_
    refine X_goto (pc := 38) C 42 dX7_load_38 (by decide) ?_
    refine X_iconst (pc := 42) (v := 1) C dX7_load_42 (by decide) ?_
    refine K_X7_190 (pc := 43) C (by assumption) (c_X7_wrong l P _ _ _ _ h1 _ _) ⟨Nat.le_of_ble_eq_true rfl, Nat.le_of_ble_eq_true rfl⟩ ⟨rfl, rfl⟩ ⟨Nat.zero_le _, Nat.zero_le _⟩ (Nat.le_of_ble_eq_true rfl) dX7_load_43 ?_
    refine XW.eq (σ' := mW τ (mZ S 550) (mWr F (if mIs (τ.1 (.inr 16)) F 0 = 0 then (1 : Int32) else 0) 1) L) (by rw [g34]) rfl rfl ?_
    refine X_aload_n (pc := 46) C 0 dX7_load_46 rfl rfl ?_
    refine K_X7_194 (pc := 47) C (by assumption) (c_X7_go l P _ _ _ _ h1 n (mWr_TK hT)) ⟨Nat.le_of_ble_eq_true rfl, Nat.le_of_ble_eq_true rfl⟩ ⟨rfl, rfl⟩ ⟨Nat.zero_le _, Nat.zero_le _⟩ (Nat.le_of_ble_eq_true rfl) dX7_load_47 ?_
    refine XW.eq (σ' := mW τ (mZ S 550) (mLd1 (τ.1 (.inr 16)) n F) L) (by rfl) rfl rfl ?_
    refine X_aload_n (pc := 50) C 0 dX7_load_50 rfl rfl ?_
    refine G_X7_9 (pc := 51) C (by assumption) dX7_load_51 ?_
    refine X_iconst (pc := 54) (v := 1) C dX7_load_54 (by decide) ?_
    refine X_aload_n (pc := 55) C 0 dX7_load_55 rfl rfl ?_
    refine X_iconst (pc := 56) (v := 1) C dX7_load_56 (by decide) ?_
    refine X_bipush (pc := 57) (v := 6) C dX7_load_57 (by decide) ?_
    refine K_X7_203 (pc := 59) C (by assumption) (c_X7_number l P _ _ _ _ h1 n (mLd1_TK hT) 1 6) ⟨Nat.le_of_ble_eq_true rfl, Nat.le_of_ble_eq_true rfl⟩ ⟨rfl, rfl⟩ ⟨Nat.zero_le _, Nat.zero_le _⟩ (Nat.le_of_ble_eq_true rfl) dX7_load_59 ?_
    refine XW.eq (σ' := mW τ (mZ S 550) (mLd2 (τ.1 (.inr 16)) n F) L) rfl rfl rfl ?_
    refine X_iastN (j := 1) (pc := 62) C (by first | exact h1 _ (by decide) (by decide)) rfl (by omega) (by decide) dX7_load_62 ?_
    rw [mW_u10]
    refine X_aload_n (pc := 63) C 0 dX7_load_63 rfl rfl ?_
    refine G_X7_9 (pc := 64) C (by assumption) dX7_load_64 ?_
    refine X_iconst (pc := 67) (v := 2) C dX7_load_67 (by decide) ?_
    refine X_aload_n (pc := 68) C 0 dX7_load_68 rfl rfl ?_
    refine X_iconst (pc := 69) (v := 1) C dX7_load_69 (by decide) ?_
    refine X_bipush (pc := 70) (v := 6) C dX7_load_70 (by decide) ?_
    refine K_X7_203 (pc := 72) C (by assumption) (c_X7_number l P _ _ _ _ h1 n (mLd2_TK hT) 1 6) ⟨Nat.le_of_ble_eq_true rfl, Nat.le_of_ble_eq_true rfl⟩ ⟨rfl, rfl⟩ ⟨Nat.zero_le _, Nat.zero_le _⟩ (Nat.le_of_ble_eq_true rfl) dX7_load_72 ?_
    refine XW.eq (σ' := mW τ (upd (mZ S 550) 1 (mNbV (mLd1 (τ.1 (.inr 16)) n F) 1 6)) (mLd3 (τ.1 (.inr 16)) n F) L) rfl rfl rfl ?_
    refine X_iastN (j := 2) (pc := 75) C (by first | exact h1 _ (by decide) (by decide)) rfl (by omega) (by decide) dX7_load_75 ?_
    rw [mW_u10]
    refine XW.eq (σ' := mW τ (mLdS (τ.1 (.inr 16)) n S F) (mLd3 (τ.1 (.inr 16)) n F) L) (by rfl) rfl rfl ?_
    refine X_aload_n (pc := 76) C 0 dX7_load_76 rfl rfl ?_
    refine X_aload_n (pc := 77) C 0 dX7_load_77 rfl rfl ?_
    refine G_X7_164 (pc := 78) C (by assumption) dX7_load_78 ?_
    rw [mW_9]
    refine X_iconst (pc := 81) (v := 3) C dX7_load_81 (by decide) ?_
    refine X_icmp_eq (pc := 82) C 89 dX7_load_82 (by decide) (fun h82 => ?_) (fun h82 => ?_)
    · have g82 : (if (mLd3 (τ.1 (.inr 16)) n F) 16 = 3 then (0 : Int32) else 1) = 0 := if_pos h82
      refine X_iconst (pc := 89) (v := 0) C dX7_load_89 (by decide) ?_
      refine X_iconst (pc := 90) (v := 1) C dX7_load_90 (by decide) ?_
      refine K_X7_190 (pc := 91) C (by assumption) (c_X7_wrong l P _ _ _ _ h1 _ _) ⟨Nat.le_of_ble_eq_true rfl, Nat.le_of_ble_eq_true rfl⟩ ⟨rfl, rfl⟩ ⟨Nat.zero_le _, Nat.zero_le _⟩ (Nat.le_of_ble_eq_true rfl) dX7_load_91 ?_
      refine XW.eq (σ' := mW τ (mLdS (τ.1 (.inr 16)) n S F) (mWr (mLd3 (τ.1 (.inr 16)) n F) (if (mLd3 (τ.1 (.inr 16)) n F) 16 = 3 then (0 : Int32) else 1) 1) L) (by rw [g82]) rfl rfl ?_
      refine X_aload_n (pc := 94) C 0 dX7_load_94 rfl rfl ?_
      refine K_X7_194 (pc := 95) C (by assumption) (c_X7_go l P _ _ _ _ h1 n (mWr_TK (mLd3_TK hT))) ⟨Nat.le_of_ble_eq_true rfl, Nat.le_of_ble_eq_true rfl⟩ ⟨rfl, rfl⟩ ⟨Nat.zero_le _, Nat.zero_le _⟩ (Nat.le_of_ble_eq_true rfl) dX7_load_95 ?_
      refine XW.eq (σ' := mW τ (mLdS (τ.1 (.inr 16)) n S F) (mLd4 (τ.1 (.inr 16)) n F) L) (by rfl) rfl rfl ?_
      refine L2_X7_load C h1 (n := n) 5 0 (mLdS (τ.1 (.inr 16)) n S F) (mLd4 (τ.1 (.inr 16)) n F) (by omega) mLdS_ok.1 (mLd4_TK hT) (fun _ => mLdS_ok.2.2.1) ?_
      refine XW.eq (σ' := mW τ (mLdA (τ.1 (.inr 16)) n S F L).1 (mLdA (τ.1 (.inr 16)) n S F L).2.1 (mLdA (τ.1 (.inr 16)) n S F L).2.2) (by rw [mLdA]) rfl rfl ?_
      refine X_aload_n (pc := 114) C 0 dX7_load_114 rfl rfl ?_
      refine G_X7_180 (pc := 115) C (by assumption) dX7_load_115 ?_
      rw [mW_9]
      refine X_if_ne (pc := 118) C 125 dX7_load_118 (by decide) (fun h118 => ?_) (fun h118 => ?_)
      · skip
        refine XW.eq (σ' := mV τ (mU1 (τ.1 (.inr 16)) n (mLdA (τ.1 (.inr 16)) n S F L))) (by first | (rw [mV, mU1, if_neg h118]) | (rw [mV, mU1, if_pos h118])) rfl rfl ?_
        refine L3_X7_load C h1 (n := n) 15 1 (mU1 (τ.1 (.inr 16)) n (mLdA (τ.1 (.inr 16)) n S F L)) (by omega) hk1.1 hk1.2.1 (fun q => by
          have q1 := mU1_0 q
          rw [mU1, if_pos q1] at q ⊢
          dsimp only at q ⊢
          rw [mUtS_U hkA.1.1 q, UZ]) ?_
        refine XW.eq (σ' := mW τ (mLdB (τ.1 (.inr 16)) n S F L).1 (mLdB (τ.1 (.inr 16)) n S F L).2.1 (mLdB (τ.1 (.inr 16)) n S F L).2.2) (by rw [mV, mLdB]) rfl rfl ?_
        refine X_aload_n (pc := 141) C 0 dX7_load_141 rfl rfl ?_
        refine K_X7_282 (pc := 142) C (by assumption) (c_X7_commands l P _ _ _ _ h1 n hkB.2.1 hkB.1 ch hc8 (by rw [hkB.2.2.2.1]; exact hch) (fun a _ => mLdB_p hT hp a)) ⟨Nat.le_of_ble_eq_true rfl, Nat.le_of_ble_eq_true rfl⟩ ⟨rfl, rfl⟩ ⟨Nat.zero_le _, Nat.zero_le _⟩ (Nat.le_of_ble_eq_true rfl) dX7_load_142 ?_
        rw [mr_eta (mLdB (τ.1 (.inr 16)) n S F L)]
        refine X_iconst (pc := 145) (v := (-1)) C dX7_load_145 (by decide) ?_
        refine X_icmp_ne (pc := 146) C 153 dX7_load_146 (by decide) (fun h146 => ?_) (fun h146 => ?_)
        · have g20 : (mCs (τ.1 (.inr 16)) n 700 (mLdB (τ.1 (.inr 16)) n S F L) 0).1.2.1 20 = 0 := Classical.byContradiction fun q => h146 (by rw [mEndV, if_neg q])
          refine X_aload_n (pc := 153) C 0 dX7_load_153 rfl rfl ?_
          refine XW.eq (σ' := mW (mEndT τ (mCs (τ.1 (.inr 16)) n 700 (mLdB (τ.1 (.inr 16)) n S F L) 0) ch) (mEndS τ (mCs (τ.1 (.inr 16)) n 700 (mLdB (τ.1 (.inr 16)) n S F L) 0)) (mEndF (mCs (τ.1 (.inr 16)) n 700 (mLdB (τ.1 (.inr 16)) n S F L) 0) ch) (mCs (τ.1 (.inr 16)) n 700 (mLdB (τ.1 (.inr 16)) n S F L) 0).1.2.2) (by rw [mEndW]) rfl rfl ?_
          refine G_X7_9 (pc := 154) C (by assumption) dX7_load_154 ?_
          refine X_iconst (pc := 157) (v := 4) C dX7_load_157 (by decide) ?_
          refine X_ialdN (j := 4) (pc := 158) C (by first | exact h1 _ (by decide) (by decide)) rfl (by omega) (by decide) dX7_load_158 ?_
          rw [mW_10]
          rw [show mEndS τ (mCs (τ.1 (.inr 16)) n 700 (mLdB (τ.1 (.inr 16)) n S F L) 0) 4 = (mCs (τ.1 (.inr 16)) n 700 (mLdB (τ.1 (.inr 16)) n S F L) 0).1.1 4 from by rw [mEndS, if_pos g20]]
          exact X_iret (pc := 159) C (Nat.zero_le _) (Nat.zero_le _) dX7_load_159 (by rw [mEndW] at hpp; first | (rw [mLdV, if_pos g20] at hpp; exact hpp) | (rw [mLdV, if_neg g20] at hpp; exact hpp))
        · have g20 : ¬ (mCs (τ.1 (.inr 16)) n 700 (mLdB (τ.1 (.inr 16)) n S F L) 0).1.2.1 20 = 0 := fun q => by
            rw [mEndV, if_pos q] at h146
            have h5 := mCs_le (B := (τ.1 (.inr 16))) (n := n) 700 (mLdB (τ.1 (.inr 16)) n S F L) 0
            exact absurd (show nI (mCs (τ.1 (.inr 16)) n 700 (mLdB (τ.1 (.inr 16)) n S F L) 0).2 < 0 from by rw [h146]; decide) (nI_pos (n31 (by omega)))
          refine X_iconst (pc := 149) (v := (-1)) C dX7_load_149 (by decide) ?_
          refine X_goto (pc := 150) C 159 dX7_load_150 (by decide) ?_
          exact X_iret (pc := 159) C (Nat.zero_le _) (Nat.zero_le _) dX7_load_159 (by rw [mEndW] at hpp; first | (rw [mLdV, if_pos g20] at hpp; exact hpp) | (rw [mLdV, if_neg g20] at hpp; exact hpp))
      · skip
        refine X_aload_n (pc := 121) C 0 dX7_load_121 rfl rfl ?_
        refine K_X7_279 (pc := 122) C (by assumption) (c_X7_userTold l P _ _ _ _ h1 n hkA.2.1 hkA.1.1 hkA.1.2.2) ⟨Nat.le_of_ble_eq_true rfl, Nat.le_of_ble_eq_true rfl⟩ ⟨rfl, rfl⟩ ⟨Nat.zero_le _, Nat.zero_le _⟩ (Nat.le_of_ble_eq_true rfl) dX7_load_122 ?_
        refine XW.eq (σ' := mV τ (mU1 (τ.1 (.inr 16)) n (mLdA (τ.1 (.inr 16)) n S F L))) (by first | (rw [mV, mU1, if_neg h118]) | (rw [mV, mU1, if_pos h118])) rfl rfl ?_
        refine L3_X7_load C h1 (n := n) 15 1 (mU1 (τ.1 (.inr 16)) n (mLdA (τ.1 (.inr 16)) n S F L)) (by omega) hk1.1 hk1.2.1 (fun q => by
          have q1 := mU1_0 q
          rw [mU1, if_pos q1] at q ⊢
          dsimp only at q ⊢
          rw [mUtS_U hkA.1.1 q, UZ]) ?_
        refine XW.eq (σ' := mW τ (mLdB (τ.1 (.inr 16)) n S F L).1 (mLdB (τ.1 (.inr 16)) n S F L).2.1 (mLdB (τ.1 (.inr 16)) n S F L).2.2) (by rw [mV, mLdB]) rfl rfl ?_
        refine X_aload_n (pc := 141) C 0 dX7_load_141 rfl rfl ?_
        refine K_X7_282 (pc := 142) C (by assumption) (c_X7_commands l P _ _ _ _ h1 n hkB.2.1 hkB.1 ch hc8 (by rw [hkB.2.2.2.1]; exact hch) (fun a _ => mLdB_p hT hp a)) ⟨Nat.le_of_ble_eq_true rfl, Nat.le_of_ble_eq_true rfl⟩ ⟨rfl, rfl⟩ ⟨Nat.zero_le _, Nat.zero_le _⟩ (Nat.le_of_ble_eq_true rfl) dX7_load_142 ?_
        rw [mr_eta (mLdB (τ.1 (.inr 16)) n S F L)]
        refine X_iconst (pc := 145) (v := (-1)) C dX7_load_145 (by decide) ?_
        refine X_icmp_ne (pc := 146) C 153 dX7_load_146 (by decide) (fun h146 => ?_) (fun h146 => ?_)
        · have g20 : (mCs (τ.1 (.inr 16)) n 700 (mLdB (τ.1 (.inr 16)) n S F L) 0).1.2.1 20 = 0 := Classical.byContradiction fun q => h146 (by rw [mEndV, if_neg q])
          refine X_aload_n (pc := 153) C 0 dX7_load_153 rfl rfl ?_
          refine XW.eq (σ' := mW (mEndT τ (mCs (τ.1 (.inr 16)) n 700 (mLdB (τ.1 (.inr 16)) n S F L) 0) ch) (mEndS τ (mCs (τ.1 (.inr 16)) n 700 (mLdB (τ.1 (.inr 16)) n S F L) 0)) (mEndF (mCs (τ.1 (.inr 16)) n 700 (mLdB (τ.1 (.inr 16)) n S F L) 0) ch) (mCs (τ.1 (.inr 16)) n 700 (mLdB (τ.1 (.inr 16)) n S F L) 0).1.2.2) (by rw [mEndW]) rfl rfl ?_
          refine G_X7_9 (pc := 154) C (by assumption) dX7_load_154 ?_
          refine X_iconst (pc := 157) (v := 4) C dX7_load_157 (by decide) ?_
          refine X_ialdN (j := 4) (pc := 158) C (by first | exact h1 _ (by decide) (by decide)) rfl (by omega) (by decide) dX7_load_158 ?_
          rw [mW_10]
          rw [show mEndS τ (mCs (τ.1 (.inr 16)) n 700 (mLdB (τ.1 (.inr 16)) n S F L) 0) 4 = (mCs (τ.1 (.inr 16)) n 700 (mLdB (τ.1 (.inr 16)) n S F L) 0).1.1 4 from by rw [mEndS, if_pos g20]]
          exact X_iret (pc := 159) C (Nat.zero_le _) (Nat.zero_le _) dX7_load_159 (by rw [mEndW] at hpp; first | (rw [mLdV, if_pos g20] at hpp; exact hpp) | (rw [mLdV, if_neg g20] at hpp; exact hpp))
        · have g20 : ¬ (mCs (τ.1 (.inr 16)) n 700 (mLdB (τ.1 (.inr 16)) n S F L) 0).1.2.1 20 = 0 := fun q => by
            rw [mEndV, if_pos q] at h146
            have h5 := mCs_le (B := (τ.1 (.inr 16))) (n := n) 700 (mLdB (τ.1 (.inr 16)) n S F L) 0
            exact absurd (show nI (mCs (τ.1 (.inr 16)) n 700 (mLdB (τ.1 (.inr 16)) n S F L) 0).2 < 0 from by rw [h146]; decide) (nI_pos (n31 (by omega)))
          refine X_iconst (pc := 149) (v := (-1)) C dX7_load_149 (by decide) ?_
          refine X_goto (pc := 150) C 159 dX7_load_150 (by decide) ?_
          exact X_iret (pc := 159) C (Nat.zero_le _) (Nat.zero_le _) dX7_load_159 (by rw [mEndW] at hpp; first | (rw [mLdV, if_pos g20] at hpp; exact hpp) | (rw [mLdV, if_neg g20] at hpp; exact hpp))
    · have g82 : (if (mLd3 (τ.1 (.inr 16)) n F) 16 = 3 then (0 : Int32) else 1) = 1 := if_neg h82
      refine X_iconst (pc := 85) (v := 1) C dX7_load_85 (by decide) ?_
      refine X_goto (pc := 86) C 90 dX7_load_86 (by decide) ?_
      refine X_iconst (pc := 90) (v := 1) C dX7_load_90 (by decide) ?_
      refine K_X7_190 (pc := 91) C (by assumption) (c_X7_wrong l P _ _ _ _ h1 _ _) ⟨Nat.le_of_ble_eq_true rfl, Nat.le_of_ble_eq_true rfl⟩ ⟨rfl, rfl⟩ ⟨Nat.zero_le _, Nat.zero_le _⟩ (Nat.le_of_ble_eq_true rfl) dX7_load_91 ?_
      refine XW.eq (σ' := mW τ (mLdS (τ.1 (.inr 16)) n S F) (mWr (mLd3 (τ.1 (.inr 16)) n F) (if (mLd3 (τ.1 (.inr 16)) n F) 16 = 3 then (0 : Int32) else 1) 1) L) (by rw [g82]) rfl rfl ?_
      refine X_aload_n (pc := 94) C 0 dX7_load_94 rfl rfl ?_
      refine K_X7_194 (pc := 95) C (by assumption) (c_X7_go l P _ _ _ _ h1 n (mWr_TK (mLd3_TK hT))) ⟨Nat.le_of_ble_eq_true rfl, Nat.le_of_ble_eq_true rfl⟩ ⟨rfl, rfl⟩ ⟨Nat.zero_le _, Nat.zero_le _⟩ (Nat.le_of_ble_eq_true rfl) dX7_load_95 ?_
      refine XW.eq (σ' := mW τ (mLdS (τ.1 (.inr 16)) n S F) (mLd4 (τ.1 (.inr 16)) n F) L) (by rfl) rfl rfl ?_
      refine L2_X7_load C h1 (n := n) 5 0 (mLdS (τ.1 (.inr 16)) n S F) (mLd4 (τ.1 (.inr 16)) n F) (by omega) mLdS_ok.1 (mLd4_TK hT) (fun _ => mLdS_ok.2.2.1) ?_
      refine XW.eq (σ' := mW τ (mLdA (τ.1 (.inr 16)) n S F L).1 (mLdA (τ.1 (.inr 16)) n S F L).2.1 (mLdA (τ.1 (.inr 16)) n S F L).2.2) (by rw [mLdA]) rfl rfl ?_
      refine X_aload_n (pc := 114) C 0 dX7_load_114 rfl rfl ?_
      refine G_X7_180 (pc := 115) C (by assumption) dX7_load_115 ?_
      rw [mW_9]
      refine X_if_ne (pc := 118) C 125 dX7_load_118 (by decide) (fun h118 => ?_) (fun h118 => ?_)
      · skip
        refine XW.eq (σ' := mV τ (mU1 (τ.1 (.inr 16)) n (mLdA (τ.1 (.inr 16)) n S F L))) (by first | (rw [mV, mU1, if_neg h118]) | (rw [mV, mU1, if_pos h118])) rfl rfl ?_
        refine L3_X7_load C h1 (n := n) 15 1 (mU1 (τ.1 (.inr 16)) n (mLdA (τ.1 (.inr 16)) n S F L)) (by omega) hk1.1 hk1.2.1 (fun q => by
          have q1 := mU1_0 q
          rw [mU1, if_pos q1] at q ⊢
          dsimp only at q ⊢
          rw [mUtS_U hkA.1.1 q, UZ]) ?_
        refine XW.eq (σ' := mW τ (mLdB (τ.1 (.inr 16)) n S F L).1 (mLdB (τ.1 (.inr 16)) n S F L).2.1 (mLdB (τ.1 (.inr 16)) n S F L).2.2) (by rw [mV, mLdB]) rfl rfl ?_
        refine X_aload_n (pc := 141) C 0 dX7_load_141 rfl rfl ?_
        refine K_X7_282 (pc := 142) C (by assumption) (c_X7_commands l P _ _ _ _ h1 n hkB.2.1 hkB.1 ch hc8 (by rw [hkB.2.2.2.1]; exact hch) (fun a _ => mLdB_p hT hp a)) ⟨Nat.le_of_ble_eq_true rfl, Nat.le_of_ble_eq_true rfl⟩ ⟨rfl, rfl⟩ ⟨Nat.zero_le _, Nat.zero_le _⟩ (Nat.le_of_ble_eq_true rfl) dX7_load_142 ?_
        rw [mr_eta (mLdB (τ.1 (.inr 16)) n S F L)]
        refine X_iconst (pc := 145) (v := (-1)) C dX7_load_145 (by decide) ?_
        refine X_icmp_ne (pc := 146) C 153 dX7_load_146 (by decide) (fun h146 => ?_) (fun h146 => ?_)
        · have g20 : (mCs (τ.1 (.inr 16)) n 700 (mLdB (τ.1 (.inr 16)) n S F L) 0).1.2.1 20 = 0 := Classical.byContradiction fun q => h146 (by rw [mEndV, if_neg q])
          refine X_aload_n (pc := 153) C 0 dX7_load_153 rfl rfl ?_
          refine XW.eq (σ' := mW (mEndT τ (mCs (τ.1 (.inr 16)) n 700 (mLdB (τ.1 (.inr 16)) n S F L) 0) ch) (mEndS τ (mCs (τ.1 (.inr 16)) n 700 (mLdB (τ.1 (.inr 16)) n S F L) 0)) (mEndF (mCs (τ.1 (.inr 16)) n 700 (mLdB (τ.1 (.inr 16)) n S F L) 0) ch) (mCs (τ.1 (.inr 16)) n 700 (mLdB (τ.1 (.inr 16)) n S F L) 0).1.2.2) (by rw [mEndW]) rfl rfl ?_
          refine G_X7_9 (pc := 154) C (by assumption) dX7_load_154 ?_
          refine X_iconst (pc := 157) (v := 4) C dX7_load_157 (by decide) ?_
          refine X_ialdN (j := 4) (pc := 158) C (by first | exact h1 _ (by decide) (by decide)) rfl (by omega) (by decide) dX7_load_158 ?_
          rw [mW_10]
          rw [show mEndS τ (mCs (τ.1 (.inr 16)) n 700 (mLdB (τ.1 (.inr 16)) n S F L) 0) 4 = (mCs (τ.1 (.inr 16)) n 700 (mLdB (τ.1 (.inr 16)) n S F L) 0).1.1 4 from by rw [mEndS, if_pos g20]]
          exact X_iret (pc := 159) C (Nat.zero_le _) (Nat.zero_le _) dX7_load_159 (by rw [mEndW] at hpp; first | (rw [mLdV, if_pos g20] at hpp; exact hpp) | (rw [mLdV, if_neg g20] at hpp; exact hpp))
        · have g20 : ¬ (mCs (τ.1 (.inr 16)) n 700 (mLdB (τ.1 (.inr 16)) n S F L) 0).1.2.1 20 = 0 := fun q => by
            rw [mEndV, if_pos q] at h146
            have h5 := mCs_le (B := (τ.1 (.inr 16))) (n := n) 700 (mLdB (τ.1 (.inr 16)) n S F L) 0
            exact absurd (show nI (mCs (τ.1 (.inr 16)) n 700 (mLdB (τ.1 (.inr 16)) n S F L) 0).2 < 0 from by rw [h146]; decide) (nI_pos (n31 (by omega)))
          refine X_iconst (pc := 149) (v := (-1)) C dX7_load_149 (by decide) ?_
          refine X_goto (pc := 150) C 159 dX7_load_150 (by decide) ?_
          exact X_iret (pc := 159) C (Nat.zero_le _) (Nat.zero_le _) dX7_load_159 (by rw [mEndW] at hpp; first | (rw [mLdV, if_pos g20] at hpp; exact hpp) | (rw [mLdV, if_neg g20] at hpp; exact hpp))
      · skip
        refine X_aload_n (pc := 121) C 0 dX7_load_121 rfl rfl ?_
        refine K_X7_279 (pc := 122) C (by assumption) (c_X7_userTold l P _ _ _ _ h1 n hkA.2.1 hkA.1.1 hkA.1.2.2) ⟨Nat.le_of_ble_eq_true rfl, Nat.le_of_ble_eq_true rfl⟩ ⟨rfl, rfl⟩ ⟨Nat.zero_le _, Nat.zero_le _⟩ (Nat.le_of_ble_eq_true rfl) dX7_load_122 ?_
        refine XW.eq (σ' := mV τ (mU1 (τ.1 (.inr 16)) n (mLdA (τ.1 (.inr 16)) n S F L))) (by first | (rw [mV, mU1, if_neg h118]) | (rw [mV, mU1, if_pos h118])) rfl rfl ?_
        refine L3_X7_load C h1 (n := n) 15 1 (mU1 (τ.1 (.inr 16)) n (mLdA (τ.1 (.inr 16)) n S F L)) (by omega) hk1.1 hk1.2.1 (fun q => by
          have q1 := mU1_0 q
          rw [mU1, if_pos q1] at q ⊢
          dsimp only at q ⊢
          rw [mUtS_U hkA.1.1 q, UZ]) ?_
        refine XW.eq (σ' := mW τ (mLdB (τ.1 (.inr 16)) n S F L).1 (mLdB (τ.1 (.inr 16)) n S F L).2.1 (mLdB (τ.1 (.inr 16)) n S F L).2.2) (by rw [mV, mLdB]) rfl rfl ?_
        refine X_aload_n (pc := 141) C 0 dX7_load_141 rfl rfl ?_
        refine K_X7_282 (pc := 142) C (by assumption) (c_X7_commands l P _ _ _ _ h1 n hkB.2.1 hkB.1 ch hc8 (by rw [hkB.2.2.2.1]; exact hch) (fun a _ => mLdB_p hT hp a)) ⟨Nat.le_of_ble_eq_true rfl, Nat.le_of_ble_eq_true rfl⟩ ⟨rfl, rfl⟩ ⟨Nat.zero_le _, Nat.zero_le _⟩ (Nat.le_of_ble_eq_true rfl) dX7_load_142 ?_
        rw [mr_eta (mLdB (τ.1 (.inr 16)) n S F L)]
        refine X_iconst (pc := 145) (v := (-1)) C dX7_load_145 (by decide) ?_
        refine X_icmp_ne (pc := 146) C 153 dX7_load_146 (by decide) (fun h146 => ?_) (fun h146 => ?_)
        · have g20 : (mCs (τ.1 (.inr 16)) n 700 (mLdB (τ.1 (.inr 16)) n S F L) 0).1.2.1 20 = 0 := Classical.byContradiction fun q => h146 (by rw [mEndV, if_neg q])
          refine X_aload_n (pc := 153) C 0 dX7_load_153 rfl rfl ?_
          refine XW.eq (σ' := mW (mEndT τ (mCs (τ.1 (.inr 16)) n 700 (mLdB (τ.1 (.inr 16)) n S F L) 0) ch) (mEndS τ (mCs (τ.1 (.inr 16)) n 700 (mLdB (τ.1 (.inr 16)) n S F L) 0)) (mEndF (mCs (τ.1 (.inr 16)) n 700 (mLdB (τ.1 (.inr 16)) n S F L) 0) ch) (mCs (τ.1 (.inr 16)) n 700 (mLdB (τ.1 (.inr 16)) n S F L) 0).1.2.2) (by rw [mEndW]) rfl rfl ?_
          refine G_X7_9 (pc := 154) C (by assumption) dX7_load_154 ?_
          refine X_iconst (pc := 157) (v := 4) C dX7_load_157 (by decide) ?_
          refine X_ialdN (j := 4) (pc := 158) C (by first | exact h1 _ (by decide) (by decide)) rfl (by omega) (by decide) dX7_load_158 ?_
          rw [mW_10]
          rw [show mEndS τ (mCs (τ.1 (.inr 16)) n 700 (mLdB (τ.1 (.inr 16)) n S F L) 0) 4 = (mCs (τ.1 (.inr 16)) n 700 (mLdB (τ.1 (.inr 16)) n S F L) 0).1.1 4 from by rw [mEndS, if_pos g20]]
          exact X_iret (pc := 159) C (Nat.zero_le _) (Nat.zero_le _) dX7_load_159 (by rw [mEndW] at hpp; first | (rw [mLdV, if_pos g20] at hpp; exact hpp) | (rw [mLdV, if_neg g20] at hpp; exact hpp))
        · have g20 : ¬ (mCs (τ.1 (.inr 16)) n 700 (mLdB (τ.1 (.inr 16)) n S F L) 0).1.2.1 20 = 0 := fun q => by
            rw [mEndV, if_pos q] at h146
            have h5 := mCs_le (B := (τ.1 (.inr 16))) (n := n) 700 (mLdB (τ.1 (.inr 16)) n S F L) 0
            exact absurd (show nI (mCs (τ.1 (.inr 16)) n 700 (mLdB (τ.1 (.inr 16)) n S F L) 0).2 < 0 from by rw [h146]; decide) (nI_pos (n31 (by omega)))
          refine X_iconst (pc := 149) (v := (-1)) C dX7_load_149 (by decide) ?_
          refine X_goto (pc := 150) C 159 dX7_load_150 (by decide) ?_
          exact X_iret (pc := 159) C (Nat.zero_le _) (Nat.zero_le _) dX7_load_159 (by rw [mEndW] at hpp; first | (rw [mLdV, if_pos g20] at hpp; exact hpp) | (rw [mLdV, if_neg g20] at hpp; exact hpp))

set_option maxRecDepth 100000 in
set_option maxHeartbeats 4000000 in
theorem c_X7_load (l : Launch) (P : XP) (τ : XS) (S F L : Nat → Int32) (h1 : xI1 P) (n : Nat) (hn : n ≤ 700) (h10 : F 10 = nI n) (ch : Nat) (hc8 : ch ≤ 8) (hch : F 6 = nI ch) : XF l yX7_load cX7_load 2 (some .int) rm_X7_load P [.ref (P.2.2.1 (.inr 9))] (mW τ S F L) (some (.int (mLdV (mCs (τ.1 (.inr 16)) n 700 (mLdB (τ.1 (.inr 16)) n S (mBg (τ.1 (.inr 16)) n F) L) 0)))) (mEndW (mBgT τ S) (mCs (τ.1 (.inr 16)) n 700 (mLdB (τ.1 (.inr 16)) n S (mBg (τ.1 (.inr 16)) n F) L) 0) ch) := by
  refine XM.of (by decide +kernel) (Nat.le_of_ble_eq_true rfl) (fun p e s m args below meth c A C => ?_)
  replace C : XC p s m args meth c P A 2 RX7 cX7_load (some .int) := C
  refine XW.eq (lv' := [(0, _)]) rfl rfl rfl ?_
  refine X_aload_n (pc := 0) C 0 dX7_load_0 rfl rfl ?_
  refine K_X7_271 (pc := 1) C (by assumption) (c_X7_begin l P _ _ _ _ h1 n hn h10) ⟨Nat.le_of_ble_eq_true rfl, Nat.le_of_ble_eq_true rfl⟩ ⟨rfl, rfl⟩ ⟨Nat.zero_le _, Nat.zero_le _⟩ (Nat.le_of_ble_eq_true rfl) dX7_load_1 ?_
  refine X_iconst (pc := 4) (v := 0) C dX7_load_4 (by decide) ?_
  refine X_istore_n (pc := 5) (lv1 := [(0, _), (1, _)]) C 1 dX7_load_5 rfl (by decide) rfl ?_
  refine XW.eq (σ' := mW (mBgT τ S) (mZ S 0) (mBg (τ.1 (.inr 16)) n F) L) (lv' := [(0, .ref (P.2.2.1 (.inr 9))), (1, .int (nI 0))]) (by rw [mZ_0]) rfl rfl ?_
  refine L1_X7_load C h1 ?_ 550 0 (by omega)
  exact T_X7_load C h1 n (mBg_TK hn h10) (fun a => mBg_16 hn a) ch hc8 (by rw [mBg_6]; exact hch) ⟨by rw [mBgT_16], by rw [mBgT_16]⟩

end XP41

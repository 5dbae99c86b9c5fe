/-! THE REFERENCE: setups and commands -/
theorem TK.u {n : Nat} {F : Nat → Int32} {k : Nat} {v : Int32} (h : TK n F) (h1 : 10 ≠ k) (h2 : 17 ≠ k) (h3 : 18 ≠ k) : TK n (upd F k v) := h.o (upd_ne h1) (upd_ne h2) (upd_ne h3)
/-- what holds of every row: counts, names' lengths, codes -/
def MS (S : Nat → Int32) : Prop := MI S ∧ MN S ∧ MC S
theorem CR.mono {S : Nat → Int32} {nu nt nu1 nt1 c : Nat} (h : CR S nu nt c) (h1 : nu ≤ nu1) (h2 : nt ≤ nt1) : CR S nu1 nt1 c := ⟨xok_mono h.1 h1, h.2.elim (fun z => Or.inl ⟨z.1, xok_mono z.2 h1⟩) (fun z => Or.inr ⟨z.1, xok_mono z.2 h2⟩)⟩
/-- a trunk is told -/
def mTt1 (B : Nat → Int32) (n : Nat) (S F : Nat → Int32) : Nat → Int32 := mGo B n (mWr F (if S 3 = 4 then 1 else 0) 6)
def mTtF (B : Nat → Int32) (n : Nat) (S F : Nat → Int32) : Nat → Int32 := mGo B n (mWr (mNbF B n (mTt1 B n S F) 1 99) (if mNbF B n (mTt1 B n S F) 1 99 16 = 3 then 0 else 1) 1)
def mTtS (B : Nat → Int32) (n : Nat) (S F : Nat → Int32) : Nat → Int32 := if mTtF B n S F 20 = 0 then upd (upd S (6 + mT S) (mNbV (mTt1 B n S F) 1 99)) 3 (nI (mT S + 1)) else S
theorem mTt1_TK {B S F : Nat → Int32} {n : Nat} (h : TK n F) : TK n (mTt1 B n S F) := mGo_TK (mWr_TK h)
theorem mTtF_0 {B S F : Nat → Int32} {n : Nat} (h : mTtF B n S F 20 = 0) : F 20 = 0 ∧ ¬ S 3 = 4 ∧ mNbF B n (mNx1 B n F) 1 99 20 = 0 ∧ mNbF B n (mNx1 B n F) 1 99 16 = 3 ∧ mTt1 B n S F = mNx1 B n F ∧ mTtF B n S F = mNx1 B n (mNbF B n (mNx1 B n F) 1 99) := by
  unfold mTtF at h ⊢
  rw [mGo_20] at h
  obtain ⟨h1, h2, h3⟩ := mWr_0 h
  have h4 := (mNbF_0 h1).1
  unfold mTt1 at h4
  rw [mGo_20] at h4
  obtain ⟨h5, h6, h7⟩ := mWr_0 h4
  have e1 : mTt1 B n S F = mNx1 B n F := by unfold mTt1; rw [h7, mGo, if_pos h5]
  rw [h3, e1]
  rw [e1] at h1 h2
  exact ⟨h5, fun q => by rw [if_pos q] at h6; exact absurd h6 (by decide), h1, Classical.byContradiction fun q => by rw [if_neg q] at h2; exact absurd h2 (by decide), rfl, if_pos h1⟩
theorem mTtF_TK {B S F : Nat → Int32} {n : Nat} (h : TK n F) : TK n (mTtF B n S F) := mGo_TK (mWr_TK (mNbF_TK (mGo_TK (mWr_TK h))))
theorem MI.tt {S : Nat → Int32} {v : Int32} (h : MI S) (ht : mT S < 4) : MI (upd (upd S (6 + mT S) v) 3 (nI (mT S + 1))) := by
  have o : ∀ k, k ≠ 3 → k ≠ 6 + mT S → upd (upd S (6 + mT S) v) 3 (nI (mT S + 1)) k = S k := fun k a b => by rw [upd_ne a, upd_ne b]
  have e3 : mT (upd (upd S (6 + mT S) v) 3 (nI (mT S + 1))) = mT S + 1 := by rw [mT, upd_at, cN, nI_clamp (n31 (by omega))]
  have eu : mU (upd (upd S (6 + mT S) v) 3 (nI (mT S + 1))) = mU S := by rw [mU, o 4 (by decide) (by omega)]
  have ek : mK (upd (upd S (6 + mT S) v) 3 (nI (mT S + 1))) = mK S := by rw [mK, o 5 (by decide) (by omega)]
  have el : mL (upd (upd S (6 + mT S) v) 3 (nI (mT S + 1))) = mL S := by rw [mL, o 1 (by decide) (by omega)]
  refine ⟨?_, ?_, ?_, ?_, ?_, ?_, ?_, ?_, ?_⟩
  · rw [el, o 1 (by decide) (by omega)]; exact h.l
  · rw [el]; exact h.l6
  · rw [e3, upd_at]
  · rw [e3]; omega
  · rw [eu, o 4 (by decide) (by omega)]; exact h.u
  · rw [eu]; exact h.u15
  · rw [ek, o 5 (by decide) (by omega)]; exact h.k
  · rw [ek]; exact h.k40
  · intro c hc
    rw [ek] at hc
    rw [eu, e3]
    have e : ∀ w, sC (upd (upd S (6 + mT S) v) 3 (nI (mT S + 1))) w c = sC S w c := fun w => o _ (by omega) (by omega)
    have := (h.c hc).mono (Nat.le_refl _) (Nat.le_succ (mT S))
    unfold CR at this ⊢
    rw [e 0, e 1, e 2]
    exact this
theorem MS.tt {S : Nat → Int32} {v : Int32} (h : MS S) (ht : mT S < 4) : MS (upd (upd S (6 + mT S) v) 3 (nI (mT S + 1))) := by
  have o : ∀ k, k ≠ 3 → k ≠ 6 + mT S → upd (upd S (6 + mT S) v) 3 (nI (mT S + 1)) k = S k := fun k a b => by rw [upd_ne a, upd_ne b]
  have eu : mU (upd (upd S (6 + mT S) v) 3 (nI (mT S + 1))) = mU S := by rw [mU, o 4 (by decide) (by omega)]
  refine ⟨h.1.tt ht, fun u hu => ?_, fun u hu => ?_⟩
  · rw [eu] at hu
    rw [sU, o _ (by omega) (by omega)]
    exact h.2.1 u hu
  · rw [eu] at hu
    rw [sU, o _ (by omega) (by omega)]
    exact h.2.2 u hu
theorem MS.ttS {B S F : Nat → Int32} {n : Nat} (h : MS S) : MS (mTtS B n S F) := by
  unfold mTtS
  by_cases g : mTtF B n S F 20 = 0
  · rw [if_pos g]
    have h3 := (mTtF_0 g).2.1
    have ht : mT S < 4 := by
      have h4 := h.1.t4
      rcases Nat.lt_or_ge (mT S) 4 with q | q
      · exact q
      · exact absurd (by rw [h.1.t, show mT S = 4 by omega]; rfl) h3
    exact h.tt ht
  · rw [if_neg g]
    exact h
/-- a subscriber is told -/
def mPutL (S : Nat → Int32) (u : Nat) (L : Nat → Int32) : Nat → Nat → Int32
  | 0 => S
  | k + 1 => upd (mPutL S u L k) (10 + 12 * u + (6 + k)) (L k)
theorem mPutL_o {S L : Nat → Int32} {u m : Nat} : ∀ k, (m < 10 + 12 * u + 6 ∨ 10 + 12 * u + (6 + k) ≤ m) → mPutL S u L k m = S m
  | 0, _ => rfl
  | k + 1, h => by rw [mPutL, upd_ne (by omega), mPutL_o k (by omega)]
theorem mPutL_at {S L : Nat → Int32} {u i : Nat} : ∀ k, i < k → mPutL S u L k (10 + 12 * u + (6 + i)) = L i
  | k + 1, h => by
    rw [mPutL]
    by_cases g : i = k
    · subst g; exact upd_at
    · rw [upd_ne (by omega), mPutL_at k (by omega)]
def mBeg (x y : Int32) : Prop := 0 ≤ nI (mRg 6 (cN y)) - nI (mRg 6 (cN x)) ∧ nI (cN y) >>> ((nI (mRg 6 (cN y)) - nI (mRg 6 (cN x))) &&& 31) = nI (cN x)
def mAmbQ (S : Nat → Int32) (x y : Int32) (v : Nat) : Prop := sU S 0 v = x ∧ (mBeg (sU S 1 v) y ∨ mBeg y (sU S 1 v))
noncomputable def mAmbI (S F : Nat → Int32) (x y : Int32) (v : Nat) : Int32 := @ite _ (F 20 = 0 ∧ mAmbQ S x y v) (Classical.propDecidable _) 1 0
noncomputable def mAmb (S : Nat → Int32) (x y : Int32) : Nat → Nat → (Nat → Int32) → (Nat → Int32)
  | 0, _, F => F
  | k + 1, v, F => mAmb S x y k (v + 1) (mWr F (mAmbI S F x y v) 5)
theorem mAmb_TK {S : Nat → Int32} {x y : Int32} {n : Nat} : ∀ (k v : Nat) (F : Nat → Int32), TK n F → TK n (mAmb S x y k v F)
  | 0, _, F, h => h
  | k + 1, v, F, h => mAmb_TK k _ _ (mWr_TK h)
theorem mAmb_0 {S : Nat → Int32} {x y : Int32} : ∀ (k v : Nat) (F : Nat → Int32), mAmb S x y k v F 20 = 0 → F 20 = 0 ∧ mAmb S x y k v F = F ∧ ∀ j, v ≤ j → j < v + k → ¬ mAmbQ S x y j
  | 0, v, F, h => ⟨h, rfl, fun j a b => by omega⟩
  | k + 1, v, F, h => by
    rw [mAmb] at h ⊢
    obtain ⟨h1, h2, h3⟩ := mAmb_0 k (v + 1) _ h
    obtain ⟨h4, h5, h6⟩ := mWr_0 h1
    rw [h6] at h2 ⊢
    refine ⟨h4, h2, fun j a b => ?_⟩
    by_cases g : j = v
    · subst g
      intro q
      rw [mAmbI, if_pos ⟨h4, q⟩] at h5
      exact absurd h5 (by decide)
    · exact h3 j (by omega) (by omega)
theorem mRhL_ok {B : Nat → Int32} : ∀ (k i a j : Nat) (F : Nat → Int32), 1 ≤ j → j < 2 ^ a → a + k ≤ 6 → ∃ j1, (mRhL B k i F (nI j)).2 = nI j1 ∧ 1 ≤ j1 ∧ j1 < 64
  | 0, i, a, j, F, h1, h2, h3 => ⟨j, rfl, h1, Nat.lt_of_lt_of_le h2 (Nat.pow_le_pow_right (by decide) (show a ≤ 6 by omega))⟩
  | k + 1, i, a, j, F, h1, h2, h3 => by
    rw [mRhL]
    by_cases g : F 20 = 0
    · rw [if_pos g]
      have h4 : 2 ^ (a + 1) = 2 * 2 ^ a := by rw [Nat.pow_succ, Nat.mul_comm]
      by_cases g2 : B i = 108
      · rw [if_pos g2, show (2 : Int32) * nI j + 1 = nI (2 * j + 1) from by rw [show (2 : Int32) = nI 2 from rfl, nI_m, nI_1]]
        exact mRhL_ok k (i + 1) (a + 1) (2 * j + 1) _ (by omega) (by omega) (by omega)
      · rw [if_neg g2, show (2 : Int32) * nI j + 0 = nI (2 * j) from by rw [show (2 : Int32) = nI 2 from rfl, nI_m, Int32.add_zero]]
        exact mRhL_ok k (i + 1) (a + 1) (2 * j) _ (by omega) (by omega) (by omega)
    · rw [if_neg g]
      exact ⟨j, rfl, h1, Nat.lt_of_lt_of_le h2 (Nat.pow_le_pow_right (by decide) (show a ≤ 6 by omega))⟩
theorem mRh_ok (B F : Nat → Int32) : ∃ j, (mRh B F).2 = nI j ∧ 1 ≤ j ∧ j < 64 := by
  unfold mRh
  by_cases g : mRh0 F 20 = 0
  · have h2 := (mWr_0 (F := F) (code := 1) g).2.1
    have h3 : eF F - sF F ≤ 5 := Classical.byContradiction fun q => by rw [if_neg (fun z => q z.2)] at h2; exact absurd h2 (by decide)
    exact mRhL_ok _ _ 1 1 _ (by decide) (by decide) (by omega)
  · cases hk : eF F - sF F with
    | zero => exact ⟨1, rfl, by decide, by decide⟩
    | succ k => rw [mRhL, if_neg g]; exact ⟨1, rfl, by decide, by decide⟩
/-- a subscriber is told, step by step -/
def mUt1 (B : Nat → Int32) (n : Nat) (S F : Nat → Int32) : Nat → Int32 := mGo B n (mWr (mWr F (if mIs B F 2 = 0 then 1 else 0) 1) (if S 4 = 15 then 1 else 0) 6)
theorem mUt1_TK {B S F : Nat → Int32} {n : Nat} (h : TK n F) : TK n (mUt1 B n S F) := mGo_TK (mWr_TK (mWr_TK h))
def mUt2 (B : Nat → Int32) (n : Nat) (S F : Nat → Int32) : Nat → Int32 := mNhF (mUt1 B n S F)
theorem mUt2_TK {B S F : Nat → Int32} {n : Nat} (h : TK n F) : TK n (mUt2 B n S F) := mNhF_TK (mUt1_TK h)
def mUtL (B : Nat → Int32) (n : Nat) (S F L : Nat → Int32) : Nat → Int32 := mNhL B (mUt1 B n S F) L
noncomputable def mUt3 (B : Nat → Int32) (n : Nat) (S F L : Nat → Int32) : Nat → Int32 := mWr (mUt2 B n S F) (if mUt2 B n S F 20 = 0 ∧ ¬ mNmd S (mUt2 B n S F) (mUtL B n S F L) = -1 then 1 else 0) 4
theorem mUt3_TK {B S F L : Nat → Int32} {n : Nat} (h : TK n F) : TK n (mUt3 B n S F L) := mWr_TK (mUt2_TK h)
theorem mUt3_0 {B S F L : Nat → Int32} {n : Nat} (h : mUt3 B n S F L 20 = 0) : F 20 = 0 ∧ ¬ mIs B F 2 = 0 ∧ ¬ S 4 = 15 ∧ mUt1 B n S F = mNx1 B n F ∧ mNhF (mNx1 B n F) 20 = 0 ∧ mNmd S (mNhF (mNx1 B n F)) (mNhL B (mNx1 B n F) L) = -1 ∧ mUt3 B n S F L = mNhF (mNx1 B n F) := by
  unfold mUt3 at h ⊢
  obtain ⟨h1, h2, h3⟩ := mWr_0 h
  rw [h3]
  have h4 := (mNhF_0 (F := mUt1 B n S F) h1).1
  unfold mUt1 at h4
  rw [mGo_20] at h4
  obtain ⟨h5, h6, h7⟩ := mWr_0 h4
  obtain ⟨h8, h9, h10⟩ := mWr_0 h5
  have e1 : mUt1 B n S F = mNx1 B n F := by unfold mUt1; rw [h7, h10, mGo, if_pos h8]
  have e2 : mUt2 B n S F = mNhF (mNx1 B n F) := by rw [mUt2, e1]
  rw [e2] at h1 h2 ⊢
  rw [mUtL, e1] at h2
  refine ⟨h8, fun q => ?_, fun q => ?_, e1, h1, ?_, rfl⟩
  · rw [if_pos q] at h9; exact absurd h9 (by decide)
  · rw [if_pos q] at h6; exact absurd h6 (by decide)
  · exact Classical.byContradiction fun q => by rw [if_pos ⟨h1, q⟩] at h2; exact absurd h2 (by decide)
theorem mUt3_15 {B S F L : Nat → Int32} {n : Nat} (h : mUt3 B n S F L 20 = 0) : cN (mUt3 B n S F L 15) ≤ 6 ∧ mUt3 B n S F L 15 = nI (cN (mUt3 B n S F L 15)) := by
  obtain ⟨-, -, -, -, h1, -, h2⟩ := mUt3_0 h
  obtain ⟨-, -, h3, h4, -⟩ := mNhF_0 h1
  rw [h2, h4, upd_at, cN, nI_clamp (n31 (by omega))]
  exact ⟨h3, rfl⟩
noncomputable def mUtS2 (B : Nat → Int32) (n : Nat) (S F L : Nat → Int32) : Nat → Int32 := mPutL (upd S (10 + 12 * mU S + 5) (mUt3 B n S F L 15)) (mU S) (mUtL B n S F L) (cN (mUt3 B n S F L 15))
noncomputable def mUt4 (B : Nat → Int32) (n : Nat) (S F L : Nat → Int32) : Nat → Int32 := mGo B n (mUt3 B n S F L)
theorem mUt4_TK {B S F L : Nat → Int32} {n : Nat} (h : TK n F) : TK n (mUt4 B n S F L) := mGo_TK (mUt3_TK h)
noncomputable def mUtX (B : Nat → Int32) (n : Nat) (S F L : Nat → Int32) : Int32 := mNbV (mUt4 B n S F L) 0 (S 1 - 1)
noncomputable def mUt5 (B : Nat → Int32) (n : Nat) (S F L : Nat → Int32) : Nat → Int32 := mNbF B n (mUt4 B n S F L) 0 (S 1 - 1)
theorem mUt5_TK {B S F L : Nat → Int32} {n : Nat} (h : TK n F) : TK n (mUt5 B n S F L) := mNbF_TK (mUt4_TK h)
noncomputable def mUt6 (B : Nat → Int32) (n : Nat) (S F L : Nat → Int32) : Nat → Int32 := if mUt5 B n S F L 20 = 0 then (mRh B (mUt5 B n S F L)).1 else mUt5 B n S F L
noncomputable def mUtY (B : Nat → Int32) (n : Nat) (S F L : Nat → Int32) : Int32 := if mUt5 B n S F L 20 = 0 then (mRh B (mUt5 B n S F L)).2 else 1
theorem mUt6_TK {B S F L : Nat → Int32} {n : Nat} (h : TK n F) : TK n (mUt6 B n S F L) := by
  unfold mUt6
  split
  · exact mRh_TK (mUt5_TK h)
  · exact mUt5_TK h
theorem mUtY_ok {B S F L : Nat → Int32} {n : Nat} : xok (mUtY B n S F L) 64 := by
  unfold mUtY
  split
  · obtain ⟨j, h1, -, h2⟩ := mRh_ok B (mUt5 B n S F L)
    rw [h1]; exact xok_nI h2
  · exact xok_nI (j := 1) (by decide)
noncomputable def mUt7 (B : Nat → Int32) (n : Nat) (S F L : Nat → Int32) : Nat → Int32 := mAmb (mUtS2 B n S F L) (mUtX B n S F L) (mUtY B n S F L) (mU S) 0 (mUt6 B n S F L)
theorem mUt7_TK {B S F L : Nat → Int32} {n : Nat} (h : TK n F) : TK n (mUt7 B n S F L) := mAmb_TK _ _ _ (mUt6_TK h)
noncomputable def mUt8 (B : Nat → Int32) (n : Nat) (S F L : Nat → Int32) : Nat → Int32 := mGo B n (mUt7 B n S F L)
theorem mUt8_TK {B S F L : Nat → Int32} {n : Nat} (h : TK n F) : TK n (mUt8 B n S F L) := mGo_TK (mUt7_TK h)
noncomputable def mUtZ (B : Nat → Int32) (n : Nat) (S F L : Nat → Int32) : Int32 := mNbV (mUt8 B n S F L) 0 9
noncomputable def mUt9 (B : Nat → Int32) (n : Nat) (S F L : Nat → Int32) : Nat → Int32 := mNbF B n (mUt8 B n S F L) 0 9
theorem mUt9_TK {B S F L : Nat → Int32} {n : Nat} (h : TK n F) : TK n (mUt9 B n S F L) := mNbF_TK (mUt8_TK h)
noncomputable def mUtA (B : Nat → Int32) (n : Nat) (S F L : Nat → Int32) : Nat → Int32 := mGo B n (mWr (mUt9 B n S F L) (if mUt9 B n S F L 16 = 3 then 0 else 1) 1)
theorem mUtA_TK {B S F L : Nat → Int32} {n : Nat} (h : TK n F) : TK n (mUtA B n S F L) := mGo_TK (mWr_TK (mUt9_TK h))
noncomputable def mUtS4 (B : Nat → Int32) (n : Nat) (S F L : Nat → Int32) : Nat → Int32 :=
  upd (upd (upd (upd (mUtS2 B n S F L) (10 + 12 * mU S + 0) (mUtX B n S F L)) (10 + 12 * mU S + 1) (mUtY B n S F L)) (10 + 12 * mU S + 2) (mUtZ B n S F L)) (10 + 12 * mU S + 4) ((1 : Int32) <<< (nI (mU S) &&& 31))
noncomputable def mUtS (B : Nat → Int32) (n : Nat) (S F L : Nat → Int32) : Nat → Int32 := if mUt3 B n S F L 20 = 0 then (if mUtA B n S F L 20 = 0 then upd (mUtS4 B n S F L) 4 (nI (mU S + 1)) else mUtS4 B n S F L) else S
noncomputable def mUtF (B : Nat → Int32) (n : Nat) (S F L : Nat → Int32) : Nat → Int32 := if mUt3 B n S F L 20 = 0 then mUtA B n S F L else mUt3 B n S F L
theorem mUtF_TK {B S F L : Nat → Int32} {n : Nat} (h : TK n F) : TK n (mUtF B n S F L) := by
  unfold mUtF
  split
  · exact mUtA_TK h
  · exact mUt3_TK h
theorem mUtS2_o {B S F L : Nat → Int32} {n m : Nat} (h : mUt3 B n S F L 20 = 0) (hm : m < 10 + 12 * mU S + 5 ∨ 10 + 12 * mU S + 12 ≤ m) : mUtS2 B n S F L m = S m := by
  have := (mUt3_15 h).1
  rw [mUtS2, mPutL_o _ (by omega), upd_ne (by omega)]
theorem mUtS4_o {B S F L : Nat → Int32} {n m : Nat} (h : mUt3 B n S F L 20 = 0) (hm : m < 10 + 12 * mU S ∨ 10 + 12 * mU S + 12 ≤ m) : mUtS4 B n S F L m = S m := by
  rw [mUtS4, upd_ne (by omega), upd_ne (by omega), upd_ne (by omega), upd_ne (by omega), mUtS2_o h (by omega)]
theorem MI.row {S S1 : Nat → Int32} (h : MI S) (hs : ∀ m, m < 10 ∨ 190 ≤ m → S1 m = S m) : MI S1 := h.fx (fun m hm => hs m (hm.elim Or.inl (fun z => Or.inr z.1)))
theorem MS.row {S S1 : Nat → Int32} (h : MS S) (hs : ∀ m, m < 10 + 12 * mU S ∨ 190 ≤ m → S1 m = S m) : MS S1 := by
  have h15 := h.1.u15
  have eu : mU S1 = mU S := by rw [mU, hs 4 (by omega)]
  refine ⟨h.1.row (fun m hm => hs m (by omega)), fun u hu => ?_, fun u hu => ?_⟩
  · rw [eu] at hu
    rw [sU, hs _ (by omega)]
    exact h.2.1 u hu
  · rw [eu] at hu
    rw [sU, hs _ (by omega)]
    exact h.2.2 u hu
theorem mUt_lt {B S F L : Nat → Int32} {n : Nat} (hM : MI S) (h : mUt3 B n S F L 20 = 0) : mU S < 15 := by
  have h1 := (mUt3_0 h).2.2.1
  have h2 := hM.u15
  rcases Nat.lt_or_ge (mU S) 15 with q | q
  · exact q
  · exact absurd (by rw [hM.u, show mU S = 15 by omega]; rfl) h1
/-- one subscriber more -/
theorem MS.more {S : Nat → Int32} (h : MS S) (hu : mU S < 15) (h5 : xok (sU S 5 (mU S)) 7) (h1 : xok (sU S 1 (mU S)) 64) : MS (upd S 4 (nI (mU S + 1))) := by
  have o : ∀ k, k ≠ 4 → upd S 4 (nI (mU S + 1)) k = S k := fun k a => upd_ne a
  have e4 : mU (upd S 4 (nI (mU S + 1))) = mU S + 1 := by rw [mU, upd_at, cN, nI_clamp (n31 (by omega))]
  have et : mT (upd S 4 (nI (mU S + 1))) = mT S := by rw [mT, o 3 (by decide)]
  have ek : mK (upd S 4 (nI (mU S + 1))) = mK S := by rw [mK, o 5 (by decide)]
  have el : mL (upd S 4 (nI (mU S + 1))) = mL S := by rw [mL, o 1 (by decide)]
  refine ⟨⟨?_, ?_, ?_, ?_, ?_, ?_, ?_, ?_, ?_⟩, fun u hu9 => ?_, fun u hu9 => ?_⟩
  · rw [el, o 1 (by decide)]; exact h.1.l
  · rw [el]; exact h.1.l6
  · rw [et, o 3 (by decide)]; exact h.1.t
  · rw [et]; exact h.1.t4
  · rw [e4, upd_at]
  · rw [e4]; omega
  · rw [ek, o 5 (by decide)]; exact h.1.k
  · rw [ek]; exact h.1.k40
  · intro c hc
    rw [ek] at hc
    rw [e4, et]
    have e : ∀ w, sC (upd S 4 (nI (mU S + 1))) w c = sC S w c := fun w => o _ (by omega)
    have := (h.1.c hc).mono (Nat.le_succ (mU S)) (Nat.le_refl _)
    unfold CR at this ⊢
    rw [e 0, e 1, e 2]
    exact this
  · rw [e4] at hu9
    rw [sU, o _ (by omega)]
    by_cases g : u = mU S
    · rw [g]; exact h5
    · exact h.2.1 u (by omega)
  · rw [e4] at hu9
    rw [sU, o _ (by omega)]
    by_cases g : u = mU S
    · rw [g]; exact h1
    · exact h.2.2 u (by omega)
theorem MS.ut {B S F L : Nat → Int32} {n : Nat} (h : MS S) : MS (mUtS B n S F L) := by
  unfold mUtS
  by_cases g : mUt3 B n S F L 20 = 0
  · rw [if_pos g]
    have hlt := mUt_lt h.1 g
    have h4 : MS (mUtS4 B n S F L) := h.row (fun m hm => mUtS4_o g (by omega))
    have eu : mU (mUtS4 B n S F L) = mU S := by rw [mU, mUtS4_o g (by omega)]
    by_cases g2 : mUtA B n S F L 20 = 0
    · rw [if_pos g2, ← eu]
      refine h4.more (by rw [eu]; exact hlt) ?_ ?_
      · rw [eu, sU, mUtS4, upd_ne (by omega), upd_ne (by omega), upd_ne (by omega), upd_ne (by omega), mUtS2, mPutL_o _ (by omega), upd_at]
        have h6 := mUt3_15 g
        rw [h6.2]
        exact xok_nI (by omega)
      · rw [eu, sU, mUtS4, upd_ne (by omega), upd_ne (by omega), upd_at]
        exact mUtY_ok
    · rw [if_neg g2]; exact h4
  · rw [if_neg g]; exact h
section XP38
variable {p : Program} {l : Launch} {e : Env} {R : Room} {s : State} {m : MethodId} {args : Array Value} {below : List Frame} {meth : Method} {c : Code} {P : XP} {A : Nat → Prop} {nL cells slots : Nat} {Q : State → Prop} {cc : ByteArray} {ret : Option FieldType} {σ : XS} {pc : Nat} {lv : List (Nat × Value)} {st : List Value}
set_option maxRecDepth 100000 in
set_option maxHeartbeats 4000000 in
theorem c_X7_trunkTold (l : Launch) (P : XP) (τ : XS) (S F L : Nat → Int32) (h1 : xI1 P) (n : Nat) (hT : TK n F) (hM : MI S) : XF l yX7_trunkTold cX7_trunkTold 2 none rm_X7_trunkTold P [.ref (P.2.2.1 (.inr 9))] (mW τ S F L) (none) (mW τ (mTtS (τ.1 (.inr 16)) n S F) (mTtF (τ.1 (.inr 16)) n S F) L) := by
  refine XM.of (by decide +kernel) (Nat.le_of_ble_eq_true rfl) (fun p e s m args below meth c A C => ?_)
  replace C : XC p s m args meth c P A 2 RX7 cX7_trunkTold none := C
  refine XW.eq (lv' := [(0, _)]) rfl rfl rfl ?_
  refine X_aload_n (pc := 0) C 0 dX7_trunkTold_0 rfl rfl ?_
  refine X_aload_n (pc := 1) C 0 dX7_trunkTold_1 rfl rfl ?_
  refine G_X7_9 (pc := 2) C (by assumption) dX7_trunkTold_2 ?_
  refine X_iconst (pc := 5) (v := 3) C dX7_trunkTold_5 (by decide) ?_
  refine X_ialdN (j := 3) (pc := 6) C (by first | exact h1 _ (by decide) (by decide)) rfl (by omega) (by decide) dX7_trunkTold_6 ?_
  rw [mW_10]
  refine X_iconst (pc := 7) (v := 4) C dX7_trunkTold_7 (by decide) ?_
  refine X_icmp_ne (pc := 8) C 15 dX7_trunkTold_8 (by decide) (fun h8 => ?_) (fun h8 => ?_)
  · have g8 : (if S 3 = 4 then (1 : Int32) else 0) = 0 := if_neg h8
    refine X_iconst (pc := 15) (v := 0) C dX7_trunkTold_15 (by decide) ?_
    refine X_bipush (pc := 16) (v := 6) C dX7_trunkTold_16 (by decide) ?_
    refine K_X7_190 (pc := 18) C (by assumption) (c_X7_wrong l P _ _ _ _ h1 _ _) ⟨Nat.le_of_ble_eq_true rfl, Nat.le_of_ble_eq_true rfl⟩ ⟨rfl, rfl⟩ ⟨Nat.zero_le _, Nat.zero_le _⟩ (Nat.le_of_ble_eq_true rfl) dX7_trunkTold_18 ?_
    refine XW.eq (σ' := mW τ S (mWr F (if S 3 = 4 then (1 : Int32) else 0) 6) L) (by rw [g8]) rfl rfl ?_
    refine X_aload_n (pc := 21) C 0 dX7_trunkTold_21 rfl rfl ?_
    refine K_X7_194 (pc := 22) C (by assumption) (c_X7_go l P _ _ _ _ h1 n (mWr_TK hT)) ⟨Nat.le_of_ble_eq_true rfl, Nat.le_of_ble_eq_true rfl⟩ ⟨rfl, rfl⟩ ⟨Nat.zero_le _, Nat.zero_le _⟩ (Nat.le_of_ble_eq_true rfl) dX7_trunkTold_22 ?_
    refine XW.eq (σ' := mW τ S (mTt1 (τ.1 (.inr 16)) n S F) L) rfl rfl rfl ?_
    refine X_aload_n (pc := 25) C 0 dX7_trunkTold_25 rfl rfl ?_
    refine X_iconst (pc := 26) (v := 1) C dX7_trunkTold_26 (by decide) ?_
    refine X_bipush (pc := 27) (v := 99) C dX7_trunkTold_27 (by decide) ?_
    refine K_X7_203 (pc := 29) C (by assumption) (c_X7_number l P _ _ _ _ h1 n (mTt1_TK hT) 1 99) ⟨Nat.le_of_ble_eq_true rfl, Nat.le_of_ble_eq_true rfl⟩ ⟨rfl, rfl⟩ ⟨Nat.zero_le _, Nat.zero_le _⟩ (Nat.le_of_ble_eq_true rfl) dX7_trunkTold_29 ?_
    refine X_istore_n (pc := 32) (lv1 := [(0, _), (1, _)]) C 1 dX7_trunkTold_32 rfl (by decide) rfl ?_
    refine X_aload_n (pc := 33) C 0 dX7_trunkTold_33 rfl rfl ?_
    refine X_aload_n (pc := 34) C 0 dX7_trunkTold_34 rfl rfl ?_
    refine G_X7_164 (pc := 35) C (by assumption) dX7_trunkTold_35 ?_
    rw [mW_9]
    refine X_iconst (pc := 38) (v := 3) C dX7_trunkTold_38 (by decide) ?_
    refine X_icmp_eq (pc := 39) C 46 dX7_trunkTold_39 (by decide) (fun h39 => ?_) (fun h39 => ?_)
    · have g39 : (if (mNbF (τ.1 (.inr 16)) n (mTt1 (τ.1 (.inr 16)) n S F) 1 99) 16 = 3 then (0 : Int32) else 1) = 0 := if_pos h39
      refine X_iconst (pc := 46) (v := 0) C dX7_trunkTold_46 (by decide) ?_
      refine X_iconst (pc := 47) (v := 1) C dX7_trunkTold_47 (by decide) ?_
      refine K_X7_190 (pc := 48) C (by assumption) (c_X7_wrong l P _ _ _ _ h1 _ _) ⟨Nat.le_of_ble_eq_true rfl, Nat.le_of_ble_eq_true rfl⟩ ⟨rfl, rfl⟩ ⟨Nat.zero_le _, Nat.zero_le _⟩ (Nat.le_of_ble_eq_true rfl) dX7_trunkTold_48 ?_
      refine XW.eq (σ' := mW τ S (mWr (mNbF (τ.1 (.inr 16)) n (mTt1 (τ.1 (.inr 16)) n S F) 1 99) (if (mNbF (τ.1 (.inr 16)) n (mTt1 (τ.1 (.inr 16)) n S F) 1 99) 16 = 3 then (0 : Int32) else 1) 1) L) (by rw [g39]) rfl rfl ?_
      refine X_aload_n (pc := 51) C 0 dX7_trunkTold_51 rfl rfl ?_
      refine K_X7_194 (pc := 52) C (by assumption) (c_X7_go l P _ _ _ _ h1 n (mWr_TK (mNbF_TK (mTt1_TK hT)))) ⟨Nat.le_of_ble_eq_true rfl, Nat.le_of_ble_eq_true rfl⟩ ⟨rfl, rfl⟩ ⟨Nat.zero_le _, Nat.zero_le _⟩ (Nat.le_of_ble_eq_true rfl) dX7_trunkTold_52 ?_
      refine XW.eq (σ' := mW τ S (mTtF (τ.1 (.inr 16)) n S F) L) rfl rfl rfl ?_
      refine X_aload_n (pc := 55) C 0 dX7_trunkTold_55 rfl rfl ?_
      refine G_X7_180 (pc := 56) C (by assumption) dX7_trunkTold_56 ?_
      rw [mW_9]
      refine X_if_eq (pc := 59) C 63 dX7_trunkTold_59 (by decide) (fun h59 => ?_) (fun h59 => ?_)
      · have h3 := (mTtF_0 h59).2.1
        have ht : mT S < 4 := by
          have h4 := hM.t4
          rcases Nat.lt_or_ge (mT S) 4 with q | q
          · exact q
          · exact absurd (by rw [hM.t, show mT S = 4 by omega]; rfl) h3
        refine X_aload_n (pc := 63) C 0 dX7_trunkTold_63 rfl rfl ?_
        refine G_X7_9 (pc := 64) C (by assumption) dX7_trunkTold_64 ?_
        refine X_bipush (pc := 67) (v := 6) C dX7_trunkTold_67 (by decide) ?_
        refine X_aload_n (pc := 69) C 0 dX7_trunkTold_69 rfl rfl ?_
        refine G_X7_9 (pc := 70) C (by assumption) dX7_trunkTold_70 ?_
        refine X_iconst (pc := 73) (v := 3) C dX7_trunkTold_73 (by decide) ?_
        refine X_ialdN (j := 3) (pc := 74) C (by first | exact h1 _ (by decide) (by decide)) rfl (by omega) (by decide) dX7_trunkTold_74 ?_
        rw [mW_10]
        rw [hM.t]
        refine X_iadd (pc := 75) C dX7_trunkTold_75 ?_
        rw [tix2]
        refine X_iload_n (pc := 76) C 1 dX7_trunkTold_76 rfl rfl ?_
        refine X_iastN (pc := 77) C (by first | exact h1 _ (by decide) (by decide)) rfl (by omega) (by decide) dX7_trunkTold_77 ?_
        rw [mW_u10]
        refine X_aload_n (pc := 78) C 0 dX7_trunkTold_78 rfl rfl ?_
        refine G_X7_9 (pc := 79) C (by assumption) dX7_trunkTold_79 ?_
        refine X_iconst (pc := 82) (v := 3) C dX7_trunkTold_82 (by decide) ?_
        refine X_dup2 (pc := 83) C dX7_trunkTold_83 rfl rfl ?_
        refine X_ialdN (j := 3) (pc := 84) C (by first | exact h1 _ (by decide) (by decide)) rfl (by omega) (by decide) dX7_trunkTold_84 ?_
        rw [mW_10]
        rw [upd_ne (by omega), hM.t]
        refine X_iconst (pc := 85) (v := 1) C dX7_trunkTold_85 (by decide) ?_
        refine X_iadd (pc := 86) C dX7_trunkTold_86 ?_
        rw [nI_1]
        refine X_iastN (j := 3) (pc := 87) C (by first | exact h1 _ (by decide) (by decide)) rfl (by omega) (by decide) dX7_trunkTold_87 ?_
        rw [mW_u10]
        exact X_vret (pc := 88) C (Nat.zero_le _) (Nat.zero_le _) dX7_trunkTold_88 ⟨rfl, by first | rw [mTtS, if_neg h59] | rw [mTtS, if_pos h59]⟩
      · skip
        exact X_vret (pc := 62) C (Nat.zero_le _) (Nat.zero_le _) dX7_trunkTold_62 ⟨rfl, by first | rw [mTtS, if_neg h59] | rw [mTtS, if_pos h59]⟩
    · have g39 : (if (mNbF (τ.1 (.inr 16)) n (mTt1 (τ.1 (.inr 16)) n S F) 1 99) 16 = 3 then (0 : Int32) else 1) = 1 := if_neg h39
      refine X_iconst (pc := 42) (v := 1) C dX7_trunkTold_42 (by decide) ?_
      refine X_goto (pc := 43) C 47 dX7_trunkTold_43 (by decide) ?_
      refine X_iconst (pc := 47) (v := 1) C dX7_trunkTold_47 (by decide) ?_
      refine K_X7_190 (pc := 48) C (by assumption) (c_X7_wrong l P _ _ _ _ h1 _ _) ⟨Nat.le_of_ble_eq_true rfl, Nat.le_of_ble_eq_true rfl⟩ ⟨rfl, rfl⟩ ⟨Nat.zero_le _, Nat.zero_le _⟩ (Nat.le_of_ble_eq_true rfl) dX7_trunkTold_48 ?_
      refine XW.eq (σ' := mW τ S (mWr (mNbF (τ.1 (.inr 16)) n (mTt1 (τ.1 (.inr 16)) n S F) 1 99) (if (mNbF (τ.1 (.inr 16)) n (mTt1 (τ.1 (.inr 16)) n S F) 1 99) 16 = 3 then (0 : Int32) else 1) 1) L) (by rw [g39]) rfl rfl ?_
      refine X_aload_n (pc := 51) C 0 dX7_trunkTold_51 rfl rfl ?_
      refine K_X7_194 (pc := 52) C (by assumption) (c_X7_go l P _ _ _ _ h1 n (mWr_TK (mNbF_TK (mTt1_TK hT)))) ⟨Nat.le_of_ble_eq_true rfl, Nat.le_of_ble_eq_true rfl⟩ ⟨rfl, rfl⟩ ⟨Nat.zero_le _, Nat.zero_le _⟩ (Nat.le_of_ble_eq_true rfl) dX7_trunkTold_52 ?_
      refine XW.eq (σ' := mW τ S (mTtF (τ.1 (.inr 16)) n S F) L) rfl rfl rfl ?_
      refine X_aload_n (pc := 55) C 0 dX7_trunkTold_55 rfl rfl ?_
      refine G_X7_180 (pc := 56) C (by assumption) dX7_trunkTold_56 ?_
      rw [mW_9]
      refine X_if_eq (pc := 59) C 63 dX7_trunkTold_59 (by decide) (fun h59 => ?_) (fun h59 => ?_)
      · have h3 := (mTtF_0 h59).2.1
        have ht : mT S < 4 := by
          have h4 := hM.t4
          rcases Nat.lt_or_ge (mT S) 4 with q | q
          · exact q
          · exact absurd (by rw [hM.t, show mT S = 4 by omega]; rfl) h3
        refine X_aload_n (pc := 63) C 0 dX7_trunkTold_63 rfl rfl ?_
        refine G_X7_9 (pc := 64) C (by assumption) dX7_trunkTold_64 ?_
        refine X_bipush (pc := 67) (v := 6) C dX7_trunkTold_67 (by decide) ?_
        refine X_aload_n (pc := 69) C 0 dX7_trunkTold_69 rfl rfl ?_
        refine G_X7_9 (pc := 70) C (by assumption) dX7_trunkTold_70 ?_
        refine X_iconst (pc := 73) (v := 3) C dX7_trunkTold_73 (by decide) ?_
        refine X_ialdN (j := 3) (pc := 74) C (by first | exact h1 _ (by decide) (by decide)) rfl (by omega) (by decide) dX7_trunkTold_74 ?_
        rw [mW_10]
        rw [hM.t]
        refine X_iadd (pc := 75) C dX7_trunkTold_75 ?_
        rw [tix2]
        refine X_iload_n (pc := 76) C 1 dX7_trunkTold_76 rfl rfl ?_
        refine X_iastN (pc := 77) C (by first | exact h1 _ (by decide) (by decide)) rfl (by omega) (by decide) dX7_trunkTold_77 ?_
        rw [mW_u10]
        refine X_aload_n (pc := 78) C 0 dX7_trunkTold_78 rfl rfl ?_
        refine G_X7_9 (pc := 79) C (by assumption) dX7_trunkTold_79 ?_
        refine X_iconst (pc := 82) (v := 3) C dX7_trunkTold_82 (by decide) ?_
        refine X_dup2 (pc := 83) C dX7_trunkTold_83 rfl rfl ?_
        refine X_ialdN (j := 3) (pc := 84) C (by first | exact h1 _ (by decide) (by decide)) rfl (by omega) (by decide) dX7_trunkTold_84 ?_
        rw [mW_10]
        rw [upd_ne (by omega), hM.t]
        refine X_iconst (pc := 85) (v := 1) C dX7_trunkTold_85 (by decide) ?_
        refine X_iadd (pc := 86) C dX7_trunkTold_86 ?_
        rw [nI_1]
        refine X_iastN (j := 3) (pc := 87) C (by first | exact h1 _ (by decide) (by decide)) rfl (by omega) (by decide) dX7_trunkTold_87 ?_
        rw [mW_u10]
        exact X_vret (pc := 88) C (Nat.zero_le _) (Nat.zero_le _) dX7_trunkTold_88 ⟨rfl, by first | rw [mTtS, if_neg h59] | rw [mTtS, if_pos h59]⟩
      · skip
        exact X_vret (pc := 62) C (Nat.zero_le _) (Nat.zero_le _) dX7_trunkTold_62 ⟨rfl, by first | rw [mTtS, if_neg h59] | rw [mTtS, if_pos h59]⟩
  · have g8 : (if S 3 = 4 then (1 : Int32) else 0) = 1 := if_pos h8
    refine X_iconst (pc := 11) (v := 1) C dX7_trunkTold_11 (by decide) ?_
    refine X_goto (pc := 12) C 16 dX7_trunkTold_12 (by decide) ?_
    refine X_bipush (pc := 16) (v := 6) C dX7_trunkTold_16 (by decide) ?_
    refine K_X7_190 (pc := 18) C (by assumption) (c_X7_wrong l P _ _ _ _ h1 _ _) ⟨Nat.le_of_ble_eq_true rfl, Nat.le_of_ble_eq_true rfl⟩ ⟨rfl, rfl⟩ ⟨Nat.zero_le _, Nat.zero_le _⟩ (Nat.le_of_ble_eq_true rfl) dX7_trunkTold_18 ?_
    refine XW.eq (σ' := mW τ S (mWr F (if S 3 = 4 then (1 : Int32) else 0) 6) L) (by rw [g8]) rfl rfl ?_
    refine X_aload_n (pc := 21) C 0 dX7_trunkTold_21 rfl rfl ?_
    refine K_X7_194 (pc := 22) C (by assumption) (c_X7_go l P _ _ _ _ h1 n (mWr_TK hT)) ⟨Nat.le_of_ble_eq_true rfl, Nat.le_of_ble_eq_true rfl⟩ ⟨rfl, rfl⟩ ⟨Nat.zero_le _, Nat.zero_le _⟩ (Nat.le_of_ble_eq_true rfl) dX7_trunkTold_22 ?_
    refine XW.eq (σ' := mW τ S (mTt1 (τ.1 (.inr 16)) n S F) L) rfl rfl rfl ?_
    refine X_aload_n (pc := 25) C 0 dX7_trunkTold_25 rfl rfl ?_
    refine X_iconst (pc := 26) (v := 1) C dX7_trunkTold_26 (by decide) ?_
    refine X_bipush (pc := 27) (v := 99) C dX7_trunkTold_27 (by decide) ?_
    refine K_X7_203 (pc := 29) C (by assumption) (c_X7_number l P _ _ _ _ h1 n (mTt1_TK hT) 1 99) ⟨Nat.le_of_ble_eq_true rfl, Nat.le_of_ble_eq_true rfl⟩ ⟨rfl, rfl⟩ ⟨Nat.zero_le _, Nat.zero_le _⟩ (Nat.le_of_ble_eq_true rfl) dX7_trunkTold_29 ?_
    refine X_istore_n (pc := 32) (lv1 := [(0, _), (1, _)]) C 1 dX7_trunkTold_32 rfl (by decide) rfl ?_
    refine X_aload_n (pc := 33) C 0 dX7_trunkTold_33 rfl rfl ?_
    refine X_aload_n (pc := 34) C 0 dX7_trunkTold_34 rfl rfl ?_
    refine G_X7_164 (pc := 35) C (by assumption) dX7_trunkTold_35 ?_
    rw [mW_9]
    refine X_iconst (pc := 38) (v := 3) C dX7_trunkTold_38 (by decide) ?_
    refine X_icmp_eq (pc := 39) C 46 dX7_trunkTold_39 (by decide) (fun h39 => ?_) (fun h39 => ?_)
    · have g39 : (if (mNbF (τ.1 (.inr 16)) n (mTt1 (τ.1 (.inr 16)) n S F) 1 99) 16 = 3 then (0 : Int32) else 1) = 0 := if_pos h39
      refine X_iconst (pc := 46) (v := 0) C dX7_trunkTold_46 (by decide) ?_
      refine X_iconst (pc := 47) (v := 1) C dX7_trunkTold_47 (by decide) ?_
      refine K_X7_190 (pc := 48) C (by assumption) (c_X7_wrong l P _ _ _ _ h1 _ _) ⟨Nat.le_of_ble_eq_true rfl, Nat.le_of_ble_eq_true rfl⟩ ⟨rfl, rfl⟩ ⟨Nat.zero_le _, Nat.zero_le _⟩ (Nat.le_of_ble_eq_true rfl) dX7_trunkTold_48 ?_
      refine XW.eq (σ' := mW τ S (mWr (mNbF (τ.1 (.inr 16)) n (mTt1 (τ.1 (.inr 16)) n S F) 1 99) (if (mNbF (τ.1 (.inr 16)) n (mTt1 (τ.1 (.inr 16)) n S F) 1 99) 16 = 3 then (0 : Int32) else 1) 1) L) (by rw [g39]) rfl rfl ?_
      refine X_aload_n (pc := 51) C 0 dX7_trunkTold_51 rfl rfl ?_
      refine K_X7_194 (pc := 52) C (by assumption) (c_X7_go l P _ _ _ _ h1 n (mWr_TK (mNbF_TK (mTt1_TK hT)))) ⟨Nat.le_of_ble_eq_true rfl, Nat.le_of_ble_eq_true rfl⟩ ⟨rfl, rfl⟩ ⟨Nat.zero_le _, Nat.zero_le _⟩ (Nat.le_of_ble_eq_true rfl) dX7_trunkTold_52 ?_
      refine XW.eq (σ' := mW τ S (mTtF (τ.1 (.inr 16)) n S F) L) rfl rfl rfl ?_
      refine X_aload_n (pc := 55) C 0 dX7_trunkTold_55 rfl rfl ?_
      refine G_X7_180 (pc := 56) C (by assumption) dX7_trunkTold_56 ?_
      rw [mW_9]
      refine X_if_eq (pc := 59) C 63 dX7_trunkTold_59 (by decide) (fun h59 => ?_) (fun h59 => ?_)
      · have h3 := (mTtF_0 h59).2.1
        have ht : mT S < 4 := by
          have h4 := hM.t4
          rcases Nat.lt_or_ge (mT S) 4 with q | q
          · exact q
          · exact absurd (by rw [hM.t, show mT S = 4 by omega]; rfl) h3
        refine X_aload_n (pc := 63) C 0 dX7_trunkTold_63 rfl rfl ?_
        refine G_X7_9 (pc := 64) C (by assumption) dX7_trunkTold_64 ?_
        refine X_bipush (pc := 67) (v := 6) C dX7_trunkTold_67 (by decide) ?_
        refine X_aload_n (pc := 69) C 0 dX7_trunkTold_69 rfl rfl ?_
        refine G_X7_9 (pc := 70) C (by assumption) dX7_trunkTold_70 ?_
        refine X_iconst (pc := 73) (v := 3) C dX7_trunkTold_73 (by decide) ?_
        refine X_ialdN (j := 3) (pc := 74) C (by first | exact h1 _ (by decide) (by decide)) rfl (by omega) (by decide) dX7_trunkTold_74 ?_
        rw [mW_10]
        rw [hM.t]
        refine X_iadd (pc := 75) C dX7_trunkTold_75 ?_
        rw [tix2]
        refine X_iload_n (pc := 76) C 1 dX7_trunkTold_76 rfl rfl ?_
        refine X_iastN (pc := 77) C (by first | exact h1 _ (by decide) (by decide)) rfl (by omega) (by decide) dX7_trunkTold_77 ?_
        rw [mW_u10]
        refine X_aload_n (pc := 78) C 0 dX7_trunkTold_78 rfl rfl ?_
        refine G_X7_9 (pc := 79) C (by assumption) dX7_trunkTold_79 ?_
        refine X_iconst (pc := 82) (v := 3) C dX7_trunkTold_82 (by decide) ?_
        refine X_dup2 (pc := 83) C dX7_trunkTold_83 rfl rfl ?_
        refine X_ialdN (j := 3) (pc := 84) C (by first | exact h1 _ (by decide) (by decide)) rfl (by omega) (by decide) dX7_trunkTold_84 ?_
        rw [mW_10]
        rw [upd_ne (by omega), hM.t]
        refine X_iconst (pc := 85) (v := 1) C dX7_trunkTold_85 (by decide) ?_
        refine X_iadd (pc := 86) C dX7_trunkTold_86 ?_
        rw [nI_1]
        refine X_iastN (j := 3) (pc := 87) C (by first | exact h1 _ (by decide) (by decide)) rfl (by omega) (by decide) dX7_trunkTold_87 ?_
        rw [mW_u10]
        exact X_vret (pc := 88) C (Nat.zero_le _) (Nat.zero_le _) dX7_trunkTold_88 ⟨rfl, by first | rw [mTtS, if_neg h59] | rw [mTtS, if_pos h59]⟩
      · skip
        exact X_vret (pc := 62) C (Nat.zero_le _) (Nat.zero_le _) dX7_trunkTold_62 ⟨rfl, by first | rw [mTtS, if_neg h59] | rw [mTtS, if_pos h59]⟩
    · have g39 : (if (mNbF (τ.1 (.inr 16)) n (mTt1 (τ.1 (.inr 16)) n S F) 1 99) 16 = 3 then (0 : Int32) else 1) = 1 := if_neg h39
      refine X_iconst (pc := 42) (v := 1) C dX7_trunkTold_42 (by decide) ?_
      refine X_goto (pc := 43) C 47 dX7_trunkTold_43 (by decide) ?_
      refine X_iconst (pc := 47) (v := 1) C dX7_trunkTold_47 (by decide) ?_
      refine K_X7_190 (pc := 48) C (by assumption) (c_X7_wrong l P _ _ _ _ h1 _ _) ⟨Nat.le_of_ble_eq_true rfl, Nat.le_of_ble_eq_true rfl⟩ ⟨rfl, rfl⟩ ⟨Nat.zero_le _, Nat.zero_le _⟩ (Nat.le_of_ble_eq_true rfl) dX7_trunkTold_48 ?_
      refine XW.eq (σ' := mW τ S (mWr (mNbF (τ.1 (.inr 16)) n (mTt1 (τ.1 (.inr 16)) n S F) 1 99) (if (mNbF (τ.1 (.inr 16)) n (mTt1 (τ.1 (.inr 16)) n S F) 1 99) 16 = 3 then (0 : Int32) else 1) 1) L) (by rw [g39]) rfl rfl ?_
      refine X_aload_n (pc := 51) C 0 dX7_trunkTold_51 rfl rfl ?_
      refine K_X7_194 (pc := 52) C (by assumption) (c_X7_go l P _ _ _ _ h1 n (mWr_TK (mNbF_TK (mTt1_TK hT)))) ⟨Nat.le_of_ble_eq_true rfl, Nat.le_of_ble_eq_true rfl⟩ ⟨rfl, rfl⟩ ⟨Nat.zero_le _, Nat.zero_le _⟩ (Nat.le_of_ble_eq_true rfl) dX7_trunkTold_52 ?_
      refine XW.eq (σ' := mW τ S (mTtF (τ.1 (.inr 16)) n S F) L) rfl rfl rfl ?_
      refine X_aload_n (pc := 55) C 0 dX7_trunkTold_55 rfl rfl ?_
      refine G_X7_180 (pc := 56) C (by assumption) dX7_trunkTold_56 ?_
      rw [mW_9]
      refine X_if_eq (pc := 59) C 63 dX7_trunkTold_59 (by decide) (fun h59 => ?_) (fun h59 => ?_)
      · have h3 := (mTtF_0 h59).2.1
        have ht : mT S < 4 := by
          have h4 := hM.t4
          rcases Nat.lt_or_ge (mT S) 4 with q | q
          · exact q
          · exact absurd (by rw [hM.t, show mT S = 4 by omega]; rfl) h3
        refine X_aload_n (pc := 63) C 0 dX7_trunkTold_63 rfl rfl ?_
        refine G_X7_9 (pc := 64) C (by assumption) dX7_trunkTold_64 ?_
        refine X_bipush (pc := 67) (v := 6) C dX7_trunkTold_67 (by decide) ?_
        refine X_aload_n (pc := 69) C 0 dX7_trunkTold_69 rfl rfl ?_
        refine G_X7_9 (pc := 70) C (by assumption) dX7_trunkTold_70 ?_
        refine X_iconst (pc := 73) (v := 3) C dX7_trunkTold_73 (by decide) ?_
        refine X_ialdN (j := 3) (pc := 74) C (by first | exact h1 _ (by decide) (by decide)) rfl (by omega) (by decide) dX7_trunkTold_74 ?_
        rw [mW_10]
        rw [hM.t]
        refine X_iadd (pc := 75) C dX7_trunkTold_75 ?_
        rw [tix2]
        refine X_iload_n (pc := 76) C 1 dX7_trunkTold_76 rfl rfl ?_
        refine X_iastN (pc := 77) C (by first | exact h1 _ (by decide) (by decide)) rfl (by omega) (by decide) dX7_trunkTold_77 ?_
        rw [mW_u10]
        refine X_aload_n (pc := 78) C 0 dX7_trunkTold_78 rfl rfl ?_
        refine G_X7_9 (pc := 79) C (by assumption) dX7_trunkTold_79 ?_
        refine X_iconst (pc := 82) (v := 3) C dX7_trunkTold_82 (by decide) ?_
        refine X_dup2 (pc := 83) C dX7_trunkTold_83 rfl rfl ?_
        refine X_ialdN (j := 3) (pc := 84) C (by first | exact h1 _ (by decide) (by decide)) rfl (by omega) (by decide) dX7_trunkTold_84 ?_
        rw [mW_10]
        rw [upd_ne (by omega), hM.t]
        refine X_iconst (pc := 85) (v := 1) C dX7_trunkTold_85 (by decide) ?_
        refine X_iadd (pc := 86) C dX7_trunkTold_86 ?_
        rw [nI_1]
        refine X_iastN (j := 3) (pc := 87) C (by first | exact h1 _ (by decide) (by decide)) rfl (by omega) (by decide) dX7_trunkTold_87 ?_
        rw [mW_u10]
        exact X_vret (pc := 88) C (Nat.zero_le _) (Nat.zero_le _) dX7_trunkTold_88 ⟨rfl, by first | rw [mTtS, if_neg h59] | rw [mTtS, if_pos h59]⟩
      · skip
        exact X_vret (pc := 62) C (Nat.zero_le _) (Nat.zero_le _) dX7_trunkTold_62 ⟨rfl, by first | rw [mTtS, if_neg h59] | rw [mTtS, if_pos h59]⟩

set_option maxRecDepth 100000 in
set_option maxHeartbeats 4000000 in
theorem L1_X7_userTold (C : XC p s m args meth c P A 5 RX7 cX7_userTold none) {τ : XS} {S F L : Nat → Int32} (h1 : xI1 P) {u w : Nat} (hu : u < 15) (hw : w ≤ 6) (h15 : F 15 = nI w) (kx : XW p l e rm_X7_userTold s m args below meth c P A 5 0 0 Q (mW τ (mPutL S u L w) F L) 130 [(0, .ref (P.2.2.1 (.inr 9))), (1, .int (nI u)), (2, .int (nI (w)))] []) : ∀ (k i : Nat), i + k = w → XW p l e rm_X7_userTold s m args below meth c P A 5 0 0 Q (mW τ (mPutL S u L i) F L) 101 [(0, .ref (P.2.2.1 (.inr 9))), (1, .int (nI u)), (2, .int (nI (i)))] [] := by
  intro k
  induction k with
  | zero =>
    intro i hi
    have e9 : i = w := by omega
    subst e9
    refine X_iload_n (pc := 101) C 2 dX7_userTold_101 rfl rfl ?_
    refine X_aload_n (pc := 102) C 0 dX7_userTold_102 rfl rfl ?_
    refine G_X7_148 (pc := 103) C (by assumption) dX7_userTold_103 ?_
    rw [mW_9]
    rw [h15]
    refine X_icmp_ge (pc := 106) C 130 dX7_userTold_106 (by decide) (fun h106 => ?_) (fun h106 => ?_)
    · skip
      exact kx
    · exact absurd (nI_le (Nat.le_refl _) (n31 (by omega))) h106
  | succ k ih =>
    intro i hi
    have hlt : i < w := by omega
    refine X_iload_n (pc := 101) C 2 dX7_userTold_101 rfl rfl ?_
    refine X_aload_n (pc := 102) C 0 dX7_userTold_102 rfl rfl ?_
    refine G_X7_148 (pc := 103) C (by assumption) dX7_userTold_103 ?_
    rw [mW_9]
    rw [h15]
    refine X_icmp_ge (pc := 106) C 130 dX7_userTold_106 (by decide) (fun h106 => ?_) (fun h106 => ?_)
    · exact absurd (nle h106) (by omega)
    · skip
      refine X_aload_n (pc := 109) C 0 dX7_userTold_109 rfl rfl ?_
      refine X_iload_n (pc := 110) C 1 dX7_userTold_110 rfl rfl ?_
      refine X_bipush (pc := 111) (v := 6) C dX7_userTold_111 (by decide) ?_
      refine X_iload_n (pc := 113) C 2 dX7_userTold_113 rfl rfl ?_
      refine X_iadd (pc := 114) C dX7_userTold_114 ?_
      rw [tix2]
      refine X_aload_n (pc := 115) C 0 dX7_userTold_115 rfl rfl ?_
      refine G_X7_39 (pc := 116) C (by assumption) dX7_userTold_116 ?_
      refine X_iload_n (pc := 119) C 2 dX7_userTold_119 rfl rfl ?_
      refine X_ialdN (pc := 120) C (by first | exact h1 _ (by decide) (by decide)) rfl (by omega) (by decide) dX7_userTold_120 ?_
      rw [mW_18]
      refine K_X7_123 (pc := 121) C (by assumption) (c_X7_putUser l P _ _ _ _ h1 u (6 + i) hu (by omega) _ _ _ rfl rfl) ⟨Nat.le_of_ble_eq_true rfl, Nat.le_of_ble_eq_true rfl⟩ ⟨rfl, rfl⟩ ⟨Nat.zero_le _, Nat.zero_le _⟩ (Nat.le_of_ble_eq_true rfl) dX7_userTold_121 ?_
      first | refine X_iincN (pc := 124) (lv1 := [(0, _), (1, _), (2, _)]) C dX7_userTold_124 rfl (by decide) (by decide) rfl ?_ | refine X_iinc (pc := 124) (kk := 1) (lv1 := [(0, _), (1, _), (2, _)]) C dX7_userTold_124 rfl (by decide) (by decide) rfl ?_
      refine X_goto (pc := 127) C 101 dX7_userTold_127 (by decide) ?_
      exact ih (i + 1) (by omega)

set_option maxRecDepth 100000 in
set_option maxHeartbeats 4000000 in
theorem L2_X7_userTold (C : XC p s m args meth c P A 5 RX7 cX7_userTold none) {τ : XS} {S L : Nat → Int32} (h1 : xI1 P) {u : Nat} {x y : Int32} (hu : u ≤ 15) (hy : xok y 64) (hcs : ∀ j, j < u → xok (sU S 1 j) 64) : ∀ (k i : Nat) (F : Nat → Int32), i + k = u → (XW p l e rm_X7_userTold s m args below meth c P A 5 0 0 Q (mW τ S (mAmb S x y k i F) L) 235 [(0, .ref (P.2.2.1 (.inr 9))), (1, .int (nI u)), (2, .int x), (3, .int y), (4, .int (nI (u)))] []) → XW p l e rm_X7_userTold s m args below meth c P A 5 0 0 Q (mW τ S F L) 167 [(0, .ref (P.2.2.1 (.inr 9))), (1, .int (nI u)), (2, .int x), (3, .int y), (4, .int (nI (i)))] [] := by
  intro k
  induction k with
  | zero =>
    intro i F hi kx
    have e9 : i = u := by omega
    subst e9
    refine X_iload (pc := 167) C dX7_userTold_167 rfl ?_
    refine X_iload_n (pc := 169) C 1 dX7_userTold_169 rfl rfl ?_
    refine X_icmp_ge (pc := 170) C 235 dX7_userTold_170 (by decide) (fun h170 => ?_) (fun h170 => ?_)
    · skip
      exact kx
    · exact absurd (nI_le (Nat.le_refl _) (n31 (by omega))) h170
  | succ k ih =>
    intro i F hi kx
    have hlt : i < u := by omega
    have gc := xok_c (hcs i hlt)
    have gy := xok_c hy
    refine X_iload (pc := 167) C dX7_userTold_167 rfl ?_
    refine X_iload_n (pc := 169) C 1 dX7_userTold_169 rfl rfl ?_
    refine X_icmp_ge (pc := 170) C 235 dX7_userTold_170 (by decide) (fun h170 => ?_) (fun h170 => ?_)
    · exact absurd (nle h170) (by omega)
    · skip
      refine X_aload_n (pc := 173) C 0 dX7_userTold_173 rfl rfl ?_
      refine X_aload_n (pc := 174) C 0 dX7_userTold_174 rfl rfl ?_
      refine G_X7_180 (pc := 175) C (by assumption) dX7_userTold_175 ?_
      rw [mW_9]
      refine X_if_ne (pc := 178) C 224 dX7_userTold_178 (by decide) (fun h178 => ?_) (fun h178 => ?_)
      · have g9 : mAmbI S F x y i = 0 := if_neg (fun q => h178 q.1)
        refine X_iconst (pc := 224) (v := 0) C dX7_userTold_224 (by decide) ?_
        refine X_iconst (pc := 225) (v := 5) C dX7_userTold_225 (by decide) ?_
        refine K_X7_190 (pc := 226) C (by assumption) (c_X7_wrong l P _ _ _ _ h1 _ _) ⟨Nat.le_of_ble_eq_true rfl, Nat.le_of_ble_eq_true rfl⟩ ⟨rfl, rfl⟩ ⟨Nat.zero_le _, Nat.zero_le _⟩ (Nat.le_of_ble_eq_true rfl) dX7_userTold_226 ?_
        refine XW.eq (σ' := mW τ S (mWr F (mAmbI S F x y i) 5) L) (by rw [g9]) rfl rfl ?_
        first | refine X_iincN (pc := 229) (lv1 := [(0, _), (1, _), (2, _), (3, _), (4, _)]) C dX7_userTold_229 rfl (by decide) (by decide) rfl ?_ | refine X_iinc (pc := 229) (kk := 1) (lv1 := [(0, _), (1, _), (2, _), (3, _), (4, _)]) C dX7_userTold_229 rfl (by decide) (by decide) rfl ?_
        refine X_goto (pc := 232) C 167 dX7_userTold_232 (by decide) ?_
        exact XW.less (lv' := [(0, _), (1, _), (2, _), (3, _), (4, _)]) [0, 1, 2, 3, 4] rfl (ih (i + 1) _ (by omega) kx)
      · skip
        refine X_aload_n (pc := 181) C 0 dX7_userTold_181 rfl rfl ?_
        refine X_iload (pc := 182) C dX7_userTold_182 rfl ?_
        refine X_iconst (pc := 184) (v := 0) C dX7_userTold_184 (by decide) ?_
        refine K_X7_92 (pc := 185) C (by assumption) (c_X7_ofUser l P _ _ _ _ h1 i 0 (by omega) (by decide) _ 0 rfl rfl) ⟨Nat.le_of_ble_eq_true rfl, Nat.le_of_ble_eq_true rfl⟩ ⟨rfl, rfl⟩ ⟨Nat.zero_le _, Nat.zero_le _⟩ (Nat.le_of_ble_eq_true rfl) dX7_userTold_185 ?_
        refine X_iload_n (pc := 188) C 2 dX7_userTold_188 rfl rfl ?_
        refine X_icmp_ne (pc := 189) C 224 dX7_userTold_189 (by decide) (fun h189 => ?_) (fun h189 => ?_)
        · have g9 : mAmbI S F x y i = 0 := if_neg (fun q => h189 q.2.1)
          refine X_iconst (pc := 224) (v := 0) C dX7_userTold_224 (by decide) ?_
          refine X_iconst (pc := 225) (v := 5) C dX7_userTold_225 (by decide) ?_
          refine K_X7_190 (pc := 226) C (by assumption) (c_X7_wrong l P _ _ _ _ h1 _ _) ⟨Nat.le_of_ble_eq_true rfl, Nat.le_of_ble_eq_true rfl⟩ ⟨rfl, rfl⟩ ⟨Nat.zero_le _, Nat.zero_le _⟩ (Nat.le_of_ble_eq_true rfl) dX7_userTold_226 ?_
          refine XW.eq (σ' := mW τ S (mWr F (mAmbI S F x y i) 5) L) (by rw [g9]) rfl rfl ?_
          first | refine X_iincN (pc := 229) (lv1 := [(0, _), (1, _), (2, _), (3, _), (4, _)]) C dX7_userTold_229 rfl (by decide) (by decide) rfl ?_ | refine X_iinc (pc := 229) (kk := 1) (lv1 := [(0, _), (1, _), (2, _), (3, _), (4, _)]) C dX7_userTold_229 rfl (by decide) (by decide) rfl ?_
          refine X_goto (pc := 232) C 167 dX7_userTold_232 (by decide) ?_
          exact XW.less (lv' := [(0, _), (1, _), (2, _), (3, _), (4, _)]) [0, 1, 2, 3, 4] rfl (ih (i + 1) _ (by omega) kx)
        · skip
          refine X_aload_n (pc := 192) C 0 dX7_userTold_192 rfl rfl ?_
          refine X_iload (pc := 193) C dX7_userTold_193 rfl ?_
          refine X_iconst (pc := 195) (v := 1) C dX7_userTold_195 (by decide) ?_
          refine K_X7_92 (pc := 196) C (by assumption) (c_X7_ofUser l P _ _ _ _ h1 i 1 (by omega) (by decide) _ 1 rfl rfl) ⟨Nat.le_of_ble_eq_true rfl, Nat.le_of_ble_eq_true rfl⟩ ⟨rfl, rfl⟩ ⟨Nat.zero_le _, Nat.zero_le _⟩ (Nat.le_of_ble_eq_true rfl) dX7_userTold_196 ?_
          refine X_iload_n (pc := 199) C 3 dX7_userTold_199 rfl rfl ?_
          refine K_X7_215 (pc := 200) C (c_X7_begins l P _ (cN (sU S 1 i)) (cN y) (gc).1 (gy).1 _ _ (gc).2 (gy).2) ⟨Nat.le_of_ble_eq_true rfl, Nat.le_of_ble_eq_true rfl⟩ ⟨rfl, rfl⟩ ⟨Nat.zero_le _, Nat.zero_le _⟩ (Nat.le_of_ble_eq_true rfl) dX7_userTold_200 ?_
          refine X_if_ne (pc := 203) C 220 dX7_userTold_203 (by decide) (fun h203 => ?_) (fun h203 => ?_)
          · have g9 : mAmbI S F x y i = 1 := if_pos ⟨h178, h189, Or.inl (bz1 h203)⟩
            refine X_iconst (pc := 220) (v := 1) C dX7_userTold_220 (by decide) ?_
            refine X_goto (pc := 221) C 225 dX7_userTold_221 (by decide) ?_
            refine X_iconst (pc := 225) (v := 5) C dX7_userTold_225 (by decide) ?_
            refine K_X7_190 (pc := 226) C (by assumption) (c_X7_wrong l P _ _ _ _ h1 _ _) ⟨Nat.le_of_ble_eq_true rfl, Nat.le_of_ble_eq_true rfl⟩ ⟨rfl, rfl⟩ ⟨Nat.zero_le _, Nat.zero_le _⟩ (Nat.le_of_ble_eq_true rfl) dX7_userTold_226 ?_
            refine XW.eq (σ' := mW τ S (mWr F (mAmbI S F x y i) 5) L) (by rw [g9]) rfl rfl ?_
            first | refine X_iincN (pc := 229) (lv1 := [(0, _), (1, _), (2, _), (3, _), (4, _)]) C dX7_userTold_229 rfl (by decide) (by decide) rfl ?_ | refine X_iinc (pc := 229) (kk := 1) (lv1 := [(0, _), (1, _), (2, _), (3, _), (4, _)]) C dX7_userTold_229 rfl (by decide) (by decide) rfl ?_
            refine X_goto (pc := 232) C 167 dX7_userTold_232 (by decide) ?_
            exact XW.less (lv' := [(0, _), (1, _), (2, _), (3, _), (4, _)]) [0, 1, 2, 3, 4] rfl (ih (i + 1) _ (by omega) kx)
          · skip
            refine X_iload_n (pc := 206) C 3 dX7_userTold_206 rfl rfl ?_
            refine X_aload_n (pc := 207) C 0 dX7_userTold_207 rfl rfl ?_
            refine X_iload (pc := 208) C dX7_userTold_208 rfl ?_
            refine X_iconst (pc := 210) (v := 1) C dX7_userTold_210 (by decide) ?_
            refine K_X7_92 (pc := 211) C (by assumption) (c_X7_ofUser l P _ _ _ _ h1 i 1 (by omega) (by decide) _ 1 rfl rfl) ⟨Nat.le_of_ble_eq_true rfl, Nat.le_of_ble_eq_true rfl⟩ ⟨rfl, rfl⟩ ⟨Nat.zero_le _, Nat.zero_le _⟩ (Nat.le_of_ble_eq_true rfl) dX7_userTold_211 ?_
            refine K_X7_215 (pc := 214) C (c_X7_begins l P _ (cN y) (cN (sU S 1 i)) (gy).1 (gc).1 _ _ (gy).2 (gc).2) ⟨Nat.le_of_ble_eq_true rfl, Nat.le_of_ble_eq_true rfl⟩ ⟨rfl, rfl⟩ ⟨Nat.zero_le _, Nat.zero_le _⟩ (Nat.le_of_ble_eq_true rfl) dX7_userTold_214 ?_
            refine X_if_eq (pc := 217) C 224 dX7_userTold_217 (by decide) (fun h217 => ?_) (fun h217 => ?_)
            · have g9 : mAmbI S F x y i = 0 := if_neg (fun q => q.2.2.elim (bz0 h203) (bz0 h217))
              refine X_iconst (pc := 224) (v := 0) C dX7_userTold_224 (by decide) ?_
              refine X_iconst (pc := 225) (v := 5) C dX7_userTold_225 (by decide) ?_
              refine K_X7_190 (pc := 226) C (by assumption) (c_X7_wrong l P _ _ _ _ h1 _ _) ⟨Nat.le_of_ble_eq_true rfl, Nat.le_of_ble_eq_true rfl⟩ ⟨rfl, rfl⟩ ⟨Nat.zero_le _, Nat.zero_le _⟩ (Nat.le_of_ble_eq_true rfl) dX7_userTold_226 ?_
              refine XW.eq (σ' := mW τ S (mWr F (mAmbI S F x y i) 5) L) (by rw [g9]) rfl rfl ?_
              first | refine X_iincN (pc := 229) (lv1 := [(0, _), (1, _), (2, _), (3, _), (4, _)]) C dX7_userTold_229 rfl (by decide) (by decide) rfl ?_ | refine X_iinc (pc := 229) (kk := 1) (lv1 := [(0, _), (1, _), (2, _), (3, _), (4, _)]) C dX7_userTold_229 rfl (by decide) (by decide) rfl ?_
              refine X_goto (pc := 232) C 167 dX7_userTold_232 (by decide) ?_
              exact XW.less (lv' := [(0, _), (1, _), (2, _), (3, _), (4, _)]) [0, 1, 2, 3, 4] rfl (ih (i + 1) _ (by omega) kx)
            · have g9 : mAmbI S F x y i = 1 := if_pos ⟨h178, h189, Or.inr (bz1 h217)⟩
              refine X_iconst (pc := 220) (v := 1) C dX7_userTold_220 (by decide) ?_
              refine X_goto (pc := 221) C 225 dX7_userTold_221 (by decide) ?_
              refine X_iconst (pc := 225) (v := 5) C dX7_userTold_225 (by decide) ?_
              refine K_X7_190 (pc := 226) C (by assumption) (c_X7_wrong l P _ _ _ _ h1 _ _) ⟨Nat.le_of_ble_eq_true rfl, Nat.le_of_ble_eq_true rfl⟩ ⟨rfl, rfl⟩ ⟨Nat.zero_le _, Nat.zero_le _⟩ (Nat.le_of_ble_eq_true rfl) dX7_userTold_226 ?_
              refine XW.eq (σ' := mW τ S (mWr F (mAmbI S F x y i) 5) L) (by rw [g9]) rfl rfl ?_
              first | refine X_iincN (pc := 229) (lv1 := [(0, _), (1, _), (2, _), (3, _), (4, _)]) C dX7_userTold_229 rfl (by decide) (by decide) rfl ?_ | refine X_iinc (pc := 229) (kk := 1) (lv1 := [(0, _), (1, _), (2, _), (3, _), (4, _)]) C dX7_userTold_229 rfl (by decide) (by decide) rfl ?_
              refine X_goto (pc := 232) C 167 dX7_userTold_232 (by decide) ?_
              exact XW.less (lv' := [(0, _), (1, _), (2, _), (3, _), (4, _)]) [0, 1, 2, 3, 4] rfl (ih (i + 1) _ (by omega) kx)

set_option maxRecDepth 100000 in
set_option maxHeartbeats 4000000 in
theorem c_X7_userTold (l : Launch) (P : XP) (τ : XS) (S F L : Nat → Int32) (h1 : xI1 P) (n : Nat) (hT : TK n F) (hM : MI S) (hC : MC S) : XF l yX7_userTold cX7_userTold 5 none rm_X7_userTold P [.ref (P.2.2.1 (.inr 9))] (mW τ S F L) (none) (mW τ (mUtS (τ.1 (.inr 16)) n S F L) (mUtF (τ.1 (.inr 16)) n S F L) (mUtL (τ.1 (.inr 16)) n S F L)) := by
  refine XM.of (by decide +kernel) (Nat.le_of_ble_eq_true rfl) (fun p e s m args below meth c A C => ?_)
  replace C : XC p s m args meth c P A 5 RX7 cX7_userTold none := C
  refine XW.eq (lv' := [(0, _)]) rfl rfl rfl ?_
  refine X_aload_n (pc := 0) C 0 dX7_userTold_0 rfl rfl ?_
  refine X_aload_n (pc := 1) C 0 dX7_userTold_1 rfl rfl ?_
  refine X_ldcS (pc := 2) (q := 2) C (List.mem_of_getElem? (i := 11) rfl) dX7_userTold_2 ?_
  refine X_fV (i := .inr 9) (ci := 7) (n := 1) (pc := 4) C [.ref _] (c_X7_is l P _ _ _ _ h1 n hT 2 (by decide)) m_c_X7_is m_m_X7_208 m_i_X7_is m_s_X7_is m_n_X7 ⟨by decide +kernel, by decide +kernel, by decide +kernel⟩ ⟨Nat.le_of_ble_eq_true rfl, Nat.le_of_ble_eq_true rfl⟩ ⟨rfl, rfl⟩ ⟨Nat.zero_le _, Nat.zero_le _⟩ (h1 9 (by decide) (by decide)) rfl rfl rfl rfl (Nat.le_of_ble_eq_true rfl) rfl dX7_userTold_4 ?_
  refine X_if_ne (pc := 7) C 14 dX7_userTold_7 (by decide) (fun h7 => ?_) (fun h7 => ?_)
  · have g7 : (if mIs (τ.1 (.inr 16)) F 2 = 0 then (1 : Int32) else 0) = 0 := if_neg h7
    refine X_iconst (pc := 14) (v := 0) C dX7_userTold_14 (by decide) ?_
    refine X_iconst (pc := 15) (v := 1) C dX7_userTold_15 (by decide) ?_
    refine K_X7_190 (pc := 16) C (by assumption) (c_X7_wrong l P _ _ _ _ h1 _ _) ⟨Nat.le_of_ble_eq_true rfl, Nat.le_of_ble_eq_true rfl⟩ ⟨rfl, rfl⟩ ⟨Nat.zero_le _, Nat.zero_le _⟩ (Nat.le_of_ble_eq_true rfl) dX7_userTold_16 ?_
    refine XW.eq (σ' := mW τ S (mWr F (if mIs (τ.1 (.inr 16)) F 2 = 0 then (1 : Int32) else 0) 1) L) (by rw [g7]) rfl rfl ?_
    refine X_aload_n (pc := 19) C 0 dX7_userTold_19 rfl rfl ?_
    refine X_aload_n (pc := 20) C 0 dX7_userTold_20 rfl rfl ?_
    refine G_X7_9 (pc := 21) C (by assumption) dX7_userTold_21 ?_
    refine X_iconst (pc := 24) (v := 4) C dX7_userTold_24 (by decide) ?_
    refine X_ialdN (j := 4) (pc := 25) C (by first | exact h1 _ (by decide) (by decide)) rfl (by omega) (by decide) dX7_userTold_25 ?_
    rw [mW_10]
    refine X_bipush (pc := 26) (v := 15) C dX7_userTold_26 (by decide) ?_
    refine X_icmp_ne (pc := 28) C 35 dX7_userTold_28 (by decide) (fun h28 => ?_) (fun h28 => ?_)
    · have g28 : (if S 4 = 15 then (1 : Int32) else 0) = 0 := if_neg h28
      refine X_iconst (pc := 35) (v := 0) C dX7_userTold_35 (by decide) ?_
      refine X_bipush (pc := 36) (v := 6) C dX7_userTold_36 (by decide) ?_
      refine K_X7_190 (pc := 38) C (by assumption) (c_X7_wrong l P _ _ _ _ h1 _ _) ⟨Nat.le_of_ble_eq_true rfl, Nat.le_of_ble_eq_true rfl⟩ ⟨rfl, rfl⟩ ⟨Nat.zero_le _, Nat.zero_le _⟩ (Nat.le_of_ble_eq_true rfl) dX7_userTold_38 ?_
      refine XW.eq (σ' := mW τ S (mWr (mWr F (if mIs (τ.1 (.inr 16)) F 2 = 0 then (1 : Int32) else 0) 1) (if S 4 = 15 then (1 : Int32) else 0) 6) L) (by rw [g28]) rfl rfl ?_
      refine X_aload_n (pc := 41) C 0 dX7_userTold_41 rfl rfl ?_
      refine K_X7_194 (pc := 42) C (by assumption) (c_X7_go l P _ _ _ _ h1 n (mWr_TK (mWr_TK hT))) ⟨Nat.le_of_ble_eq_true rfl, Nat.le_of_ble_eq_true rfl⟩ ⟨rfl, rfl⟩ ⟨Nat.zero_le _, Nat.zero_le _⟩ (Nat.le_of_ble_eq_true rfl) dX7_userTold_42 ?_
      refine XW.eq (σ' := mW τ S (mUt1 (τ.1 (.inr 16)) n S F) L) (by rfl) rfl rfl ?_
      refine X_aload_n (pc := 45) C 0 dX7_userTold_45 rfl rfl ?_
      refine K_X7_197 (pc := 46) C (by assumption) (c_X7_nameHere l P _ _ _ _ h1 n (mUt1_TK hT)) ⟨Nat.le_of_ble_eq_true rfl, Nat.le_of_ble_eq_true rfl⟩ ⟨rfl, rfl⟩ ⟨Nat.zero_le _, Nat.zero_le _⟩ (Nat.le_of_ble_eq_true rfl) dX7_userTold_46 ?_
      refine XW.eq (σ' := mW τ S (mUt2 (τ.1 (.inr 16)) n S F) (mUtL (τ.1 (.inr 16)) n S F L)) (by rfl) rfl rfl ?_
      refine X_aload_n (pc := 49) C 0 dX7_userTold_49 rfl rfl ?_
      refine X_aload_n (pc := 50) C 0 dX7_userTold_50 rfl rfl ?_
      refine G_X7_180 (pc := 51) C (by assumption) dX7_userTold_51 ?_
      rw [mW_9]
      refine X_if_ne (pc := 54) C 69 dX7_userTold_54 (by decide) (fun h54 => ?_) (fun h54 => ?_)
      · have g62 : (if (mUt2 (τ.1 (.inr 16)) n S F) 20 = 0 ∧ ¬ mNmd S (mUt2 (τ.1 (.inr 16)) n S F) (mUtL (τ.1 (.inr 16)) n S F L) = -1 then (1 : Int32) else 0) = 0 := if_neg (fun q => h54 q.1)
        refine X_iconst (pc := 69) (v := 0) C dX7_userTold_69 (by decide) ?_
        refine X_iconst (pc := 70) (v := 4) C dX7_userTold_70 (by decide) ?_
        refine K_X7_190 (pc := 71) C (by assumption) (c_X7_wrong l P _ _ _ _ h1 _ _) ⟨Nat.le_of_ble_eq_true rfl, Nat.le_of_ble_eq_true rfl⟩ ⟨rfl, rfl⟩ ⟨Nat.zero_le _, Nat.zero_le _⟩ (Nat.le_of_ble_eq_true rfl) dX7_userTold_71 ?_
        refine XW.eq (σ' := mW τ S (mUt3 (τ.1 (.inr 16)) n S F L) (mUtL (τ.1 (.inr 16)) n S F L)) (by rw [mUt3, g62]) rfl rfl ?_
        refine X_aload_n (pc := 74) C 0 dX7_userTold_74 rfl rfl ?_
        refine G_X7_180 (pc := 75) C (by assumption) dX7_userTold_75 ?_
        rw [mW_9]
        refine X_if_eq (pc := 78) C 82 dX7_userTold_78 (by decide) (fun h78 => ?_) (fun h78 => ?_)
        · have g78 := h78
          have hlt := mUt_lt hM h78
          refine X_aload_n (pc := 82) C 0 dX7_userTold_82 rfl rfl ?_
          refine G_X7_9 (pc := 83) C (by assumption) dX7_userTold_83 ?_
          refine X_iconst (pc := 86) (v := 4) C dX7_userTold_86 (by decide) ?_
          refine X_ialdN (j := 4) (pc := 87) C (by first | exact h1 _ (by decide) (by decide)) rfl (by omega) (by decide) dX7_userTold_87 ?_
          rw [mW_10]
          rw [hM.u]
          refine X_istore_n (pc := 88) (lv1 := [(0, _), (1, _)]) C 1 dX7_userTold_88 rfl (by decide) rfl ?_
          refine X_aload_n (pc := 89) C 0 dX7_userTold_89 rfl rfl ?_
          refine X_iload_n (pc := 90) C 1 dX7_userTold_90 rfl rfl ?_
          refine X_iconst (pc := 91) (v := 5) C dX7_userTold_91 (by decide) ?_
          refine X_aload_n (pc := 92) C 0 dX7_userTold_92 rfl rfl ?_
          refine G_X7_148 (pc := 93) C (by assumption) dX7_userTold_93 ?_
          rw [mW_9]
          refine K_X7_123 (pc := 96) C (by assumption) (c_X7_putUser l P _ _ _ _ h1 (mU S) 5 hlt (by decide) _ 5 _ rfl rfl) ⟨Nat.le_of_ble_eq_true rfl, Nat.le_of_ble_eq_true rfl⟩ ⟨rfl, rfl⟩ ⟨Nat.zero_le _, Nat.zero_le _⟩ (Nat.le_of_ble_eq_true rfl) dX7_userTold_96 ?_
          refine XW.eq (σ' := mW τ (upd S (10 + 12 * mU S + 5) ((mUt3 (τ.1 (.inr 16)) n S F L) 15)) (mUt3 (τ.1 (.inr 16)) n S F L) (mUtL (τ.1 (.inr 16)) n S F L)) (by rfl) rfl rfl ?_
          refine X_iconst (pc := 99) (v := 0) C dX7_userTold_99 (by decide) ?_
          refine X_istore_n (pc := 100) (lv1 := [(0, _), (1, _), (2, _)]) C 2 dX7_userTold_100 rfl (by decide) rfl ?_
          have g15 := mUt3_15 g78
          refine L1_X7_userTold C h1 hlt g15.1 g15.2 ?_ (cN ((mUt3 (τ.1 (.inr 16)) n S F L) 15)) 0 (by omega)
          refine XW.eq (σ' := mW τ (mUtS2 (τ.1 (.inr 16)) n S F L) (mUt3 (τ.1 (.inr 16)) n S F L) (mUtL (τ.1 (.inr 16)) n S F L)) (by rfl) rfl rfl ?_
          refine X_aload_n (pc := 130) C 0 dX7_userTold_130 rfl rfl ?_
          refine K_X7_194 (pc := 131) C (by assumption) (c_X7_go l P _ _ _ _ h1 n (mUt3_TK hT)) ⟨Nat.le_of_ble_eq_true rfl, Nat.le_of_ble_eq_true rfl⟩ ⟨rfl, rfl⟩ ⟨Nat.zero_le _, Nat.zero_le _⟩ (Nat.le_of_ble_eq_true rfl) dX7_userTold_131 ?_
          refine XW.eq (σ' := mW τ (mUtS2 (τ.1 (.inr 16)) n S F L) (mUt4 (τ.1 (.inr 16)) n S F L) (mUtL (τ.1 (.inr 16)) n S F L)) (by rfl) rfl rfl ?_
          refine X_aload_n (pc := 134) C 0 dX7_userTold_134 rfl rfl ?_
          refine X_iconst (pc := 135) (v := 0) C dX7_userTold_135 (by decide) ?_
          refine X_aload_n (pc := 136) C 0 dX7_userTold_136 rfl rfl ?_
          refine G_X7_9 (pc := 137) C (by assumption) dX7_userTold_137 ?_
          refine X_iconst (pc := 140) (v := 1) C dX7_userTold_140 (by decide) ?_
          refine X_ialdN (j := 1) (pc := 141) C (by first | exact h1 _ (by decide) (by decide)) rfl (by omega) (by decide) dX7_userTold_141 ?_
          rw [mW_10]
          rw [mUtS2_o g78 (by omega)]
          refine X_iconst (pc := 142) (v := 1) C dX7_userTold_142 (by decide) ?_
          refine X_isub (pc := 143) C dX7_userTold_143 ?_
          refine K_X7_203 (pc := 144) C (by assumption) (c_X7_number l P _ _ _ _ h1 n (mUt4_TK hT) 0 _) ⟨Nat.le_of_ble_eq_true rfl, Nat.le_of_ble_eq_true rfl⟩ ⟨rfl, rfl⟩ ⟨Nat.zero_le _, Nat.zero_le _⟩ (Nat.le_of_ble_eq_true rfl) dX7_userTold_144 ?_
          refine XW.eq (σ' := mW τ (mUtS2 (τ.1 (.inr 16)) n S F L) (mUt5 (τ.1 (.inr 16)) n S F L) (mUtL (τ.1 (.inr 16)) n S F L)) (st' := [.int (mUtX (τ.1 (.inr 16)) n S F L)]) rfl rfl rfl ?_
          refine X_istore_n (pc := 147) (lv1 := [(0, _), (1, _), (2, _)]) C 2 dX7_userTold_147 rfl (by decide) rfl ?_
          refine X_aload_n (pc := 148) C 0 dX7_userTold_148 rfl rfl ?_
          refine G_X7_180 (pc := 149) C (by assumption) dX7_userTold_149 ?_
          rw [mW_9]
          refine X_if_eq (pc := 152) C 159 dX7_userTold_152 (by decide) (fun h152 => ?_) (fun h152 => ?_)
          · have e6 : (mUt6 (τ.1 (.inr 16)) n S F L) = (mRh (τ.1 (.inr 16)) (mUt5 (τ.1 (.inr 16)) n S F L)).1 := if_pos h152
            have eY : (mUtY (τ.1 (.inr 16)) n S F L) = (mRh (τ.1 (.inr 16)) (mUt5 (τ.1 (.inr 16)) n S F L)).2 := if_pos h152
            refine X_aload_n (pc := 159) C 0 dX7_userTold_159 rfl rfl ?_
            refine K_X7_212 (pc := 160) C (by assumption) (c_X7_ringsHere l P _ _ _ _ h1 n (mUt5_TK hT)) ⟨Nat.le_of_ble_eq_true rfl, Nat.le_of_ble_eq_true rfl⟩ ⟨rfl, rfl⟩ ⟨Nat.zero_le _, Nat.zero_le _⟩ (Nat.le_of_ble_eq_true rfl) dX7_userTold_160 ?_
            refine X_istore_n (pc := 163) (lv1 := [(0, _), (1, _), (2, _), (3, _)]) C 3 dX7_userTold_163 rfl (by decide) rfl ?_
            refine X_iconst (pc := 164) (v := 0) C dX7_userTold_164 (by decide) ?_
            refine X_istore (pc := 165) (lv1 := [(0, _), (1, _), (2, _), (3, _), (4, _)]) C dX7_userTold_165 (by decide) rfl ?_
            refine XW.eq (σ' := mW τ (mUtS2 (τ.1 (.inr 16)) n S F L) (mUt6 (τ.1 (.inr 16)) n S F L) (mUtL (τ.1 (.inr 16)) n S F L)) (lv' := [(0, .ref (P.2.2.1 (.inr 9))), (1, .int (nI (mU S))), (2, .int (mUtX (τ.1 (.inr 16)) n S F L)), (3, .int (mUtY (τ.1 (.inr 16)) n S F L)), (4, .int (nI 0))]) (by rw [e6]) (by rw [eY]; rfl) rfl ?_
            refine L2_X7_userTold C h1 (u := mU S) (by omega) mUtY_ok (fun j hj => by rw [sU, mUtS2_o g78 (by omega)]; exact hC j hj) (mU S) 0 _ (by omega) ?_
            refine XW.eq (σ' := mW τ (mUtS2 (τ.1 (.inr 16)) n S F L) (mUt7 (τ.1 (.inr 16)) n S F L) (mUtL (τ.1 (.inr 16)) n S F L)) (by rfl) rfl rfl ?_
            refine X_aload_n (pc := 235) C 0 dX7_userTold_235 rfl rfl ?_
            refine K_X7_194 (pc := 236) C (by assumption) (c_X7_go l P _ _ _ _ h1 n (mUt7_TK hT)) ⟨Nat.le_of_ble_eq_true rfl, Nat.le_of_ble_eq_true rfl⟩ ⟨rfl, rfl⟩ ⟨Nat.zero_le _, Nat.zero_le _⟩ (Nat.le_of_ble_eq_true rfl) dX7_userTold_236 ?_
            refine XW.eq (σ' := mW τ (mUtS2 (τ.1 (.inr 16)) n S F L) (mUt8 (τ.1 (.inr 16)) n S F L) (mUtL (τ.1 (.inr 16)) n S F L)) (by rfl) rfl rfl ?_
            refine X_aload_n (pc := 239) C 0 dX7_userTold_239 rfl rfl ?_
            refine X_iload_n (pc := 240) C 1 dX7_userTold_240 rfl rfl ?_
            refine X_iconst (pc := 241) (v := 0) C dX7_userTold_241 (by decide) ?_
            refine X_iload_n (pc := 242) C 2 dX7_userTold_242 rfl rfl ?_
            refine K_X7_123 (pc := 243) C (by assumption) (c_X7_putUser l P _ _ _ _ h1 (mU S) 0 hlt (by decide) _ 0 _ rfl rfl) ⟨Nat.le_of_ble_eq_true rfl, Nat.le_of_ble_eq_true rfl⟩ ⟨rfl, rfl⟩ ⟨Nat.zero_le _, Nat.zero_le _⟩ (Nat.le_of_ble_eq_true rfl) dX7_userTold_243 ?_
            skip
            refine X_aload_n (pc := 246) C 0 dX7_userTold_246 rfl rfl ?_
            refine X_iload_n (pc := 247) C 1 dX7_userTold_247 rfl rfl ?_
            refine X_iconst (pc := 248) (v := 1) C dX7_userTold_248 (by decide) ?_
            refine X_iload_n (pc := 249) C 3 dX7_userTold_249 rfl rfl ?_
            refine K_X7_123 (pc := 250) C (by assumption) (c_X7_putUser l P _ _ _ _ h1 (mU S) 1 hlt (by decide) _ 1 _ rfl rfl) ⟨Nat.le_of_ble_eq_true rfl, Nat.le_of_ble_eq_true rfl⟩ ⟨rfl, rfl⟩ ⟨Nat.zero_le _, Nat.zero_le _⟩ (Nat.le_of_ble_eq_true rfl) dX7_userTold_250 ?_
            refine X_aload_n (pc := 253) C 0 dX7_userTold_253 rfl rfl ?_
            refine X_iload_n (pc := 254) C 1 dX7_userTold_254 rfl rfl ?_
            refine X_iconst (pc := 255) (v := 2) C dX7_userTold_255 (by decide) ?_
            refine X_aload_n (pc := 256) C 0 dX7_userTold_256 rfl rfl ?_
            refine X_iconst (pc := 257) (v := 0) C dX7_userTold_257 (by decide) ?_
            refine X_bipush (pc := 258) (v := 9) C dX7_userTold_258 (by decide) ?_
            refine K_X7_203 (pc := 260) C (by assumption) (c_X7_number l P _ _ _ _ h1 n (mUt8_TK hT) 0 9) ⟨Nat.le_of_ble_eq_true rfl, Nat.le_of_ble_eq_true rfl⟩ ⟨rfl, rfl⟩ ⟨Nat.zero_le _, Nat.zero_le _⟩ (Nat.le_of_ble_eq_true rfl) dX7_userTold_260 ?_
            refine K_X7_123 (pc := 263) C (by assumption) (c_X7_putUser l P _ _ _ _ h1 (mU S) 2 hlt (by decide) _ 2 _ rfl rfl) ⟨Nat.le_of_ble_eq_true rfl, Nat.le_of_ble_eq_true rfl⟩ ⟨rfl, rfl⟩ ⟨Nat.zero_le _, Nat.zero_le _⟩ (Nat.le_of_ble_eq_true rfl) dX7_userTold_263 ?_
            refine XW.eq (σ' := mW τ (upd (upd (upd (mUtS2 (τ.1 (.inr 16)) n S F L) (10 + 12 * mU S + 0) (mUtX (τ.1 (.inr 16)) n S F L)) (10 + 12 * mU S + 1) (mUtY (τ.1 (.inr 16)) n S F L)) (10 + 12 * mU S + 2) (mUtZ (τ.1 (.inr 16)) n S F L)) (mUt9 (τ.1 (.inr 16)) n S F L) (mUtL (τ.1 (.inr 16)) n S F L)) (by rfl) rfl rfl ?_
            refine X_aload_n (pc := 266) C 0 dX7_userTold_266 rfl rfl ?_
            refine X_iload_n (pc := 267) C 1 dX7_userTold_267 rfl rfl ?_
            refine X_iconst (pc := 268) (v := 4) C dX7_userTold_268 (by decide) ?_
            refine X_iconst (pc := 269) (v := 1) C dX7_userTold_269 (by decide) ?_
            refine X_iload_n (pc := 270) C 1 dX7_userTold_270 rfl rfl ?_
            refine X_ishl (pc := 271) C dX7_userTold_271 ?_
            refine K_X7_123 (pc := 272) C (by assumption) (c_X7_putUser l P _ _ _ _ h1 (mU S) 4 hlt (by decide) _ 4 _ rfl rfl) ⟨Nat.le_of_ble_eq_true rfl, Nat.le_of_ble_eq_true rfl⟩ ⟨rfl, rfl⟩ ⟨Nat.zero_le _, Nat.zero_le _⟩ (Nat.le_of_ble_eq_true rfl) dX7_userTold_272 ?_
            refine XW.eq (σ' := mW τ (mUtS4 (τ.1 (.inr 16)) n S F L) (mUt9 (τ.1 (.inr 16)) n S F L) (mUtL (τ.1 (.inr 16)) n S F L)) (by rfl) rfl rfl ?_
            refine X_aload_n (pc := 275) C 0 dX7_userTold_275 rfl rfl ?_
            refine X_aload_n (pc := 276) C 0 dX7_userTold_276 rfl rfl ?_
            refine G_X7_164 (pc := 277) C (by assumption) dX7_userTold_277 ?_
            rw [mW_9]
            refine X_iconst (pc := 280) (v := 3) C dX7_userTold_280 (by decide) ?_
            refine X_icmp_eq (pc := 281) C 288 dX7_userTold_281 (by decide) (fun h281 => ?_) (fun h281 => ?_)
            · have g281 : (if (mUt9 (τ.1 (.inr 16)) n S F L) 16 = 3 then (0 : Int32) else 1) = 0 := if_pos h281
              refine X_iconst (pc := 288) (v := 0) C dX7_userTold_288 (by decide) ?_
              refine X_iconst (pc := 289) (v := 1) C dX7_userTold_289 (by decide) ?_
              refine K_X7_190 (pc := 290) C (by assumption) (c_X7_wrong l P _ _ _ _ h1 _ _) ⟨Nat.le_of_ble_eq_true rfl, Nat.le_of_ble_eq_true rfl⟩ ⟨rfl, rfl⟩ ⟨Nat.zero_le _, Nat.zero_le _⟩ (Nat.le_of_ble_eq_true rfl) dX7_userTold_290 ?_
              refine XW.eq (σ' := mW τ (mUtS4 (τ.1 (.inr 16)) n S F L) (mWr (mUt9 (τ.1 (.inr 16)) n S F L) (if (mUt9 (τ.1 (.inr 16)) n S F L) 16 = 3 then (0 : Int32) else 1) 1) (mUtL (τ.1 (.inr 16)) n S F L)) (by rw [g281]) rfl rfl ?_
              refine X_aload_n (pc := 293) C 0 dX7_userTold_293 rfl rfl ?_
              refine K_X7_194 (pc := 294) C (by assumption) (c_X7_go l P _ _ _ _ h1 n (mWr_TK (mUt9_TK hT))) ⟨Nat.le_of_ble_eq_true rfl, Nat.le_of_ble_eq_true rfl⟩ ⟨rfl, rfl⟩ ⟨Nat.zero_le _, Nat.zero_le _⟩ (Nat.le_of_ble_eq_true rfl) dX7_userTold_294 ?_
              refine XW.eq (σ' := mW τ (mUtS4 (τ.1 (.inr 16)) n S F L) (mUtA (τ.1 (.inr 16)) n S F L) (mUtL (τ.1 (.inr 16)) n S F L)) (by rfl) rfl rfl ?_
              refine X_aload_n (pc := 297) C 0 dX7_userTold_297 rfl rfl ?_
              refine G_X7_180 (pc := 298) C (by assumption) dX7_userTold_298 ?_
              rw [mW_9]
              refine X_if_ne (pc := 301) C 314 dX7_userTold_301 (by decide) (fun h301 => ?_) (fun h301 => ?_)
              · skip
                exact X_vret (pc := 314) C (Nat.zero_le _) (Nat.zero_le _) dX7_userTold_314 ⟨rfl, by first | rw [mUtS, mUtF, if_pos g78, if_pos g78, if_pos h301] | rw [mUtS, mUtF, if_pos g78, if_pos g78, if_neg h301]⟩
              · skip
                refine X_aload_n (pc := 304) C 0 dX7_userTold_304 rfl rfl ?_
                refine G_X7_9 (pc := 305) C (by assumption) dX7_userTold_305 ?_
                refine X_iconst (pc := 308) (v := 4) C dX7_userTold_308 (by decide) ?_
                refine X_dup2 (pc := 309) C dX7_userTold_309 rfl rfl ?_
                refine X_ialdN (j := 4) (pc := 310) C (by first | exact h1 _ (by decide) (by decide)) rfl (by omega) (by decide) dX7_userTold_310 ?_
                rw [mW_10]
                rw [mUtS4_o g78 (by omega), hM.u]
                refine X_iconst (pc := 311) (v := 1) C dX7_userTold_311 (by decide) ?_
                refine X_iadd (pc := 312) C dX7_userTold_312 ?_
                rw [nI_1]
                refine X_iastN (j := 4) (pc := 313) C (by first | exact h1 _ (by decide) (by decide)) rfl (by omega) (by decide) dX7_userTold_313 ?_
                rw [mW_u10]
                exact X_vret (pc := 314) C (Nat.zero_le _) (Nat.zero_le _) dX7_userTold_314 ⟨rfl, by first | rw [mUtS, mUtF, if_pos g78, if_pos g78, if_pos h301] | rw [mUtS, mUtF, if_pos g78, if_pos g78, if_neg h301]⟩
            · have g281 : (if (mUt9 (τ.1 (.inr 16)) n S F L) 16 = 3 then (0 : Int32) else 1) = 1 := if_neg h281
              refine X_iconst (pc := 284) (v := 1) C dX7_userTold_284 (by decide) ?_
              refine X_goto (pc := 285) C 289 dX7_userTold_285 (by decide) ?_
              refine X_iconst (pc := 289) (v := 1) C dX7_userTold_289 (by decide) ?_
              refine K_X7_190 (pc := 290) C (by assumption) (c_X7_wrong l P _ _ _ _ h1 _ _) ⟨Nat.le_of_ble_eq_true rfl, Nat.le_of_ble_eq_true rfl⟩ ⟨rfl, rfl⟩ ⟨Nat.zero_le _, Nat.zero_le _⟩ (Nat.le_of_ble_eq_true rfl) dX7_userTold_290 ?_
              refine XW.eq (σ' := mW τ (mUtS4 (τ.1 (.inr 16)) n S F L) (mWr (mUt9 (τ.1 (.inr 16)) n S F L) (if (mUt9 (τ.1 (.inr 16)) n S F L) 16 = 3 then (0 : Int32) else 1) 1) (mUtL (τ.1 (.inr 16)) n S F L)) (by rw [g281]) rfl rfl ?_
              refine X_aload_n (pc := 293) C 0 dX7_userTold_293 rfl rfl ?_
              refine K_X7_194 (pc := 294) C (by assumption) (c_X7_go l P _ _ _ _ h1 n (mWr_TK (mUt9_TK hT))) ⟨Nat.le_of_ble_eq_true rfl, Nat.le_of_ble_eq_true rfl⟩ ⟨rfl, rfl⟩ ⟨Nat.zero_le _, Nat.zero_le _⟩ (Nat.le_of_ble_eq_true rfl) dX7_userTold_294 ?_
              refine XW.eq (σ' := mW τ (mUtS4 (τ.1 (.inr 16)) n S F L) (mUtA (τ.1 (.inr 16)) n S F L) (mUtL (τ.1 (.inr 16)) n S F L)) (by rfl) rfl rfl ?_
              refine X_aload_n (pc := 297) C 0 dX7_userTold_297 rfl rfl ?_
              refine G_X7_180 (pc := 298) C (by assumption) dX7_userTold_298 ?_
              rw [mW_9]
              refine X_if_ne (pc := 301) C 314 dX7_userTold_301 (by decide) (fun h301 => ?_) (fun h301 => ?_)
              · skip
                exact X_vret (pc := 314) C (Nat.zero_le _) (Nat.zero_le _) dX7_userTold_314 ⟨rfl, by first | rw [mUtS, mUtF, if_pos g78, if_pos g78, if_pos h301] | rw [mUtS, mUtF, if_pos g78, if_pos g78, if_neg h301]⟩
              · skip
                refine X_aload_n (pc := 304) C 0 dX7_userTold_304 rfl rfl ?_
                refine G_X7_9 (pc := 305) C (by assumption) dX7_userTold_305 ?_
                refine X_iconst (pc := 308) (v := 4) C dX7_userTold_308 (by decide) ?_
                refine X_dup2 (pc := 309) C dX7_userTold_309 rfl rfl ?_
                refine X_ialdN (j := 4) (pc := 310) C (by first | exact h1 _ (by decide) (by decide)) rfl (by omega) (by decide) dX7_userTold_310 ?_
                rw [mW_10]
                rw [mUtS4_o g78 (by omega), hM.u]
                refine X_iconst (pc := 311) (v := 1) C dX7_userTold_311 (by decide) ?_
                refine X_iadd (pc := 312) C dX7_userTold_312 ?_
                rw [nI_1]
                refine X_iastN (j := 4) (pc := 313) C (by first | exact h1 _ (by decide) (by decide)) rfl (by omega) (by decide) dX7_userTold_313 ?_
                rw [mW_u10]
                exact X_vret (pc := 314) C (Nat.zero_le _) (Nat.zero_le _) dX7_userTold_314 ⟨rfl, by first | rw [mUtS, mUtF, if_pos g78, if_pos g78, if_pos h301] | rw [mUtS, mUtF, if_pos g78, if_pos g78, if_neg h301]⟩
          · have e6 : (mUt6 (τ.1 (.inr 16)) n S F L) = (mUt5 (τ.1 (.inr 16)) n S F L) := if_neg h152
            have eY : (mUtY (τ.1 (.inr 16)) n S F L) = 1 := if_neg h152
            refine X_iconst (pc := 155) (v := 1) C dX7_userTold_155 (by decide) ?_
            refine X_goto (pc := 156) C 163 dX7_userTold_156 (by decide) ?_
            refine X_istore_n (pc := 163) (lv1 := [(0, _), (1, _), (2, _), (3, _)]) C 3 dX7_userTold_163 rfl (by decide) rfl ?_
            refine X_iconst (pc := 164) (v := 0) C dX7_userTold_164 (by decide) ?_
            refine X_istore (pc := 165) (lv1 := [(0, _), (1, _), (2, _), (3, _), (4, _)]) C dX7_userTold_165 (by decide) rfl ?_
            refine XW.eq (σ' := mW τ (mUtS2 (τ.1 (.inr 16)) n S F L) (mUt6 (τ.1 (.inr 16)) n S F L) (mUtL (τ.1 (.inr 16)) n S F L)) (lv' := [(0, .ref (P.2.2.1 (.inr 9))), (1, .int (nI (mU S))), (2, .int (mUtX (τ.1 (.inr 16)) n S F L)), (3, .int (mUtY (τ.1 (.inr 16)) n S F L)), (4, .int (nI 0))]) (by rw [e6]) (by rw [eY]; rfl) rfl ?_
            refine L2_X7_userTold C h1 (u := mU S) (by omega) mUtY_ok (fun j hj => by rw [sU, mUtS2_o g78 (by omega)]; exact hC j hj) (mU S) 0 _ (by omega) ?_
            refine XW.eq (σ' := mW τ (mUtS2 (τ.1 (.inr 16)) n S F L) (mUt7 (τ.1 (.inr 16)) n S F L) (mUtL (τ.1 (.inr 16)) n S F L)) (by rfl) rfl rfl ?_
            refine X_aload_n (pc := 235) C 0 dX7_userTold_235 rfl rfl ?_
            refine K_X7_194 (pc := 236) C (by assumption) (c_X7_go l P _ _ _ _ h1 n (mUt7_TK hT)) ⟨Nat.le_of_ble_eq_true rfl, Nat.le_of_ble_eq_true rfl⟩ ⟨rfl, rfl⟩ ⟨Nat.zero_le _, Nat.zero_le _⟩ (Nat.le_of_ble_eq_true rfl) dX7_userTold_236 ?_
            refine XW.eq (σ' := mW τ (mUtS2 (τ.1 (.inr 16)) n S F L) (mUt8 (τ.1 (.inr 16)) n S F L) (mUtL (τ.1 (.inr 16)) n S F L)) (by rfl) rfl rfl ?_
            refine X_aload_n (pc := 239) C 0 dX7_userTold_239 rfl rfl ?_
            refine X_iload_n (pc := 240) C 1 dX7_userTold_240 rfl rfl ?_
            refine X_iconst (pc := 241) (v := 0) C dX7_userTold_241 (by decide) ?_
            refine X_iload_n (pc := 242) C 2 dX7_userTold_242 rfl rfl ?_
            refine K_X7_123 (pc := 243) C (by assumption) (c_X7_putUser l P _ _ _ _ h1 (mU S) 0 hlt (by decide) _ 0 _ rfl rfl) ⟨Nat.le_of_ble_eq_true rfl, Nat.le_of_ble_eq_true rfl⟩ ⟨rfl, rfl⟩ ⟨Nat.zero_le _, Nat.zero_le _⟩ (Nat.le_of_ble_eq_true rfl) dX7_userTold_243 ?_
            skip
            refine X_aload_n (pc := 246) C 0 dX7_userTold_246 rfl rfl ?_
            refine X_iload_n (pc := 247) C 1 dX7_userTold_247 rfl rfl ?_
            refine X_iconst (pc := 248) (v := 1) C dX7_userTold_248 (by decide) ?_
            refine X_iload_n (pc := 249) C 3 dX7_userTold_249 rfl rfl ?_
            refine K_X7_123 (pc := 250) C (by assumption) (c_X7_putUser l P _ _ _ _ h1 (mU S) 1 hlt (by decide) _ 1 _ rfl rfl) ⟨Nat.le_of_ble_eq_true rfl, Nat.le_of_ble_eq_true rfl⟩ ⟨rfl, rfl⟩ ⟨Nat.zero_le _, Nat.zero_le _⟩ (Nat.le_of_ble_eq_true rfl) dX7_userTold_250 ?_
            refine X_aload_n (pc := 253) C 0 dX7_userTold_253 rfl rfl ?_
            refine X_iload_n (pc := 254) C 1 dX7_userTold_254 rfl rfl ?_
            refine X_iconst (pc := 255) (v := 2) C dX7_userTold_255 (by decide) ?_
            refine X_aload_n (pc := 256) C 0 dX7_userTold_256 rfl rfl ?_
            refine X_iconst (pc := 257) (v := 0) C dX7_userTold_257 (by decide) ?_
            refine X_bipush (pc := 258) (v := 9) C dX7_userTold_258 (by decide) ?_
            refine K_X7_203 (pc := 260) C (by assumption) (c_X7_number l P _ _ _ _ h1 n (mUt8_TK hT) 0 9) ⟨Nat.le_of_ble_eq_true rfl, Nat.le_of_ble_eq_true rfl⟩ ⟨rfl, rfl⟩ ⟨Nat.zero_le _, Nat.zero_le _⟩ (Nat.le_of_ble_eq_true rfl) dX7_userTold_260 ?_
            refine K_X7_123 (pc := 263) C (by assumption) (c_X7_putUser l P _ _ _ _ h1 (mU S) 2 hlt (by decide) _ 2 _ rfl rfl) ⟨Nat.le_of_ble_eq_true rfl, Nat.le_of_ble_eq_true rfl⟩ ⟨rfl, rfl⟩ ⟨Nat.zero_le _, Nat.zero_le _⟩ (Nat.le_of_ble_eq_true rfl) dX7_userTold_263 ?_
            refine XW.eq (σ' := mW τ (upd (upd (upd (mUtS2 (τ.1 (.inr 16)) n S F L) (10 + 12 * mU S + 0) (mUtX (τ.1 (.inr 16)) n S F L)) (10 + 12 * mU S + 1) (mUtY (τ.1 (.inr 16)) n S F L)) (10 + 12 * mU S + 2) (mUtZ (τ.1 (.inr 16)) n S F L)) (mUt9 (τ.1 (.inr 16)) n S F L) (mUtL (τ.1 (.inr 16)) n S F L)) (by rfl) rfl rfl ?_
            refine X_aload_n (pc := 266) C 0 dX7_userTold_266 rfl rfl ?_
            refine X_iload_n (pc := 267) C 1 dX7_userTold_267 rfl rfl ?_
            refine X_iconst (pc := 268) (v := 4) C dX7_userTold_268 (by decide) ?_
            refine X_iconst (pc := 269) (v := 1) C dX7_userTold_269 (by decide) ?_
            refine X_iload_n (pc := 270) C 1 dX7_userTold_270 rfl rfl ?_
            refine X_ishl (pc := 271) C dX7_userTold_271 ?_
            refine K_X7_123 (pc := 272) C (by assumption) (c_X7_putUser l P _ _ _ _ h1 (mU S) 4 hlt (by decide) _ 4 _ rfl rfl) ⟨Nat.le_of_ble_eq_true rfl, Nat.le_of_ble_eq_true rfl⟩ ⟨rfl, rfl⟩ ⟨Nat.zero_le _, Nat.zero_le _⟩ (Nat.le_of_ble_eq_true rfl) dX7_userTold_272 ?_
            refine XW.eq (σ' := mW τ (mUtS4 (τ.1 (.inr 16)) n S F L) (mUt9 (τ.1 (.inr 16)) n S F L) (mUtL (τ.1 (.inr 16)) n S F L)) (by rfl) rfl rfl ?_
            refine X_aload_n (pc := 275) C 0 dX7_userTold_275 rfl rfl ?_
            refine X_aload_n (pc := 276) C 0 dX7_userTold_276 rfl rfl ?_
            refine G_X7_164 (pc := 277) C (by assumption) dX7_userTold_277 ?_
            rw [mW_9]
            refine X_iconst (pc := 280) (v := 3) C dX7_userTold_280 (by decide) ?_
            refine X_icmp_eq (pc := 281) C 288 dX7_userTold_281 (by decide) (fun h281 => ?_) (fun h281 => ?_)
            · have g281 : (if (mUt9 (τ.1 (.inr 16)) n S F L) 16 = 3 then (0 : Int32) else 1) = 0 := if_pos h281
              refine X_iconst (pc := 288) (v := 0) C dX7_userTold_288 (by decide) ?_
              refine X_iconst (pc := 289) (v := 1) C dX7_userTold_289 (by decide) ?_
              refine K_X7_190 (pc := 290) C (by assumption) (c_X7_wrong l P _ _ _ _ h1 _ _) ⟨Nat.le_of_ble_eq_true rfl, Nat.le_of_ble_eq_true rfl⟩ ⟨rfl, rfl⟩ ⟨Nat.zero_le _, Nat.zero_le _⟩ (Nat.le_of_ble_eq_true rfl) dX7_userTold_290 ?_
              refine XW.eq (σ' := mW τ (mUtS4 (τ.1 (.inr 16)) n S F L) (mWr (mUt9 (τ.1 (.inr 16)) n S F L) (if (mUt9 (τ.1 (.inr 16)) n S F L) 16 = 3 then (0 : Int32) else 1) 1) (mUtL (τ.1 (.inr 16)) n S F L)) (by rw [g281]) rfl rfl ?_
              refine X_aload_n (pc := 293) C 0 dX7_userTold_293 rfl rfl ?_
              refine K_X7_194 (pc := 294) C (by assumption) (c_X7_go l P _ _ _ _ h1 n (mWr_TK (mUt9_TK hT))) ⟨Nat.le_of_ble_eq_true rfl, Nat.le_of_ble_eq_true rfl⟩ ⟨rfl, rfl⟩ ⟨Nat.zero_le _, Nat.zero_le _⟩ (Nat.le_of_ble_eq_true rfl) dX7_userTold_294 ?_
              refine XW.eq (σ' := mW τ (mUtS4 (τ.1 (.inr 16)) n S F L) (mUtA (τ.1 (.inr 16)) n S F L) (mUtL (τ.1 (.inr 16)) n S F L)) (by rfl) rfl rfl ?_
              refine X_aload_n (pc := 297) C 0 dX7_userTold_297 rfl rfl ?_
              refine G_X7_180 (pc := 298) C (by assumption) dX7_userTold_298 ?_
              rw [mW_9]
              refine X_if_ne (pc := 301) C 314 dX7_userTold_301 (by decide) (fun h301 => ?_) (fun h301 => ?_)
              · skip
                exact X_vret (pc := 314) C (Nat.zero_le _) (Nat.zero_le _) dX7_userTold_314 ⟨rfl, by first | rw [mUtS, mUtF, if_pos g78, if_pos g78, if_pos h301] | rw [mUtS, mUtF, if_pos g78, if_pos g78, if_neg h301]⟩
              · skip
                refine X_aload_n (pc := 304) C 0 dX7_userTold_304 rfl rfl ?_
                refine G_X7_9 (pc := 305) C (by assumption) dX7_userTold_305 ?_
                refine X_iconst (pc := 308) (v := 4) C dX7_userTold_308 (by decide) ?_
                refine X_dup2 (pc := 309) C dX7_userTold_309 rfl rfl ?_
                refine X_ialdN (j := 4) (pc := 310) C (by first | exact h1 _ (by decide) (by decide)) rfl (by omega) (by decide) dX7_userTold_310 ?_
                rw [mW_10]
                rw [mUtS4_o g78 (by omega), hM.u]
                refine X_iconst (pc := 311) (v := 1) C dX7_userTold_311 (by decide) ?_
                refine X_iadd (pc := 312) C dX7_userTold_312 ?_
                rw [nI_1]
                refine X_iastN (j := 4) (pc := 313) C (by first | exact h1 _ (by decide) (by decide)) rfl (by omega) (by decide) dX7_userTold_313 ?_
                rw [mW_u10]
                exact X_vret (pc := 314) C (Nat.zero_le _) (Nat.zero_le _) dX7_userTold_314 ⟨rfl, by first | rw [mUtS, mUtF, if_pos g78, if_pos g78, if_pos h301] | rw [mUtS, mUtF, if_pos g78, if_pos g78, if_neg h301]⟩
            · have g281 : (if (mUt9 (τ.1 (.inr 16)) n S F L) 16 = 3 then (0 : Int32) else 1) = 1 := if_neg h281
              refine X_iconst (pc := 284) (v := 1) C dX7_userTold_284 (by decide) ?_
              refine X_goto (pc := 285) C 289 dX7_userTold_285 (by decide) ?_
              refine X_iconst (pc := 289) (v := 1) C dX7_userTold_289 (by decide) ?_
              refine K_X7_190 (pc := 290) C (by assumption) (c_X7_wrong l P _ _ _ _ h1 _ _) ⟨Nat.le_of_ble_eq_true rfl, Nat.le_of_ble_eq_true rfl⟩ ⟨rfl, rfl⟩ ⟨Nat.zero_le _, Nat.zero_le _⟩ (Nat.le_of_ble_eq_true rfl) dX7_userTold_290 ?_
              refine XW.eq (σ' := mW τ (mUtS4 (τ.1 (.inr 16)) n S F L) (mWr (mUt9 (τ.1 (.inr 16)) n S F L) (if (mUt9 (τ.1 (.inr 16)) n S F L) 16 = 3 then (0 : Int32) else 1) 1) (mUtL (τ.1 (.inr 16)) n S F L)) (by rw [g281]) rfl rfl ?_
              refine X_aload_n (pc := 293) C 0 dX7_userTold_293 rfl rfl ?_
              refine K_X7_194 (pc := 294) C (by assumption) (c_X7_go l P _ _ _ _ h1 n (mWr_TK (mUt9_TK hT))) ⟨Nat.le_of_ble_eq_true rfl, Nat.le_of_ble_eq_true rfl⟩ ⟨rfl, rfl⟩ ⟨Nat.zero_le _, Nat.zero_le _⟩ (Nat.le_of_ble_eq_true rfl) dX7_userTold_294 ?_
              refine XW.eq (σ' := mW τ (mUtS4 (τ.1 (.inr 16)) n S F L) (mUtA (τ.1 (.inr 16)) n S F L) (mUtL (τ.1 (.inr 16)) n S F L)) (by rfl) rfl rfl ?_
              refine X_aload_n (pc := 297) C 0 dX7_userTold_297 rfl rfl ?_
              refine G_X7_180 (pc := 298) C (by assumption) dX7_userTold_298 ?_
              rw [mW_9]
              refine X_if_ne (pc := 301) C 314 dX7_userTold_301 (by decide) (fun h301 => ?_) (fun h301 => ?_)
              · skip
                exact X_vret (pc := 314) C (Nat.zero_le _) (Nat.zero_le _) dX7_userTold_314 ⟨rfl, by first | rw [mUtS, mUtF, if_pos g78, if_pos g78, if_pos h301] | rw [mUtS, mUtF, if_pos g78, if_pos g78, if_neg h301]⟩
              · skip
                refine X_aload_n (pc := 304) C 0 dX7_userTold_304 rfl rfl ?_
                refine G_X7_9 (pc := 305) C (by assumption) dX7_userTold_305 ?_
                refine X_iconst (pc := 308) (v := 4) C dX7_userTold_308 (by decide) ?_
                refine X_dup2 (pc := 309) C dX7_userTold_309 rfl rfl ?_
                refine X_ialdN (j := 4) (pc := 310) C (by first | exact h1 _ (by decide) (by decide)) rfl (by omega) (by decide) dX7_userTold_310 ?_
                rw [mW_10]
                rw [mUtS4_o g78 (by omega), hM.u]
                refine X_iconst (pc := 311) (v := 1) C dX7_userTold_311 (by decide) ?_
                refine X_iadd (pc := 312) C dX7_userTold_312 ?_
                rw [nI_1]
                refine X_iastN (j := 4) (pc := 313) C (by first | exact h1 _ (by decide) (by decide)) rfl (by omega) (by decide) dX7_userTold_313 ?_
                rw [mW_u10]
                exact X_vret (pc := 314) C (Nat.zero_le _) (Nat.zero_le _) dX7_userTold_314 ⟨rfl, by first | rw [mUtS, mUtF, if_pos g78, if_pos g78, if_pos h301] | rw [mUtS, mUtF, if_pos g78, if_pos g78, if_neg h301]⟩
        · skip
          exact X_vret (pc := 81) C (Nat.zero_le _) (Nat.zero_le _) dX7_userTold_81 ⟨rfl, by rw [mUtS, mUtF, if_neg h78, if_neg h78]⟩
      · have g6 := (mNhF_0 (F := mUt1 (τ.1 (.inr 16)) n S F) h54).2.2.1
        have g15 : (mUt2 (τ.1 (.inr 16)) n S F) 15 = nI (eF (mUt1 (τ.1 (.inr 16)) n S F) - sF (mUt1 (τ.1 (.inr 16)) n S F)) := by rw [mUt2, (mNhF_0 (F := mUt1 (τ.1 (.inr 16)) n S F) h54).2.2.2.1, upd_at]
        refine X_aload_n (pc := 57) C 0 dX7_userTold_57 rfl rfl ?_
        refine K_X7_200 (pc := 58) C (by assumption) (c_X7_named l P _ _ _ _ h1 hM _ g6 g15) ⟨Nat.le_of_ble_eq_true rfl, Nat.le_of_ble_eq_true rfl⟩ ⟨rfl, rfl⟩ ⟨Nat.zero_le _, Nat.zero_le _⟩ (Nat.le_of_ble_eq_true rfl) dX7_userTold_58 ?_
        refine X_iconst (pc := 61) (v := (-1)) C dX7_userTold_61 (by decide) ?_
        refine X_icmp_eq (pc := 62) C 69 dX7_userTold_62 (by decide) (fun h62 => ?_) (fun h62 => ?_)
        · have g62 : (if (mUt2 (τ.1 (.inr 16)) n S F) 20 = 0 ∧ ¬ mNmd S (mUt2 (τ.1 (.inr 16)) n S F) (mUtL (τ.1 (.inr 16)) n S F L) = -1 then (1 : Int32) else 0) = 0 := if_neg (fun q => q.2 h62)
          refine X_iconst (pc := 69) (v := 0) C dX7_userTold_69 (by decide) ?_
          refine X_iconst (pc := 70) (v := 4) C dX7_userTold_70 (by decide) ?_
          refine K_X7_190 (pc := 71) C (by assumption) (c_X7_wrong l P _ _ _ _ h1 _ _) ⟨Nat.le_of_ble_eq_true rfl, Nat.le_of_ble_eq_true rfl⟩ ⟨rfl, rfl⟩ ⟨Nat.zero_le _, Nat.zero_le _⟩ (Nat.le_of_ble_eq_true rfl) dX7_userTold_71 ?_
          refine XW.eq (σ' := mW τ S (mUt3 (τ.1 (.inr 16)) n S F L) (mUtL (τ.1 (.inr 16)) n S F L)) (by rw [mUt3, g62]) rfl rfl ?_
          refine X_aload_n (pc := 74) C 0 dX7_userTold_74 rfl rfl ?_
          refine G_X7_180 (pc := 75) C (by assumption) dX7_userTold_75 ?_
          rw [mW_9]
          refine X_if_eq (pc := 78) C 82 dX7_userTold_78 (by decide) (fun h78 => ?_) (fun h78 => ?_)
          · have g78 := h78
            have hlt := mUt_lt hM h78
            refine X_aload_n (pc := 82) C 0 dX7_userTold_82 rfl rfl ?_
            refine G_X7_9 (pc := 83) C (by assumption) dX7_userTold_83 ?_
            refine X_iconst (pc := 86) (v := 4) C dX7_userTold_86 (by decide) ?_
            refine X_ialdN (j := 4) (pc := 87) C (by first | exact h1 _ (by decide) (by decide)) rfl (by omega) (by decide) dX7_userTold_87 ?_
            rw [mW_10]
            rw [hM.u]
            refine X_istore_n (pc := 88) (lv1 := [(0, _), (1, _)]) C 1 dX7_userTold_88 rfl (by decide) rfl ?_
            refine X_aload_n (pc := 89) C 0 dX7_userTold_89 rfl rfl ?_
            refine X_iload_n (pc := 90) C 1 dX7_userTold_90 rfl rfl ?_
            refine X_iconst (pc := 91) (v := 5) C dX7_userTold_91 (by decide) ?_
            refine X_aload_n (pc := 92) C 0 dX7_userTold_92 rfl rfl ?_
            refine G_X7_148 (pc := 93) C (by assumption) dX7_userTold_93 ?_
            rw [mW_9]
            refine K_X7_123 (pc := 96) C (by assumption) (c_X7_putUser l P _ _ _ _ h1 (mU S) 5 hlt (by decide) _ 5 _ rfl rfl) ⟨Nat.le_of_ble_eq_true rfl, Nat.le_of_ble_eq_true rfl⟩ ⟨rfl, rfl⟩ ⟨Nat.zero_le _, Nat.zero_le _⟩ (Nat.le_of_ble_eq_true rfl) dX7_userTold_96 ?_
            refine XW.eq (σ' := mW τ (upd S (10 + 12 * mU S + 5) ((mUt3 (τ.1 (.inr 16)) n S F L) 15)) (mUt3 (τ.1 (.inr 16)) n S F L) (mUtL (τ.1 (.inr 16)) n S F L)) (by rfl) rfl rfl ?_
            refine X_iconst (pc := 99) (v := 0) C dX7_userTold_99 (by decide) ?_
            refine X_istore_n (pc := 100) (lv1 := [(0, _), (1, _), (2, _)]) C 2 dX7_userTold_100 rfl (by decide) rfl ?_
            have g15 := mUt3_15 g78
            refine L1_X7_userTold C h1 hlt g15.1 g15.2 ?_ (cN ((mUt3 (τ.1 (.inr 16)) n S F L) 15)) 0 (by omega)
            refine XW.eq (σ' := mW τ (mUtS2 (τ.1 (.inr 16)) n S F L) (mUt3 (τ.1 (.inr 16)) n S F L) (mUtL (τ.1 (.inr 16)) n S F L)) (by rfl) rfl rfl ?_
            refine X_aload_n (pc := 130) C 0 dX7_userTold_130 rfl rfl ?_
            refine K_X7_194 (pc := 131) C (by assumption) (c_X7_go l P _ _ _ _ h1 n (mUt3_TK hT)) ⟨Nat.le_of_ble_eq_true rfl, Nat.le_of_ble_eq_true rfl⟩ ⟨rfl, rfl⟩ ⟨Nat.zero_le _, Nat.zero_le _⟩ (Nat.le_of_ble_eq_true rfl) dX7_userTold_131 ?_
            refine XW.eq (σ' := mW τ (mUtS2 (τ.1 (.inr 16)) n S F L) (mUt4 (τ.1 (.inr 16)) n S F L) (mUtL (τ.1 (.inr 16)) n S F L)) (by rfl) rfl rfl ?_
            refine X_aload_n (pc := 134) C 0 dX7_userTold_134 rfl rfl ?_
            refine X_iconst (pc := 135) (v := 0) C dX7_userTold_135 (by decide) ?_
            refine X_aload_n (pc := 136) C 0 dX7_userTold_136 rfl rfl ?_
            refine G_X7_9 (pc := 137) C (by assumption) dX7_userTold_137 ?_
            refine X_iconst (pc := 140) (v := 1) C dX7_userTold_140 (by decide) ?_
            refine X_ialdN (j := 1) (pc := 141) C (by first | exact h1 _ (by decide) (by decide)) rfl (by omega) (by decide) dX7_userTold_141 ?_
            rw [mW_10]
            rw [mUtS2_o g78 (by omega)]
            refine X_iconst (pc := 142) (v := 1) C dX7_userTold_142 (by decide) ?_
            refine X_isub (pc := 143) C dX7_userTold_143 ?_
            refine K_X7_203 (pc := 144) C (by assumption) (c_X7_number l P _ _ _ _ h1 n (mUt4_TK hT) 0 _) ⟨Nat.le_of_ble_eq_true rfl, Nat.le_of_ble_eq_true rfl⟩ ⟨rfl, rfl⟩ ⟨Nat.zero_le _, Nat.zero_le _⟩ (Nat.le_of_ble_eq_true rfl) dX7_userTold_144 ?_
            refine XW.eq (σ' := mW τ (mUtS2 (τ.1 (.inr 16)) n S F L) (mUt5 (τ.1 (.inr 16)) n S F L) (mUtL (τ.1 (.inr 16)) n S F L)) (st' := [.int (mUtX (τ.1 (.inr 16)) n S F L)]) rfl rfl rfl ?_
            refine X_istore_n (pc := 147) (lv1 := [(0, _), (1, _), (2, _)]) C 2 dX7_userTold_147 rfl (by decide) rfl ?_
            refine X_aload_n (pc := 148) C 0 dX7_userTold_148 rfl rfl ?_
            refine G_X7_180 (pc := 149) C (by assumption) dX7_userTold_149 ?_
            rw [mW_9]
            refine X_if_eq (pc := 152) C 159 dX7_userTold_152 (by decide) (fun h152 => ?_) (fun h152 => ?_)
            · have e6 : (mUt6 (τ.1 (.inr 16)) n S F L) = (mRh (τ.1 (.inr 16)) (mUt5 (τ.1 (.inr 16)) n S F L)).1 := if_pos h152
              have eY : (mUtY (τ.1 (.inr 16)) n S F L) = (mRh (τ.1 (.inr 16)) (mUt5 (τ.1 (.inr 16)) n S F L)).2 := if_pos h152
              refine X_aload_n (pc := 159) C 0 dX7_userTold_159 rfl rfl ?_
              refine K_X7_212 (pc := 160) C (by assumption) (c_X7_ringsHere l P _ _ _ _ h1 n (mUt5_TK hT)) ⟨Nat.le_of_ble_eq_true rfl, Nat.le_of_ble_eq_true rfl⟩ ⟨rfl, rfl⟩ ⟨Nat.zero_le _, Nat.zero_le _⟩ (Nat.le_of_ble_eq_true rfl) dX7_userTold_160 ?_
              refine X_istore_n (pc := 163) (lv1 := [(0, _), (1, _), (2, _), (3, _)]) C 3 dX7_userTold_163 rfl (by decide) rfl ?_
              refine X_iconst (pc := 164) (v := 0) C dX7_userTold_164 (by decide) ?_
              refine X_istore (pc := 165) (lv1 := [(0, _), (1, _), (2, _), (3, _), (4, _)]) C dX7_userTold_165 (by decide) rfl ?_
              refine XW.eq (σ' := mW τ (mUtS2 (τ.1 (.inr 16)) n S F L) (mUt6 (τ.1 (.inr 16)) n S F L) (mUtL (τ.1 (.inr 16)) n S F L)) (lv' := [(0, .ref (P.2.2.1 (.inr 9))), (1, .int (nI (mU S))), (2, .int (mUtX (τ.1 (.inr 16)) n S F L)), (3, .int (mUtY (τ.1 (.inr 16)) n S F L)), (4, .int (nI 0))]) (by rw [e6]) (by rw [eY]; rfl) rfl ?_
              refine L2_X7_userTold C h1 (u := mU S) (by omega) mUtY_ok (fun j hj => by rw [sU, mUtS2_o g78 (by omega)]; exact hC j hj) (mU S) 0 _ (by omega) ?_
              refine XW.eq (σ' := mW τ (mUtS2 (τ.1 (.inr 16)) n S F L) (mUt7 (τ.1 (.inr 16)) n S F L) (mUtL (τ.1 (.inr 16)) n S F L)) (by rfl) rfl rfl ?_
              refine X_aload_n (pc := 235) C 0 dX7_userTold_235 rfl rfl ?_
              refine K_X7_194 (pc := 236) C (by assumption) (c_X7_go l P _ _ _ _ h1 n (mUt7_TK hT)) ⟨Nat.le_of_ble_eq_true rfl, Nat.le_of_ble_eq_true rfl⟩ ⟨rfl, rfl⟩ ⟨Nat.zero_le _, Nat.zero_le _⟩ (Nat.le_of_ble_eq_true rfl) dX7_userTold_236 ?_
              refine XW.eq (σ' := mW τ (mUtS2 (τ.1 (.inr 16)) n S F L) (mUt8 (τ.1 (.inr 16)) n S F L) (mUtL (τ.1 (.inr 16)) n S F L)) (by rfl) rfl rfl ?_
              refine X_aload_n (pc := 239) C 0 dX7_userTold_239 rfl rfl ?_
              refine X_iload_n (pc := 240) C 1 dX7_userTold_240 rfl rfl ?_
              refine X_iconst (pc := 241) (v := 0) C dX7_userTold_241 (by decide) ?_
              refine X_iload_n (pc := 242) C 2 dX7_userTold_242 rfl rfl ?_
              refine K_X7_123 (pc := 243) C (by assumption) (c_X7_putUser l P _ _ _ _ h1 (mU S) 0 hlt (by decide) _ 0 _ rfl rfl) ⟨Nat.le_of_ble_eq_true rfl, Nat.le_of_ble_eq_true rfl⟩ ⟨rfl, rfl⟩ ⟨Nat.zero_le _, Nat.zero_le _⟩ (Nat.le_of_ble_eq_true rfl) dX7_userTold_243 ?_
              skip
              refine X_aload_n (pc := 246) C 0 dX7_userTold_246 rfl rfl ?_
              refine X_iload_n (pc := 247) C 1 dX7_userTold_247 rfl rfl ?_
              refine X_iconst (pc := 248) (v := 1) C dX7_userTold_248 (by decide) ?_
              refine X_iload_n (pc := 249) C 3 dX7_userTold_249 rfl rfl ?_
              refine K_X7_123 (pc := 250) C (by assumption) (c_X7_putUser l P _ _ _ _ h1 (mU S) 1 hlt (by decide) _ 1 _ rfl rfl) ⟨Nat.le_of_ble_eq_true rfl, Nat.le_of_ble_eq_true rfl⟩ ⟨rfl, rfl⟩ ⟨Nat.zero_le _, Nat.zero_le _⟩ (Nat.le_of_ble_eq_true rfl) dX7_userTold_250 ?_
              refine X_aload_n (pc := 253) C 0 dX7_userTold_253 rfl rfl ?_
              refine X_iload_n (pc := 254) C 1 dX7_userTold_254 rfl rfl ?_
              refine X_iconst (pc := 255) (v := 2) C dX7_userTold_255 (by decide) ?_
              refine X_aload_n (pc := 256) C 0 dX7_userTold_256 rfl rfl ?_
              refine X_iconst (pc := 257) (v := 0) C dX7_userTold_257 (by decide) ?_
              refine X_bipush (pc := 258) (v := 9) C dX7_userTold_258 (by decide) ?_
              refine K_X7_203 (pc := 260) C (by assumption) (c_X7_number l P _ _ _ _ h1 n (mUt8_TK hT) 0 9) ⟨Nat.le_of_ble_eq_true rfl, Nat.le_of_ble_eq_true rfl⟩ ⟨rfl, rfl⟩ ⟨Nat.zero_le _, Nat.zero_le _⟩ (Nat.le_of_ble_eq_true rfl) dX7_userTold_260 ?_
              refine K_X7_123 (pc := 263) C (by assumption) (c_X7_putUser l P _ _ _ _ h1 (mU S) 2 hlt (by decide) _ 2 _ rfl rfl) ⟨Nat.le_of_ble_eq_true rfl, Nat.le_of_ble_eq_true rfl⟩ ⟨rfl, rfl⟩ ⟨Nat.zero_le _, Nat.zero_le _⟩ (Nat.le_of_ble_eq_true rfl) dX7_userTold_263 ?_
              refine XW.eq (σ' := mW τ (upd (upd (upd (mUtS2 (τ.1 (.inr 16)) n S F L) (10 + 12 * mU S + 0) (mUtX (τ.1 (.inr 16)) n S F L)) (10 + 12 * mU S + 1) (mUtY (τ.1 (.inr 16)) n S F L)) (10 + 12 * mU S + 2) (mUtZ (τ.1 (.inr 16)) n S F L)) (mUt9 (τ.1 (.inr 16)) n S F L) (mUtL (τ.1 (.inr 16)) n S F L)) (by rfl) rfl rfl ?_
              refine X_aload_n (pc := 266) C 0 dX7_userTold_266 rfl rfl ?_
              refine X_iload_n (pc := 267) C 1 dX7_userTold_267 rfl rfl ?_
              refine X_iconst (pc := 268) (v := 4) C dX7_userTold_268 (by decide) ?_
              refine X_iconst (pc := 269) (v := 1) C dX7_userTold_269 (by decide) ?_
              refine X_iload_n (pc := 270) C 1 dX7_userTold_270 rfl rfl ?_
              refine X_ishl (pc := 271) C dX7_userTold_271 ?_
              refine K_X7_123 (pc := 272) C (by assumption) (c_X7_putUser l P _ _ _ _ h1 (mU S) 4 hlt (by decide) _ 4 _ rfl rfl) ⟨Nat.le_of_ble_eq_true rfl, Nat.le_of_ble_eq_true rfl⟩ ⟨rfl, rfl⟩ ⟨Nat.zero_le _, Nat.zero_le _⟩ (Nat.le_of_ble_eq_true rfl) dX7_userTold_272 ?_
              refine XW.eq (σ' := mW τ (mUtS4 (τ.1 (.inr 16)) n S F L) (mUt9 (τ.1 (.inr 16)) n S F L) (mUtL (τ.1 (.inr 16)) n S F L)) (by rfl) rfl rfl ?_
              refine X_aload_n (pc := 275) C 0 dX7_userTold_275 rfl rfl ?_
              refine X_aload_n (pc := 276) C 0 dX7_userTold_276 rfl rfl ?_
              refine G_X7_164 (pc := 277) C (by assumption) dX7_userTold_277 ?_
              rw [mW_9]
              refine X_iconst (pc := 280) (v := 3) C dX7_userTold_280 (by decide) ?_
              refine X_icmp_eq (pc := 281) C 288 dX7_userTold_281 (by decide) (fun h281 => ?_) (fun h281 => ?_)
              · have g281 : (if (mUt9 (τ.1 (.inr 16)) n S F L) 16 = 3 then (0 : Int32) else 1) = 0 := if_pos h281
                refine X_iconst (pc := 288) (v := 0) C dX7_userTold_288 (by decide) ?_
                refine X_iconst (pc := 289) (v := 1) C dX7_userTold_289 (by decide) ?_
                refine K_X7_190 (pc := 290) C (by assumption) (c_X7_wrong l P _ _ _ _ h1 _ _) ⟨Nat.le_of_ble_eq_true rfl, Nat.le_of_ble_eq_true rfl⟩ ⟨rfl, rfl⟩ ⟨Nat.zero_le _, Nat.zero_le _⟩ (Nat.le_of_ble_eq_true rfl) dX7_userTold_290 ?_
                refine XW.eq (σ' := mW τ (mUtS4 (τ.1 (.inr 16)) n S F L) (mWr (mUt9 (τ.1 (.inr 16)) n S F L) (if (mUt9 (τ.1 (.inr 16)) n S F L) 16 = 3 then (0 : Int32) else 1) 1) (mUtL (τ.1 (.inr 16)) n S F L)) (by rw [g281]) rfl rfl ?_
                refine X_aload_n (pc := 293) C 0 dX7_userTold_293 rfl rfl ?_
                refine K_X7_194 (pc := 294) C (by assumption) (c_X7_go l P _ _ _ _ h1 n (mWr_TK (mUt9_TK hT))) ⟨Nat.le_of_ble_eq_true rfl, Nat.le_of_ble_eq_true rfl⟩ ⟨rfl, rfl⟩ ⟨Nat.zero_le _, Nat.zero_le _⟩ (Nat.le_of_ble_eq_true rfl) dX7_userTold_294 ?_
                refine XW.eq (σ' := mW τ (mUtS4 (τ.1 (.inr 16)) n S F L) (mUtA (τ.1 (.inr 16)) n S F L) (mUtL (τ.1 (.inr 16)) n S F L)) (by rfl) rfl rfl ?_
                refine X_aload_n (pc := 297) C 0 dX7_userTold_297 rfl rfl ?_
                refine G_X7_180 (pc := 298) C (by assumption) dX7_userTold_298 ?_
                rw [mW_9]
                refine X_if_ne (pc := 301) C 314 dX7_userTold_301 (by decide) (fun h301 => ?_) (fun h301 => ?_)
                · skip
                  exact X_vret (pc := 314) C (Nat.zero_le _) (Nat.zero_le _) dX7_userTold_314 ⟨rfl, by first | rw [mUtS, mUtF, if_pos g78, if_pos g78, if_pos h301] | rw [mUtS, mUtF, if_pos g78, if_pos g78, if_neg h301]⟩
                · skip
                  refine X_aload_n (pc := 304) C 0 dX7_userTold_304 rfl rfl ?_
                  refine G_X7_9 (pc := 305) C (by assumption) dX7_userTold_305 ?_
                  refine X_iconst (pc := 308) (v := 4) C dX7_userTold_308 (by decide) ?_
                  refine X_dup2 (pc := 309) C dX7_userTold_309 rfl rfl ?_
                  refine X_ialdN (j := 4) (pc := 310) C (by first | exact h1 _ (by decide) (by decide)) rfl (by omega) (by decide) dX7_userTold_310 ?_
                  rw [mW_10]
                  rw [mUtS4_o g78 (by omega), hM.u]
                  refine X_iconst (pc := 311) (v := 1) C dX7_userTold_311 (by decide) ?_
                  refine X_iadd (pc := 312) C dX7_userTold_312 ?_
                  rw [nI_1]
                  refine X_iastN (j := 4) (pc := 313) C (by first | exact h1 _ (by decide) (by decide)) rfl (by omega) (by decide) dX7_userTold_313 ?_
                  rw [mW_u10]
                  exact X_vret (pc := 314) C (Nat.zero_le _) (Nat.zero_le _) dX7_userTold_314 ⟨rfl, by first | rw [mUtS, mUtF, if_pos g78, if_pos g78, if_pos h301] | rw [mUtS, mUtF, if_pos g78, if_pos g78, if_neg h301]⟩
              · have g281 : (if (mUt9 (τ.1 (.inr 16)) n S F L) 16 = 3 then (0 : Int32) else 1) = 1 := if_neg h281
                refine X_iconst (pc := 284) (v := 1) C dX7_userTold_284 (by decide) ?_
                refine X_goto (pc := 285) C 289 dX7_userTold_285 (by decide) ?_
                refine X_iconst (pc := 289) (v := 1) C dX7_userTold_289 (by decide) ?_
                refine K_X7_190 (pc := 290) C (by assumption) (c_X7_wrong l P _ _ _ _ h1 _ _) ⟨Nat.le_of_ble_eq_true rfl, Nat.le_of_ble_eq_true rfl⟩ ⟨rfl, rfl⟩ ⟨Nat.zero_le _, Nat.zero_le _⟩ (Nat.le_of_ble_eq_true rfl) dX7_userTold_290 ?_
                refine XW.eq (σ' := mW τ (mUtS4 (τ.1 (.inr 16)) n S F L) (mWr (mUt9 (τ.1 (.inr 16)) n S F L) (if (mUt9 (τ.1 (.inr 16)) n S F L) 16 = 3 then (0 : Int32) else 1) 1) (mUtL (τ.1 (.inr 16)) n S F L)) (by rw [g281]) rfl rfl ?_
                refine X_aload_n (pc := 293) C 0 dX7_userTold_293 rfl rfl ?_
                refine K_X7_194 (pc := 294) C (by assumption) (c_X7_go l P _ _ _ _ h1 n (mWr_TK (mUt9_TK hT))) ⟨Nat.le_of_ble_eq_true rfl, Nat.le_of_ble_eq_true rfl⟩ ⟨rfl, rfl⟩ ⟨Nat.zero_le _, Nat.zero_le _⟩ (Nat.le_of_ble_eq_true rfl) dX7_userTold_294 ?_
                refine XW.eq (σ' := mW τ (mUtS4 (τ.1 (.inr 16)) n S F L) (mUtA (τ.1 (.inr 16)) n S F L) (mUtL (τ.1 (.inr 16)) n S F L)) (by rfl) rfl rfl ?_
                refine X_aload_n (pc := 297) C 0 dX7_userTold_297 rfl rfl ?_
                refine G_X7_180 (pc := 298) C (by assumption) dX7_userTold_298 ?_
                rw [mW_9]
                refine X_if_ne (pc := 301) C 314 dX7_userTold_301 (by decide) (fun h301 => ?_) (fun h301 => ?_)
                · skip
                  exact X_vret (pc := 314) C (Nat.zero_le _) (Nat.zero_le _) dX7_userTold_314 ⟨rfl, by first | rw [mUtS, mUtF, if_pos g78, if_pos g78, if_pos h301] | rw [mUtS, mUtF, if_pos g78, if_pos g78, if_neg h301]⟩
                · skip
                  refine X_aload_n (pc := 304) C 0 dX7_userTold_304 rfl rfl ?_
                  refine G_X7_9 (pc := 305) C (by assumption) dX7_userTold_305 ?_
                  refine X_iconst (pc := 308) (v := 4) C dX7_userTold_308 (by decide) ?_
                  refine X_dup2 (pc := 309) C dX7_userTold_309 rfl rfl ?_
                  refine X_ialdN (j := 4) (pc := 310) C (by first | exact h1 _ (by decide) (by decide)) rfl (by omega) (by decide) dX7_userTold_310 ?_
                  rw [mW_10]
                  rw [mUtS4_o g78 (by omega), hM.u]
                  refine X_iconst (pc := 311) (v := 1) C dX7_userTold_311 (by decide) ?_
                  refine X_iadd (pc := 312) C dX7_userTold_312 ?_
                  rw [nI_1]
                  refine X_iastN (j := 4) (pc := 313) C (by first | exact h1 _ (by decide) (by decide)) rfl (by omega) (by decide) dX7_userTold_313 ?_
                  rw [mW_u10]
                  exact X_vret (pc := 314) C (Nat.zero_le _) (Nat.zero_le _) dX7_userTold_314 ⟨rfl, by first | rw [mUtS, mUtF, if_pos g78, if_pos g78, if_pos h301] | rw [mUtS, mUtF, if_pos g78, if_pos g78, if_neg h301]⟩
            · have e6 : (mUt6 (τ.1 (.inr 16)) n S F L) = (mUt5 (τ.1 (.inr 16)) n S F L) := if_neg h152
              have eY : (mUtY (τ.1 (.inr 16)) n S F L) = 1 := if_neg h152
              refine X_iconst (pc := 155) (v := 1) C dX7_userTold_155 (by decide) ?_
              refine X_goto (pc := 156) C 163 dX7_userTold_156 (by decide) ?_
              refine X_istore_n (pc := 163) (lv1 := [(0, _), (1, _), (2, _), (3, _)]) C 3 dX7_userTold_163 rfl (by decide) rfl ?_
              refine X_iconst (pc := 164) (v := 0) C dX7_userTold_164 (by decide) ?_
              refine X_istore (pc := 165) (lv1 := [(0, _), (1, _), (2, _), (3, _), (4, _)]) C dX7_userTold_165 (by decide) rfl ?_
              refine XW.eq (σ' := mW τ (mUtS2 (τ.1 (.inr 16)) n S F L) (mUt6 (τ.1 (.inr 16)) n S F L) (mUtL (τ.1 (.inr 16)) n S F L)) (lv' := [(0, .ref (P.2.2.1 (.inr 9))), (1, .int (nI (mU S))), (2, .int (mUtX (τ.1 (.inr 16)) n S F L)), (3, .int (mUtY (τ.1 (.inr 16)) n S F L)), (4, .int (nI 0))]) (by rw [e6]) (by rw [eY]; rfl) rfl ?_
              refine L2_X7_userTold C h1 (u := mU S) (by omega) mUtY_ok (fun j hj => by rw [sU, mUtS2_o g78 (by omega)]; exact hC j hj) (mU S) 0 _ (by omega) ?_
              refine XW.eq (σ' := mW τ (mUtS2 (τ.1 (.inr 16)) n S F L) (mUt7 (τ.1 (.inr 16)) n S F L) (mUtL (τ.1 (.inr 16)) n S F L)) (by rfl) rfl rfl ?_
              refine X_aload_n (pc := 235) C 0 dX7_userTold_235 rfl rfl ?_
              refine K_X7_194 (pc := 236) C (by assumption) (c_X7_go l P _ _ _ _ h1 n (mUt7_TK hT)) ⟨Nat.le_of_ble_eq_true rfl, Nat.le_of_ble_eq_true rfl⟩ ⟨rfl, rfl⟩ ⟨Nat.zero_le _, Nat.zero_le _⟩ (Nat.le_of_ble_eq_true rfl) dX7_userTold_236 ?_
              refine XW.eq (σ' := mW τ (mUtS2 (τ.1 (.inr 16)) n S F L) (mUt8 (τ.1 (.inr 16)) n S F L) (mUtL (τ.1 (.inr 16)) n S F L)) (by rfl) rfl rfl ?_
              refine X_aload_n (pc := 239) C 0 dX7_userTold_239 rfl rfl ?_
              refine X_iload_n (pc := 240) C 1 dX7_userTold_240 rfl rfl ?_
              refine X_iconst (pc := 241) (v := 0) C dX7_userTold_241 (by decide) ?_
              refine X_iload_n (pc := 242) C 2 dX7_userTold_242 rfl rfl ?_
              refine K_X7_123 (pc := 243) C (by assumption) (c_X7_putUser l P _ _ _ _ h1 (mU S) 0 hlt (by decide) _ 0 _ rfl rfl) ⟨Nat.le_of_ble_eq_true rfl, Nat.le_of_ble_eq_true rfl⟩ ⟨rfl, rfl⟩ ⟨Nat.zero_le _, Nat.zero_le _⟩ (Nat.le_of_ble_eq_true rfl) dX7_userTold_243 ?_
              skip
              refine X_aload_n (pc := 246) C 0 dX7_userTold_246 rfl rfl ?_
              refine X_iload_n (pc := 247) C 1 dX7_userTold_247 rfl rfl ?_
              refine X_iconst (pc := 248) (v := 1) C dX7_userTold_248 (by decide) ?_
              refine X_iload_n (pc := 249) C 3 dX7_userTold_249 rfl rfl ?_
              refine K_X7_123 (pc := 250) C (by assumption) (c_X7_putUser l P _ _ _ _ h1 (mU S) 1 hlt (by decide) _ 1 _ rfl rfl) ⟨Nat.le_of_ble_eq_true rfl, Nat.le_of_ble_eq_true rfl⟩ ⟨rfl, rfl⟩ ⟨Nat.zero_le _, Nat.zero_le _⟩ (Nat.le_of_ble_eq_true rfl) dX7_userTold_250 ?_
              refine X_aload_n (pc := 253) C 0 dX7_userTold_253 rfl rfl ?_
              refine X_iload_n (pc := 254) C 1 dX7_userTold_254 rfl rfl ?_
              refine X_iconst (pc := 255) (v := 2) C dX7_userTold_255 (by decide) ?_
              refine X_aload_n (pc := 256) C 0 dX7_userTold_256 rfl rfl ?_
              refine X_iconst (pc := 257) (v := 0) C dX7_userTold_257 (by decide) ?_
              refine X_bipush (pc := 258) (v := 9) C dX7_userTold_258 (by decide) ?_
              refine K_X7_203 (pc := 260) C (by assumption) (c_X7_number l P _ _ _ _ h1 n (mUt8_TK hT) 0 9) ⟨Nat.le_of_ble_eq_true rfl, Nat.le_of_ble_eq_true rfl⟩ ⟨rfl, rfl⟩ ⟨Nat.zero_le _, Nat.zero_le _⟩ (Nat.le_of_ble_eq_true rfl) dX7_userTold_260 ?_
              refine K_X7_123 (pc := 263) C (by assumption) (c_X7_putUser l P _ _ _ _ h1 (mU S) 2 hlt (by decide) _ 2 _ rfl rfl) ⟨Nat.le_of_ble_eq_true rfl, Nat.le_of_ble_eq_true rfl⟩ ⟨rfl, rfl⟩ ⟨Nat.zero_le _, Nat.zero_le _⟩ (Nat.le_of_ble_eq_true rfl) dX7_userTold_263 ?_
              refine XW.eq (σ' := mW τ (upd (upd (upd (mUtS2 (τ.1 (.inr 16)) n S F L) (10 + 12 * mU S + 0) (mUtX (τ.1 (.inr 16)) n S F L)) (10 + 12 * mU S + 1) (mUtY (τ.1 (.inr 16)) n S F L)) (10 + 12 * mU S + 2) (mUtZ (τ.1 (.inr 16)) n S F L)) (mUt9 (τ.1 (.inr 16)) n S F L) (mUtL (τ.1 (.inr 16)) n S F L)) (by rfl) rfl rfl ?_
              refine X_aload_n (pc := 266) C 0 dX7_userTold_266 rfl rfl ?_
              refine X_iload_n (pc := 267) C 1 dX7_userTold_267 rfl rfl ?_
              refine X_iconst (pc := 268) (v := 4) C dX7_userTold_268 (by decide) ?_
              refine X_iconst (pc := 269) (v := 1) C dX7_userTold_269 (by decide) ?_
              refine X_iload_n (pc := 270) C 1 dX7_userTold_270 rfl rfl ?_
              refine X_ishl (pc := 271) C dX7_userTold_271 ?_
              refine K_X7_123 (pc := 272) C (by assumption) (c_X7_putUser l P _ _ _ _ h1 (mU S) 4 hlt (by decide) _ 4 _ rfl rfl) ⟨Nat.le_of_ble_eq_true rfl, Nat.le_of_ble_eq_true rfl⟩ ⟨rfl, rfl⟩ ⟨Nat.zero_le _, Nat.zero_le _⟩ (Nat.le_of_ble_eq_true rfl) dX7_userTold_272 ?_
              refine XW.eq (σ' := mW τ (mUtS4 (τ.1 (.inr 16)) n S F L) (mUt9 (τ.1 (.inr 16)) n S F L) (mUtL (τ.1 (.inr 16)) n S F L)) (by rfl) rfl rfl ?_
              refine X_aload_n (pc := 275) C 0 dX7_userTold_275 rfl rfl ?_
              refine X_aload_n (pc := 276) C 0 dX7_userTold_276 rfl rfl ?_
              refine G_X7_164 (pc := 277) C (by assumption) dX7_userTold_277 ?_
              rw [mW_9]
              refine X_iconst (pc := 280) (v := 3) C dX7_userTold_280 (by decide) ?_
              refine X_icmp_eq (pc := 281) C 288 dX7_userTold_281 (by decide) (fun h281 => ?_) (fun h281 => ?_)
              · have g281 : (if (mUt9 (τ.1 (.inr 16)) n S F L) 16 = 3 then (0 : Int32) else 1) = 0 := if_pos h281
                refine X_iconst (pc := 288) (v := 0) C dX7_userTold_288 (by decide) ?_
                refine X_iconst (pc := 289) (v := 1) C dX7_userTold_289 (by decide) ?_
                refine K_X7_190 (pc := 290) C (by assumption) (c_X7_wrong l P _ _ _ _ h1 _ _) ⟨Nat.le_of_ble_eq_true rfl, Nat.le_of_ble_eq_true rfl⟩ ⟨rfl, rfl⟩ ⟨Nat.zero_le _, Nat.zero_le _⟩ (Nat.le_of_ble_eq_true rfl) dX7_userTold_290 ?_
                refine XW.eq (σ' := mW τ (mUtS4 (τ.1 (.inr 16)) n S F L) (mWr (mUt9 (τ.1 (.inr 16)) n S F L) (if (mUt9 (τ.1 (.inr 16)) n S F L) 16 = 3 then (0 : Int32) else 1) 1) (mUtL (τ.1 (.inr 16)) n S F L)) (by rw [g281]) rfl rfl ?_
                refine X_aload_n (pc := 293) C 0 dX7_userTold_293 rfl rfl ?_
                refine K_X7_194 (pc := 294) C (by assumption) (c_X7_go l P _ _ _ _ h1 n (mWr_TK (mUt9_TK hT))) ⟨Nat.le_of_ble_eq_true rfl, Nat.le_of_ble_eq_true rfl⟩ ⟨rfl, rfl⟩ ⟨Nat.zero_le _, Nat.zero_le _⟩ (Nat.le_of_ble_eq_true rfl) dX7_userTold_294 ?_
                refine XW.eq (σ' := mW τ (mUtS4 (τ.1 (.inr 16)) n S F L) (mUtA (τ.1 (.inr 16)) n S F L) (mUtL (τ.1 (.inr 16)) n S F L)) (by rfl) rfl rfl ?_
                refine X_aload_n (pc := 297) C 0 dX7_userTold_297 rfl rfl ?_
                refine G_X7_180 (pc := 298) C (by assumption) dX7_userTold_298 ?_
                rw [mW_9]
                refine X_if_ne (pc := 301) C 314 dX7_userTold_301 (by decide) (fun h301 => ?_) (fun h301 => ?_)
                · skip
                  exact X_vret (pc := 314) C (Nat.zero_le _) (Nat.zero_le _) dX7_userTold_314 ⟨rfl, by first | rw [mUtS, mUtF, if_pos g78, if_pos g78, if_pos h301] | rw [mUtS, mUtF, if_pos g78, if_pos g78, if_neg h301]⟩
                · skip
                  refine X_aload_n (pc := 304) C 0 dX7_userTold_304 rfl rfl ?_
                  refine G_X7_9 (pc := 305) C (by assumption) dX7_userTold_305 ?_
                  refine X_iconst (pc := 308) (v := 4) C dX7_userTold_308 (by decide) ?_
                  refine X_dup2 (pc := 309) C dX7_userTold_309 rfl rfl ?_
                  refine X_ialdN (j := 4) (pc := 310) C (by first | exact h1 _ (by decide) (by decide)) rfl (by omega) (by decide) dX7_userTold_310 ?_
                  rw [mW_10]
                  rw [mUtS4_o g78 (by omega), hM.u]
                  refine X_iconst (pc := 311) (v := 1) C dX7_userTold_311 (by decide) ?_
                  refine X_iadd (pc := 312) C dX7_userTold_312 ?_
                  rw [nI_1]
                  refine X_iastN (j := 4) (pc := 313) C (by first | exact h1 _ (by decide) (by decide)) rfl (by omega) (by decide) dX7_userTold_313 ?_
                  rw [mW_u10]
                  exact X_vret (pc := 314) C (Nat.zero_le _) (Nat.zero_le _) dX7_userTold_314 ⟨rfl, by first | rw [mUtS, mUtF, if_pos g78, if_pos g78, if_pos h301] | rw [mUtS, mUtF, if_pos g78, if_pos g78, if_neg h301]⟩
              · have g281 : (if (mUt9 (τ.1 (.inr 16)) n S F L) 16 = 3 then (0 : Int32) else 1) = 1 := if_neg h281
                refine X_iconst (pc := 284) (v := 1) C dX7_userTold_284 (by decide) ?_
                refine X_goto (pc := 285) C 289 dX7_userTold_285 (by decide) ?_
                refine X_iconst (pc := 289) (v := 1) C dX7_userTold_289 (by decide) ?_
                refine K_X7_190 (pc := 290) C (by assumption) (c_X7_wrong l P _ _ _ _ h1 _ _) ⟨Nat.le_of_ble_eq_true rfl, Nat.le_of_ble_eq_true rfl⟩ ⟨rfl, rfl⟩ ⟨Nat.zero_le _, Nat.zero_le _⟩ (Nat.le_of_ble_eq_true rfl) dX7_userTold_290 ?_
                refine XW.eq (σ' := mW τ (mUtS4 (τ.1 (.inr 16)) n S F L) (mWr (mUt9 (τ.1 (.inr 16)) n S F L) (if (mUt9 (τ.1 (.inr 16)) n S F L) 16 = 3 then (0 : Int32) else 1) 1) (mUtL (τ.1 (.inr 16)) n S F L)) (by rw [g281]) rfl rfl ?_
                refine X_aload_n (pc := 293) C 0 dX7_userTold_293 rfl rfl ?_
                refine K_X7_194 (pc := 294) C (by assumption) (c_X7_go l P _ _ _ _ h1 n (mWr_TK (mUt9_TK hT))) ⟨Nat.le_of_ble_eq_true rfl, Nat.le_of_ble_eq_true rfl⟩ ⟨rfl, rfl⟩ ⟨Nat.zero_le _, Nat.zero_le _⟩ (Nat.le_of_ble_eq_true rfl) dX7_userTold_294 ?_
                refine XW.eq (σ' := mW τ (mUtS4 (τ.1 (.inr 16)) n S F L) (mUtA (τ.1 (.inr 16)) n S F L) (mUtL (τ.1 (.inr 16)) n S F L)) (by rfl) rfl rfl ?_
                refine X_aload_n (pc := 297) C 0 dX7_userTold_297 rfl rfl ?_
                refine G_X7_180 (pc := 298) C (by assumption) dX7_userTold_298 ?_
                rw [mW_9]
                refine X_if_ne (pc := 301) C 314 dX7_userTold_301 (by decide) (fun h301 => ?_) (fun h301 => ?_)
                · skip
                  exact X_vret (pc := 314) C (Nat.zero_le _) (Nat.zero_le _) dX7_userTold_314 ⟨rfl, by first | rw [mUtS, mUtF, if_pos g78, if_pos g78, if_pos h301] | rw [mUtS, mUtF, if_pos g78, if_pos g78, if_neg h301]⟩
                · skip
                  refine X_aload_n (pc := 304) C 0 dX7_userTold_304 rfl rfl ?_
                  refine G_X7_9 (pc := 305) C (by assumption) dX7_userTold_305 ?_
                  refine X_iconst (pc := 308) (v := 4) C dX7_userTold_308 (by decide) ?_
                  refine X_dup2 (pc := 309) C dX7_userTold_309 rfl rfl ?_
                  refine X_ialdN (j := 4) (pc := 310) C (by first | exact h1 _ (by decide) (by decide)) rfl (by omega) (by decide) dX7_userTold_310 ?_
                  rw [mW_10]
                  rw [mUtS4_o g78 (by omega), hM.u]
                  refine X_iconst (pc := 311) (v := 1) C dX7_userTold_311 (by decide) ?_
                  refine X_iadd (pc := 312) C dX7_userTold_312 ?_
                  rw [nI_1]
                  refine X_iastN (j := 4) (pc := 313) C (by first | exact h1 _ (by decide) (by decide)) rfl (by omega) (by decide) dX7_userTold_313 ?_
                  rw [mW_u10]
                  exact X_vret (pc := 314) C (Nat.zero_le _) (Nat.zero_le _) dX7_userTold_314 ⟨rfl, by first | rw [mUtS, mUtF, if_pos g78, if_pos g78, if_pos h301] | rw [mUtS, mUtF, if_pos g78, if_pos g78, if_neg h301]⟩
          · skip
            exact X_vret (pc := 81) C (Nat.zero_le _) (Nat.zero_le _) dX7_userTold_81 ⟨rfl, by rw [mUtS, mUtF, if_neg h78, if_neg h78]⟩
        · have g62 : (if (mUt2 (τ.1 (.inr 16)) n S F) 20 = 0 ∧ ¬ mNmd S (mUt2 (τ.1 (.inr 16)) n S F) (mUtL (τ.1 (.inr 16)) n S F L) = -1 then (1 : Int32) else 0) = 1 := if_pos ⟨h54, h62⟩
          refine X_iconst (pc := 65) (v := 1) C dX7_userTold_65 (by decide) ?_
          refine X_goto (pc := 66) C 70 dX7_userTold_66 (by decide) ?_
          refine X_iconst (pc := 70) (v := 4) C dX7_userTold_70 (by decide) ?_
          refine K_X7_190 (pc := 71) C (by assumption) (c_X7_wrong l P _ _ _ _ h1 _ _) ⟨Nat.le_of_ble_eq_true rfl, Nat.le_of_ble_eq_true rfl⟩ ⟨rfl, rfl⟩ ⟨Nat.zero_le _, Nat.zero_le _⟩ (Nat.le_of_ble_eq_true rfl) dX7_userTold_71 ?_
          refine XW.eq (σ' := mW τ S (mUt3 (τ.1 (.inr 16)) n S F L) (mUtL (τ.1 (.inr 16)) n S F L)) (by rw [mUt3, g62]) rfl rfl ?_
          refine X_aload_n (pc := 74) C 0 dX7_userTold_74 rfl rfl ?_
          refine G_X7_180 (pc := 75) C (by assumption) dX7_userTold_75 ?_
          rw [mW_9]
          refine X_if_eq (pc := 78) C 82 dX7_userTold_78 (by decide) (fun h78 => ?_) (fun h78 => ?_)
          · have g78 := h78
            have hlt := mUt_lt hM h78
            refine X_aload_n (pc := 82) C 0 dX7_userTold_82 rfl rfl ?_
            refine G_X7_9 (pc := 83) C (by assumption) dX7_userTold_83 ?_
            refine X_iconst (pc := 86) (v := 4) C dX7_userTold_86 (by decide) ?_
            refine X_ialdN (j := 4) (pc := 87) C (by first | exact h1 _ (by decide) (by decide)) rfl (by omega) (by decide) dX7_userTold_87 ?_
            rw [mW_10]
            rw [hM.u]
            refine X_istore_n (pc := 88) (lv1 := [(0, _), (1, _)]) C 1 dX7_userTold_88 rfl (by decide) rfl ?_
            refine X_aload_n (pc := 89) C 0 dX7_userTold_89 rfl rfl ?_
            refine X_iload_n (pc := 90) C 1 dX7_userTold_90 rfl rfl ?_
            refine X_iconst (pc := 91) (v := 5) C dX7_userTold_91 (by decide) ?_
            refine X_aload_n (pc := 92) C 0 dX7_userTold_92 rfl rfl ?_
            refine G_X7_148 (pc := 93) C (by assumption) dX7_userTold_93 ?_
            rw [mW_9]
            refine K_X7_123 (pc := 96) C (by assumption) (c_X7_putUser l P _ _ _ _ h1 (mU S) 5 hlt (by decide) _ 5 _ rfl rfl) ⟨Nat.le_of_ble_eq_true rfl, Nat.le_of_ble_eq_true rfl⟩ ⟨rfl, rfl⟩ ⟨Nat.zero_le _, Nat.zero_le _⟩ (Nat.le_of_ble_eq_true rfl) dX7_userTold_96 ?_
            refine XW.eq (σ' := mW τ (upd S (10 + 12 * mU S + 5) ((mUt3 (τ.1 (.inr 16)) n S F L) 15)) (mUt3 (τ.1 (.inr 16)) n S F L) (mUtL (τ.1 (.inr 16)) n S F L)) (by rfl) rfl rfl ?_
            refine X_iconst (pc := 99) (v := 0) C dX7_userTold_99 (by decide) ?_
            refine X_istore_n (pc := 100) (lv1 := [(0, _), (1, _), (2, _)]) C 2 dX7_userTold_100 rfl (by decide) rfl ?_
            have g15 := mUt3_15 g78
            refine L1_X7_userTold C h1 hlt g15.1 g15.2 ?_ (cN ((mUt3 (τ.1 (.inr 16)) n S F L) 15)) 0 (by omega)
            refine XW.eq (σ' := mW τ (mUtS2 (τ.1 (.inr 16)) n S F L) (mUt3 (τ.1 (.inr 16)) n S F L) (mUtL (τ.1 (.inr 16)) n S F L)) (by rfl) rfl rfl ?_
            refine X_aload_n (pc := 130) C 0 dX7_userTold_130 rfl rfl ?_
            refine K_X7_194 (pc := 131) C (by assumption) (c_X7_go l P _ _ _ _ h1 n (mUt3_TK hT)) ⟨Nat.le_of_ble_eq_true rfl, Nat.le_of_ble_eq_true rfl⟩ ⟨rfl, rfl⟩ ⟨Nat.zero_le _, Nat.zero_le _⟩ (Nat.le_of_ble_eq_true rfl) dX7_userTold_131 ?_
            refine XW.eq (σ' := mW τ (mUtS2 (τ.1 (.inr 16)) n S F L) (mUt4 (τ.1 (.inr 16)) n S F L) (mUtL (τ.1 (.inr 16)) n S F L)) (by rfl) rfl rfl ?_
            refine X_aload_n (pc := 134) C 0 dX7_userTold_134 rfl rfl ?_
            refine X_iconst (pc := 135) (v := 0) C dX7_userTold_135 (by decide) ?_
            refine X_aload_n (pc := 136) C 0 dX7_userTold_136 rfl rfl ?_
            refine G_X7_9 (pc := 137) C (by assumption) dX7_userTold_137 ?_
            refine X_iconst (pc := 140) (v := 1) C dX7_userTold_140 (by decide) ?_
            refine X_ialdN (j := 1) (pc := 141) C (by first | exact h1 _ (by decide) (by decide)) rfl (by omega) (by decide) dX7_userTold_141 ?_
            rw [mW_10]
            rw [mUtS2_o g78 (by omega)]
            refine X_iconst (pc := 142) (v := 1) C dX7_userTold_142 (by decide) ?_
            refine X_isub (pc := 143) C dX7_userTold_143 ?_
            refine K_X7_203 (pc := 144) C (by assumption) (c_X7_number l P _ _ _ _ h1 n (mUt4_TK hT) 0 _) ⟨Nat.le_of_ble_eq_true rfl, Nat.le_of_ble_eq_true rfl⟩ ⟨rfl, rfl⟩ ⟨Nat.zero_le _, Nat.zero_le _⟩ (Nat.le_of_ble_eq_true rfl) dX7_userTold_144 ?_
            refine XW.eq (σ' := mW τ (mUtS2 (τ.1 (.inr 16)) n S F L) (mUt5 (τ.1 (.inr 16)) n S F L) (mUtL (τ.1 (.inr 16)) n S F L)) (st' := [.int (mUtX (τ.1 (.inr 16)) n S F L)]) rfl rfl rfl ?_
            refine X_istore_n (pc := 147) (lv1 := [(0, _), (1, _), (2, _)]) C 2 dX7_userTold_147 rfl (by decide) rfl ?_
            refine X_aload_n (pc := 148) C 0 dX7_userTold_148 rfl rfl ?_
            refine G_X7_180 (pc := 149) C (by assumption) dX7_userTold_149 ?_
            rw [mW_9]
            refine X_if_eq (pc := 152) C 159 dX7_userTold_152 (by decide) (fun h152 => ?_) (fun h152 => ?_)
            · have e6 : (mUt6 (τ.1 (.inr 16)) n S F L) = (mRh (τ.1 (.inr 16)) (mUt5 (τ.1 (.inr 16)) n S F L)).1 := if_pos h152
              have eY : (mUtY (τ.1 (.inr 16)) n S F L) = (mRh (τ.1 (.inr 16)) (mUt5 (τ.1 (.inr 16)) n S F L)).2 := if_pos h152
              refine X_aload_n (pc := 159) C 0 dX7_userTold_159 rfl rfl ?_
              refine K_X7_212 (pc := 160) C (by assumption) (c_X7_ringsHere l P _ _ _ _ h1 n (mUt5_TK hT)) ⟨Nat.le_of_ble_eq_true rfl, Nat.le_of_ble_eq_true rfl⟩ ⟨rfl, rfl⟩ ⟨Nat.zero_le _, Nat.zero_le _⟩ (Nat.le_of_ble_eq_true rfl) dX7_userTold_160 ?_
              refine X_istore_n (pc := 163) (lv1 := [(0, _), (1, _), (2, _), (3, _)]) C 3 dX7_userTold_163 rfl (by decide) rfl ?_
              refine X_iconst (pc := 164) (v := 0) C dX7_userTold_164 (by decide) ?_
              refine X_istore (pc := 165) (lv1 := [(0, _), (1, _), (2, _), (3, _), (4, _)]) C dX7_userTold_165 (by decide) rfl ?_
              refine XW.eq (σ' := mW τ (mUtS2 (τ.1 (.inr 16)) n S F L) (mUt6 (τ.1 (.inr 16)) n S F L) (mUtL (τ.1 (.inr 16)) n S F L)) (lv' := [(0, .ref (P.2.2.1 (.inr 9))), (1, .int (nI (mU S))), (2, .int (mUtX (τ.1 (.inr 16)) n S F L)), (3, .int (mUtY (τ.1 (.inr 16)) n S F L)), (4, .int (nI 0))]) (by rw [e6]) (by rw [eY]; rfl) rfl ?_
              refine L2_X7_userTold C h1 (u := mU S) (by omega) mUtY_ok (fun j hj => by rw [sU, mUtS2_o g78 (by omega)]; exact hC j hj) (mU S) 0 _ (by omega) ?_
              refine XW.eq (σ' := mW τ (mUtS2 (τ.1 (.inr 16)) n S F L) (mUt7 (τ.1 (.inr 16)) n S F L) (mUtL (τ.1 (.inr 16)) n S F L)) (by rfl) rfl rfl ?_
              refine X_aload_n (pc := 235) C 0 dX7_userTold_235 rfl rfl ?_
              refine K_X7_194 (pc := 236) C (by assumption) (c_X7_go l P _ _ _ _ h1 n (mUt7_TK hT)) ⟨Nat.le_of_ble_eq_true rfl, Nat.le_of_ble_eq_true rfl⟩ ⟨rfl, rfl⟩ ⟨Nat.zero_le _, Nat.zero_le _⟩ (Nat.le_of_ble_eq_true rfl) dX7_userTold_236 ?_
              refine XW.eq (σ' := mW τ (mUtS2 (τ.1 (.inr 16)) n S F L) (mUt8 (τ.1 (.inr 16)) n S F L) (mUtL (τ.1 (.inr 16)) n S F L)) (by rfl) rfl rfl ?_
              refine X_aload_n (pc := 239) C 0 dX7_userTold_239 rfl rfl ?_
              refine X_iload_n (pc := 240) C 1 dX7_userTold_240 rfl rfl ?_
              refine X_iconst (pc := 241) (v := 0) C dX7_userTold_241 (by decide) ?_
              refine X_iload_n (pc := 242) C 2 dX7_userTold_242 rfl rfl ?_
              refine K_X7_123 (pc := 243) C (by assumption) (c_X7_putUser l P _ _ _ _ h1 (mU S) 0 hlt (by decide) _ 0 _ rfl rfl) ⟨Nat.le_of_ble_eq_true rfl, Nat.le_of_ble_eq_true rfl⟩ ⟨rfl, rfl⟩ ⟨Nat.zero_le _, Nat.zero_le _⟩ (Nat.le_of_ble_eq_true rfl) dX7_userTold_243 ?_
              skip
              refine X_aload_n (pc := 246) C 0 dX7_userTold_246 rfl rfl ?_
              refine X_iload_n (pc := 247) C 1 dX7_userTold_247 rfl rfl ?_
              refine X_iconst (pc := 248) (v := 1) C dX7_userTold_248 (by decide) ?_
              refine X_iload_n (pc := 249) C 3 dX7_userTold_249 rfl rfl ?_
              refine K_X7_123 (pc := 250) C (by assumption) (c_X7_putUser l P _ _ _ _ h1 (mU S) 1 hlt (by decide) _ 1 _ rfl rfl) ⟨Nat.le_of_ble_eq_true rfl, Nat.le_of_ble_eq_true rfl⟩ ⟨rfl, rfl⟩ ⟨Nat.zero_le _, Nat.zero_le _⟩ (Nat.le_of_ble_eq_true rfl) dX7_userTold_250 ?_
              refine X_aload_n (pc := 253) C 0 dX7_userTold_253 rfl rfl ?_
              refine X_iload_n (pc := 254) C 1 dX7_userTold_254 rfl rfl ?_
              refine X_iconst (pc := 255) (v := 2) C dX7_userTold_255 (by decide) ?_
              refine X_aload_n (pc := 256) C 0 dX7_userTold_256 rfl rfl ?_
              refine X_iconst (pc := 257) (v := 0) C dX7_userTold_257 (by decide) ?_
              refine X_bipush (pc := 258) (v := 9) C dX7_userTold_258 (by decide) ?_
              refine K_X7_203 (pc := 260) C (by assumption) (c_X7_number l P _ _ _ _ h1 n (mUt8_TK hT) 0 9) ⟨Nat.le_of_ble_eq_true rfl, Nat.le_of_ble_eq_true rfl⟩ ⟨rfl, rfl⟩ ⟨Nat.zero_le _, Nat.zero_le _⟩ (Nat.le_of_ble_eq_true rfl) dX7_userTold_260 ?_
              refine K_X7_123 (pc := 263) C (by assumption) (c_X7_putUser l P _ _ _ _ h1 (mU S) 2 hlt (by decide) _ 2 _ rfl rfl) ⟨Nat.le_of_ble_eq_true rfl, Nat.le_of_ble_eq_true rfl⟩ ⟨rfl, rfl⟩ ⟨Nat.zero_le _, Nat.zero_le _⟩ (Nat.le_of_ble_eq_true rfl) dX7_userTold_263 ?_
              refine XW.eq (σ' := mW τ (upd (upd (upd (mUtS2 (τ.1 (.inr 16)) n S F L) (10 + 12 * mU S + 0) (mUtX (τ.1 (.inr 16)) n S F L)) (10 + 12 * mU S + 1) (mUtY (τ.1 (.inr 16)) n S F L)) (10 + 12 * mU S + 2) (mUtZ (τ.1 (.inr 16)) n S F L)) (mUt9 (τ.1 (.inr 16)) n S F L) (mUtL (τ.1 (.inr 16)) n S F L)) (by rfl) rfl rfl ?_
              refine X_aload_n (pc := 266) C 0 dX7_userTold_266 rfl rfl ?_
              refine X_iload_n (pc := 267) C 1 dX7_userTold_267 rfl rfl ?_
              refine X_iconst (pc := 268) (v := 4) C dX7_userTold_268 (by decide) ?_
              refine X_iconst (pc := 269) (v := 1) C dX7_userTold_269 (by decide) ?_
              refine X_iload_n (pc := 270) C 1 dX7_userTold_270 rfl rfl ?_
              refine X_ishl (pc := 271) C dX7_userTold_271 ?_
              refine K_X7_123 (pc := 272) C (by assumption) (c_X7_putUser l P _ _ _ _ h1 (mU S) 4 hlt (by decide) _ 4 _ rfl rfl) ⟨Nat.le_of_ble_eq_true rfl, Nat.le_of_ble_eq_true rfl⟩ ⟨rfl, rfl⟩ ⟨Nat.zero_le _, Nat.zero_le _⟩ (Nat.le_of_ble_eq_true rfl) dX7_userTold_272 ?_
              refine XW.eq (σ' := mW τ (mUtS4 (τ.1 (.inr 16)) n S F L) (mUt9 (τ.1 (.inr 16)) n S F L) (mUtL (τ.1 (.inr 16)) n S F L)) (by rfl) rfl rfl ?_
              refine X_aload_n (pc := 275) C 0 dX7_userTold_275 rfl rfl ?_
              refine X_aload_n (pc := 276) C 0 dX7_userTold_276 rfl rfl ?_
              refine G_X7_164 (pc := 277) C (by assumption) dX7_userTold_277 ?_
              rw [mW_9]
              refine X_iconst (pc := 280) (v := 3) C dX7_userTold_280 (by decide) ?_
              refine X_icmp_eq (pc := 281) C 288 dX7_userTold_281 (by decide) (fun h281 => ?_) (fun h281 => ?_)
              · have g281 : (if (mUt9 (τ.1 (.inr 16)) n S F L) 16 = 3 then (0 : Int32) else 1) = 0 := if_pos h281
                refine X_iconst (pc := 288) (v := 0) C dX7_userTold_288 (by decide) ?_
                refine X_iconst (pc := 289) (v := 1) C dX7_userTold_289 (by decide) ?_
                refine K_X7_190 (pc := 290) C (by assumption) (c_X7_wrong l P _ _ _ _ h1 _ _) ⟨Nat.le_of_ble_eq_true rfl, Nat.le_of_ble_eq_true rfl⟩ ⟨rfl, rfl⟩ ⟨Nat.zero_le _, Nat.zero_le _⟩ (Nat.le_of_ble_eq_true rfl) dX7_userTold_290 ?_
                refine XW.eq (σ' := mW τ (mUtS4 (τ.1 (.inr 16)) n S F L) (mWr (mUt9 (τ.1 (.inr 16)) n S F L) (if (mUt9 (τ.1 (.inr 16)) n S F L) 16 = 3 then (0 : Int32) else 1) 1) (mUtL (τ.1 (.inr 16)) n S F L)) (by rw [g281]) rfl rfl ?_
                refine X_aload_n (pc := 293) C 0 dX7_userTold_293 rfl rfl ?_
                refine K_X7_194 (pc := 294) C (by assumption) (c_X7_go l P _ _ _ _ h1 n (mWr_TK (mUt9_TK hT))) ⟨Nat.le_of_ble_eq_true rfl, Nat.le_of_ble_eq_true rfl⟩ ⟨rfl, rfl⟩ ⟨Nat.zero_le _, Nat.zero_le _⟩ (Nat.le_of_ble_eq_true rfl) dX7_userTold_294 ?_
                refine XW.eq (σ' := mW τ (mUtS4 (τ.1 (.inr 16)) n S F L) (mUtA (τ.1 (.inr 16)) n S F L) (mUtL (τ.1 (.inr 16)) n S F L)) (by rfl) rfl rfl ?_
                refine X_aload_n (pc := 297) C 0 dX7_userTold_297 rfl rfl ?_
                refine G_X7_180 (pc := 298) C (by assumption) dX7_userTold_298 ?_
                rw [mW_9]
                refine X_if_ne (pc := 301) C 314 dX7_userTold_301 (by decide) (fun h301 => ?_) (fun h301 => ?_)
                · skip
                  exact X_vret (pc := 314) C (Nat.zero_le _) (Nat.zero_le _) dX7_userTold_314 ⟨rfl, by first | rw [mUtS, mUtF, if_pos g78, if_pos g78, if_pos h301] | rw [mUtS, mUtF, if_pos g78, if_pos g78, if_neg h301]⟩
                · skip
                  refine X_aload_n (pc := 304) C 0 dX7_userTold_304 rfl rfl ?_
                  refine G_X7_9 (pc := 305) C (by assumption) dX7_userTold_305 ?_
                  refine X_iconst (pc := 308) (v := 4) C dX7_userTold_308 (by decide) ?_
                  refine X_dup2 (pc := 309) C dX7_userTold_309 rfl rfl ?_
                  refine X_ialdN (j := 4) (pc := 310) C (by first | exact h1 _ (by decide) (by decide)) rfl (by omega) (by decide) dX7_userTold_310 ?_
                  rw [mW_10]
                  rw [mUtS4_o g78 (by omega), hM.u]
                  refine X_iconst (pc := 311) (v := 1) C dX7_userTold_311 (by decide) ?_
                  refine X_iadd (pc := 312) C dX7_userTold_312 ?_
                  rw [nI_1]
                  refine X_iastN (j := 4) (pc := 313) C (by first | exact h1 _ (by decide) (by decide)) rfl (by omega) (by decide) dX7_userTold_313 ?_
                  rw [mW_u10]
                  exact X_vret (pc := 314) C (Nat.zero_le _) (Nat.zero_le _) dX7_userTold_314 ⟨rfl, by first | rw [mUtS, mUtF, if_pos g78, if_pos g78, if_pos h301] | rw [mUtS, mUtF, if_pos g78, if_pos g78, if_neg h301]⟩
              · have g281 : (if (mUt9 (τ.1 (.inr 16)) n S F L) 16 = 3 then (0 : Int32) else 1) = 1 := if_neg h281
                refine X_iconst (pc := 284) (v := 1) C dX7_userTold_284 (by decide) ?_
                refine X_goto (pc := 285) C 289 dX7_userTold_285 (by decide) ?_
                refine X_iconst (pc := 289) (v := 1) C dX7_userTold_289 (by decide) ?_
                refine K_X7_190 (pc := 290) C (by assumption) (c_X7_wrong l P _ _ _ _ h1 _ _) ⟨Nat.le_of_ble_eq_true rfl, Nat.le_of_ble_eq_true rfl⟩ ⟨rfl, rfl⟩ ⟨Nat.zero_le _, Nat.zero_le _⟩ (Nat.le_of_ble_eq_true rfl) dX7_userTold_290 ?_
                refine XW.eq (σ' := mW τ (mUtS4 (τ.1 (.inr 16)) n S F L) (mWr (mUt9 (τ.1 (.inr 16)) n S F L) (if (mUt9 (τ.1 (.inr 16)) n S F L) 16 = 3 then (0 : Int32) else 1) 1) (mUtL (τ.1 (.inr 16)) n S F L)) (by rw [g281]) rfl rfl ?_
                refine X_aload_n (pc := 293) C 0 dX7_userTold_293 rfl rfl ?_
                refine K_X7_194 (pc := 294) C (by assumption) (c_X7_go l P _ _ _ _ h1 n (mWr_TK (mUt9_TK hT))) ⟨Nat.le_of_ble_eq_true rfl, Nat.le_of_ble_eq_true rfl⟩ ⟨rfl, rfl⟩ ⟨Nat.zero_le _, Nat.zero_le _⟩ (Nat.le_of_ble_eq_true rfl) dX7_userTold_294 ?_
                refine XW.eq (σ' := mW τ (mUtS4 (τ.1 (.inr 16)) n S F L) (mUtA (τ.1 (.inr 16)) n S F L) (mUtL (τ.1 (.inr 16)) n S F L)) (by rfl) rfl rfl ?_
                refine X_aload_n (pc := 297) C 0 dX7_userTold_297 rfl rfl ?_
                refine G_X7_180 (pc := 298) C (by assumption) dX7_userTold_298 ?_
                rw [mW_9]
                refine X_if_ne (pc := 301) C 314 dX7_userTold_301 (by decide) (fun h301 => ?_) (fun h301 => ?_)
                · skip
                  exact X_vret (pc := 314) C (Nat.zero_le _) (Nat.zero_le _) dX7_userTold_314 ⟨rfl, by first | rw [mUtS, mUtF, if_pos g78, if_pos g78, if_pos h301] | rw [mUtS, mUtF, if_pos g78, if_pos g78, if_neg h301]⟩
                · skip
                  refine X_aload_n (pc := 304) C 0 dX7_userTold_304 rfl rfl ?_
                  refine G_X7_9 (pc := 305) C (by assumption) dX7_userTold_305 ?_
                  refine X_iconst (pc := 308) (v := 4) C dX7_userTold_308 (by decide) ?_
                  refine X_dup2 (pc := 309) C dX7_userTold_309 rfl rfl ?_
                  refine X_ialdN (j := 4) (pc := 310) C (by first | exact h1 _ (by decide) (by decide)) rfl (by omega) (by decide) dX7_userTold_310 ?_
                  rw [mW_10]
                  rw [mUtS4_o g78 (by omega), hM.u]
                  refine X_iconst (pc := 311) (v := 1) C dX7_userTold_311 (by decide) ?_
                  refine X_iadd (pc := 312) C dX7_userTold_312 ?_
                  rw [nI_1]
                  refine X_iastN (j := 4) (pc := 313) C (by first | exact h1 _ (by decide) (by decide)) rfl (by omega) (by decide) dX7_userTold_313 ?_
                  rw [mW_u10]
                  exact X_vret (pc := 314) C (Nat.zero_le _) (Nat.zero_le _) dX7_userTold_314 ⟨rfl, by first | rw [mUtS, mUtF, if_pos g78, if_pos g78, if_pos h301] | rw [mUtS, mUtF, if_pos g78, if_pos g78, if_neg h301]⟩
            · have e6 : (mUt6 (τ.1 (.inr 16)) n S F L) = (mUt5 (τ.1 (.inr 16)) n S F L) := if_neg h152
              have eY : (mUtY (τ.1 (.inr 16)) n S F L) = 1 := if_neg h152
              refine X_iconst (pc := 155) (v := 1) C dX7_userTold_155 (by decide) ?_
              refine X_goto (pc := 156) C 163 dX7_userTold_156 (by decide) ?_
              refine X_istore_n (pc := 163) (lv1 := [(0, _), (1, _), (2, _), (3, _)]) C 3 dX7_userTold_163 rfl (by decide) rfl ?_
              refine X_iconst (pc := 164) (v := 0) C dX7_userTold_164 (by decide) ?_
              refine X_istore (pc := 165) (lv1 := [(0, _), (1, _), (2, _), (3, _), (4, _)]) C dX7_userTold_165 (by decide) rfl ?_
              refine XW.eq (σ' := mW τ (mUtS2 (τ.1 (.inr 16)) n S F L) (mUt6 (τ.1 (.inr 16)) n S F L) (mUtL (τ.1 (.inr 16)) n S F L)) (lv' := [(0, .ref (P.2.2.1 (.inr 9))), (1, .int (nI (mU S))), (2, .int (mUtX (τ.1 (.inr 16)) n S F L)), (3, .int (mUtY (τ.1 (.inr 16)) n S F L)), (4, .int (nI 0))]) (by rw [e6]) (by rw [eY]; rfl) rfl ?_
              refine L2_X7_userTold C h1 (u := mU S) (by omega) mUtY_ok (fun j hj => by rw [sU, mUtS2_o g78 (by omega)]; exact hC j hj) (mU S) 0 _ (by omega) ?_
              refine XW.eq (σ' := mW τ (mUtS2 (τ.1 (.inr 16)) n S F L) (mUt7 (τ.1 (.inr 16)) n S F L) (mUtL (τ.1 (.inr 16)) n S F L)) (by rfl) rfl rfl ?_
              refine X_aload_n (pc := 235) C 0 dX7_userTold_235 rfl rfl ?_
              refine K_X7_194 (pc := 236) C (by assumption) (c_X7_go l P _ _ _ _ h1 n (mUt7_TK hT)) ⟨Nat.le_of_ble_eq_true rfl, Nat.le_of_ble_eq_true rfl⟩ ⟨rfl, rfl⟩ ⟨Nat.zero_le _, Nat.zero_le _⟩ (Nat.le_of_ble_eq_true rfl) dX7_userTold_236 ?_
              refine XW.eq (σ' := mW τ (mUtS2 (τ.1 (.inr 16)) n S F L) (mUt8 (τ.1 (.inr 16)) n S F L) (mUtL (τ.1 (.inr 16)) n S F L)) (by rfl) rfl rfl ?_
              refine X_aload_n (pc := 239) C 0 dX7_userTold_239 rfl rfl ?_
              refine X_iload_n (pc := 240) C 1 dX7_userTold_240 rfl rfl ?_
              refine X_iconst (pc := 241) (v := 0) C dX7_userTold_241 (by decide) ?_
              refine X_iload_n (pc := 242) C 2 dX7_userTold_242 rfl rfl ?_
              refine K_X7_123 (pc := 243) C (by assumption) (c_X7_putUser l P _ _ _ _ h1 (mU S) 0 hlt (by decide) _ 0 _ rfl rfl) ⟨Nat.le_of_ble_eq_true rfl, Nat.le_of_ble_eq_true rfl⟩ ⟨rfl, rfl⟩ ⟨Nat.zero_le _, Nat.zero_le _⟩ (Nat.le_of_ble_eq_true rfl) dX7_userTold_243 ?_
              skip
              refine X_aload_n (pc := 246) C 0 dX7_userTold_246 rfl rfl ?_
              refine X_iload_n (pc := 247) C 1 dX7_userTold_247 rfl rfl ?_
              refine X_iconst (pc := 248) (v := 1) C dX7_userTold_248 (by decide) ?_
              refine X_iload_n (pc := 249) C 3 dX7_userTold_249 rfl rfl ?_
              refine K_X7_123 (pc := 250) C (by assumption) (c_X7_putUser l P _ _ _ _ h1 (mU S) 1 hlt (by decide) _ 1 _ rfl rfl) ⟨Nat.le_of_ble_eq_true rfl, Nat.le_of_ble_eq_true rfl⟩ ⟨rfl, rfl⟩ ⟨Nat.zero_le _, Nat.zero_le _⟩ (Nat.le_of_ble_eq_true rfl) dX7_userTold_250 ?_
              refine X_aload_n (pc := 253) C 0 dX7_userTold_253 rfl rfl ?_
              refine X_iload_n (pc := 254) C 1 dX7_userTold_254 rfl rfl ?_
              refine X_iconst (pc := 255) (v := 2) C dX7_userTold_255 (by decide) ?_
              refine X_aload_n (pc := 256) C 0 dX7_userTold_256 rfl rfl ?_
              refine X_iconst (pc := 257) (v := 0) C dX7_userTold_257 (by decide) ?_
              refine X_bipush (pc := 258) (v := 9) C dX7_userTold_258 (by decide) ?_
              refine K_X7_203 (pc := 260) C (by assumption) (c_X7_number l P _ _ _ _ h1 n (mUt8_TK hT) 0 9) ⟨Nat.le_of_ble_eq_true rfl, Nat.le_of_ble_eq_true rfl⟩ ⟨rfl, rfl⟩ ⟨Nat.zero_le _, Nat.zero_le _⟩ (Nat.le_of_ble_eq_true rfl) dX7_userTold_260 ?_
              refine K_X7_123 (pc := 263) C (by assumption) (c_X7_putUser l P _ _ _ _ h1 (mU S) 2 hlt (by decide) _ 2 _ rfl rfl) ⟨Nat.le_of_ble_eq_true rfl, Nat.le_of_ble_eq_true rfl⟩ ⟨rfl, rfl⟩ ⟨Nat.zero_le _, Nat.zero_le _⟩ (Nat.le_of_ble_eq_true rfl) dX7_userTold_263 ?_
              refine XW.eq (σ' := mW τ (upd (upd (upd (mUtS2 (τ.1 (.inr 16)) n S F L) (10 + 12 * mU S + 0) (mUtX (τ.1 (.inr 16)) n S F L)) (10 + 12 * mU S + 1) (mUtY (τ.1 (.inr 16)) n S F L)) (10 + 12 * mU S + 2) (mUtZ (τ.1 (.inr 16)) n S F L)) (mUt9 (τ.1 (.inr 16)) n S F L) (mUtL (τ.1 (.inr 16)) n S F L)) (by rfl) rfl rfl ?_
              refine X_aload_n (pc := 266) C 0 dX7_userTold_266 rfl rfl ?_
              refine X_iload_n (pc := 267) C 1 dX7_userTold_267 rfl rfl ?_
              refine X_iconst (pc := 268) (v := 4) C dX7_userTold_268 (by decide) ?_
              refine X_iconst (pc := 269) (v := 1) C dX7_userTold_269 (by decide) ?_
              refine X_iload_n (pc := 270) C 1 dX7_userTold_270 rfl rfl ?_
              refine X_ishl (pc := 271) C dX7_userTold_271 ?_
              refine K_X7_123 (pc := 272) C (by assumption) (c_X7_putUser l P _ _ _ _ h1 (mU S) 4 hlt (by decide) _ 4 _ rfl rfl) ⟨Nat.le_of_ble_eq_true rfl, Nat.le_of_ble_eq_true rfl⟩ ⟨rfl, rfl⟩ ⟨Nat.zero_le _, Nat.zero_le _⟩ (Nat.le_of_ble_eq_true rfl) dX7_userTold_272 ?_
              refine XW.eq (σ' := mW τ (mUtS4 (τ.1 (.inr 16)) n S F L) (mUt9 (τ.1 (.inr 16)) n S F L) (mUtL (τ.1 (.inr 16)) n S F L)) (by rfl) rfl rfl ?_
              refine X_aload_n (pc := 275) C 0 dX7_userTold_275 rfl rfl ?_
              refine X_aload_n (pc := 276) C 0 dX7_userTold_276 rfl rfl ?_
              refine G_X7_164 (pc := 277) C (by assumption) dX7_userTold_277 ?_
              rw [mW_9]
              refine X_iconst (pc := 280) (v := 3) C dX7_userTold_280 (by decide) ?_
              refine X_icmp_eq (pc := 281) C 288 dX7_userTold_281 (by decide) (fun h281 => ?_) (fun h281 => ?_)
              · have g281 : (if (mUt9 (τ.1 (.inr 16)) n S F L) 16 = 3 then (0 : Int32) else 1) = 0 := if_pos h281
                refine X_iconst (pc := 288) (v := 0) C dX7_userTold_288 (by decide) ?_
                refine X_iconst (pc := 289) (v := 1) C dX7_userTold_289 (by decide) ?_
                refine K_X7_190 (pc := 290) C (by assumption) (c_X7_wrong l P _ _ _ _ h1 _ _) ⟨Nat.le_of_ble_eq_true rfl, Nat.le_of_ble_eq_true rfl⟩ ⟨rfl, rfl⟩ ⟨Nat.zero_le _, Nat.zero_le _⟩ (Nat.le_of_ble_eq_true rfl) dX7_userTold_290 ?_
                refine XW.eq (σ' := mW τ (mUtS4 (τ.1 (.inr 16)) n S F L) (mWr (mUt9 (τ.1 (.inr 16)) n S F L) (if (mUt9 (τ.1 (.inr 16)) n S F L) 16 = 3 then (0 : Int32) else 1) 1) (mUtL (τ.1 (.inr 16)) n S F L)) (by rw [g281]) rfl rfl ?_
                refine X_aload_n (pc := 293) C 0 dX7_userTold_293 rfl rfl ?_
                refine K_X7_194 (pc := 294) C (by assumption) (c_X7_go l P _ _ _ _ h1 n (mWr_TK (mUt9_TK hT))) ⟨Nat.le_of_ble_eq_true rfl, Nat.le_of_ble_eq_true rfl⟩ ⟨rfl, rfl⟩ ⟨Nat.zero_le _, Nat.zero_le _⟩ (Nat.le_of_ble_eq_true rfl) dX7_userTold_294 ?_
                refine XW.eq (σ' := mW τ (mUtS4 (τ.1 (.inr 16)) n S F L) (mUtA (τ.1 (.inr 16)) n S F L) (mUtL (τ.1 (.inr 16)) n S F L)) (by rfl) rfl rfl ?_
                refine X_aload_n (pc := 297) C 0 dX7_userTold_297 rfl rfl ?_
                refine G_X7_180 (pc := 298) C (by assumption) dX7_userTold_298 ?_
                rw [mW_9]
                refine X_if_ne (pc := 301) C 314 dX7_userTold_301 (by decide) (fun h301 => ?_) (fun h301 => ?_)
                · skip
                  exact X_vret (pc := 314) C (Nat.zero_le _) (Nat.zero_le _) dX7_userTold_314 ⟨rfl, by first | rw [mUtS, mUtF, if_pos g78, if_pos g78, if_pos h301] | rw [mUtS, mUtF, if_pos g78, if_pos g78, if_neg h301]⟩
                · skip
                  refine X_aload_n (pc := 304) C 0 dX7_userTold_304 rfl rfl ?_
                  refine G_X7_9 (pc := 305) C (by assumption) dX7_userTold_305 ?_
                  refine X_iconst (pc := 308) (v := 4) C dX7_userTold_308 (by decide) ?_
                  refine X_dup2 (pc := 309) C dX7_userTold_309 rfl rfl ?_
                  refine X_ialdN (j := 4) (pc := 310) C (by first | exact h1 _ (by decide) (by decide)) rfl (by omega) (by decide) dX7_userTold_310 ?_
                  rw [mW_10]
                  rw [mUtS4_o g78 (by omega), hM.u]
                  refine X_iconst (pc := 311) (v := 1) C dX7_userTold_311 (by decide) ?_
                  refine X_iadd (pc := 312) C dX7_userTold_312 ?_
                  rw [nI_1]
                  refine X_iastN (j := 4) (pc := 313) C (by first | exact h1 _ (by decide) (by decide)) rfl (by omega) (by decide) dX7_userTold_313 ?_
                  rw [mW_u10]
                  exact X_vret (pc := 314) C (Nat.zero_le _) (Nat.zero_le _) dX7_userTold_314 ⟨rfl, by first | rw [mUtS, mUtF, if_pos g78, if_pos g78, if_pos h301] | rw [mUtS, mUtF, if_pos g78, if_pos g78, if_neg h301]⟩
              · have g281 : (if (mUt9 (τ.1 (.inr 16)) n S F L) 16 = 3 then (0 : Int32) else 1) = 1 := if_neg h281
                refine X_iconst (pc := 284) (v := 1) C dX7_userTold_284 (by decide) ?_
                refine X_goto (pc := 285) C 289 dX7_userTold_285 (by decide) ?_
                refine X_iconst (pc := 289) (v := 1) C dX7_userTold_289 (by decide) ?_
                refine K_X7_190 (pc := 290) C (by assumption) (c_X7_wrong l P _ _ _ _ h1 _ _) ⟨Nat.le_of_ble_eq_true rfl, Nat.le_of_ble_eq_true rfl⟩ ⟨rfl, rfl⟩ ⟨Nat.zero_le _, Nat.zero_le _⟩ (Nat.le_of_ble_eq_true rfl) dX7_userTold_290 ?_
                refine XW.eq (σ' := mW τ (mUtS4 (τ.1 (.inr 16)) n S F L) (mWr (mUt9 (τ.1 (.inr 16)) n S F L) (if (mUt9 (τ.1 (.inr 16)) n S F L) 16 = 3 then (0 : Int32) else 1) 1) (mUtL (τ.1 (.inr 16)) n S F L)) (by rw [g281]) rfl rfl ?_
                refine X_aload_n (pc := 293) C 0 dX7_userTold_293 rfl rfl ?_
                refine K_X7_194 (pc := 294) C (by assumption) (c_X7_go l P _ _ _ _ h1 n (mWr_TK (mUt9_TK hT))) ⟨Nat.le_of_ble_eq_true rfl, Nat.le_of_ble_eq_true rfl⟩ ⟨rfl, rfl⟩ ⟨Nat.zero_le _, Nat.zero_le _⟩ (Nat.le_of_ble_eq_true rfl) dX7_userTold_294 ?_
                refine XW.eq (σ' := mW τ (mUtS4 (τ.1 (.inr 16)) n S F L) (mUtA (τ.1 (.inr 16)) n S F L) (mUtL (τ.1 (.inr 16)) n S F L)) (by rfl) rfl rfl ?_
                refine X_aload_n (pc := 297) C 0 dX7_userTold_297 rfl rfl ?_
                refine G_X7_180 (pc := 298) C (by assumption) dX7_userTold_298 ?_
                rw [mW_9]
                refine X_if_ne (pc := 301) C 314 dX7_userTold_301 (by decide) (fun h301 => ?_) (fun h301 => ?_)
                · skip
                  exact X_vret (pc := 314) C (Nat.zero_le _) (Nat.zero_le _) dX7_userTold_314 ⟨rfl, by first | rw [mUtS, mUtF, if_pos g78, if_pos g78, if_pos h301] | rw [mUtS, mUtF, if_pos g78, if_pos g78, if_neg h301]⟩
                · skip
                  refine X_aload_n (pc := 304) C 0 dX7_userTold_304 rfl rfl ?_
                  refine G_X7_9 (pc := 305) C (by assumption) dX7_userTold_305 ?_
                  refine X_iconst (pc := 308) (v := 4) C dX7_userTold_308 (by decide) ?_
                  refine X_dup2 (pc := 309) C dX7_userTold_309 rfl rfl ?_
                  refine X_ialdN (j := 4) (pc := 310) C (by first | exact h1 _ (by decide) (by decide)) rfl (by omega) (by decide) dX7_userTold_310 ?_
                  rw [mW_10]
                  rw [mUtS4_o g78 (by omega), hM.u]
                  refine X_iconst (pc := 311) (v := 1) C dX7_userTold_311 (by decide) ?_
                  refine X_iadd (pc := 312) C dX7_userTold_312 ?_
                  rw [nI_1]
                  refine X_iastN (j := 4) (pc := 313) C (by first | exact h1 _ (by decide) (by decide)) rfl (by omega) (by decide) dX7_userTold_313 ?_
                  rw [mW_u10]
                  exact X_vret (pc := 314) C (Nat.zero_le _) (Nat.zero_le _) dX7_userTold_314 ⟨rfl, by first | rw [mUtS, mUtF, if_pos g78, if_pos g78, if_pos h301] | rw [mUtS, mUtF, if_pos g78, if_pos g78, if_neg h301]⟩
          · skip
            exact X_vret (pc := 81) C (Nat.zero_le _) (Nat.zero_le _) dX7_userTold_81 ⟨rfl, by rw [mUtS, mUtF, if_neg h78, if_neg h78]⟩
    · have g28 : (if S 4 = 15 then (1 : Int32) else 0) = 1 := if_pos h28
      refine X_iconst (pc := 31) (v := 1) C dX7_userTold_31 (by decide) ?_
      refine X_goto (pc := 32) C 36 dX7_userTold_32 (by decide) ?_
      refine X_bipush (pc := 36) (v := 6) C dX7_userTold_36 (by decide) ?_
      refine K_X7_190 (pc := 38) C (by assumption) (c_X7_wrong l P _ _ _ _ h1 _ _) ⟨Nat.le_of_ble_eq_true rfl, Nat.le_of_ble_eq_true rfl⟩ ⟨rfl, rfl⟩ ⟨Nat.zero_le _, Nat.zero_le _⟩ (Nat.le_of_ble_eq_true rfl) dX7_userTold_38 ?_
      refine XW.eq (σ' := mW τ S (mWr (mWr F (if mIs (τ.1 (.inr 16)) F 2 = 0 then (1 : Int32) else 0) 1) (if S 4 = 15 then (1 : Int32) else 0) 6) L) (by rw [g28]) rfl rfl ?_
      refine X_aload_n (pc := 41) C 0 dX7_userTold_41 rfl rfl ?_
      refine K_X7_194 (pc := 42) C (by assumption) (c_X7_go l P _ _ _ _ h1 n (mWr_TK (mWr_TK hT))) ⟨Nat.le_of_ble_eq_true rfl, Nat.le_of_ble_eq_true rfl⟩ ⟨rfl, rfl⟩ ⟨Nat.zero_le _, Nat.zero_le _⟩ (Nat.le_of_ble_eq_true rfl) dX7_userTold_42 ?_
      refine XW.eq (σ' := mW τ S (mUt1 (τ.1 (.inr 16)) n S F) L) (by rfl) rfl rfl ?_
      refine X_aload_n (pc := 45) C 0 dX7_userTold_45 rfl rfl ?_
      refine K_X7_197 (pc := 46) C (by assumption) (c_X7_nameHere l P _ _ _ _ h1 n (mUt1_TK hT)) ⟨Nat.le_of_ble_eq_true rfl, Nat.le_of_ble_eq_true rfl⟩ ⟨rfl, rfl⟩ ⟨Nat.zero_le _, Nat.zero_le _⟩ (Nat.le_of_ble_eq_true rfl) dX7_userTold_46 ?_
      refine XW.eq (σ' := mW τ S (mUt2 (τ.1 (.inr 16)) n S F) (mUtL (τ.1 (.inr 16)) n S F L)) (by rfl) rfl rfl ?_
      refine X_aload_n (pc := 49) C 0 dX7_userTold_49 rfl rfl ?_
      refine X_aload_n (pc := 50) C 0 dX7_userTold_50 rfl rfl ?_
      refine G_X7_180 (pc := 51) C (by assumption) dX7_userTold_51 ?_
      rw [mW_9]
      refine X_if_ne (pc := 54) C 69 dX7_userTold_54 (by decide) (fun h54 => ?_) (fun h54 => ?_)
      · have g62 : (if (mUt2 (τ.1 (.inr 16)) n S F) 20 = 0 ∧ ¬ mNmd S (mUt2 (τ.1 (.inr 16)) n S F) (mUtL (τ.1 (.inr 16)) n S F L) = -1 then (1 : Int32) else 0) = 0 := if_neg (fun q => h54 q.1)
        refine X_iconst (pc := 69) (v := 0) C dX7_userTold_69 (by decide) ?_
        refine X_iconst (pc := 70) (v := 4) C dX7_userTold_70 (by decide) ?_
        refine K_X7_190 (pc := 71) C (by assumption) (c_X7_wrong l P _ _ _ _ h1 _ _) ⟨Nat.le_of_ble_eq_true rfl, Nat.le_of_ble_eq_true rfl⟩ ⟨rfl, rfl⟩ ⟨Nat.zero_le _, Nat.zero_le _⟩ (Nat.le_of_ble_eq_true rfl) dX7_userTold_71 ?_
        refine XW.eq (σ' := mW τ S (mUt3 (τ.1 (.inr 16)) n S F L) (mUtL (τ.1 (.inr 16)) n S F L)) (by rw [mUt3, g62]) rfl rfl ?_
        refine X_aload_n (pc := 74) C 0 dX7_userTold_74 rfl rfl ?_
        refine G_X7_180 (pc := 75) C (by assumption) dX7_userTold_75 ?_
        rw [mW_9]
        refine X_if_eq (pc := 78) C 82 dX7_userTold_78 (by decide) (fun h78 => ?_) (fun h78 => ?_)
        · have g78 := h78
          have hlt := mUt_lt hM h78
          refine X_aload_n (pc := 82) C 0 dX7_userTold_82 rfl rfl ?_
          refine G_X7_9 (pc := 83) C (by assumption) dX7_userTold_83 ?_
          refine X_iconst (pc := 86) (v := 4) C dX7_userTold_86 (by decide) ?_
          refine X_ialdN (j := 4) (pc := 87) C (by first | exact h1 _ (by decide) (by decide)) rfl (by omega) (by decide) dX7_userTold_87 ?_
          rw [mW_10]
          rw [hM.u]
          refine X_istore_n (pc := 88) (lv1 := [(0, _), (1, _)]) C 1 dX7_userTold_88 rfl (by decide) rfl ?_
          refine X_aload_n (pc := 89) C 0 dX7_userTold_89 rfl rfl ?_
          refine X_iload_n (pc := 90) C 1 dX7_userTold_90 rfl rfl ?_
          refine X_iconst (pc := 91) (v := 5) C dX7_userTold_91 (by decide) ?_
          refine X_aload_n (pc := 92) C 0 dX7_userTold_92 rfl rfl ?_
          refine G_X7_148 (pc := 93) C (by assumption) dX7_userTold_93 ?_
          rw [mW_9]
          refine K_X7_123 (pc := 96) C (by assumption) (c_X7_putUser l P _ _ _ _ h1 (mU S) 5 hlt (by decide) _ 5 _ rfl rfl) ⟨Nat.le_of_ble_eq_true rfl, Nat.le_of_ble_eq_true rfl⟩ ⟨rfl, rfl⟩ ⟨Nat.zero_le _, Nat.zero_le _⟩ (Nat.le_of_ble_eq_true rfl) dX7_userTold_96 ?_
          refine XW.eq (σ' := mW τ (upd S (10 + 12 * mU S + 5) ((mUt3 (τ.1 (.inr 16)) n S F L) 15)) (mUt3 (τ.1 (.inr 16)) n S F L) (mUtL (τ.1 (.inr 16)) n S F L)) (by rfl) rfl rfl ?_
          refine X_iconst (pc := 99) (v := 0) C dX7_userTold_99 (by decide) ?_
          refine X_istore_n (pc := 100) (lv1 := [(0, _), (1, _), (2, _)]) C 2 dX7_userTold_100 rfl (by decide) rfl ?_
          have g15 := mUt3_15 g78
          refine L1_X7_userTold C h1 hlt g15.1 g15.2 ?_ (cN ((mUt3 (τ.1 (.inr 16)) n S F L) 15)) 0 (by omega)
          refine XW.eq (σ' := mW τ (mUtS2 (τ.1 (.inr 16)) n S F L) (mUt3 (τ.1 (.inr 16)) n S F L) (mUtL (τ.1 (.inr 16)) n S F L)) (by rfl) rfl rfl ?_
          refine X_aload_n (pc := 130) C 0 dX7_userTold_130 rfl rfl ?_
          refine K_X7_194 (pc := 131) C (by assumption) (c_X7_go l P _ _ _ _ h1 n (mUt3_TK hT)) ⟨Nat.le_of_ble_eq_true rfl, Nat.le_of_ble_eq_true rfl⟩ ⟨rfl, rfl⟩ ⟨Nat.zero_le _, Nat.zero_le _⟩ (Nat.le_of_ble_eq_true rfl) dX7_userTold_131 ?_
          refine XW.eq (σ' := mW τ (mUtS2 (τ.1 (.inr 16)) n S F L) (mUt4 (τ.1 (.inr 16)) n S F L) (mUtL (τ.1 (.inr 16)) n S F L)) (by rfl) rfl rfl ?_
          refine X_aload_n (pc := 134) C 0 dX7_userTold_134 rfl rfl ?_
          refine X_iconst (pc := 135) (v := 0) C dX7_userTold_135 (by decide) ?_
          refine X_aload_n (pc := 136) C 0 dX7_userTold_136 rfl rfl ?_
          refine G_X7_9 (pc := 137) C (by assumption) dX7_userTold_137 ?_
          refine X_iconst (pc := 140) (v := 1) C dX7_userTold_140 (by decide) ?_
          refine X_ialdN (j := 1) (pc := 141) C (by first | exact h1 _ (by decide) (by decide)) rfl (by omega) (by decide) dX7_userTold_141 ?_
          rw [mW_10]
          rw [mUtS2_o g78 (by omega)]
          refine X_iconst (pc := 142) (v := 1) C dX7_userTold_142 (by decide) ?_
          refine X_isub (pc := 143) C dX7_userTold_143 ?_
          refine K_X7_203 (pc := 144) C (by assumption) (c_X7_number l P _ _ _ _ h1 n (mUt4_TK hT) 0 _) ⟨Nat.le_of_ble_eq_true rfl, Nat.le_of_ble_eq_true rfl⟩ ⟨rfl, rfl⟩ ⟨Nat.zero_le _, Nat.zero_le _⟩ (Nat.le_of_ble_eq_true rfl) dX7_userTold_144 ?_
          refine XW.eq (σ' := mW τ (mUtS2 (τ.1 (.inr 16)) n S F L) (mUt5 (τ.1 (.inr 16)) n S F L) (mUtL (τ.1 (.inr 16)) n S F L)) (st' := [.int (mUtX (τ.1 (.inr 16)) n S F L)]) rfl rfl rfl ?_
          refine X_istore_n (pc := 147) (lv1 := [(0, _), (1, _), (2, _)]) C 2 dX7_userTold_147 rfl (by decide) rfl ?_
          refine X_aload_n (pc := 148) C 0 dX7_userTold_148 rfl rfl ?_
          refine G_X7_180 (pc := 149) C (by assumption) dX7_userTold_149 ?_
          rw [mW_9]
          refine X_if_eq (pc := 152) C 159 dX7_userTold_152 (by decide) (fun h152 => ?_) (fun h152 => ?_)
          · have e6 : (mUt6 (τ.1 (.inr 16)) n S F L) = (mRh (τ.1 (.inr 16)) (mUt5 (τ.1 (.inr 16)) n S F L)).1 := if_pos h152
            have eY : (mUtY (τ.1 (.inr 16)) n S F L) = (mRh (τ.1 (.inr 16)) (mUt5 (τ.1 (.inr 16)) n S F L)).2 := if_pos h152
            refine X_aload_n (pc := 159) C 0 dX7_userTold_159 rfl rfl ?_
            refine K_X7_212 (pc := 160) C (by assumption) (c_X7_ringsHere l P _ _ _ _ h1 n (mUt5_TK hT)) ⟨Nat.le_of_ble_eq_true rfl, Nat.le_of_ble_eq_true rfl⟩ ⟨rfl, rfl⟩ ⟨Nat.zero_le _, Nat.zero_le _⟩ (Nat.le_of_ble_eq_true rfl) dX7_userTold_160 ?_
            refine X_istore_n (pc := 163) (lv1 := [(0, _), (1, _), (2, _), (3, _)]) C 3 dX7_userTold_163 rfl (by decide) rfl ?_
            refine X_iconst (pc := 164) (v := 0) C dX7_userTold_164 (by decide) ?_
            refine X_istore (pc := 165) (lv1 := [(0, _), (1, _), (2, _), (3, _), (4, _)]) C dX7_userTold_165 (by decide) rfl ?_
            refine XW.eq (σ' := mW τ (mUtS2 (τ.1 (.inr 16)) n S F L) (mUt6 (τ.1 (.inr 16)) n S F L) (mUtL (τ.1 (.inr 16)) n S F L)) (lv' := [(0, .ref (P.2.2.1 (.inr 9))), (1, .int (nI (mU S))), (2, .int (mUtX (τ.1 (.inr 16)) n S F L)), (3, .int (mUtY (τ.1 (.inr 16)) n S F L)), (4, .int (nI 0))]) (by rw [e6]) (by rw [eY]; rfl) rfl ?_
            refine L2_X7_userTold C h1 (u := mU S) (by omega) mUtY_ok (fun j hj => by rw [sU, mUtS2_o g78 (by omega)]; exact hC j hj) (mU S) 0 _ (by omega) ?_
            refine XW.eq (σ' := mW τ (mUtS2 (τ.1 (.inr 16)) n S F L) (mUt7 (τ.1 (.inr 16)) n S F L) (mUtL (τ.1 (.inr 16)) n S F L)) (by rfl) rfl rfl ?_
            refine X_aload_n (pc := 235) C 0 dX7_userTold_235 rfl rfl ?_
            refine K_X7_194 (pc := 236) C (by assumption) (c_X7_go l P _ _ _ _ h1 n (mUt7_TK hT)) ⟨Nat.le_of_ble_eq_true rfl, Nat.le_of_ble_eq_true rfl⟩ ⟨rfl, rfl⟩ ⟨Nat.zero_le _, Nat.zero_le _⟩ (Nat.le_of_ble_eq_true rfl) dX7_userTold_236 ?_
            refine XW.eq (σ' := mW τ (mUtS2 (τ.1 (.inr 16)) n S F L) (mUt8 (τ.1 (.inr 16)) n S F L) (mUtL (τ.1 (.inr 16)) n S F L)) (by rfl) rfl rfl ?_
            refine X_aload_n (pc := 239) C 0 dX7_userTold_239 rfl rfl ?_
            refine X_iload_n (pc := 240) C 1 dX7_userTold_240 rfl rfl ?_
            refine X_iconst (pc := 241) (v := 0) C dX7_userTold_241 (by decide) ?_
            refine X_iload_n (pc := 242) C 2 dX7_userTold_242 rfl rfl ?_
            refine K_X7_123 (pc := 243) C (by assumption) (c_X7_putUser l P _ _ _ _ h1 (mU S) 0 hlt (by decide) _ 0 _ rfl rfl) ⟨Nat.le_of_ble_eq_true rfl, Nat.le_of_ble_eq_true rfl⟩ ⟨rfl, rfl⟩ ⟨Nat.zero_le _, Nat.zero_le _⟩ (Nat.le_of_ble_eq_true rfl) dX7_userTold_243 ?_
            skip
            refine X_aload_n (pc := 246) C 0 dX7_userTold_246 rfl rfl ?_
            refine X_iload_n (pc := 247) C 1 dX7_userTold_247 rfl rfl ?_
            refine X_iconst (pc := 248) (v := 1) C dX7_userTold_248 (by decide) ?_
            refine X_iload_n (pc := 249) C 3 dX7_userTold_249 rfl rfl ?_
            refine K_X7_123 (pc := 250) C (by assumption) (c_X7_putUser l P _ _ _ _ h1 (mU S) 1 hlt (by decide) _ 1 _ rfl rfl) ⟨Nat.le_of_ble_eq_true rfl, Nat.le_of_ble_eq_true rfl⟩ ⟨rfl, rfl⟩ ⟨Nat.zero_le _, Nat.zero_le _⟩ (Nat.le_of_ble_eq_true rfl) dX7_userTold_250 ?_
            refine X_aload_n (pc := 253) C 0 dX7_userTold_253 rfl rfl ?_
            refine X_iload_n (pc := 254) C 1 dX7_userTold_254 rfl rfl ?_
            refine X_iconst (pc := 255) (v := 2) C dX7_userTold_255 (by decide) ?_
            refine X_aload_n (pc := 256) C 0 dX7_userTold_256 rfl rfl ?_
            refine X_iconst (pc := 257) (v := 0) C dX7_userTold_257 (by decide) ?_
            refine X_bipush (pc := 258) (v := 9) C dX7_userTold_258 (by decide) ?_
            refine K_X7_203 (pc := 260) C (by assumption) (c_X7_number l P _ _ _ _ h1 n (mUt8_TK hT) 0 9) ⟨Nat.le_of_ble_eq_true rfl, Nat.le_of_ble_eq_true rfl⟩ ⟨rfl, rfl⟩ ⟨Nat.zero_le _, Nat.zero_le _⟩ (Nat.le_of_ble_eq_true rfl) dX7_userTold_260 ?_
            refine K_X7_123 (pc := 263) C (by assumption) (c_X7_putUser l P _ _ _ _ h1 (mU S) 2 hlt (by decide) _ 2 _ rfl rfl) ⟨Nat.le_of_ble_eq_true rfl, Nat.le_of_ble_eq_true rfl⟩ ⟨rfl, rfl⟩ ⟨Nat.zero_le _, Nat.zero_le _⟩ (Nat.le_of_ble_eq_true rfl) dX7_userTold_263 ?_
            refine XW.eq (σ' := mW τ (upd (upd (upd (mUtS2 (τ.1 (.inr 16)) n S F L) (10 + 12 * mU S + 0) (mUtX (τ.1 (.inr 16)) n S F L)) (10 + 12 * mU S + 1) (mUtY (τ.1 (.inr 16)) n S F L)) (10 + 12 * mU S + 2) (mUtZ (τ.1 (.inr 16)) n S F L)) (mUt9 (τ.1 (.inr 16)) n S F L) (mUtL (τ.1 (.inr 16)) n S F L)) (by rfl) rfl rfl ?_
            refine X_aload_n (pc := 266) C 0 dX7_userTold_266 rfl rfl ?_
            refine X_iload_n (pc := 267) C 1 dX7_userTold_267 rfl rfl ?_
            refine X_iconst (pc := 268) (v := 4) C dX7_userTold_268 (by decide) ?_
            refine X_iconst (pc := 269) (v := 1) C dX7_userTold_269 (by decide) ?_
            refine X_iload_n (pc := 270) C 1 dX7_userTold_270 rfl rfl ?_
            refine X_ishl (pc := 271) C dX7_userTold_271 ?_
            refine K_X7_123 (pc := 272) C (by assumption) (c_X7_putUser l P _ _ _ _ h1 (mU S) 4 hlt (by decide) _ 4 _ rfl rfl) ⟨Nat.le_of_ble_eq_true rfl, Nat.le_of_ble_eq_true rfl⟩ ⟨rfl, rfl⟩ ⟨Nat.zero_le _, Nat.zero_le _⟩ (Nat.le_of_ble_eq_true rfl) dX7_userTold_272 ?_
            refine XW.eq (σ' := mW τ (mUtS4 (τ.1 (.inr 16)) n S F L) (mUt9 (τ.1 (.inr 16)) n S F L) (mUtL (τ.1 (.inr 16)) n S F L)) (by rfl) rfl rfl ?_
            refine X_aload_n (pc := 275) C 0 dX7_userTold_275 rfl rfl ?_
            refine X_aload_n (pc := 276) C 0 dX7_userTold_276 rfl rfl ?_
            refine G_X7_164 (pc := 277) C (by assumption) dX7_userTold_277 ?_
            rw [mW_9]
            refine X_iconst (pc := 280) (v := 3) C dX7_userTold_280 (by decide) ?_
            refine X_icmp_eq (pc := 281) C 288 dX7_userTold_281 (by decide) (fun h281 => ?_) (fun h281 => ?_)
            · have g281 : (if (mUt9 (τ.1 (.inr 16)) n S F L) 16 = 3 then (0 : Int32) else 1) = 0 := if_pos h281
              refine X_iconst (pc := 288) (v := 0) C dX7_userTold_288 (by decide) ?_
              refine X_iconst (pc := 289) (v := 1) C dX7_userTold_289 (by decide) ?_
              refine K_X7_190 (pc := 290) C (by assumption) (c_X7_wrong l P _ _ _ _ h1 _ _) ⟨Nat.le_of_ble_eq_true rfl, Nat.le_of_ble_eq_true rfl⟩ ⟨rfl, rfl⟩ ⟨Nat.zero_le _, Nat.zero_le _⟩ (Nat.le_of_ble_eq_true rfl) dX7_userTold_290 ?_
              refine XW.eq (σ' := mW τ (mUtS4 (τ.1 (.inr 16)) n S F L) (mWr (mUt9 (τ.1 (.inr 16)) n S F L) (if (mUt9 (τ.1 (.inr 16)) n S F L) 16 = 3 then (0 : Int32) else 1) 1) (mUtL (τ.1 (.inr 16)) n S F L)) (by rw [g281]) rfl rfl ?_
              refine X_aload_n (pc := 293) C 0 dX7_userTold_293 rfl rfl ?_
              refine K_X7_194 (pc := 294) C (by assumption) (c_X7_go l P _ _ _ _ h1 n (mWr_TK (mUt9_TK hT))) ⟨Nat.le_of_ble_eq_true rfl, Nat.le_of_ble_eq_true rfl⟩ ⟨rfl, rfl⟩ ⟨Nat.zero_le _, Nat.zero_le _⟩ (Nat.le_of_ble_eq_true rfl) dX7_userTold_294 ?_
              refine XW.eq (σ' := mW τ (mUtS4 (τ.1 (.inr 16)) n S F L) (mUtA (τ.1 (.inr 16)) n S F L) (mUtL (τ.1 (.inr 16)) n S F L)) (by rfl) rfl rfl ?_
              refine X_aload_n (pc := 297) C 0 dX7_userTold_297 rfl rfl ?_
              refine G_X7_180 (pc := 298) C (by assumption) dX7_userTold_298 ?_
              rw [mW_9]
              refine X_if_ne (pc := 301) C 314 dX7_userTold_301 (by decide) (fun h301 => ?_) (fun h301 => ?_)
              · skip
                exact X_vret (pc := 314) C (Nat.zero_le _) (Nat.zero_le _) dX7_userTold_314 ⟨rfl, by first | rw [mUtS, mUtF, if_pos g78, if_pos g78, if_pos h301] | rw [mUtS, mUtF, if_pos g78, if_pos g78, if_neg h301]⟩
              · skip
                refine X_aload_n (pc := 304) C 0 dX7_userTold_304 rfl rfl ?_
                refine G_X7_9 (pc := 305) C (by assumption) dX7_userTold_305 ?_
                refine X_iconst (pc := 308) (v := 4) C dX7_userTold_308 (by decide) ?_
                refine X_dup2 (pc := 309) C dX7_userTold_309 rfl rfl ?_
                refine X_ialdN (j := 4) (pc := 310) C (by first | exact h1 _ (by decide) (by decide)) rfl (by omega) (by decide) dX7_userTold_310 ?_
                rw [mW_10]
                rw [mUtS4_o g78 (by omega), hM.u]
                refine X_iconst (pc := 311) (v := 1) C dX7_userTold_311 (by decide) ?_
                refine X_iadd (pc := 312) C dX7_userTold_312 ?_
                rw [nI_1]
                refine X_iastN (j := 4) (pc := 313) C (by first | exact h1 _ (by decide) (by decide)) rfl (by omega) (by decide) dX7_userTold_313 ?_
                rw [mW_u10]
                exact X_vret (pc := 314) C (Nat.zero_le _) (Nat.zero_le _) dX7_userTold_314 ⟨rfl, by first | rw [mUtS, mUtF, if_pos g78, if_pos g78, if_pos h301] | rw [mUtS, mUtF, if_pos g78, if_pos g78, if_neg h301]⟩
            · have g281 : (if (mUt9 (τ.1 (.inr 16)) n S F L) 16 = 3 then (0 : Int32) else 1) = 1 := if_neg h281
              refine X_iconst (pc := 284) (v := 1) C dX7_userTold_284 (by decide) ?_
              refine X_goto (pc := 285) C 289 dX7_userTold_285 (by decide) ?_
              refine X_iconst (pc := 289) (v := 1) C dX7_userTold_289 (by decide) ?_
              refine K_X7_190 (pc := 290) C (by assumption) (c_X7_wrong l P _ _ _ _ h1 _ _) ⟨Nat.le_of_ble_eq_true rfl, Nat.le_of_ble_eq_true rfl⟩ ⟨rfl, rfl⟩ ⟨Nat.zero_le _, Nat.zero_le _⟩ (Nat.le_of_ble_eq_true rfl) dX7_userTold_290 ?_
              refine XW.eq (σ' := mW τ (mUtS4 (τ.1 (.inr 16)) n S F L) (mWr (mUt9 (τ.1 (.inr 16)) n S F L) (if (mUt9 (τ.1 (.inr 16)) n S F L) 16 = 3 then (0 : Int32) else 1) 1) (mUtL (τ.1 (.inr 16)) n S F L)) (by rw [g281]) rfl rfl ?_
              refine X_aload_n (pc := 293) C 0 dX7_userTold_293 rfl rfl ?_
              refine K_X7_194 (pc := 294) C (by assumption) (c_X7_go l P _ _ _ _ h1 n (mWr_TK (mUt9_TK hT))) ⟨Nat.le_of_ble_eq_true rfl, Nat.le_of_ble_eq_true rfl⟩ ⟨rfl, rfl⟩ ⟨Nat.zero_le _, Nat.zero_le _⟩ (Nat.le_of_ble_eq_true rfl) dX7_userTold_294 ?_
              refine XW.eq (σ' := mW τ (mUtS4 (τ.1 (.inr 16)) n S F L) (mUtA (τ.1 (.inr 16)) n S F L) (mUtL (τ.1 (.inr 16)) n S F L)) (by rfl) rfl rfl ?_
              refine X_aload_n (pc := 297) C 0 dX7_userTold_297 rfl rfl ?_
              refine G_X7_180 (pc := 298) C (by assumption) dX7_userTold_298 ?_
              rw [mW_9]
              refine X_if_ne (pc := 301) C 314 dX7_userTold_301 (by decide) (fun h301 => ?_) (fun h301 => ?_)
              · skip
                exact X_vret (pc := 314) C (Nat.zero_le _) (Nat.zero_le _) dX7_userTold_314 ⟨rfl, by first | rw [mUtS, mUtF, if_pos g78, if_pos g78, if_pos h301] | rw [mUtS, mUtF, if_pos g78, if_pos g78, if_neg h301]⟩
              · skip
                refine X_aload_n (pc := 304) C 0 dX7_userTold_304 rfl rfl ?_
                refine G_X7_9 (pc := 305) C (by assumption) dX7_userTold_305 ?_
                refine X_iconst (pc := 308) (v := 4) C dX7_userTold_308 (by decide) ?_
                refine X_dup2 (pc := 309) C dX7_userTold_309 rfl rfl ?_
                refine X_ialdN (j := 4) (pc := 310) C (by first | exact h1 _ (by decide) (by decide)) rfl (by omega) (by decide) dX7_userTold_310 ?_
                rw [mW_10]
                rw [mUtS4_o g78 (by omega), hM.u]
                refine X_iconst (pc := 311) (v := 1) C dX7_userTold_311 (by decide) ?_
                refine X_iadd (pc := 312) C dX7_userTold_312 ?_
                rw [nI_1]
                refine X_iastN (j := 4) (pc := 313) C (by first | exact h1 _ (by decide) (by decide)) rfl (by omega) (by decide) dX7_userTold_313 ?_
                rw [mW_u10]
                exact X_vret (pc := 314) C (Nat.zero_le _) (Nat.zero_le _) dX7_userTold_314 ⟨rfl, by first | rw [mUtS, mUtF, if_pos g78, if_pos g78, if_pos h301] | rw [mUtS, mUtF, if_pos g78, if_pos g78, if_neg h301]⟩
          · have e6 : (mUt6 (τ.1 (.inr 16)) n S F L) = (mUt5 (τ.1 (.inr 16)) n S F L) := if_neg h152
            have eY : (mUtY (τ.1 (.inr 16)) n S F L) = 1 := if_neg h152
            refine X_iconst (pc := 155) (v := 1) C dX7_userTold_155 (by decide) ?_
            refine X_goto (pc := 156) C 163 dX7_userTold_156 (by decide) ?_
            refine X_istore_n (pc := 163) (lv1 := [(0, _), (1, _), (2, _), (3, _)]) C 3 dX7_userTold_163 rfl (by decide) rfl ?_
            refine X_iconst (pc := 164) (v := 0) C dX7_userTold_164 (by decide) ?_
            refine X_istore (pc := 165) (lv1 := [(0, _), (1, _), (2, _), (3, _), (4, _)]) C dX7_userTold_165 (by decide) rfl ?_
            refine XW.eq (σ' := mW τ (mUtS2 (τ.1 (.inr 16)) n S F L) (mUt6 (τ.1 (.inr 16)) n S F L) (mUtL (τ.1 (.inr 16)) n S F L)) (lv' := [(0, .ref (P.2.2.1 (.inr 9))), (1, .int (nI (mU S))), (2, .int (mUtX (τ.1 (.inr 16)) n S F L)), (3, .int (mUtY (τ.1 (.inr 16)) n S F L)), (4, .int (nI 0))]) (by rw [e6]) (by rw [eY]; rfl) rfl ?_
            refine L2_X7_userTold C h1 (u := mU S) (by omega) mUtY_ok (fun j hj => by rw [sU, mUtS2_o g78 (by omega)]; exact hC j hj) (mU S) 0 _ (by omega) ?_
            refine XW.eq (σ' := mW τ (mUtS2 (τ.1 (.inr 16)) n S F L) (mUt7 (τ.1 (.inr 16)) n S F L) (mUtL (τ.1 (.inr 16)) n S F L)) (by rfl) rfl rfl ?_
            refine X_aload_n (pc := 235) C 0 dX7_userTold_235 rfl rfl ?_
            refine K_X7_194 (pc := 236) C (by assumption) (c_X7_go l P _ _ _ _ h1 n (mUt7_TK hT)) ⟨Nat.le_of_ble_eq_true rfl, Nat.le_of_ble_eq_true rfl⟩ ⟨rfl, rfl⟩ ⟨Nat.zero_le _, Nat.zero_le _⟩ (Nat.le_of_ble_eq_true rfl) dX7_userTold_236 ?_
            refine XW.eq (σ' := mW τ (mUtS2 (τ.1 (.inr 16)) n S F L) (mUt8 (τ.1 (.inr 16)) n S F L) (mUtL (τ.1 (.inr 16)) n S F L)) (by rfl) rfl rfl ?_
            refine X_aload_n (pc := 239) C 0 dX7_userTold_239 rfl rfl ?_
            refine X_iload_n (pc := 240) C 1 dX7_userTold_240 rfl rfl ?_
            refine X_iconst (pc := 241) (v := 0) C dX7_userTold_241 (by decide) ?_
            refine X_iload_n (pc := 242) C 2 dX7_userTold_242 rfl rfl ?_
            refine K_X7_123 (pc := 243) C (by assumption) (c_X7_putUser l P _ _ _ _ h1 (mU S) 0 hlt (by decide) _ 0 _ rfl rfl) ⟨Nat.le_of_ble_eq_true rfl, Nat.le_of_ble_eq_true rfl⟩ ⟨rfl, rfl⟩ ⟨Nat.zero_le _, Nat.zero_le _⟩ (Nat.le_of_ble_eq_true rfl) dX7_userTold_243 ?_
            skip
            refine X_aload_n (pc := 246) C 0 dX7_userTold_246 rfl rfl ?_
            refine X_iload_n (pc := 247) C 1 dX7_userTold_247 rfl rfl ?_
            refine X_iconst (pc := 248) (v := 1) C dX7_userTold_248 (by decide) ?_
            refine X_iload_n (pc := 249) C 3 dX7_userTold_249 rfl rfl ?_
            refine K_X7_123 (pc := 250) C (by assumption) (c_X7_putUser l P _ _ _ _ h1 (mU S) 1 hlt (by decide) _ 1 _ rfl rfl) ⟨Nat.le_of_ble_eq_true rfl, Nat.le_of_ble_eq_true rfl⟩ ⟨rfl, rfl⟩ ⟨Nat.zero_le _, Nat.zero_le _⟩ (Nat.le_of_ble_eq_true rfl) dX7_userTold_250 ?_
            refine X_aload_n (pc := 253) C 0 dX7_userTold_253 rfl rfl ?_
            refine X_iload_n (pc := 254) C 1 dX7_userTold_254 rfl rfl ?_
            refine X_iconst (pc := 255) (v := 2) C dX7_userTold_255 (by decide) ?_
            refine X_aload_n (pc := 256) C 0 dX7_userTold_256 rfl rfl ?_
            refine X_iconst (pc := 257) (v := 0) C dX7_userTold_257 (by decide) ?_
            refine X_bipush (pc := 258) (v := 9) C dX7_userTold_258 (by decide) ?_
            refine K_X7_203 (pc := 260) C (by assumption) (c_X7_number l P _ _ _ _ h1 n (mUt8_TK hT) 0 9) ⟨Nat.le_of_ble_eq_true rfl, Nat.le_of_ble_eq_true rfl⟩ ⟨rfl, rfl⟩ ⟨Nat.zero_le _, Nat.zero_le _⟩ (Nat.le_of_ble_eq_true rfl) dX7_userTold_260 ?_
            refine K_X7_123 (pc := 263) C (by assumption) (c_X7_putUser l P _ _ _ _ h1 (mU S) 2 hlt (by decide) _ 2 _ rfl rfl) ⟨Nat.le_of_ble_eq_true rfl, Nat.le_of_ble_eq_true rfl⟩ ⟨rfl, rfl⟩ ⟨Nat.zero_le _, Nat.zero_le _⟩ (Nat.le_of_ble_eq_true rfl) dX7_userTold_263 ?_
            refine XW.eq (σ' := mW τ (upd (upd (upd (mUtS2 (τ.1 (.inr 16)) n S F L) (10 + 12 * mU S + 0) (mUtX (τ.1 (.inr 16)) n S F L)) (10 + 12 * mU S + 1) (mUtY (τ.1 (.inr 16)) n S F L)) (10 + 12 * mU S + 2) (mUtZ (τ.1 (.inr 16)) n S F L)) (mUt9 (τ.1 (.inr 16)) n S F L) (mUtL (τ.1 (.inr 16)) n S F L)) (by rfl) rfl rfl ?_
            refine X_aload_n (pc := 266) C 0 dX7_userTold_266 rfl rfl ?_
            refine X_iload_n (pc := 267) C 1 dX7_userTold_267 rfl rfl ?_
            refine X_iconst (pc := 268) (v := 4) C dX7_userTold_268 (by decide) ?_
            refine X_iconst (pc := 269) (v := 1) C dX7_userTold_269 (by decide) ?_
            refine X_iload_n (pc := 270) C 1 dX7_userTold_270 rfl rfl ?_
            refine X_ishl (pc := 271) C dX7_userTold_271 ?_
            refine K_X7_123 (pc := 272) C (by assumption) (c_X7_putUser l P _ _ _ _ h1 (mU S) 4 hlt (by decide) _ 4 _ rfl rfl) ⟨Nat.le_of_ble_eq_true rfl, Nat.le_of_ble_eq_true rfl⟩ ⟨rfl, rfl⟩ ⟨Nat.zero_le _, Nat.zero_le _⟩ (Nat.le_of_ble_eq_true rfl) dX7_userTold_272 ?_
            refine XW.eq (σ' := mW τ (mUtS4 (τ.1 (.inr 16)) n S F L) (mUt9 (τ.1 (.inr 16)) n S F L) (mUtL (τ.1 (.inr 16)) n S F L)) (by rfl) rfl rfl ?_
            refine X_aload_n (pc := 275) C 0 dX7_userTold_275 rfl rfl ?_
            refine X_aload_n (pc := 276) C 0 dX7_userTold_276 rfl rfl ?_
            refine G_X7_164 (pc := 277) C (by assumption) dX7_userTold_277 ?_
            rw [mW_9]
            refine X_iconst (pc := 280) (v := 3) C dX7_userTold_280 (by decide) ?_
            refine X_icmp_eq (pc := 281) C 288 dX7_userTold_281 (by decide) (fun h281 => ?_) (fun h281 => ?_)
            · have g281 : (if (mUt9 (τ.1 (.inr 16)) n S F L) 16 = 3 then (0 : Int32) else 1) = 0 := if_pos h281
              refine X_iconst (pc := 288) (v := 0) C dX7_userTold_288 (by decide) ?_
              refine X_iconst (pc := 289) (v := 1) C dX7_userTold_289 (by decide) ?_
              refine K_X7_190 (pc := 290) C (by assumption) (c_X7_wrong l P _ _ _ _ h1 _ _) ⟨Nat.le_of_ble_eq_true rfl, Nat.le_of_ble_eq_true rfl⟩ ⟨rfl, rfl⟩ ⟨Nat.zero_le _, Nat.zero_le _⟩ (Nat.le_of_ble_eq_true rfl) dX7_userTold_290 ?_
              refine XW.eq (σ' := mW τ (mUtS4 (τ.1 (.inr 16)) n S F L) (mWr (mUt9 (τ.1 (.inr 16)) n S F L) (if (mUt9 (τ.1 (.inr 16)) n S F L) 16 = 3 then (0 : Int32) else 1) 1) (mUtL (τ.1 (.inr 16)) n S F L)) (by rw [g281]) rfl rfl ?_
              refine X_aload_n (pc := 293) C 0 dX7_userTold_293 rfl rfl ?_
              refine K_X7_194 (pc := 294) C (by assumption) (c_X7_go l P _ _ _ _ h1 n (mWr_TK (mUt9_TK hT))) ⟨Nat.le_of_ble_eq_true rfl, Nat.le_of_ble_eq_true rfl⟩ ⟨rfl, rfl⟩ ⟨Nat.zero_le _, Nat.zero_le _⟩ (Nat.le_of_ble_eq_true rfl) dX7_userTold_294 ?_
              refine XW.eq (σ' := mW τ (mUtS4 (τ.1 (.inr 16)) n S F L) (mUtA (τ.1 (.inr 16)) n S F L) (mUtL (τ.1 (.inr 16)) n S F L)) (by rfl) rfl rfl ?_
              refine X_aload_n (pc := 297) C 0 dX7_userTold_297 rfl rfl ?_
              refine G_X7_180 (pc := 298) C (by assumption) dX7_userTold_298 ?_
              rw [mW_9]
              refine X_if_ne (pc := 301) C 314 dX7_userTold_301 (by decide) (fun h301 => ?_) (fun h301 => ?_)
              · skip
                exact X_vret (pc := 314) C (Nat.zero_le _) (Nat.zero_le _) dX7_userTold_314 ⟨rfl, by first | rw [mUtS, mUtF, if_pos g78, if_pos g78, if_pos h301] | rw [mUtS, mUtF, if_pos g78, if_pos g78, if_neg h301]⟩
              · skip
                refine X_aload_n (pc := 304) C 0 dX7_userTold_304 rfl rfl ?_
                refine G_X7_9 (pc := 305) C (by assumption) dX7_userTold_305 ?_
                refine X_iconst (pc := 308) (v := 4) C dX7_userTold_308 (by decide) ?_
                refine X_dup2 (pc := 309) C dX7_userTold_309 rfl rfl ?_
                refine X_ialdN (j := 4) (pc := 310) C (by first | exact h1 _ (by decide) (by decide)) rfl (by omega) (by decide) dX7_userTold_310 ?_
                rw [mW_10]
                rw [mUtS4_o g78 (by omega), hM.u]
                refine X_iconst (pc := 311) (v := 1) C dX7_userTold_311 (by decide) ?_
                refine X_iadd (pc := 312) C dX7_userTold_312 ?_
                rw [nI_1]
                refine X_iastN (j := 4) (pc := 313) C (by first | exact h1 _ (by decide) (by decide)) rfl (by omega) (by decide) dX7_userTold_313 ?_
                rw [mW_u10]
                exact X_vret (pc := 314) C (Nat.zero_le _) (Nat.zero_le _) dX7_userTold_314 ⟨rfl, by first | rw [mUtS, mUtF, if_pos g78, if_pos g78, if_pos h301] | rw [mUtS, mUtF, if_pos g78, if_pos g78, if_neg h301]⟩
            · have g281 : (if (mUt9 (τ.1 (.inr 16)) n S F L) 16 = 3 then (0 : Int32) else 1) = 1 := if_neg h281
              refine X_iconst (pc := 284) (v := 1) C dX7_userTold_284 (by decide) ?_
              refine X_goto (pc := 285) C 289 dX7_userTold_285 (by decide) ?_
              refine X_iconst (pc := 289) (v := 1) C dX7_userTold_289 (by decide) ?_
              refine K_X7_190 (pc := 290) C (by assumption) (c_X7_wrong l P _ _ _ _ h1 _ _) ⟨Nat.le_of_ble_eq_true rfl, Nat.le_of_ble_eq_true rfl⟩ ⟨rfl, rfl⟩ ⟨Nat.zero_le _, Nat.zero_le _⟩ (Nat.le_of_ble_eq_true rfl) dX7_userTold_290 ?_
              refine XW.eq (σ' := mW τ (mUtS4 (τ.1 (.inr 16)) n S F L) (mWr (mUt9 (τ.1 (.inr 16)) n S F L) (if (mUt9 (τ.1 (.inr 16)) n S F L) 16 = 3 then (0 : Int32) else 1) 1) (mUtL (τ.1 (.inr 16)) n S F L)) (by rw [g281]) rfl rfl ?_
              refine X_aload_n (pc := 293) C 0 dX7_userTold_293 rfl rfl ?_
              refine K_X7_194 (pc := 294) C (by assumption) (c_X7_go l P _ _ _ _ h1 n (mWr_TK (mUt9_TK hT))) ⟨Nat.le_of_ble_eq_true rfl, Nat.le_of_ble_eq_true rfl⟩ ⟨rfl, rfl⟩ ⟨Nat.zero_le _, Nat.zero_le _⟩ (Nat.le_of_ble_eq_true rfl) dX7_userTold_294 ?_
              refine XW.eq (σ' := mW τ (mUtS4 (τ.1 (.inr 16)) n S F L) (mUtA (τ.1 (.inr 16)) n S F L) (mUtL (τ.1 (.inr 16)) n S F L)) (by rfl) rfl rfl ?_
              refine X_aload_n (pc := 297) C 0 dX7_userTold_297 rfl rfl ?_
              refine G_X7_180 (pc := 298) C (by assumption) dX7_userTold_298 ?_
              rw [mW_9]
              refine X_if_ne (pc := 301) C 314 dX7_userTold_301 (by decide) (fun h301 => ?_) (fun h301 => ?_)
              · skip
                exact X_vret (pc := 314) C (Nat.zero_le _) (Nat.zero_le _) dX7_userTold_314 ⟨rfl, by first | rw [mUtS, mUtF, if_pos g78, if_pos g78, if_pos h301] | rw [mUtS, mUtF, if_pos g78, if_pos g78, if_neg h301]⟩
              · skip
                refine X_aload_n (pc := 304) C 0 dX7_userTold_304 rfl rfl ?_
                refine G_X7_9 (pc := 305) C (by assumption) dX7_userTold_305 ?_
                refine X_iconst (pc := 308) (v := 4) C dX7_userTold_308 (by decide) ?_
                refine X_dup2 (pc := 309) C dX7_userTold_309 rfl rfl ?_
                refine X_ialdN (j := 4) (pc := 310) C (by first | exact h1 _ (by decide) (by decide)) rfl (by omega) (by decide) dX7_userTold_310 ?_
                rw [mW_10]
                rw [mUtS4_o g78 (by omega), hM.u]
                refine X_iconst (pc := 311) (v := 1) C dX7_userTold_311 (by decide) ?_
                refine X_iadd (pc := 312) C dX7_userTold_312 ?_
                rw [nI_1]
                refine X_iastN (j := 4) (pc := 313) C (by first | exact h1 _ (by decide) (by decide)) rfl (by omega) (by decide) dX7_userTold_313 ?_
                rw [mW_u10]
                exact X_vret (pc := 314) C (Nat.zero_le _) (Nat.zero_le _) dX7_userTold_314 ⟨rfl, by first | rw [mUtS, mUtF, if_pos g78, if_pos g78, if_pos h301] | rw [mUtS, mUtF, if_pos g78, if_pos g78, if_neg h301]⟩
        · skip
          exact X_vret (pc := 81) C (Nat.zero_le _) (Nat.zero_le _) dX7_userTold_81 ⟨rfl, by rw [mUtS, mUtF, if_neg h78, if_neg h78]⟩
      · have g6 := (mNhF_0 (F := mUt1 (τ.1 (.inr 16)) n S F) h54).2.2.1
        have g15 : (mUt2 (τ.1 (.inr 16)) n S F) 15 = nI (eF (mUt1 (τ.1 (.inr 16)) n S F) - sF (mUt1 (τ.1 (.inr 16)) n S F)) := by rw [mUt2, (mNhF_0 (F := mUt1 (τ.1 (.inr 16)) n S F) h54).2.2.2.1, upd_at]
        refine X_aload_n (pc := 57) C 0 dX7_userTold_57 rfl rfl ?_
        refine K_X7_200 (pc := 58) C (by assumption) (c_X7_named l P _ _ _ _ h1 hM _ g6 g15) ⟨Nat.le_of_ble_eq_true rfl, Nat.le_of_ble_eq_true rfl⟩ ⟨rfl, rfl⟩ ⟨Nat.zero_le _, Nat.zero_le _⟩ (Nat.le_of_ble_eq_true rfl) dX7_userTold_58 ?_
        refine X_iconst (pc := 61) (v := (-1)) C dX7_userTold_61 (by decide) ?_
        refine X_icmp_eq (pc := 62) C 69 dX7_userTold_62 (by decide) (fun h62 => ?_) (fun h62 => ?_)
        · have g62 : (if (mUt2 (τ.1 (.inr 16)) n S F) 20 = 0 ∧ ¬ mNmd S (mUt2 (τ.1 (.inr 16)) n S F) (mUtL (τ.1 (.inr 16)) n S F L) = -1 then (1 : Int32) else 0) = 0 := if_neg (fun q => q.2 h62)
          refine X_iconst (pc := 69) (v := 0) C dX7_userTold_69 (by decide) ?_
          refine X_iconst (pc := 70) (v := 4) C dX7_userTold_70 (by decide) ?_
          refine K_X7_190 (pc := 71) C (by assumption) (c_X7_wrong l P _ _ _ _ h1 _ _) ⟨Nat.le_of_ble_eq_true rfl, Nat.le_of_ble_eq_true rfl⟩ ⟨rfl, rfl⟩ ⟨Nat.zero_le _, Nat.zero_le _⟩ (Nat.le_of_ble_eq_true rfl) dX7_userTold_71 ?_
          refine XW.eq (σ' := mW τ S (mUt3 (τ.1 (.inr 16)) n S F L) (mUtL (τ.1 (.inr 16)) n S F L)) (by rw [mUt3, g62]) rfl rfl ?_
          refine X_aload_n (pc := 74) C 0 dX7_userTold_74 rfl rfl ?_
          refine G_X7_180 (pc := 75) C (by assumption) dX7_userTold_75 ?_
          rw [mW_9]
          refine X_if_eq (pc := 78) C 82 dX7_userTold_78 (by decide) (fun h78 => ?_) (fun h78 => ?_)
          · have g78 := h78
            have hlt := mUt_lt hM h78
            refine X_aload_n (pc := 82) C 0 dX7_userTold_82 rfl rfl ?_
            refine G_X7_9 (pc := 83) C (by assumption) dX7_userTold_83 ?_
            refine X_iconst (pc := 86) (v := 4) C dX7_userTold_86 (by decide) ?_
            refine X_ialdN (j := 4) (pc := 87) C (by first | exact h1 _ (by decide) (by decide)) rfl (by omega) (by decide) dX7_userTold_87 ?_
            rw [mW_10]
            rw [hM.u]
            refine X_istore_n (pc := 88) (lv1 := [(0, _), (1, _)]) C 1 dX7_userTold_88 rfl (by decide) rfl ?_
            refine X_aload_n (pc := 89) C 0 dX7_userTold_89 rfl rfl ?_
            refine X_iload_n (pc := 90) C 1 dX7_userTold_90 rfl rfl ?_
            refine X_iconst (pc := 91) (v := 5) C dX7_userTold_91 (by decide) ?_
            refine X_aload_n (pc := 92) C 0 dX7_userTold_92 rfl rfl ?_
            refine G_X7_148 (pc := 93) C (by assumption) dX7_userTold_93 ?_
            rw [mW_9]
            refine K_X7_123 (pc := 96) C (by assumption) (c_X7_putUser l P _ _ _ _ h1 (mU S) 5 hlt (by decide) _ 5 _ rfl rfl) ⟨Nat.le_of_ble_eq_true rfl, Nat.le_of_ble_eq_true rfl⟩ ⟨rfl, rfl⟩ ⟨Nat.zero_le _, Nat.zero_le _⟩ (Nat.le_of_ble_eq_true rfl) dX7_userTold_96 ?_
            refine XW.eq (σ' := mW τ (upd S (10 + 12 * mU S + 5) ((mUt3 (τ.1 (.inr 16)) n S F L) 15)) (mUt3 (τ.1 (.inr 16)) n S F L) (mUtL (τ.1 (.inr 16)) n S F L)) (by rfl) rfl rfl ?_
            refine X_iconst (pc := 99) (v := 0) C dX7_userTold_99 (by decide) ?_
            refine X_istore_n (pc := 100) (lv1 := [(0, _), (1, _), (2, _)]) C 2 dX7_userTold_100 rfl (by decide) rfl ?_
            have g15 := mUt3_15 g78
            refine L1_X7_userTold C h1 hlt g15.1 g15.2 ?_ (cN ((mUt3 (τ.1 (.inr 16)) n S F L) 15)) 0 (by omega)
            refine XW.eq (σ' := mW τ (mUtS2 (τ.1 (.inr 16)) n S F L) (mUt3 (τ.1 (.inr 16)) n S F L) (mUtL (τ.1 (.inr 16)) n S F L)) (by rfl) rfl rfl ?_
            refine X_aload_n (pc := 130) C 0 dX7_userTold_130 rfl rfl ?_
            refine K_X7_194 (pc := 131) C (by assumption) (c_X7_go l P _ _ _ _ h1 n (mUt3_TK hT)) ⟨Nat.le_of_ble_eq_true rfl, Nat.le_of_ble_eq_true rfl⟩ ⟨rfl, rfl⟩ ⟨Nat.zero_le _, Nat.zero_le _⟩ (Nat.le_of_ble_eq_true rfl) dX7_userTold_131 ?_
            refine XW.eq (σ' := mW τ (mUtS2 (τ.1 (.inr 16)) n S F L) (mUt4 (τ.1 (.inr 16)) n S F L) (mUtL (τ.1 (.inr 16)) n S F L)) (by rfl) rfl rfl ?_
            refine X_aload_n (pc := 134) C 0 dX7_userTold_134 rfl rfl ?_
            refine X_iconst (pc := 135) (v := 0) C dX7_userTold_135 (by decide) ?_
            refine X_aload_n (pc := 136) C 0 dX7_userTold_136 rfl rfl ?_
            refine G_X7_9 (pc := 137) C (by assumption) dX7_userTold_137 ?_
            refine X_iconst (pc := 140) (v := 1) C dX7_userTold_140 (by decide) ?_
            refine X_ialdN (j := 1) (pc := 141) C (by first | exact h1 _ (by decide) (by decide)) rfl (by omega) (by decide) dX7_userTold_141 ?_
            rw [mW_10]
            rw [mUtS2_o g78 (by omega)]
            refine X_iconst (pc := 142) (v := 1) C dX7_userTold_142 (by decide) ?_
            refine X_isub (pc := 143) C dX7_userTold_143 ?_
            refine K_X7_203 (pc := 144) C (by assumption) (c_X7_number l P _ _ _ _ h1 n (mUt4_TK hT) 0 _) ⟨Nat.le_of_ble_eq_true rfl, Nat.le_of_ble_eq_true rfl⟩ ⟨rfl, rfl⟩ ⟨Nat.zero_le _, Nat.zero_le _⟩ (Nat.le_of_ble_eq_true rfl) dX7_userTold_144 ?_
            refine XW.eq (σ' := mW τ (mUtS2 (τ.1 (.inr 16)) n S F L) (mUt5 (τ.1 (.inr 16)) n S F L) (mUtL (τ.1 (.inr 16)) n S F L)) (st' := [.int (mUtX (τ.1 (.inr 16)) n S F L)]) rfl rfl rfl ?_
            refine X_istore_n (pc := 147) (lv1 := [(0, _), (1, _), (2, _)]) C 2 dX7_userTold_147 rfl (by decide) rfl ?_
            refine X_aload_n (pc := 148) C 0 dX7_userTold_148 rfl rfl ?_
            refine G_X7_180 (pc := 149) C (by assumption) dX7_userTold_149 ?_
            rw [mW_9]
            refine X_if_eq (pc := 152) C 159 dX7_userTold_152 (by decide) (fun h152 => ?_) (fun h152 => ?_)
            · have e6 : (mUt6 (τ.1 (.inr 16)) n S F L) = (mRh (τ.1 (.inr 16)) (mUt5 (τ.1 (.inr 16)) n S F L)).1 := if_pos h152
              have eY : (mUtY (τ.1 (.inr 16)) n S F L) = (mRh (τ.1 (.inr 16)) (mUt5 (τ.1 (.inr 16)) n S F L)).2 := if_pos h152
              refine X_aload_n (pc := 159) C 0 dX7_userTold_159 rfl rfl ?_
              refine K_X7_212 (pc := 160) C (by assumption) (c_X7_ringsHere l P _ _ _ _ h1 n (mUt5_TK hT)) ⟨Nat.le_of_ble_eq_true rfl, Nat.le_of_ble_eq_true rfl⟩ ⟨rfl, rfl⟩ ⟨Nat.zero_le _, Nat.zero_le _⟩ (Nat.le_of_ble_eq_true rfl) dX7_userTold_160 ?_
              refine X_istore_n (pc := 163) (lv1 := [(0, _), (1, _), (2, _), (3, _)]) C 3 dX7_userTold_163 rfl (by decide) rfl ?_
              refine X_iconst (pc := 164) (v := 0) C dX7_userTold_164 (by decide) ?_
              refine X_istore (pc := 165) (lv1 := [(0, _), (1, _), (2, _), (3, _), (4, _)]) C dX7_userTold_165 (by decide) rfl ?_
              refine XW.eq (σ' := mW τ (mUtS2 (τ.1 (.inr 16)) n S F L) (mUt6 (τ.1 (.inr 16)) n S F L) (mUtL (τ.1 (.inr 16)) n S F L)) (lv' := [(0, .ref (P.2.2.1 (.inr 9))), (1, .int (nI (mU S))), (2, .int (mUtX (τ.1 (.inr 16)) n S F L)), (3, .int (mUtY (τ.1 (.inr 16)) n S F L)), (4, .int (nI 0))]) (by rw [e6]) (by rw [eY]; rfl) rfl ?_
              refine L2_X7_userTold C h1 (u := mU S) (by omega) mUtY_ok (fun j hj => by rw [sU, mUtS2_o g78 (by omega)]; exact hC j hj) (mU S) 0 _ (by omega) ?_
              refine XW.eq (σ' := mW τ (mUtS2 (τ.1 (.inr 16)) n S F L) (mUt7 (τ.1 (.inr 16)) n S F L) (mUtL (τ.1 (.inr 16)) n S F L)) (by rfl) rfl rfl ?_
              refine X_aload_n (pc := 235) C 0 dX7_userTold_235 rfl rfl ?_
              refine K_X7_194 (pc := 236) C (by assumption) (c_X7_go l P _ _ _ _ h1 n (mUt7_TK hT)) ⟨Nat.le_of_ble_eq_true rfl, Nat.le_of_ble_eq_true rfl⟩ ⟨rfl, rfl⟩ ⟨Nat.zero_le _, Nat.zero_le _⟩ (Nat.le_of_ble_eq_true rfl) dX7_userTold_236 ?_
              refine XW.eq (σ' := mW τ (mUtS2 (τ.1 (.inr 16)) n S F L) (mUt8 (τ.1 (.inr 16)) n S F L) (mUtL (τ.1 (.inr 16)) n S F L)) (by rfl) rfl rfl ?_
              refine X_aload_n (pc := 239) C 0 dX7_userTold_239 rfl rfl ?_
              refine X_iload_n (pc := 240) C 1 dX7_userTold_240 rfl rfl ?_
              refine X_iconst (pc := 241) (v := 0) C dX7_userTold_241 (by decide) ?_
              refine X_iload_n (pc := 242) C 2 dX7_userTold_242 rfl rfl ?_
              refine K_X7_123 (pc := 243) C (by assumption) (c_X7_putUser l P _ _ _ _ h1 (mU S) 0 hlt (by decide) _ 0 _ rfl rfl) ⟨Nat.le_of_ble_eq_true rfl, Nat.le_of_ble_eq_true rfl⟩ ⟨rfl, rfl⟩ ⟨Nat.zero_le _, Nat.zero_le _⟩ (Nat.le_of_ble_eq_true rfl) dX7_userTold_243 ?_
              skip
              refine X_aload_n (pc := 246) C 0 dX7_userTold_246 rfl rfl ?_
              refine X_iload_n (pc := 247) C 1 dX7_userTold_247 rfl rfl ?_
              refine X_iconst (pc := 248) (v := 1) C dX7_userTold_248 (by decide) ?_
              refine X_iload_n (pc := 249) C 3 dX7_userTold_249 rfl rfl ?_
              refine K_X7_123 (pc := 250) C (by assumption) (c_X7_putUser l P _ _ _ _ h1 (mU S) 1 hlt (by decide) _ 1 _ rfl rfl) ⟨Nat.le_of_ble_eq_true rfl, Nat.le_of_ble_eq_true rfl⟩ ⟨rfl, rfl⟩ ⟨Nat.zero_le _, Nat.zero_le _⟩ (Nat.le_of_ble_eq_true rfl) dX7_userTold_250 ?_
              refine X_aload_n (pc := 253) C 0 dX7_userTold_253 rfl rfl ?_
              refine X_iload_n (pc := 254) C 1 dX7_userTold_254 rfl rfl ?_
              refine X_iconst (pc := 255) (v := 2) C dX7_userTold_255 (by decide) ?_
              refine X_aload_n (pc := 256) C 0 dX7_userTold_256 rfl rfl ?_
              refine X_iconst (pc := 257) (v := 0) C dX7_userTold_257 (by decide) ?_
              refine X_bipush (pc := 258) (v := 9) C dX7_userTold_258 (by decide) ?_
              refine K_X7_203 (pc := 260) C (by assumption) (c_X7_number l P _ _ _ _ h1 n (mUt8_TK hT) 0 9) ⟨Nat.le_of_ble_eq_true rfl, Nat.le_of_ble_eq_true rfl⟩ ⟨rfl, rfl⟩ ⟨Nat.zero_le _, Nat.zero_le _⟩ (Nat.le_of_ble_eq_true rfl) dX7_userTold_260 ?_
              refine K_X7_123 (pc := 263) C (by assumption) (c_X7_putUser l P _ _ _ _ h1 (mU S) 2 hlt (by decide) _ 2 _ rfl rfl) ⟨Nat.le_of_ble_eq_true rfl, Nat.le_of_ble_eq_true rfl⟩ ⟨rfl, rfl⟩ ⟨Nat.zero_le _, Nat.zero_le _⟩ (Nat.le_of_ble_eq_true rfl) dX7_userTold_263 ?_
              refine XW.eq (σ' := mW τ (upd (upd (upd (mUtS2 (τ.1 (.inr 16)) n S F L) (10 + 12 * mU S + 0) (mUtX (τ.1 (.inr 16)) n S F L)) (10 + 12 * mU S + 1) (mUtY (τ.1 (.inr 16)) n S F L)) (10 + 12 * mU S + 2) (mUtZ (τ.1 (.inr 16)) n S F L)) (mUt9 (τ.1 (.inr 16)) n S F L) (mUtL (τ.1 (.inr 16)) n S F L)) (by rfl) rfl rfl ?_
              refine X_aload_n (pc := 266) C 0 dX7_userTold_266 rfl rfl ?_
              refine X_iload_n (pc := 267) C 1 dX7_userTold_267 rfl rfl ?_
              refine X_iconst (pc := 268) (v := 4) C dX7_userTold_268 (by decide) ?_
              refine X_iconst (pc := 269) (v := 1) C dX7_userTold_269 (by decide) ?_
              refine X_iload_n (pc := 270) C 1 dX7_userTold_270 rfl rfl ?_
              refine X_ishl (pc := 271) C dX7_userTold_271 ?_
              refine K_X7_123 (pc := 272) C (by assumption) (c_X7_putUser l P _ _ _ _ h1 (mU S) 4 hlt (by decide) _ 4 _ rfl rfl) ⟨Nat.le_of_ble_eq_true rfl, Nat.le_of_ble_eq_true rfl⟩ ⟨rfl, rfl⟩ ⟨Nat.zero_le _, Nat.zero_le _⟩ (Nat.le_of_ble_eq_true rfl) dX7_userTold_272 ?_
              refine XW.eq (σ' := mW τ (mUtS4 (τ.1 (.inr 16)) n S F L) (mUt9 (τ.1 (.inr 16)) n S F L) (mUtL (τ.1 (.inr 16)) n S F L)) (by rfl) rfl rfl ?_
              refine X_aload_n (pc := 275) C 0 dX7_userTold_275 rfl rfl ?_
              refine X_aload_n (pc := 276) C 0 dX7_userTold_276 rfl rfl ?_
              refine G_X7_164 (pc := 277) C (by assumption) dX7_userTold_277 ?_
              rw [mW_9]
              refine X_iconst (pc := 280) (v := 3) C dX7_userTold_280 (by decide) ?_
              refine X_icmp_eq (pc := 281) C 288 dX7_userTold_281 (by decide) (fun h281 => ?_) (fun h281 => ?_)
              · have g281 : (if (mUt9 (τ.1 (.inr 16)) n S F L) 16 = 3 then (0 : Int32) else 1) = 0 := if_pos h281
                refine X_iconst (pc := 288) (v := 0) C dX7_userTold_288 (by decide) ?_
                refine X_iconst (pc := 289) (v := 1) C dX7_userTold_289 (by decide) ?_
                refine K_X7_190 (pc := 290) C (by assumption) (c_X7_wrong l P _ _ _ _ h1 _ _) ⟨Nat.le_of_ble_eq_true rfl, Nat.le_of_ble_eq_true rfl⟩ ⟨rfl, rfl⟩ ⟨Nat.zero_le _, Nat.zero_le _⟩ (Nat.le_of_ble_eq_true rfl) dX7_userTold_290 ?_
                refine XW.eq (σ' := mW τ (mUtS4 (τ.1 (.inr 16)) n S F L) (mWr (mUt9 (τ.1 (.inr 16)) n S F L) (if (mUt9 (τ.1 (.inr 16)) n S F L) 16 = 3 then (0 : Int32) else 1) 1) (mUtL (τ.1 (.inr 16)) n S F L)) (by rw [g281]) rfl rfl ?_
                refine X_aload_n (pc := 293) C 0 dX7_userTold_293 rfl rfl ?_
                refine K_X7_194 (pc := 294) C (by assumption) (c_X7_go l P _ _ _ _ h1 n (mWr_TK (mUt9_TK hT))) ⟨Nat.le_of_ble_eq_true rfl, Nat.le_of_ble_eq_true rfl⟩ ⟨rfl, rfl⟩ ⟨Nat.zero_le _, Nat.zero_le _⟩ (Nat.le_of_ble_eq_true rfl) dX7_userTold_294 ?_
                refine XW.eq (σ' := mW τ (mUtS4 (τ.1 (.inr 16)) n S F L) (mUtA (τ.1 (.inr 16)) n S F L) (mUtL (τ.1 (.inr 16)) n S F L)) (by rfl) rfl rfl ?_
                refine X_aload_n (pc := 297) C 0 dX7_userTold_297 rfl rfl ?_
                refine G_X7_180 (pc := 298) C (by assumption) dX7_userTold_298 ?_
                rw [mW_9]
                refine X_if_ne (pc := 301) C 314 dX7_userTold_301 (by decide) (fun h301 => ?_) (fun h301 => ?_)
                · skip
                  exact X_vret (pc := 314) C (Nat.zero_le _) (Nat.zero_le _) dX7_userTold_314 ⟨rfl, by first | rw [mUtS, mUtF, if_pos g78, if_pos g78, if_pos h301] | rw [mUtS, mUtF, if_pos g78, if_pos g78, if_neg h301]⟩
                · skip
                  refine X_aload_n (pc := 304) C 0 dX7_userTold_304 rfl rfl ?_
                  refine G_X7_9 (pc := 305) C (by assumption) dX7_userTold_305 ?_
                  refine X_iconst (pc := 308) (v := 4) C dX7_userTold_308 (by decide) ?_
                  refine X_dup2 (pc := 309) C dX7_userTold_309 rfl rfl ?_
                  refine X_ialdN (j := 4) (pc := 310) C (by first | exact h1 _ (by decide) (by decide)) rfl (by omega) (by decide) dX7_userTold_310 ?_
                  rw [mW_10]
                  rw [mUtS4_o g78 (by omega), hM.u]
                  refine X_iconst (pc := 311) (v := 1) C dX7_userTold_311 (by decide) ?_
                  refine X_iadd (pc := 312) C dX7_userTold_312 ?_
                  rw [nI_1]
                  refine X_iastN (j := 4) (pc := 313) C (by first | exact h1 _ (by decide) (by decide)) rfl (by omega) (by decide) dX7_userTold_313 ?_
                  rw [mW_u10]
                  exact X_vret (pc := 314) C (Nat.zero_le _) (Nat.zero_le _) dX7_userTold_314 ⟨rfl, by first | rw [mUtS, mUtF, if_pos g78, if_pos g78, if_pos h301] | rw [mUtS, mUtF, if_pos g78, if_pos g78, if_neg h301]⟩
              · have g281 : (if (mUt9 (τ.1 (.inr 16)) n S F L) 16 = 3 then (0 : Int32) else 1) = 1 := if_neg h281
                refine X_iconst (pc := 284) (v := 1) C dX7_userTold_284 (by decide) ?_
                refine X_goto (pc := 285) C 289 dX7_userTold_285 (by decide) ?_
                refine X_iconst (pc := 289) (v := 1) C dX7_userTold_289 (by decide) ?_
                refine K_X7_190 (pc := 290) C (by assumption) (c_X7_wrong l P _ _ _ _ h1 _ _) ⟨Nat.le_of_ble_eq_true rfl, Nat.le_of_ble_eq_true rfl⟩ ⟨rfl, rfl⟩ ⟨Nat.zero_le _, Nat.zero_le _⟩ (Nat.le_of_ble_eq_true rfl) dX7_userTold_290 ?_
                refine XW.eq (σ' := mW τ (mUtS4 (τ.1 (.inr 16)) n S F L) (mWr (mUt9 (τ.1 (.inr 16)) n S F L) (if (mUt9 (τ.1 (.inr 16)) n S F L) 16 = 3 then (0 : Int32) else 1) 1) (mUtL (τ.1 (.inr 16)) n S F L)) (by rw [g281]) rfl rfl ?_
                refine X_aload_n (pc := 293) C 0 dX7_userTold_293 rfl rfl ?_
                refine K_X7_194 (pc := 294) C (by assumption) (c_X7_go l P _ _ _ _ h1 n (mWr_TK (mUt9_TK hT))) ⟨Nat.le_of_ble_eq_true rfl, Nat.le_of_ble_eq_true rfl⟩ ⟨rfl, rfl⟩ ⟨Nat.zero_le _, Nat.zero_le _⟩ (Nat.le_of_ble_eq_true rfl) dX7_userTold_294 ?_
                refine XW.eq (σ' := mW τ (mUtS4 (τ.1 (.inr 16)) n S F L) (mUtA (τ.1 (.inr 16)) n S F L) (mUtL (τ.1 (.inr 16)) n S F L)) (by rfl) rfl rfl ?_
                refine X_aload_n (pc := 297) C 0 dX7_userTold_297 rfl rfl ?_
                refine G_X7_180 (pc := 298) C (by assumption) dX7_userTold_298 ?_
                rw [mW_9]
                refine X_if_ne (pc := 301) C 314 dX7_userTold_301 (by decide) (fun h301 => ?_) (fun h301 => ?_)
                · skip
                  exact X_vret (pc := 314) C (Nat.zero_le _) (Nat.zero_le _) dX7_userTold_314 ⟨rfl, by first | rw [mUtS, mUtF, if_pos g78, if_pos g78, if_pos h301] | rw [mUtS, mUtF, if_pos g78, if_pos g78, if_neg h301]⟩
                · skip
                  refine X_aload_n (pc := 304) C 0 dX7_userTold_304 rfl rfl ?_
                  refine G_X7_9 (pc := 305) C (by assumption) dX7_userTold_305 ?_
                  refine X_iconst (pc := 308) (v := 4) C dX7_userTold_308 (by decide) ?_
                  refine X_dup2 (pc := 309) C dX7_userTold_309 rfl rfl ?_
                  refine X_ialdN (j := 4) (pc := 310) C (by first | exact h1 _ (by decide) (by decide)) rfl (by omega) (by decide) dX7_userTold_310 ?_
                  rw [mW_10]
                  rw [mUtS4_o g78 (by omega), hM.u]
                  refine X_iconst (pc := 311) (v := 1) C dX7_userTold_311 (by decide) ?_
                  refine X_iadd (pc := 312) C dX7_userTold_312 ?_
                  rw [nI_1]
                  refine X_iastN (j := 4) (pc := 313) C (by first | exact h1 _ (by decide) (by decide)) rfl (by omega) (by decide) dX7_userTold_313 ?_
                  rw [mW_u10]
                  exact X_vret (pc := 314) C (Nat.zero_le _) (Nat.zero_le _) dX7_userTold_314 ⟨rfl, by first | rw [mUtS, mUtF, if_pos g78, if_pos g78, if_pos h301] | rw [mUtS, mUtF, if_pos g78, if_pos g78, if_neg h301]⟩
            · have e6 : (mUt6 (τ.1 (.inr 16)) n S F L) = (mUt5 (τ.1 (.inr 16)) n S F L) := if_neg h152
              have eY : (mUtY (τ.1 (.inr 16)) n S F L) = 1 := if_neg h152
              refine X_iconst (pc := 155) (v := 1) C dX7_userTold_155 (by decide) ?_
              refine X_goto (pc := 156) C 163 dX7_userTold_156 (by decide) ?_
              refine X_istore_n (pc := 163) (lv1 := [(0, _), (1, _), (2, _), (3, _)]) C 3 dX7_userTold_163 rfl (by decide) rfl ?_
              refine X_iconst (pc := 164) (v := 0) C dX7_userTold_164 (by decide) ?_
              refine X_istore (pc := 165) (lv1 := [(0, _), (1, _), (2, _), (3, _), (4, _)]) C dX7_userTold_165 (by decide) rfl ?_
              refine XW.eq (σ' := mW τ (mUtS2 (τ.1 (.inr 16)) n S F L) (mUt6 (τ.1 (.inr 16)) n S F L) (mUtL (τ.1 (.inr 16)) n S F L)) (lv' := [(0, .ref (P.2.2.1 (.inr 9))), (1, .int (nI (mU S))), (2, .int (mUtX (τ.1 (.inr 16)) n S F L)), (3, .int (mUtY (τ.1 (.inr 16)) n S F L)), (4, .int (nI 0))]) (by rw [e6]) (by rw [eY]; rfl) rfl ?_
              refine L2_X7_userTold C h1 (u := mU S) (by omega) mUtY_ok (fun j hj => by rw [sU, mUtS2_o g78 (by omega)]; exact hC j hj) (mU S) 0 _ (by omega) ?_
              refine XW.eq (σ' := mW τ (mUtS2 (τ.1 (.inr 16)) n S F L) (mUt7 (τ.1 (.inr 16)) n S F L) (mUtL (τ.1 (.inr 16)) n S F L)) (by rfl) rfl rfl ?_
              refine X_aload_n (pc := 235) C 0 dX7_userTold_235 rfl rfl ?_
              refine K_X7_194 (pc := 236) C (by assumption) (c_X7_go l P _ _ _ _ h1 n (mUt7_TK hT)) ⟨Nat.le_of_ble_eq_true rfl, Nat.le_of_ble_eq_true rfl⟩ ⟨rfl, rfl⟩ ⟨Nat.zero_le _, Nat.zero_le _⟩ (Nat.le_of_ble_eq_true rfl) dX7_userTold_236 ?_
              refine XW.eq (σ' := mW τ (mUtS2 (τ.1 (.inr 16)) n S F L) (mUt8 (τ.1 (.inr 16)) n S F L) (mUtL (τ.1 (.inr 16)) n S F L)) (by rfl) rfl rfl ?_
              refine X_aload_n (pc := 239) C 0 dX7_userTold_239 rfl rfl ?_
              refine X_iload_n (pc := 240) C 1 dX7_userTold_240 rfl rfl ?_
              refine X_iconst (pc := 241) (v := 0) C dX7_userTold_241 (by decide) ?_
              refine X_iload_n (pc := 242) C 2 dX7_userTold_242 rfl rfl ?_
              refine K_X7_123 (pc := 243) C (by assumption) (c_X7_putUser l P _ _ _ _ h1 (mU S) 0 hlt (by decide) _ 0 _ rfl rfl) ⟨Nat.le_of_ble_eq_true rfl, Nat.le_of_ble_eq_true rfl⟩ ⟨rfl, rfl⟩ ⟨Nat.zero_le _, Nat.zero_le _⟩ (Nat.le_of_ble_eq_true rfl) dX7_userTold_243 ?_
              skip
              refine X_aload_n (pc := 246) C 0 dX7_userTold_246 rfl rfl ?_
              refine X_iload_n (pc := 247) C 1 dX7_userTold_247 rfl rfl ?_
              refine X_iconst (pc := 248) (v := 1) C dX7_userTold_248 (by decide) ?_
              refine X_iload_n (pc := 249) C 3 dX7_userTold_249 rfl rfl ?_
              refine K_X7_123 (pc := 250) C (by assumption) (c_X7_putUser l P _ _ _ _ h1 (mU S) 1 hlt (by decide) _ 1 _ rfl rfl) ⟨Nat.le_of_ble_eq_true rfl, Nat.le_of_ble_eq_true rfl⟩ ⟨rfl, rfl⟩ ⟨Nat.zero_le _, Nat.zero_le _⟩ (Nat.le_of_ble_eq_true rfl) dX7_userTold_250 ?_
              refine X_aload_n (pc := 253) C 0 dX7_userTold_253 rfl rfl ?_
              refine X_iload_n (pc := 254) C 1 dX7_userTold_254 rfl rfl ?_
              refine X_iconst (pc := 255) (v := 2) C dX7_userTold_255 (by decide) ?_
              refine X_aload_n (pc := 256) C 0 dX7_userTold_256 rfl rfl ?_
              refine X_iconst (pc := 257) (v := 0) C dX7_userTold_257 (by decide) ?_
              refine X_bipush (pc := 258) (v := 9) C dX7_userTold_258 (by decide) ?_
              refine K_X7_203 (pc := 260) C (by assumption) (c_X7_number l P _ _ _ _ h1 n (mUt8_TK hT) 0 9) ⟨Nat.le_of_ble_eq_true rfl, Nat.le_of_ble_eq_true rfl⟩ ⟨rfl, rfl⟩ ⟨Nat.zero_le _, Nat.zero_le _⟩ (Nat.le_of_ble_eq_true rfl) dX7_userTold_260 ?_
              refine K_X7_123 (pc := 263) C (by assumption) (c_X7_putUser l P _ _ _ _ h1 (mU S) 2 hlt (by decide) _ 2 _ rfl rfl) ⟨Nat.le_of_ble_eq_true rfl, Nat.le_of_ble_eq_true rfl⟩ ⟨rfl, rfl⟩ ⟨Nat.zero_le _, Nat.zero_le _⟩ (Nat.le_of_ble_eq_true rfl) dX7_userTold_263 ?_
              refine XW.eq (σ' := mW τ (upd (upd (upd (mUtS2 (τ.1 (.inr 16)) n S F L) (10 + 12 * mU S + 0) (mUtX (τ.1 (.inr 16)) n S F L)) (10 + 12 * mU S + 1) (mUtY (τ.1 (.inr 16)) n S F L)) (10 + 12 * mU S + 2) (mUtZ (τ.1 (.inr 16)) n S F L)) (mUt9 (τ.1 (.inr 16)) n S F L) (mUtL (τ.1 (.inr 16)) n S F L)) (by rfl) rfl rfl ?_
              refine X_aload_n (pc := 266) C 0 dX7_userTold_266 rfl rfl ?_
              refine X_iload_n (pc := 267) C 1 dX7_userTold_267 rfl rfl ?_
              refine X_iconst (pc := 268) (v := 4) C dX7_userTold_268 (by decide) ?_
              refine X_iconst (pc := 269) (v := 1) C dX7_userTold_269 (by decide) ?_
              refine X_iload_n (pc := 270) C 1 dX7_userTold_270 rfl rfl ?_
              refine X_ishl (pc := 271) C dX7_userTold_271 ?_
              refine K_X7_123 (pc := 272) C (by assumption) (c_X7_putUser l P _ _ _ _ h1 (mU S) 4 hlt (by decide) _ 4 _ rfl rfl) ⟨Nat.le_of_ble_eq_true rfl, Nat.le_of_ble_eq_true rfl⟩ ⟨rfl, rfl⟩ ⟨Nat.zero_le _, Nat.zero_le _⟩ (Nat.le_of_ble_eq_true rfl) dX7_userTold_272 ?_
              refine XW.eq (σ' := mW τ (mUtS4 (τ.1 (.inr 16)) n S F L) (mUt9 (τ.1 (.inr 16)) n S F L) (mUtL (τ.1 (.inr 16)) n S F L)) (by rfl) rfl rfl ?_
              refine X_aload_n (pc := 275) C 0 dX7_userTold_275 rfl rfl ?_
              refine X_aload_n (pc := 276) C 0 dX7_userTold_276 rfl rfl ?_
              refine G_X7_164 (pc := 277) C (by assumption) dX7_userTold_277 ?_
              rw [mW_9]
              refine X_iconst (pc := 280) (v := 3) C dX7_userTold_280 (by decide) ?_
              refine X_icmp_eq (pc := 281) C 288 dX7_userTold_281 (by decide) (fun h281 => ?_) (fun h281 => ?_)
              · have g281 : (if (mUt9 (τ.1 (.inr 16)) n S F L) 16 = 3 then (0 : Int32) else 1) = 0 := if_pos h281
                refine X_iconst (pc := 288) (v := 0) C dX7_userTold_288 (by decide) ?_
                refine X_iconst (pc := 289) (v := 1) C dX7_userTold_289 (by decide) ?_
                refine K_X7_190 (pc := 290) C (by assumption) (c_X7_wrong l P _ _ _ _ h1 _ _) ⟨Nat.le_of_ble_eq_true rfl, Nat.le_of_ble_eq_true rfl⟩ ⟨rfl, rfl⟩ ⟨Nat.zero_le _, Nat.zero_le _⟩ (Nat.le_of_ble_eq_true rfl) dX7_userTold_290 ?_
                refine XW.eq (σ' := mW τ (mUtS4 (τ.1 (.inr 16)) n S F L) (mWr (mUt9 (τ.1 (.inr 16)) n S F L) (if (mUt9 (τ.1 (.inr 16)) n S F L) 16 = 3 then (0 : Int32) else 1) 1) (mUtL (τ.1 (.inr 16)) n S F L)) (by rw [g281]) rfl rfl ?_
                refine X_aload_n (pc := 293) C 0 dX7_userTold_293 rfl rfl ?_
                refine K_X7_194 (pc := 294) C (by assumption) (c_X7_go l P _ _ _ _ h1 n (mWr_TK (mUt9_TK hT))) ⟨Nat.le_of_ble_eq_true rfl, Nat.le_of_ble_eq_true rfl⟩ ⟨rfl, rfl⟩ ⟨Nat.zero_le _, Nat.zero_le _⟩ (Nat.le_of_ble_eq_true rfl) dX7_userTold_294 ?_
                refine XW.eq (σ' := mW τ (mUtS4 (τ.1 (.inr 16)) n S F L) (mUtA (τ.1 (.inr 16)) n S F L) (mUtL (τ.1 (.inr 16)) n S F L)) (by rfl) rfl rfl ?_
                refine X_aload_n (pc := 297) C 0 dX7_userTold_297 rfl rfl ?_
                refine G_X7_180 (pc := 298) C (by assumption) dX7_userTold_298 ?_
                rw [mW_9]
                refine X_if_ne (pc := 301) C 314 dX7_userTold_301 (by decide) (fun h301 => ?_) (fun h301 => ?_)
                · skip
                  exact X_vret (pc := 314) C (Nat.zero_le _) (Nat.zero_le _) dX7_userTold_314 ⟨rfl, by first | rw [mUtS, mUtF, if_pos g78, if_pos g78, if_pos h301] | rw [mUtS, mUtF, if_pos g78, if_pos g78, if_neg h301]⟩
                · skip
                  refine X_aload_n (pc := 304) C 0 dX7_userTold_304 rfl rfl ?_
                  refine G_X7_9 (pc := 305) C (by assumption) dX7_userTold_305 ?_
                  refine X_iconst (pc := 308) (v := 4) C dX7_userTold_308 (by decide) ?_
                  refine X_dup2 (pc := 309) C dX7_userTold_309 rfl rfl ?_
                  refine X_ialdN (j := 4) (pc := 310) C (by first | exact h1 _ (by decide) (by decide)) rfl (by omega) (by decide) dX7_userTold_310 ?_
                  rw [mW_10]
                  rw [mUtS4_o g78 (by omega), hM.u]
                  refine X_iconst (pc := 311) (v := 1) C dX7_userTold_311 (by decide) ?_
                  refine X_iadd (pc := 312) C dX7_userTold_312 ?_
                  rw [nI_1]
                  refine X_iastN (j := 4) (pc := 313) C (by first | exact h1 _ (by decide) (by decide)) rfl (by omega) (by decide) dX7_userTold_313 ?_
                  rw [mW_u10]
                  exact X_vret (pc := 314) C (Nat.zero_le _) (Nat.zero_le _) dX7_userTold_314 ⟨rfl, by first | rw [mUtS, mUtF, if_pos g78, if_pos g78, if_pos h301] | rw [mUtS, mUtF, if_pos g78, if_pos g78, if_neg h301]⟩
              · have g281 : (if (mUt9 (τ.1 (.inr 16)) n S F L) 16 = 3 then (0 : Int32) else 1) = 1 := if_neg h281
                refine X_iconst (pc := 284) (v := 1) C dX7_userTold_284 (by decide) ?_
                refine X_goto (pc := 285) C 289 dX7_userTold_285 (by decide) ?_
                refine X_iconst (pc := 289) (v := 1) C dX7_userTold_289 (by decide) ?_
                refine K_X7_190 (pc := 290) C (by assumption) (c_X7_wrong l P _ _ _ _ h1 _ _) ⟨Nat.le_of_ble_eq_true rfl, Nat.le_of_ble_eq_true rfl⟩ ⟨rfl, rfl⟩ ⟨Nat.zero_le _, Nat.zero_le _⟩ (Nat.le_of_ble_eq_true rfl) dX7_userTold_290 ?_
                refine XW.eq (σ' := mW τ (mUtS4 (τ.1 (.inr 16)) n S F L) (mWr (mUt9 (τ.1 (.inr 16)) n S F L) (if (mUt9 (τ.1 (.inr 16)) n S F L) 16 = 3 then (0 : Int32) else 1) 1) (mUtL (τ.1 (.inr 16)) n S F L)) (by rw [g281]) rfl rfl ?_
                refine X_aload_n (pc := 293) C 0 dX7_userTold_293 rfl rfl ?_
                refine K_X7_194 (pc := 294) C (by assumption) (c_X7_go l P _ _ _ _ h1 n (mWr_TK (mUt9_TK hT))) ⟨Nat.le_of_ble_eq_true rfl, Nat.le_of_ble_eq_true rfl⟩ ⟨rfl, rfl⟩ ⟨Nat.zero_le _, Nat.zero_le _⟩ (Nat.le_of_ble_eq_true rfl) dX7_userTold_294 ?_
                refine XW.eq (σ' := mW τ (mUtS4 (τ.1 (.inr 16)) n S F L) (mUtA (τ.1 (.inr 16)) n S F L) (mUtL (τ.1 (.inr 16)) n S F L)) (by rfl) rfl rfl ?_
                refine X_aload_n (pc := 297) C 0 dX7_userTold_297 rfl rfl ?_
                refine G_X7_180 (pc := 298) C (by assumption) dX7_userTold_298 ?_
                rw [mW_9]
                refine X_if_ne (pc := 301) C 314 dX7_userTold_301 (by decide) (fun h301 => ?_) (fun h301 => ?_)
                · skip
                  exact X_vret (pc := 314) C (Nat.zero_le _) (Nat.zero_le _) dX7_userTold_314 ⟨rfl, by first | rw [mUtS, mUtF, if_pos g78, if_pos g78, if_pos h301] | rw [mUtS, mUtF, if_pos g78, if_pos g78, if_neg h301]⟩
                · skip
                  refine X_aload_n (pc := 304) C 0 dX7_userTold_304 rfl rfl ?_
                  refine G_X7_9 (pc := 305) C (by assumption) dX7_userTold_305 ?_
                  refine X_iconst (pc := 308) (v := 4) C dX7_userTold_308 (by decide) ?_
                  refine X_dup2 (pc := 309) C dX7_userTold_309 rfl rfl ?_
                  refine X_ialdN (j := 4) (pc := 310) C (by first | exact h1 _ (by decide) (by decide)) rfl (by omega) (by decide) dX7_userTold_310 ?_
                  rw [mW_10]
                  rw [mUtS4_o g78 (by omega), hM.u]
                  refine X_iconst (pc := 311) (v := 1) C dX7_userTold_311 (by decide) ?_
                  refine X_iadd (pc := 312) C dX7_userTold_312 ?_
                  rw [nI_1]
                  refine X_iastN (j := 4) (pc := 313) C (by first | exact h1 _ (by decide) (by decide)) rfl (by omega) (by decide) dX7_userTold_313 ?_
                  rw [mW_u10]
                  exact X_vret (pc := 314) C (Nat.zero_le _) (Nat.zero_le _) dX7_userTold_314 ⟨rfl, by first | rw [mUtS, mUtF, if_pos g78, if_pos g78, if_pos h301] | rw [mUtS, mUtF, if_pos g78, if_pos g78, if_neg h301]⟩
          · skip
            exact X_vret (pc := 81) C (Nat.zero_le _) (Nat.zero_le _) dX7_userTold_81 ⟨rfl, by rw [mUtS, mUtF, if_neg h78, if_neg h78]⟩
        · have g62 : (if (mUt2 (τ.1 (.inr 16)) n S F) 20 = 0 ∧ ¬ mNmd S (mUt2 (τ.1 (.inr 16)) n S F) (mUtL (τ.1 (.inr 16)) n S F L) = -1 then (1 : Int32) else 0) = 1 := if_pos ⟨h54, h62⟩
          refine X_iconst (pc := 65) (v := 1) C dX7_userTold_65 (by decide) ?_
          refine X_goto (pc := 66) C 70 dX7_userTold_66 (by decide) ?_
          refine X_iconst (pc := 70) (v := 4) C dX7_userTold_70 (by decide) ?_
          refine K_X7_190 (pc := 71) C (by assumption) (c_X7_wrong l P _ _ _ _ h1 _ _) ⟨Nat.le_of_ble_eq_true rfl, Nat.le_of_ble_eq_true rfl⟩ ⟨rfl, rfl⟩ ⟨Nat.zero_le _, Nat.zero_le _⟩ (Nat.le_of_ble_eq_true rfl) dX7_userTold_71 ?_
          refine XW.eq (σ' := mW τ S (mUt3 (τ.1 (.inr 16)) n S F L) (mUtL (τ.1 (.inr 16)) n S F L)) (by rw [mUt3, g62]) rfl rfl ?_
          refine X_aload_n (pc := 74) C 0 dX7_userTold_74 rfl rfl ?_
          refine G_X7_180 (pc := 75) C (by assumption) dX7_userTold_75 ?_
          rw [mW_9]
          refine X_if_eq (pc := 78) C 82 dX7_userTold_78 (by decide) (fun h78 => ?_) (fun h78 => ?_)
          · have g78 := h78
            have hlt := mUt_lt hM h78
            refine X_aload_n (pc := 82) C 0 dX7_userTold_82 rfl rfl ?_
            refine G_X7_9 (pc := 83) C (by assumption) dX7_userTold_83 ?_
            refine X_iconst (pc := 86) (v := 4) C dX7_userTold_86 (by decide) ?_
            refine X_ialdN (j := 4) (pc := 87) C (by first | exact h1 _ (by decide) (by decide)) rfl (by omega) (by decide) dX7_userTold_87 ?_
            rw [mW_10]
            rw [hM.u]
            refine X_istore_n (pc := 88) (lv1 := [(0, _), (1, _)]) C 1 dX7_userTold_88 rfl (by decide) rfl ?_
            refine X_aload_n (pc := 89) C 0 dX7_userTold_89 rfl rfl ?_
            refine X_iload_n (pc := 90) C 1 dX7_userTold_90 rfl rfl ?_
            refine X_iconst (pc := 91) (v := 5) C dX7_userTold_91 (by decide) ?_
            refine X_aload_n (pc := 92) C 0 dX7_userTold_92 rfl rfl ?_
            refine G_X7_148 (pc := 93) C (by assumption) dX7_userTold_93 ?_
            rw [mW_9]
            refine K_X7_123 (pc := 96) C (by assumption) (c_X7_putUser l P _ _ _ _ h1 (mU S) 5 hlt (by decide) _ 5 _ rfl rfl) ⟨Nat.le_of_ble_eq_true rfl, Nat.le_of_ble_eq_true rfl⟩ ⟨rfl, rfl⟩ ⟨Nat.zero_le _, Nat.zero_le _⟩ (Nat.le_of_ble_eq_true rfl) dX7_userTold_96 ?_
            refine XW.eq (σ' := mW τ (upd S (10 + 12 * mU S + 5) ((mUt3 (τ.1 (.inr 16)) n S F L) 15)) (mUt3 (τ.1 (.inr 16)) n S F L) (mUtL (τ.1 (.inr 16)) n S F L)) (by rfl) rfl rfl ?_
            refine X_iconst (pc := 99) (v := 0) C dX7_userTold_99 (by decide) ?_
            refine X_istore_n (pc := 100) (lv1 := [(0, _), (1, _), (2, _)]) C 2 dX7_userTold_100 rfl (by decide) rfl ?_
            have g15 := mUt3_15 g78
            refine L1_X7_userTold C h1 hlt g15.1 g15.2 ?_ (cN ((mUt3 (τ.1 (.inr 16)) n S F L) 15)) 0 (by omega)
            refine XW.eq (σ' := mW τ (mUtS2 (τ.1 (.inr 16)) n S F L) (mUt3 (τ.1 (.inr 16)) n S F L) (mUtL (τ.1 (.inr 16)) n S F L)) (by rfl) rfl rfl ?_
            refine X_aload_n (pc := 130) C 0 dX7_userTold_130 rfl rfl ?_
            refine K_X7_194 (pc := 131) C (by assumption) (c_X7_go l P _ _ _ _ h1 n (mUt3_TK hT)) ⟨Nat.le_of_ble_eq_true rfl, Nat.le_of_ble_eq_true rfl⟩ ⟨rfl, rfl⟩ ⟨Nat.zero_le _, Nat.zero_le _⟩ (Nat.le_of_ble_eq_true rfl) dX7_userTold_131 ?_
            refine XW.eq (σ' := mW τ (mUtS2 (τ.1 (.inr 16)) n S F L) (mUt4 (τ.1 (.inr 16)) n S F L) (mUtL (τ.1 (.inr 16)) n S F L)) (by rfl) rfl rfl ?_
            refine X_aload_n (pc := 134) C 0 dX7_userTold_134 rfl rfl ?_
            refine X_iconst (pc := 135) (v := 0) C dX7_userTold_135 (by decide) ?_
            refine X_aload_n (pc := 136) C 0 dX7_userTold_136 rfl rfl ?_
            refine G_X7_9 (pc := 137) C (by assumption) dX7_userTold_137 ?_
            refine X_iconst (pc := 140) (v := 1) C dX7_userTold_140 (by decide) ?_
            refine X_ialdN (j := 1) (pc := 141) C (by first | exact h1 _ (by decide) (by decide)) rfl (by omega) (by decide) dX7_userTold_141 ?_
            rw [mW_10]
            rw [mUtS2_o g78 (by omega)]
            refine X_iconst (pc := 142) (v := 1) C dX7_userTold_142 (by decide) ?_
            refine X_isub (pc := 143) C dX7_userTold_143 ?_
            refine K_X7_203 (pc := 144) C (by assumption) (c_X7_number l P _ _ _ _ h1 n (mUt4_TK hT) 0 _) ⟨Nat.le_of_ble_eq_true rfl, Nat.le_of_ble_eq_true rfl⟩ ⟨rfl, rfl⟩ ⟨Nat.zero_le _, Nat.zero_le _⟩ (Nat.le_of_ble_eq_true rfl) dX7_userTold_144 ?_
            refine XW.eq (σ' := mW τ (mUtS2 (τ.1 (.inr 16)) n S F L) (mUt5 (τ.1 (.inr 16)) n S F L) (mUtL (τ.1 (.inr 16)) n S F L)) (st' := [.int (mUtX (τ.1 (.inr 16)) n S F L)]) rfl rfl rfl ?_
            refine X_istore_n (pc := 147) (lv1 := [(0, _), (1, _), (2, _)]) C 2 dX7_userTold_147 rfl (by decide) rfl ?_
            refine X_aload_n (pc := 148) C 0 dX7_userTold_148 rfl rfl ?_
            refine G_X7_180 (pc := 149) C (by assumption) dX7_userTold_149 ?_
            rw [mW_9]
            refine X_if_eq (pc := 152) C 159 dX7_userTold_152 (by decide) (fun h152 => ?_) (fun h152 => ?_)
            · have e6 : (mUt6 (τ.1 (.inr 16)) n S F L) = (mRh (τ.1 (.inr 16)) (mUt5 (τ.1 (.inr 16)) n S F L)).1 := if_pos h152
              have eY : (mUtY (τ.1 (.inr 16)) n S F L) = (mRh (τ.1 (.inr 16)) (mUt5 (τ.1 (.inr 16)) n S F L)).2 := if_pos h152
              refine X_aload_n (pc := 159) C 0 dX7_userTold_159 rfl rfl ?_
              refine K_X7_212 (pc := 160) C (by assumption) (c_X7_ringsHere l P _ _ _ _ h1 n (mUt5_TK hT)) ⟨Nat.le_of_ble_eq_true rfl, Nat.le_of_ble_eq_true rfl⟩ ⟨rfl, rfl⟩ ⟨Nat.zero_le _, Nat.zero_le _⟩ (Nat.le_of_ble_eq_true rfl) dX7_userTold_160 ?_
              refine X_istore_n (pc := 163) (lv1 := [(0, _), (1, _), (2, _), (3, _)]) C 3 dX7_userTold_163 rfl (by decide) rfl ?_
              refine X_iconst (pc := 164) (v := 0) C dX7_userTold_164 (by decide) ?_
              refine X_istore (pc := 165) (lv1 := [(0, _), (1, _), (2, _), (3, _), (4, _)]) C dX7_userTold_165 (by decide) rfl ?_
              refine XW.eq (σ' := mW τ (mUtS2 (τ.1 (.inr 16)) n S F L) (mUt6 (τ.1 (.inr 16)) n S F L) (mUtL (τ.1 (.inr 16)) n S F L)) (lv' := [(0, .ref (P.2.2.1 (.inr 9))), (1, .int (nI (mU S))), (2, .int (mUtX (τ.1 (.inr 16)) n S F L)), (3, .int (mUtY (τ.1 (.inr 16)) n S F L)), (4, .int (nI 0))]) (by rw [e6]) (by rw [eY]; rfl) rfl ?_
              refine L2_X7_userTold C h1 (u := mU S) (by omega) mUtY_ok (fun j hj => by rw [sU, mUtS2_o g78 (by omega)]; exact hC j hj) (mU S) 0 _ (by omega) ?_
              refine XW.eq (σ' := mW τ (mUtS2 (τ.1 (.inr 16)) n S F L) (mUt7 (τ.1 (.inr 16)) n S F L) (mUtL (τ.1 (.inr 16)) n S F L)) (by rfl) rfl rfl ?_
              refine X_aload_n (pc := 235) C 0 dX7_userTold_235 rfl rfl ?_
              refine K_X7_194 (pc := 236) C (by assumption) (c_X7_go l P _ _ _ _ h1 n (mUt7_TK hT)) ⟨Nat.le_of_ble_eq_true rfl, Nat.le_of_ble_eq_true rfl⟩ ⟨rfl, rfl⟩ ⟨Nat.zero_le _, Nat.zero_le _⟩ (Nat.le_of_ble_eq_true rfl) dX7_userTold_236 ?_
              refine XW.eq (σ' := mW τ (mUtS2 (τ.1 (.inr 16)) n S F L) (mUt8 (τ.1 (.inr 16)) n S F L) (mUtL (τ.1 (.inr 16)) n S F L)) (by rfl) rfl rfl ?_
              refine X_aload_n (pc := 239) C 0 dX7_userTold_239 rfl rfl ?_
              refine X_iload_n (pc := 240) C 1 dX7_userTold_240 rfl rfl ?_
              refine X_iconst (pc := 241) (v := 0) C dX7_userTold_241 (by decide) ?_
              refine X_iload_n (pc := 242) C 2 dX7_userTold_242 rfl rfl ?_
              refine K_X7_123 (pc := 243) C (by assumption) (c_X7_putUser l P _ _ _ _ h1 (mU S) 0 hlt (by decide) _ 0 _ rfl rfl) ⟨Nat.le_of_ble_eq_true rfl, Nat.le_of_ble_eq_true rfl⟩ ⟨rfl, rfl⟩ ⟨Nat.zero_le _, Nat.zero_le _⟩ (Nat.le_of_ble_eq_true rfl) dX7_userTold_243 ?_
              skip
              refine X_aload_n (pc := 246) C 0 dX7_userTold_246 rfl rfl ?_
              refine X_iload_n (pc := 247) C 1 dX7_userTold_247 rfl rfl ?_
              refine X_iconst (pc := 248) (v := 1) C dX7_userTold_248 (by decide) ?_
              refine X_iload_n (pc := 249) C 3 dX7_userTold_249 rfl rfl ?_
              refine K_X7_123 (pc := 250) C (by assumption) (c_X7_putUser l P _ _ _ _ h1 (mU S) 1 hlt (by decide) _ 1 _ rfl rfl) ⟨Nat.le_of_ble_eq_true rfl, Nat.le_of_ble_eq_true rfl⟩ ⟨rfl, rfl⟩ ⟨Nat.zero_le _, Nat.zero_le _⟩ (Nat.le_of_ble_eq_true rfl) dX7_userTold_250 ?_
              refine X_aload_n (pc := 253) C 0 dX7_userTold_253 rfl rfl ?_
              refine X_iload_n (pc := 254) C 1 dX7_userTold_254 rfl rfl ?_
              refine X_iconst (pc := 255) (v := 2) C dX7_userTold_255 (by decide) ?_
              refine X_aload_n (pc := 256) C 0 dX7_userTold_256 rfl rfl ?_
              refine X_iconst (pc := 257) (v := 0) C dX7_userTold_257 (by decide) ?_
              refine X_bipush (pc := 258) (v := 9) C dX7_userTold_258 (by decide) ?_
              refine K_X7_203 (pc := 260) C (by assumption) (c_X7_number l P _ _ _ _ h1 n (mUt8_TK hT) 0 9) ⟨Nat.le_of_ble_eq_true rfl, Nat.le_of_ble_eq_true rfl⟩ ⟨rfl, rfl⟩ ⟨Nat.zero_le _, Nat.zero_le _⟩ (Nat.le_of_ble_eq_true rfl) dX7_userTold_260 ?_
              refine K_X7_123 (pc := 263) C (by assumption) (c_X7_putUser l P _ _ _ _ h1 (mU S) 2 hlt (by decide) _ 2 _ rfl rfl) ⟨Nat.le_of_ble_eq_true rfl, Nat.le_of_ble_eq_true rfl⟩ ⟨rfl, rfl⟩ ⟨Nat.zero_le _, Nat.zero_le _⟩ (Nat.le_of_ble_eq_true rfl) dX7_userTold_263 ?_
              refine XW.eq (σ' := mW τ (upd (upd (upd (mUtS2 (τ.1 (.inr 16)) n S F L) (10 + 12 * mU S + 0) (mUtX (τ.1 (.inr 16)) n S F L)) (10 + 12 * mU S + 1) (mUtY (τ.1 (.inr 16)) n S F L)) (10 + 12 * mU S + 2) (mUtZ (τ.1 (.inr 16)) n S F L)) (mUt9 (τ.1 (.inr 16)) n S F L) (mUtL (τ.1 (.inr 16)) n S F L)) (by rfl) rfl rfl ?_
              refine X_aload_n (pc := 266) C 0 dX7_userTold_266 rfl rfl ?_
              refine X_iload_n (pc := 267) C 1 dX7_userTold_267 rfl rfl ?_
              refine X_iconst (pc := 268) (v := 4) C dX7_userTold_268 (by decide) ?_
              refine X_iconst (pc := 269) (v := 1) C dX7_userTold_269 (by decide) ?_
              refine X_iload_n (pc := 270) C 1 dX7_userTold_270 rfl rfl ?_
              refine X_ishl (pc := 271) C dX7_userTold_271 ?_
              refine K_X7_123 (pc := 272) C (by assumption) (c_X7_putUser l P _ _ _ _ h1 (mU S) 4 hlt (by decide) _ 4 _ rfl rfl) ⟨Nat.le_of_ble_eq_true rfl, Nat.le_of_ble_eq_true rfl⟩ ⟨rfl, rfl⟩ ⟨Nat.zero_le _, Nat.zero_le _⟩ (Nat.le_of_ble_eq_true rfl) dX7_userTold_272 ?_
              refine XW.eq (σ' := mW τ (mUtS4 (τ.1 (.inr 16)) n S F L) (mUt9 (τ.1 (.inr 16)) n S F L) (mUtL (τ.1 (.inr 16)) n S F L)) (by rfl) rfl rfl ?_
              refine X_aload_n (pc := 275) C 0 dX7_userTold_275 rfl rfl ?_
              refine X_aload_n (pc := 276) C 0 dX7_userTold_276 rfl rfl ?_
              refine G_X7_164 (pc := 277) C (by assumption) dX7_userTold_277 ?_
              rw [mW_9]
              refine X_iconst (pc := 280) (v := 3) C dX7_userTold_280 (by decide) ?_
              refine X_icmp_eq (pc := 281) C 288 dX7_userTold_281 (by decide) (fun h281 => ?_) (fun h281 => ?_)
              · have g281 : (if (mUt9 (τ.1 (.inr 16)) n S F L) 16 = 3 then (0 : Int32) else 1) = 0 := if_pos h281
                refine X_iconst (pc := 288) (v := 0) C dX7_userTold_288 (by decide) ?_
                refine X_iconst (pc := 289) (v := 1) C dX7_userTold_289 (by decide) ?_
                refine K_X7_190 (pc := 290) C (by assumption) (c_X7_wrong l P _ _ _ _ h1 _ _) ⟨Nat.le_of_ble_eq_true rfl, Nat.le_of_ble_eq_true rfl⟩ ⟨rfl, rfl⟩ ⟨Nat.zero_le _, Nat.zero_le _⟩ (Nat.le_of_ble_eq_true rfl) dX7_userTold_290 ?_
                refine XW.eq (σ' := mW τ (mUtS4 (τ.1 (.inr 16)) n S F L) (mWr (mUt9 (τ.1 (.inr 16)) n S F L) (if (mUt9 (τ.1 (.inr 16)) n S F L) 16 = 3 then (0 : Int32) else 1) 1) (mUtL (τ.1 (.inr 16)) n S F L)) (by rw [g281]) rfl rfl ?_
                refine X_aload_n (pc := 293) C 0 dX7_userTold_293 rfl rfl ?_
                refine K_X7_194 (pc := 294) C (by assumption) (c_X7_go l P _ _ _ _ h1 n (mWr_TK (mUt9_TK hT))) ⟨Nat.le_of_ble_eq_true rfl, Nat.le_of_ble_eq_true rfl⟩ ⟨rfl, rfl⟩ ⟨Nat.zero_le _, Nat.zero_le _⟩ (Nat.le_of_ble_eq_true rfl) dX7_userTold_294 ?_
                refine XW.eq (σ' := mW τ (mUtS4 (τ.1 (.inr 16)) n S F L) (mUtA (τ.1 (.inr 16)) n S F L) (mUtL (τ.1 (.inr 16)) n S F L)) (by rfl) rfl rfl ?_
                refine X_aload_n (pc := 297) C 0 dX7_userTold_297 rfl rfl ?_
                refine G_X7_180 (pc := 298) C (by assumption) dX7_userTold_298 ?_
                rw [mW_9]
                refine X_if_ne (pc := 301) C 314 dX7_userTold_301 (by decide) (fun h301 => ?_) (fun h301 => ?_)
                · skip
                  exact X_vret (pc := 314) C (Nat.zero_le _) (Nat.zero_le _) dX7_userTold_314 ⟨rfl, by first | rw [mUtS, mUtF, if_pos g78, if_pos g78, if_pos h301] | rw [mUtS, mUtF, if_pos g78, if_pos g78, if_neg h301]⟩
                · skip
                  refine X_aload_n (pc := 304) C 0 dX7_userTold_304 rfl rfl ?_
                  refine G_X7_9 (pc := 305) C (by assumption) dX7_userTold_305 ?_
                  refine X_iconst (pc := 308) (v := 4) C dX7_userTold_308 (by decide) ?_
                  refine X_dup2 (pc := 309) C dX7_userTold_309 rfl rfl ?_
                  refine X_ialdN (j := 4) (pc := 310) C (by first | exact h1 _ (by decide) (by decide)) rfl (by omega) (by decide) dX7_userTold_310 ?_
                  rw [mW_10]
                  rw [mUtS4_o g78 (by omega), hM.u]
                  refine X_iconst (pc := 311) (v := 1) C dX7_userTold_311 (by decide) ?_
                  refine X_iadd (pc := 312) C dX7_userTold_312 ?_
                  rw [nI_1]
                  refine X_iastN (j := 4) (pc := 313) C (by first | exact h1 _ (by decide) (by decide)) rfl (by omega) (by decide) dX7_userTold_313 ?_
                  rw [mW_u10]
                  exact X_vret (pc := 314) C (Nat.zero_le _) (Nat.zero_le _) dX7_userTold_314 ⟨rfl, by first | rw [mUtS, mUtF, if_pos g78, if_pos g78, if_pos h301] | rw [mUtS, mUtF, if_pos g78, if_pos g78, if_neg h301]⟩
              · have g281 : (if (mUt9 (τ.1 (.inr 16)) n S F L) 16 = 3 then (0 : Int32) else 1) = 1 := if_neg h281
                refine X_iconst (pc := 284) (v := 1) C dX7_userTold_284 (by decide) ?_
                refine X_goto (pc := 285) C 289 dX7_userTold_285 (by decide) ?_
                refine X_iconst (pc := 289) (v := 1) C dX7_userTold_289 (by decide) ?_
                refine K_X7_190 (pc := 290) C (by assumption) (c_X7_wrong l P _ _ _ _ h1 _ _) ⟨Nat.le_of_ble_eq_true rfl, Nat.le_of_ble_eq_true rfl⟩ ⟨rfl, rfl⟩ ⟨Nat.zero_le _, Nat.zero_le _⟩ (Nat.le_of_ble_eq_true rfl) dX7_userTold_290 ?_
                refine XW.eq (σ' := mW τ (mUtS4 (τ.1 (.inr 16)) n S F L) (mWr (mUt9 (τ.1 (.inr 16)) n S F L) (if (mUt9 (τ.1 (.inr 16)) n S F L) 16 = 3 then (0 : Int32) else 1) 1) (mUtL (τ.1 (.inr 16)) n S F L)) (by rw [g281]) rfl rfl ?_
                refine X_aload_n (pc := 293) C 0 dX7_userTold_293 rfl rfl ?_
                refine K_X7_194 (pc := 294) C (by assumption) (c_X7_go l P _ _ _ _ h1 n (mWr_TK (mUt9_TK hT))) ⟨Nat.le_of_ble_eq_true rfl, Nat.le_of_ble_eq_true rfl⟩ ⟨rfl, rfl⟩ ⟨Nat.zero_le _, Nat.zero_le _⟩ (Nat.le_of_ble_eq_true rfl) dX7_userTold_294 ?_
                refine XW.eq (σ' := mW τ (mUtS4 (τ.1 (.inr 16)) n S F L) (mUtA (τ.1 (.inr 16)) n S F L) (mUtL (τ.1 (.inr 16)) n S F L)) (by rfl) rfl rfl ?_
                refine X_aload_n (pc := 297) C 0 dX7_userTold_297 rfl rfl ?_
                refine G_X7_180 (pc := 298) C (by assumption) dX7_userTold_298 ?_
                rw [mW_9]
                refine X_if_ne (pc := 301) C 314 dX7_userTold_301 (by decide) (fun h301 => ?_) (fun h301 => ?_)
                · skip
                  exact X_vret (pc := 314) C (Nat.zero_le _) (Nat.zero_le _) dX7_userTold_314 ⟨rfl, by first | rw [mUtS, mUtF, if_pos g78, if_pos g78, if_pos h301] | rw [mUtS, mUtF, if_pos g78, if_pos g78, if_neg h301]⟩
                · skip
                  refine X_aload_n (pc := 304) C 0 dX7_userTold_304 rfl rfl ?_
                  refine G_X7_9 (pc := 305) C (by assumption) dX7_userTold_305 ?_
                  refine X_iconst (pc := 308) (v := 4) C dX7_userTold_308 (by decide) ?_
                  refine X_dup2 (pc := 309) C dX7_userTold_309 rfl rfl ?_
                  refine X_ialdN (j := 4) (pc := 310) C (by first | exact h1 _ (by decide) (by decide)) rfl (by omega) (by decide) dX7_userTold_310 ?_
                  rw [mW_10]
                  rw [mUtS4_o g78 (by omega), hM.u]
                  refine X_iconst (pc := 311) (v := 1) C dX7_userTold_311 (by decide) ?_
                  refine X_iadd (pc := 312) C dX7_userTold_312 ?_
                  rw [nI_1]
                  refine X_iastN (j := 4) (pc := 313) C (by first | exact h1 _ (by decide) (by decide)) rfl (by omega) (by decide) dX7_userTold_313 ?_
                  rw [mW_u10]
                  exact X_vret (pc := 314) C (Nat.zero_le _) (Nat.zero_le _) dX7_userTold_314 ⟨rfl, by first | rw [mUtS, mUtF, if_pos g78, if_pos g78, if_pos h301] | rw [mUtS, mUtF, if_pos g78, if_pos g78, if_neg h301]⟩
            · have e6 : (mUt6 (τ.1 (.inr 16)) n S F L) = (mUt5 (τ.1 (.inr 16)) n S F L) := if_neg h152
              have eY : (mUtY (τ.1 (.inr 16)) n S F L) = 1 := if_neg h152
              refine X_iconst (pc := 155) (v := 1) C dX7_userTold_155 (by decide) ?_
              refine X_goto (pc := 156) C 163 dX7_userTold_156 (by decide) ?_
              refine X_istore_n (pc := 163) (lv1 := [(0, _), (1, _), (2, _), (3, _)]) C 3 dX7_userTold_163 rfl (by decide) rfl ?_
              refine X_iconst (pc := 164) (v := 0) C dX7_userTold_164 (by decide) ?_
              refine X_istore (pc := 165) (lv1 := [(0, _), (1, _), (2, _), (3, _), (4, _)]) C dX7_userTold_165 (by decide) rfl ?_
              refine XW.eq (σ' := mW τ (mUtS2 (τ.1 (.inr 16)) n S F L) (mUt6 (τ.1 (.inr 16)) n S F L) (mUtL (τ.1 (.inr 16)) n S F L)) (lv' := [(0, .ref (P.2.2.1 (.inr 9))), (1, .int (nI (mU S))), (2, .int (mUtX (τ.1 (.inr 16)) n S F L)), (3, .int (mUtY (τ.1 (.inr 16)) n S F L)), (4, .int (nI 0))]) (by rw [e6]) (by rw [eY]; rfl) rfl ?_
              refine L2_X7_userTold C h1 (u := mU S) (by omega) mUtY_ok (fun j hj => by rw [sU, mUtS2_o g78 (by omega)]; exact hC j hj) (mU S) 0 _ (by omega) ?_
              refine XW.eq (σ' := mW τ (mUtS2 (τ.1 (.inr 16)) n S F L) (mUt7 (τ.1 (.inr 16)) n S F L) (mUtL (τ.1 (.inr 16)) n S F L)) (by rfl) rfl rfl ?_
              refine X_aload_n (pc := 235) C 0 dX7_userTold_235 rfl rfl ?_
              refine K_X7_194 (pc := 236) C (by assumption) (c_X7_go l P _ _ _ _ h1 n (mUt7_TK hT)) ⟨Nat.le_of_ble_eq_true rfl, Nat.le_of_ble_eq_true rfl⟩ ⟨rfl, rfl⟩ ⟨Nat.zero_le _, Nat.zero_le _⟩ (Nat.le_of_ble_eq_true rfl) dX7_userTold_236 ?_
              refine XW.eq (σ' := mW τ (mUtS2 (τ.1 (.inr 16)) n S F L) (mUt8 (τ.1 (.inr 16)) n S F L) (mUtL (τ.1 (.inr 16)) n S F L)) (by rfl) rfl rfl ?_
              refine X_aload_n (pc := 239) C 0 dX7_userTold_239 rfl rfl ?_
              refine X_iload_n (pc := 240) C 1 dX7_userTold_240 rfl rfl ?_
              refine X_iconst (pc := 241) (v := 0) C dX7_userTold_241 (by decide) ?_
              refine X_iload_n (pc := 242) C 2 dX7_userTold_242 rfl rfl ?_
              refine K_X7_123 (pc := 243) C (by assumption) (c_X7_putUser l P _ _ _ _ h1 (mU S) 0 hlt (by decide) _ 0 _ rfl rfl) ⟨Nat.le_of_ble_eq_true rfl, Nat.le_of_ble_eq_true rfl⟩ ⟨rfl, rfl⟩ ⟨Nat.zero_le _, Nat.zero_le _⟩ (Nat.le_of_ble_eq_true rfl) dX7_userTold_243 ?_
              skip
              refine X_aload_n (pc := 246) C 0 dX7_userTold_246 rfl rfl ?_
              refine X_iload_n (pc := 247) C 1 dX7_userTold_247 rfl rfl ?_
              refine X_iconst (pc := 248) (v := 1) C dX7_userTold_248 (by decide) ?_
              refine X_iload_n (pc := 249) C 3 dX7_userTold_249 rfl rfl ?_
              refine K_X7_123 (pc := 250) C (by assumption) (c_X7_putUser l P _ _ _ _ h1 (mU S) 1 hlt (by decide) _ 1 _ rfl rfl) ⟨Nat.le_of_ble_eq_true rfl, Nat.le_of_ble_eq_true rfl⟩ ⟨rfl, rfl⟩ ⟨Nat.zero_le _, Nat.zero_le _⟩ (Nat.le_of_ble_eq_true rfl) dX7_userTold_250 ?_
              refine X_aload_n (pc := 253) C 0 dX7_userTold_253 rfl rfl ?_
              refine X_iload_n (pc := 254) C 1 dX7_userTold_254 rfl rfl ?_
              refine X_iconst (pc := 255) (v := 2) C dX7_userTold_255 (by decide) ?_
              refine X_aload_n (pc := 256) C 0 dX7_userTold_256 rfl rfl ?_
              refine X_iconst (pc := 257) (v := 0) C dX7_userTold_257 (by decide) ?_
              refine X_bipush (pc := 258) (v := 9) C dX7_userTold_258 (by decide) ?_
              refine K_X7_203 (pc := 260) C (by assumption) (c_X7_number l P _ _ _ _ h1 n (mUt8_TK hT) 0 9) ⟨Nat.le_of_ble_eq_true rfl, Nat.le_of_ble_eq_true rfl⟩ ⟨rfl, rfl⟩ ⟨Nat.zero_le _, Nat.zero_le _⟩ (Nat.le_of_ble_eq_true rfl) dX7_userTold_260 ?_
              refine K_X7_123 (pc := 263) C (by assumption) (c_X7_putUser l P _ _ _ _ h1 (mU S) 2 hlt (by decide) _ 2 _ rfl rfl) ⟨Nat.le_of_ble_eq_true rfl, Nat.le_of_ble_eq_true rfl⟩ ⟨rfl, rfl⟩ ⟨Nat.zero_le _, Nat.zero_le _⟩ (Nat.le_of_ble_eq_true rfl) dX7_userTold_263 ?_
              refine XW.eq (σ' := mW τ (upd (upd (upd (mUtS2 (τ.1 (.inr 16)) n S F L) (10 + 12 * mU S + 0) (mUtX (τ.1 (.inr 16)) n S F L)) (10 + 12 * mU S + 1) (mUtY (τ.1 (.inr 16)) n S F L)) (10 + 12 * mU S + 2) (mUtZ (τ.1 (.inr 16)) n S F L)) (mUt9 (τ.1 (.inr 16)) n S F L) (mUtL (τ.1 (.inr 16)) n S F L)) (by rfl) rfl rfl ?_
              refine X_aload_n (pc := 266) C 0 dX7_userTold_266 rfl rfl ?_
              refine X_iload_n (pc := 267) C 1 dX7_userTold_267 rfl rfl ?_
              refine X_iconst (pc := 268) (v := 4) C dX7_userTold_268 (by decide) ?_
              refine X_iconst (pc := 269) (v := 1) C dX7_userTold_269 (by decide) ?_
              refine X_iload_n (pc := 270) C 1 dX7_userTold_270 rfl rfl ?_
              refine X_ishl (pc := 271) C dX7_userTold_271 ?_
              refine K_X7_123 (pc := 272) C (by assumption) (c_X7_putUser l P _ _ _ _ h1 (mU S) 4 hlt (by decide) _ 4 _ rfl rfl) ⟨Nat.le_of_ble_eq_true rfl, Nat.le_of_ble_eq_true rfl⟩ ⟨rfl, rfl⟩ ⟨Nat.zero_le _, Nat.zero_le _⟩ (Nat.le_of_ble_eq_true rfl) dX7_userTold_272 ?_
              refine XW.eq (σ' := mW τ (mUtS4 (τ.1 (.inr 16)) n S F L) (mUt9 (τ.1 (.inr 16)) n S F L) (mUtL (τ.1 (.inr 16)) n S F L)) (by rfl) rfl rfl ?_
              refine X_aload_n (pc := 275) C 0 dX7_userTold_275 rfl rfl ?_
              refine X_aload_n (pc := 276) C 0 dX7_userTold_276 rfl rfl ?_
              refine G_X7_164 (pc := 277) C (by assumption) dX7_userTold_277 ?_
              rw [mW_9]
              refine X_iconst (pc := 280) (v := 3) C dX7_userTold_280 (by decide) ?_
              refine X_icmp_eq (pc := 281) C 288 dX7_userTold_281 (by decide) (fun h281 => ?_) (fun h281 => ?_)
              · have g281 : (if (mUt9 (τ.1 (.inr 16)) n S F L) 16 = 3 then (0 : Int32) else 1) = 0 := if_pos h281
                refine X_iconst (pc := 288) (v := 0) C dX7_userTold_288 (by decide) ?_
                refine X_iconst (pc := 289) (v := 1) C dX7_userTold_289 (by decide) ?_
                refine K_X7_190 (pc := 290) C (by assumption) (c_X7_wrong l P _ _ _ _ h1 _ _) ⟨Nat.le_of_ble_eq_true rfl, Nat.le_of_ble_eq_true rfl⟩ ⟨rfl, rfl⟩ ⟨Nat.zero_le _, Nat.zero_le _⟩ (Nat.le_of_ble_eq_true rfl) dX7_userTold_290 ?_
                refine XW.eq (σ' := mW τ (mUtS4 (τ.1 (.inr 16)) n S F L) (mWr (mUt9 (τ.1 (.inr 16)) n S F L) (if (mUt9 (τ.1 (.inr 16)) n S F L) 16 = 3 then (0 : Int32) else 1) 1) (mUtL (τ.1 (.inr 16)) n S F L)) (by rw [g281]) rfl rfl ?_
                refine X_aload_n (pc := 293) C 0 dX7_userTold_293 rfl rfl ?_
                refine K_X7_194 (pc := 294) C (by assumption) (c_X7_go l P _ _ _ _ h1 n (mWr_TK (mUt9_TK hT))) ⟨Nat.le_of_ble_eq_true rfl, Nat.le_of_ble_eq_true rfl⟩ ⟨rfl, rfl⟩ ⟨Nat.zero_le _, Nat.zero_le _⟩ (Nat.le_of_ble_eq_true rfl) dX7_userTold_294 ?_
                refine XW.eq (σ' := mW τ (mUtS4 (τ.1 (.inr 16)) n S F L) (mUtA (τ.1 (.inr 16)) n S F L) (mUtL (τ.1 (.inr 16)) n S F L)) (by rfl) rfl rfl ?_
                refine X_aload_n (pc := 297) C 0 dX7_userTold_297 rfl rfl ?_
                refine G_X7_180 (pc := 298) C (by assumption) dX7_userTold_298 ?_
                rw [mW_9]
                refine X_if_ne (pc := 301) C 314 dX7_userTold_301 (by decide) (fun h301 => ?_) (fun h301 => ?_)
                · skip
                  exact X_vret (pc := 314) C (Nat.zero_le _) (Nat.zero_le _) dX7_userTold_314 ⟨rfl, by first | rw [mUtS, mUtF, if_pos g78, if_pos g78, if_pos h301] | rw [mUtS, mUtF, if_pos g78, if_pos g78, if_neg h301]⟩
                · skip
                  refine X_aload_n (pc := 304) C 0 dX7_userTold_304 rfl rfl ?_
                  refine G_X7_9 (pc := 305) C (by assumption) dX7_userTold_305 ?_
                  refine X_iconst (pc := 308) (v := 4) C dX7_userTold_308 (by decide) ?_
                  refine X_dup2 (pc := 309) C dX7_userTold_309 rfl rfl ?_
                  refine X_ialdN (j := 4) (pc := 310) C (by first | exact h1 _ (by decide) (by decide)) rfl (by omega) (by decide) dX7_userTold_310 ?_
                  rw [mW_10]
                  rw [mUtS4_o g78 (by omega), hM.u]
                  refine X_iconst (pc := 311) (v := 1) C dX7_userTold_311 (by decide) ?_
                  refine X_iadd (pc := 312) C dX7_userTold_312 ?_
                  rw [nI_1]
                  refine X_iastN (j := 4) (pc := 313) C (by first | exact h1 _ (by decide) (by decide)) rfl (by omega) (by decide) dX7_userTold_313 ?_
                  rw [mW_u10]
                  exact X_vret (pc := 314) C (Nat.zero_le _) (Nat.zero_le _) dX7_userTold_314 ⟨rfl, by first | rw [mUtS, mUtF, if_pos g78, if_pos g78, if_pos h301] | rw [mUtS, mUtF, if_pos g78, if_pos g78, if_neg h301]⟩
              · have g281 : (if (mUt9 (τ.1 (.inr 16)) n S F L) 16 = 3 then (0 : Int32) else 1) = 1 := if_neg h281
                refine X_iconst (pc := 284) (v := 1) C dX7_userTold_284 (by decide) ?_
                refine X_goto (pc := 285) C 289 dX7_userTold_285 (by decide) ?_
                refine X_iconst (pc := 289) (v := 1) C dX7_userTold_289 (by decide) ?_
                refine K_X7_190 (pc := 290) C (by assumption) (c_X7_wrong l P _ _ _ _ h1 _ _) ⟨Nat.le_of_ble_eq_true rfl, Nat.le_of_ble_eq_true rfl⟩ ⟨rfl, rfl⟩ ⟨Nat.zero_le _, Nat.zero_le _⟩ (Nat.le_of_ble_eq_true rfl) dX7_userTold_290 ?_
                refine XW.eq (σ' := mW τ (mUtS4 (τ.1 (.inr 16)) n S F L) (mWr (mUt9 (τ.1 (.inr 16)) n S F L) (if (mUt9 (τ.1 (.inr 16)) n S F L) 16 = 3 then (0 : Int32) else 1) 1) (mUtL (τ.1 (.inr 16)) n S F L)) (by rw [g281]) rfl rfl ?_
                refine X_aload_n (pc := 293) C 0 dX7_userTold_293 rfl rfl ?_
                refine K_X7_194 (pc := 294) C (by assumption) (c_X7_go l P _ _ _ _ h1 n (mWr_TK (mUt9_TK hT))) ⟨Nat.le_of_ble_eq_true rfl, Nat.le_of_ble_eq_true rfl⟩ ⟨rfl, rfl⟩ ⟨Nat.zero_le _, Nat.zero_le _⟩ (Nat.le_of_ble_eq_true rfl) dX7_userTold_294 ?_
                refine XW.eq (σ' := mW τ (mUtS4 (τ.1 (.inr 16)) n S F L) (mUtA (τ.1 (.inr 16)) n S F L) (mUtL (τ.1 (.inr 16)) n S F L)) (by rfl) rfl rfl ?_
                refine X_aload_n (pc := 297) C 0 dX7_userTold_297 rfl rfl ?_
                refine G_X7_180 (pc := 298) C (by assumption) dX7_userTold_298 ?_
                rw [mW_9]
                refine X_if_ne (pc := 301) C 314 dX7_userTold_301 (by decide) (fun h301 => ?_) (fun h301 => ?_)
                · skip
                  exact X_vret (pc := 314) C (Nat.zero_le _) (Nat.zero_le _) dX7_userTold_314 ⟨rfl, by first | rw [mUtS, mUtF, if_pos g78, if_pos g78, if_pos h301] | rw [mUtS, mUtF, if_pos g78, if_pos g78, if_neg h301]⟩
                · skip
                  refine X_aload_n (pc := 304) C 0 dX7_userTold_304 rfl rfl ?_
                  refine G_X7_9 (pc := 305) C (by assumption) dX7_userTold_305 ?_
                  refine X_iconst (pc := 308) (v := 4) C dX7_userTold_308 (by decide) ?_
                  refine X_dup2 (pc := 309) C dX7_userTold_309 rfl rfl ?_
                  refine X_ialdN (j := 4) (pc := 310) C (by first | exact h1 _ (by decide) (by decide)) rfl (by omega) (by decide) dX7_userTold_310 ?_
                  rw [mW_10]
                  rw [mUtS4_o g78 (by omega), hM.u]
                  refine X_iconst (pc := 311) (v := 1) C dX7_userTold_311 (by decide) ?_
                  refine X_iadd (pc := 312) C dX7_userTold_312 ?_
                  rw [nI_1]
                  refine X_iastN (j := 4) (pc := 313) C (by first | exact h1 _ (by decide) (by decide)) rfl (by omega) (by decide) dX7_userTold_313 ?_
                  rw [mW_u10]
                  exact X_vret (pc := 314) C (Nat.zero_le _) (Nat.zero_le _) dX7_userTold_314 ⟨rfl, by first | rw [mUtS, mUtF, if_pos g78, if_pos g78, if_pos h301] | rw [mUtS, mUtF, if_pos g78, if_pos g78, if_neg h301]⟩
          · skip
            exact X_vret (pc := 81) C (Nat.zero_le _) (Nat.zero_le _) dX7_userTold_81 ⟨rfl, by rw [mUtS, mUtF, if_neg h78, if_neg h78]⟩
  · have g7 : (if mIs (τ.1 (.inr 16)) F 2 = 0 then (1 : Int32) else 0) = 1 := if_pos h7
    refine X_iconst (pc := 10) (v := 1) C dX7_userTold_10 (by decide) ?_
    refine X_goto (pc := 11) C 15 dX7_userTold_11 (by decide) ?_
    refine X_iconst (pc := 15) (v := 1) C dX7_userTold_15 (by decide) ?_
    refine K_X7_190 (pc := 16) C (by assumption) (c_X7_wrong l P _ _ _ _ h1 _ _) ⟨Nat.le_of_ble_eq_true rfl, Nat.le_of_ble_eq_true rfl⟩ ⟨rfl, rfl⟩ ⟨Nat.zero_le _, Nat.zero_le _⟩ (Nat.le_of_ble_eq_true rfl) dX7_userTold_16 ?_
    refine XW.eq (σ' := mW τ S (mWr F (if mIs (τ.1 (.inr 16)) F 2 = 0 then (1 : Int32) else 0) 1) L) (by rw [g7]) rfl rfl ?_
    refine X_aload_n (pc := 19) C 0 dX7_userTold_19 rfl rfl ?_
    refine X_aload_n (pc := 20) C 0 dX7_userTold_20 rfl rfl ?_
    refine G_X7_9 (pc := 21) C (by assumption) dX7_userTold_21 ?_
    refine X_iconst (pc := 24) (v := 4) C dX7_userTold_24 (by decide) ?_
    refine X_ialdN (j := 4) (pc := 25) C (by first | exact h1 _ (by decide) (by decide)) rfl (by omega) (by decide) dX7_userTold_25 ?_
    rw [mW_10]
    refine X_bipush (pc := 26) (v := 15) C dX7_userTold_26 (by decide) ?_
    refine X_icmp_ne (pc := 28) C 35 dX7_userTold_28 (by decide) (fun h28 => ?_) (fun h28 => ?_)
    · have g28 : (if S 4 = 15 then (1 : Int32) else 0) = 0 := if_neg h28
      refine X_iconst (pc := 35) (v := 0) C dX7_userTold_35 (by decide) ?_
      refine X_bipush (pc := 36) (v := 6) C dX7_userTold_36 (by decide) ?_
      refine K_X7_190 (pc := 38) C (by assumption) (c_X7_wrong l P _ _ _ _ h1 _ _) ⟨Nat.le_of_ble_eq_true rfl, Nat.le_of_ble_eq_true rfl⟩ ⟨rfl, rfl⟩ ⟨Nat.zero_le _, Nat.zero_le _⟩ (Nat.le_of_ble_eq_true rfl) dX7_userTold_38 ?_
      refine XW.eq (σ' := mW τ S (mWr (mWr F (if mIs (τ.1 (.inr 16)) F 2 = 0 then (1 : Int32) else 0) 1) (if S 4 = 15 then (1 : Int32) else 0) 6) L) (by rw [g28]) rfl rfl ?_
      refine X_aload_n (pc := 41) C 0 dX7_userTold_41 rfl rfl ?_
      refine K_X7_194 (pc := 42) C (by assumption) (c_X7_go l P _ _ _ _ h1 n (mWr_TK (mWr_TK hT))) ⟨Nat.le_of_ble_eq_true rfl, Nat.le_of_ble_eq_true rfl⟩ ⟨rfl, rfl⟩ ⟨Nat.zero_le _, Nat.zero_le _⟩ (Nat.le_of_ble_eq_true rfl) dX7_userTold_42 ?_
      refine XW.eq (σ' := mW τ S (mUt1 (τ.1 (.inr 16)) n S F) L) (by rfl) rfl rfl ?_
      refine X_aload_n (pc := 45) C 0 dX7_userTold_45 rfl rfl ?_
      refine K_X7_197 (pc := 46) C (by assumption) (c_X7_nameHere l P _ _ _ _ h1 n (mUt1_TK hT)) ⟨Nat.le_of_ble_eq_true rfl, Nat.le_of_ble_eq_true rfl⟩ ⟨rfl, rfl⟩ ⟨Nat.zero_le _, Nat.zero_le _⟩ (Nat.le_of_ble_eq_true rfl) dX7_userTold_46 ?_
      refine XW.eq (σ' := mW τ S (mUt2 (τ.1 (.inr 16)) n S F) (mUtL (τ.1 (.inr 16)) n S F L)) (by rfl) rfl rfl ?_
      refine X_aload_n (pc := 49) C 0 dX7_userTold_49 rfl rfl ?_
      refine X_aload_n (pc := 50) C 0 dX7_userTold_50 rfl rfl ?_
      refine G_X7_180 (pc := 51) C (by assumption) dX7_userTold_51 ?_
      rw [mW_9]
      refine X_if_ne (pc := 54) C 69 dX7_userTold_54 (by decide) (fun h54 => ?_) (fun h54 => ?_)
      · have g62 : (if (mUt2 (τ.1 (.inr 16)) n S F) 20 = 0 ∧ ¬ mNmd S (mUt2 (τ.1 (.inr 16)) n S F) (mUtL (τ.1 (.inr 16)) n S F L) = -1 then (1 : Int32) else 0) = 0 := if_neg (fun q => h54 q.1)
        refine X_iconst (pc := 69) (v := 0) C dX7_userTold_69 (by decide) ?_
        refine X_iconst (pc := 70) (v := 4) C dX7_userTold_70 (by decide) ?_
        refine K_X7_190 (pc := 71) C (by assumption) (c_X7_wrong l P _ _ _ _ h1 _ _) ⟨Nat.le_of_ble_eq_true rfl, Nat.le_of_ble_eq_true rfl⟩ ⟨rfl, rfl⟩ ⟨Nat.zero_le _, Nat.zero_le _⟩ (Nat.le_of_ble_eq_true rfl) dX7_userTold_71 ?_
        refine XW.eq (σ' := mW τ S (mUt3 (τ.1 (.inr 16)) n S F L) (mUtL (τ.1 (.inr 16)) n S F L)) (by rw [mUt3, g62]) rfl rfl ?_
        refine X_aload_n (pc := 74) C 0 dX7_userTold_74 rfl rfl ?_
        refine G_X7_180 (pc := 75) C (by assumption) dX7_userTold_75 ?_
        rw [mW_9]
        refine X_if_eq (pc := 78) C 82 dX7_userTold_78 (by decide) (fun h78 => ?_) (fun h78 => ?_)
        · have g78 := h78
          have hlt := mUt_lt hM h78
          refine X_aload_n (pc := 82) C 0 dX7_userTold_82 rfl rfl ?_
          refine G_X7_9 (pc := 83) C (by assumption) dX7_userTold_83 ?_
          refine X_iconst (pc := 86) (v := 4) C dX7_userTold_86 (by decide) ?_
          refine X_ialdN (j := 4) (pc := 87) C (by first | exact h1 _ (by decide) (by decide)) rfl (by omega) (by decide) dX7_userTold_87 ?_
          rw [mW_10]
          rw [hM.u]
          refine X_istore_n (pc := 88) (lv1 := [(0, _), (1, _)]) C 1 dX7_userTold_88 rfl (by decide) rfl ?_
          refine X_aload_n (pc := 89) C 0 dX7_userTold_89 rfl rfl ?_
          refine X_iload_n (pc := 90) C 1 dX7_userTold_90 rfl rfl ?_
          refine X_iconst (pc := 91) (v := 5) C dX7_userTold_91 (by decide) ?_
          refine X_aload_n (pc := 92) C 0 dX7_userTold_92 rfl rfl ?_
          refine G_X7_148 (pc := 93) C (by assumption) dX7_userTold_93 ?_
          rw [mW_9]
          refine K_X7_123 (pc := 96) C (by assumption) (c_X7_putUser l P _ _ _ _ h1 (mU S) 5 hlt (by decide) _ 5 _ rfl rfl) ⟨Nat.le_of_ble_eq_true rfl, Nat.le_of_ble_eq_true rfl⟩ ⟨rfl, rfl⟩ ⟨Nat.zero_le _, Nat.zero_le _⟩ (Nat.le_of_ble_eq_true rfl) dX7_userTold_96 ?_
          refine XW.eq (σ' := mW τ (upd S (10 + 12 * mU S + 5) ((mUt3 (τ.1 (.inr 16)) n S F L) 15)) (mUt3 (τ.1 (.inr 16)) n S F L) (mUtL (τ.1 (.inr 16)) n S F L)) (by rfl) rfl rfl ?_
          refine X_iconst (pc := 99) (v := 0) C dX7_userTold_99 (by decide) ?_
          refine X_istore_n (pc := 100) (lv1 := [(0, _), (1, _), (2, _)]) C 2 dX7_userTold_100 rfl (by decide) rfl ?_
          have g15 := mUt3_15 g78
          refine L1_X7_userTold C h1 hlt g15.1 g15.2 ?_ (cN ((mUt3 (τ.1 (.inr 16)) n S F L) 15)) 0 (by omega)
          refine XW.eq (σ' := mW τ (mUtS2 (τ.1 (.inr 16)) n S F L) (mUt3 (τ.1 (.inr 16)) n S F L) (mUtL (τ.1 (.inr 16)) n S F L)) (by rfl) rfl rfl ?_
          refine X_aload_n (pc := 130) C 0 dX7_userTold_130 rfl rfl ?_
          refine K_X7_194 (pc := 131) C (by assumption) (c_X7_go l P _ _ _ _ h1 n (mUt3_TK hT)) ⟨Nat.le_of_ble_eq_true rfl, Nat.le_of_ble_eq_true rfl⟩ ⟨rfl, rfl⟩ ⟨Nat.zero_le _, Nat.zero_le _⟩ (Nat.le_of_ble_eq_true rfl) dX7_userTold_131 ?_
          refine XW.eq (σ' := mW τ (mUtS2 (τ.1 (.inr 16)) n S F L) (mUt4 (τ.1 (.inr 16)) n S F L) (mUtL (τ.1 (.inr 16)) n S F L)) (by rfl) rfl rfl ?_
          refine X_aload_n (pc := 134) C 0 dX7_userTold_134 rfl rfl ?_
          refine X_iconst (pc := 135) (v := 0) C dX7_userTold_135 (by decide) ?_
          refine X_aload_n (pc := 136) C 0 dX7_userTold_136 rfl rfl ?_
          refine G_X7_9 (pc := 137) C (by assumption) dX7_userTold_137 ?_
          refine X_iconst (pc := 140) (v := 1) C dX7_userTold_140 (by decide) ?_
          refine X_ialdN (j := 1) (pc := 141) C (by first | exact h1 _ (by decide) (by decide)) rfl (by omega) (by decide) dX7_userTold_141 ?_
          rw [mW_10]
          rw [mUtS2_o g78 (by omega)]
          refine X_iconst (pc := 142) (v := 1) C dX7_userTold_142 (by decide) ?_
          refine X_isub (pc := 143) C dX7_userTold_143 ?_
          refine K_X7_203 (pc := 144) C (by assumption) (c_X7_number l P _ _ _ _ h1 n (mUt4_TK hT) 0 _) ⟨Nat.le_of_ble_eq_true rfl, Nat.le_of_ble_eq_true rfl⟩ ⟨rfl, rfl⟩ ⟨Nat.zero_le _, Nat.zero_le _⟩ (Nat.le_of_ble_eq_true rfl) dX7_userTold_144 ?_
          refine XW.eq (σ' := mW τ (mUtS2 (τ.1 (.inr 16)) n S F L) (mUt5 (τ.1 (.inr 16)) n S F L) (mUtL (τ.1 (.inr 16)) n S F L)) (st' := [.int (mUtX (τ.1 (.inr 16)) n S F L)]) rfl rfl rfl ?_
          refine X_istore_n (pc := 147) (lv1 := [(0, _), (1, _), (2, _)]) C 2 dX7_userTold_147 rfl (by decide) rfl ?_
          refine X_aload_n (pc := 148) C 0 dX7_userTold_148 rfl rfl ?_
          refine G_X7_180 (pc := 149) C (by assumption) dX7_userTold_149 ?_
          rw [mW_9]
          refine X_if_eq (pc := 152) C 159 dX7_userTold_152 (by decide) (fun h152 => ?_) (fun h152 => ?_)
          · have e6 : (mUt6 (τ.1 (.inr 16)) n S F L) = (mRh (τ.1 (.inr 16)) (mUt5 (τ.1 (.inr 16)) n S F L)).1 := if_pos h152
            have eY : (mUtY (τ.1 (.inr 16)) n S F L) = (mRh (τ.1 (.inr 16)) (mUt5 (τ.1 (.inr 16)) n S F L)).2 := if_pos h152
            refine X_aload_n (pc := 159) C 0 dX7_userTold_159 rfl rfl ?_
            refine K_X7_212 (pc := 160) C (by assumption) (c_X7_ringsHere l P _ _ _ _ h1 n (mUt5_TK hT)) ⟨Nat.le_of_ble_eq_true rfl, Nat.le_of_ble_eq_true rfl⟩ ⟨rfl, rfl⟩ ⟨Nat.zero_le _, Nat.zero_le _⟩ (Nat.le_of_ble_eq_true rfl) dX7_userTold_160 ?_
            refine X_istore_n (pc := 163) (lv1 := [(0, _), (1, _), (2, _), (3, _)]) C 3 dX7_userTold_163 rfl (by decide) rfl ?_
            refine X_iconst (pc := 164) (v := 0) C dX7_userTold_164 (by decide) ?_
            refine X_istore (pc := 165) (lv1 := [(0, _), (1, _), (2, _), (3, _), (4, _)]) C dX7_userTold_165 (by decide) rfl ?_
            refine XW.eq (σ' := mW τ (mUtS2 (τ.1 (.inr 16)) n S F L) (mUt6 (τ.1 (.inr 16)) n S F L) (mUtL (τ.1 (.inr 16)) n S F L)) (lv' := [(0, .ref (P.2.2.1 (.inr 9))), (1, .int (nI (mU S))), (2, .int (mUtX (τ.1 (.inr 16)) n S F L)), (3, .int (mUtY (τ.1 (.inr 16)) n S F L)), (4, .int (nI 0))]) (by rw [e6]) (by rw [eY]; rfl) rfl ?_
            refine L2_X7_userTold C h1 (u := mU S) (by omega) mUtY_ok (fun j hj => by rw [sU, mUtS2_o g78 (by omega)]; exact hC j hj) (mU S) 0 _ (by omega) ?_
            refine XW.eq (σ' := mW τ (mUtS2 (τ.1 (.inr 16)) n S F L) (mUt7 (τ.1 (.inr 16)) n S F L) (mUtL (τ.1 (.inr 16)) n S F L)) (by rfl) rfl rfl ?_
            refine X_aload_n (pc := 235) C 0 dX7_userTold_235 rfl rfl ?_
            refine K_X7_194 (pc := 236) C (by assumption) (c_X7_go l P _ _ _ _ h1 n (mUt7_TK hT)) ⟨Nat.le_of_ble_eq_true rfl, Nat.le_of_ble_eq_true rfl⟩ ⟨rfl, rfl⟩ ⟨Nat.zero_le _, Nat.zero_le _⟩ (Nat.le_of_ble_eq_true rfl) dX7_userTold_236 ?_
            refine XW.eq (σ' := mW τ (mUtS2 (τ.1 (.inr 16)) n S F L) (mUt8 (τ.1 (.inr 16)) n S F L) (mUtL (τ.1 (.inr 16)) n S F L)) (by rfl) rfl rfl ?_
            refine X_aload_n (pc := 239) C 0 dX7_userTold_239 rfl rfl ?_
            refine X_iload_n (pc := 240) C 1 dX7_userTold_240 rfl rfl ?_
            refine X_iconst (pc := 241) (v := 0) C dX7_userTold_241 (by decide) ?_
            refine X_iload_n (pc := 242) C 2 dX7_userTold_242 rfl rfl ?_
            refine K_X7_123 (pc := 243) C (by assumption) (c_X7_putUser l P _ _ _ _ h1 (mU S) 0 hlt (by decide) _ 0 _ rfl rfl) ⟨Nat.le_of_ble_eq_true rfl, Nat.le_of_ble_eq_true rfl⟩ ⟨rfl, rfl⟩ ⟨Nat.zero_le _, Nat.zero_le _⟩ (Nat.le_of_ble_eq_true rfl) dX7_userTold_243 ?_
            skip
            refine X_aload_n (pc := 246) C 0 dX7_userTold_246 rfl rfl ?_
            refine X_iload_n (pc := 247) C 1 dX7_userTold_247 rfl rfl ?_
            refine X_iconst (pc := 248) (v := 1) C dX7_userTold_248 (by decide) ?_
            refine X_iload_n (pc := 249) C 3 dX7_userTold_249 rfl rfl ?_
            refine K_X7_123 (pc := 250) C (by assumption) (c_X7_putUser l P _ _ _ _ h1 (mU S) 1 hlt (by decide) _ 1 _ rfl rfl) ⟨Nat.le_of_ble_eq_true rfl, Nat.le_of_ble_eq_true rfl⟩ ⟨rfl, rfl⟩ ⟨Nat.zero_le _, Nat.zero_le _⟩ (Nat.le_of_ble_eq_true rfl) dX7_userTold_250 ?_
            refine X_aload_n (pc := 253) C 0 dX7_userTold_253 rfl rfl ?_
            refine X_iload_n (pc := 254) C 1 dX7_userTold_254 rfl rfl ?_
            refine X_iconst (pc := 255) (v := 2) C dX7_userTold_255 (by decide) ?_
            refine X_aload_n (pc := 256) C 0 dX7_userTold_256 rfl rfl ?_
            refine X_iconst (pc := 257) (v := 0) C dX7_userTold_257 (by decide) ?_
            refine X_bipush (pc := 258) (v := 9) C dX7_userTold_258 (by decide) ?_
            refine K_X7_203 (pc := 260) C (by assumption) (c_X7_number l P _ _ _ _ h1 n (mUt8_TK hT) 0 9) ⟨Nat.le_of_ble_eq_true rfl, Nat.le_of_ble_eq_true rfl⟩ ⟨rfl, rfl⟩ ⟨Nat.zero_le _, Nat.zero_le _⟩ (Nat.le_of_ble_eq_true rfl) dX7_userTold_260 ?_
            refine K_X7_123 (pc := 263) C (by assumption) (c_X7_putUser l P _ _ _ _ h1 (mU S) 2 hlt (by decide) _ 2 _ rfl rfl) ⟨Nat.le_of_ble_eq_true rfl, Nat.le_of_ble_eq_true rfl⟩ ⟨rfl, rfl⟩ ⟨Nat.zero_le _, Nat.zero_le _⟩ (Nat.le_of_ble_eq_true rfl) dX7_userTold_263 ?_
            refine XW.eq (σ' := mW τ (upd (upd (upd (mUtS2 (τ.1 (.inr 16)) n S F L) (10 + 12 * mU S + 0) (mUtX (τ.1 (.inr 16)) n S F L)) (10 + 12 * mU S + 1) (mUtY (τ.1 (.inr 16)) n S F L)) (10 + 12 * mU S + 2) (mUtZ (τ.1 (.inr 16)) n S F L)) (mUt9 (τ.1 (.inr 16)) n S F L) (mUtL (τ.1 (.inr 16)) n S F L)) (by rfl) rfl rfl ?_
            refine X_aload_n (pc := 266) C 0 dX7_userTold_266 rfl rfl ?_
            refine X_iload_n (pc := 267) C 1 dX7_userTold_267 rfl rfl ?_
            refine X_iconst (pc := 268) (v := 4) C dX7_userTold_268 (by decide) ?_
            refine X_iconst (pc := 269) (v := 1) C dX7_userTold_269 (by decide) ?_
            refine X_iload_n (pc := 270) C 1 dX7_userTold_270 rfl rfl ?_
            refine X_ishl (pc := 271) C dX7_userTold_271 ?_
            refine K_X7_123 (pc := 272) C (by assumption) (c_X7_putUser l P _ _ _ _ h1 (mU S) 4 hlt (by decide) _ 4 _ rfl rfl) ⟨Nat.le_of_ble_eq_true rfl, Nat.le_of_ble_eq_true rfl⟩ ⟨rfl, rfl⟩ ⟨Nat.zero_le _, Nat.zero_le _⟩ (Nat.le_of_ble_eq_true rfl) dX7_userTold_272 ?_
            refine XW.eq (σ' := mW τ (mUtS4 (τ.1 (.inr 16)) n S F L) (mUt9 (τ.1 (.inr 16)) n S F L) (mUtL (τ.1 (.inr 16)) n S F L)) (by rfl) rfl rfl ?_
            refine X_aload_n (pc := 275) C 0 dX7_userTold_275 rfl rfl ?_
            refine X_aload_n (pc := 276) C 0 dX7_userTold_276 rfl rfl ?_
            refine G_X7_164 (pc := 277) C (by assumption) dX7_userTold_277 ?_
            rw [mW_9]
            refine X_iconst (pc := 280) (v := 3) C dX7_userTold_280 (by decide) ?_
            refine X_icmp_eq (pc := 281) C 288 dX7_userTold_281 (by decide) (fun h281 => ?_) (fun h281 => ?_)
            · have g281 : (if (mUt9 (τ.1 (.inr 16)) n S F L) 16 = 3 then (0 : Int32) else 1) = 0 := if_pos h281
              refine X_iconst (pc := 288) (v := 0) C dX7_userTold_288 (by decide) ?_
              refine X_iconst (pc := 289) (v := 1) C dX7_userTold_289 (by decide) ?_
              refine K_X7_190 (pc := 290) C (by assumption) (c_X7_wrong l P _ _ _ _ h1 _ _) ⟨Nat.le_of_ble_eq_true rfl, Nat.le_of_ble_eq_true rfl⟩ ⟨rfl, rfl⟩ ⟨Nat.zero_le _, Nat.zero_le _⟩ (Nat.le_of_ble_eq_true rfl) dX7_userTold_290 ?_
              refine XW.eq (σ' := mW τ (mUtS4 (τ.1 (.inr 16)) n S F L) (mWr (mUt9 (τ.1 (.inr 16)) n S F L) (if (mUt9 (τ.1 (.inr 16)) n S F L) 16 = 3 then (0 : Int32) else 1) 1) (mUtL (τ.1 (.inr 16)) n S F L)) (by rw [g281]) rfl rfl ?_
              refine X_aload_n (pc := 293) C 0 dX7_userTold_293 rfl rfl ?_
              refine K_X7_194 (pc := 294) C (by assumption) (c_X7_go l P _ _ _ _ h1 n (mWr_TK (mUt9_TK hT))) ⟨Nat.le_of_ble_eq_true rfl, Nat.le_of_ble_eq_true rfl⟩ ⟨rfl, rfl⟩ ⟨Nat.zero_le _, Nat.zero_le _⟩ (Nat.le_of_ble_eq_true rfl) dX7_userTold_294 ?_
              refine XW.eq (σ' := mW τ (mUtS4 (τ.1 (.inr 16)) n S F L) (mUtA (τ.1 (.inr 16)) n S F L) (mUtL (τ.1 (.inr 16)) n S F L)) (by rfl) rfl rfl ?_
              refine X_aload_n (pc := 297) C 0 dX7_userTold_297 rfl rfl ?_
              refine G_X7_180 (pc := 298) C (by assumption) dX7_userTold_298 ?_
              rw [mW_9]
              refine X_if_ne (pc := 301) C 314 dX7_userTold_301 (by decide) (fun h301 => ?_) (fun h301 => ?_)
              · skip
                exact X_vret (pc := 314) C (Nat.zero_le _) (Nat.zero_le _) dX7_userTold_314 ⟨rfl, by first | rw [mUtS, mUtF, if_pos g78, if_pos g78, if_pos h301] | rw [mUtS, mUtF, if_pos g78, if_pos g78, if_neg h301]⟩
              · skip
                refine X_aload_n (pc := 304) C 0 dX7_userTold_304 rfl rfl ?_
                refine G_X7_9 (pc := 305) C (by assumption) dX7_userTold_305 ?_
                refine X_iconst (pc := 308) (v := 4) C dX7_userTold_308 (by decide) ?_
                refine X_dup2 (pc := 309) C dX7_userTold_309 rfl rfl ?_
                refine X_ialdN (j := 4) (pc := 310) C (by first | exact h1 _ (by decide) (by decide)) rfl (by omega) (by decide) dX7_userTold_310 ?_
                rw [mW_10]
                rw [mUtS4_o g78 (by omega), hM.u]
                refine X_iconst (pc := 311) (v := 1) C dX7_userTold_311 (by decide) ?_
                refine X_iadd (pc := 312) C dX7_userTold_312 ?_
                rw [nI_1]
                refine X_iastN (j := 4) (pc := 313) C (by first | exact h1 _ (by decide) (by decide)) rfl (by omega) (by decide) dX7_userTold_313 ?_
                rw [mW_u10]
                exact X_vret (pc := 314) C (Nat.zero_le _) (Nat.zero_le _) dX7_userTold_314 ⟨rfl, by first | rw [mUtS, mUtF, if_pos g78, if_pos g78, if_pos h301] | rw [mUtS, mUtF, if_pos g78, if_pos g78, if_neg h301]⟩
            · have g281 : (if (mUt9 (τ.1 (.inr 16)) n S F L) 16 = 3 then (0 : Int32) else 1) = 1 := if_neg h281
              refine X_iconst (pc := 284) (v := 1) C dX7_userTold_284 (by decide) ?_
              refine X_goto (pc := 285) C 289 dX7_userTold_285 (by decide) ?_
              refine X_iconst (pc := 289) (v := 1) C dX7_userTold_289 (by decide) ?_
              refine K_X7_190 (pc := 290) C (by assumption) (c_X7_wrong l P _ _ _ _ h1 _ _) ⟨Nat.le_of_ble_eq_true rfl, Nat.le_of_ble_eq_true rfl⟩ ⟨rfl, rfl⟩ ⟨Nat.zero_le _, Nat.zero_le _⟩ (Nat.le_of_ble_eq_true rfl) dX7_userTold_290 ?_
              refine XW.eq (σ' := mW τ (mUtS4 (τ.1 (.inr 16)) n S F L) (mWr (mUt9 (τ.1 (.inr 16)) n S F L) (if (mUt9 (τ.1 (.inr 16)) n S F L) 16 = 3 then (0 : Int32) else 1) 1) (mUtL (τ.1 (.inr 16)) n S F L)) (by rw [g281]) rfl rfl ?_
              refine X_aload_n (pc := 293) C 0 dX7_userTold_293 rfl rfl ?_
              refine K_X7_194 (pc := 294) C (by assumption) (c_X7_go l P _ _ _ _ h1 n (mWr_TK (mUt9_TK hT))) ⟨Nat.le_of_ble_eq_true rfl, Nat.le_of_ble_eq_true rfl⟩ ⟨rfl, rfl⟩ ⟨Nat.zero_le _, Nat.zero_le _⟩ (Nat.le_of_ble_eq_true rfl) dX7_userTold_294 ?_
              refine XW.eq (σ' := mW τ (mUtS4 (τ.1 (.inr 16)) n S F L) (mUtA (τ.1 (.inr 16)) n S F L) (mUtL (τ.1 (.inr 16)) n S F L)) (by rfl) rfl rfl ?_
              refine X_aload_n (pc := 297) C 0 dX7_userTold_297 rfl rfl ?_
              refine G_X7_180 (pc := 298) C (by assumption) dX7_userTold_298 ?_
              rw [mW_9]
              refine X_if_ne (pc := 301) C 314 dX7_userTold_301 (by decide) (fun h301 => ?_) (fun h301 => ?_)
              · skip
                exact X_vret (pc := 314) C (Nat.zero_le _) (Nat.zero_le _) dX7_userTold_314 ⟨rfl, by first | rw [mUtS, mUtF, if_pos g78, if_pos g78, if_pos h301] | rw [mUtS, mUtF, if_pos g78, if_pos g78, if_neg h301]⟩
              · skip
                refine X_aload_n (pc := 304) C 0 dX7_userTold_304 rfl rfl ?_
                refine G_X7_9 (pc := 305) C (by assumption) dX7_userTold_305 ?_
                refine X_iconst (pc := 308) (v := 4) C dX7_userTold_308 (by decide) ?_
                refine X_dup2 (pc := 309) C dX7_userTold_309 rfl rfl ?_
                refine X_ialdN (j := 4) (pc := 310) C (by first | exact h1 _ (by decide) (by decide)) rfl (by omega) (by decide) dX7_userTold_310 ?_
                rw [mW_10]
                rw [mUtS4_o g78 (by omega), hM.u]
                refine X_iconst (pc := 311) (v := 1) C dX7_userTold_311 (by decide) ?_
                refine X_iadd (pc := 312) C dX7_userTold_312 ?_
                rw [nI_1]
                refine X_iastN (j := 4) (pc := 313) C (by first | exact h1 _ (by decide) (by decide)) rfl (by omega) (by decide) dX7_userTold_313 ?_
                rw [mW_u10]
                exact X_vret (pc := 314) C (Nat.zero_le _) (Nat.zero_le _) dX7_userTold_314 ⟨rfl, by first | rw [mUtS, mUtF, if_pos g78, if_pos g78, if_pos h301] | rw [mUtS, mUtF, if_pos g78, if_pos g78, if_neg h301]⟩
          · have e6 : (mUt6 (τ.1 (.inr 16)) n S F L) = (mUt5 (τ.1 (.inr 16)) n S F L) := if_neg h152
            have eY : (mUtY (τ.1 (.inr 16)) n S F L) = 1 := if_neg h152
            refine X_iconst (pc := 155) (v := 1) C dX7_userTold_155 (by decide) ?_
            refine X_goto (pc := 156) C 163 dX7_userTold_156 (by decide) ?_
            refine X_istore_n (pc := 163) (lv1 := [(0, _), (1, _), (2, _), (3, _)]) C 3 dX7_userTold_163 rfl (by decide) rfl ?_
            refine X_iconst (pc := 164) (v := 0) C dX7_userTold_164 (by decide) ?_
            refine X_istore (pc := 165) (lv1 := [(0, _), (1, _), (2, _), (3, _), (4, _)]) C dX7_userTold_165 (by decide) rfl ?_
            refine XW.eq (σ' := mW τ (mUtS2 (τ.1 (.inr 16)) n S F L) (mUt6 (τ.1 (.inr 16)) n S F L) (mUtL (τ.1 (.inr 16)) n S F L)) (lv' := [(0, .ref (P.2.2.1 (.inr 9))), (1, .int (nI (mU S))), (2, .int (mUtX (τ.1 (.inr 16)) n S F L)), (3, .int (mUtY (τ.1 (.inr 16)) n S F L)), (4, .int (nI 0))]) (by rw [e6]) (by rw [eY]; rfl) rfl ?_
            refine L2_X7_userTold C h1 (u := mU S) (by omega) mUtY_ok (fun j hj => by rw [sU, mUtS2_o g78 (by omega)]; exact hC j hj) (mU S) 0 _ (by omega) ?_
            refine XW.eq (σ' := mW τ (mUtS2 (τ.1 (.inr 16)) n S F L) (mUt7 (τ.1 (.inr 16)) n S F L) (mUtL (τ.1 (.inr 16)) n S F L)) (by rfl) rfl rfl ?_
            refine X_aload_n (pc := 235) C 0 dX7_userTold_235 rfl rfl ?_
            refine K_X7_194 (pc := 236) C (by assumption) (c_X7_go l P _ _ _ _ h1 n (mUt7_TK hT)) ⟨Nat.le_of_ble_eq_true rfl, Nat.le_of_ble_eq_true rfl⟩ ⟨rfl, rfl⟩ ⟨Nat.zero_le _, Nat.zero_le _⟩ (Nat.le_of_ble_eq_true rfl) dX7_userTold_236 ?_
            refine XW.eq (σ' := mW τ (mUtS2 (τ.1 (.inr 16)) n S F L) (mUt8 (τ.1 (.inr 16)) n S F L) (mUtL (τ.1 (.inr 16)) n S F L)) (by rfl) rfl rfl ?_
            refine X_aload_n (pc := 239) C 0 dX7_userTold_239 rfl rfl ?_
            refine X_iload_n (pc := 240) C 1 dX7_userTold_240 rfl rfl ?_
            refine X_iconst (pc := 241) (v := 0) C dX7_userTold_241 (by decide) ?_
            refine X_iload_n (pc := 242) C 2 dX7_userTold_242 rfl rfl ?_
            refine K_X7_123 (pc := 243) C (by assumption) (c_X7_putUser l P _ _ _ _ h1 (mU S) 0 hlt (by decide) _ 0 _ rfl rfl) ⟨Nat.le_of_ble_eq_true rfl, Nat.le_of_ble_eq_true rfl⟩ ⟨rfl, rfl⟩ ⟨Nat.zero_le _, Nat.zero_le _⟩ (Nat.le_of_ble_eq_true rfl) dX7_userTold_243 ?_
            skip
            refine X_aload_n (pc := 246) C 0 dX7_userTold_246 rfl rfl ?_
            refine X_iload_n (pc := 247) C 1 dX7_userTold_247 rfl rfl ?_
            refine X_iconst (pc := 248) (v := 1) C dX7_userTold_248 (by decide) ?_
            refine X_iload_n (pc := 249) C 3 dX7_userTold_249 rfl rfl ?_
            refine K_X7_123 (pc := 250) C (by assumption) (c_X7_putUser l P _ _ _ _ h1 (mU S) 1 hlt (by decide) _ 1 _ rfl rfl) ⟨Nat.le_of_ble_eq_true rfl, Nat.le_of_ble_eq_true rfl⟩ ⟨rfl, rfl⟩ ⟨Nat.zero_le _, Nat.zero_le _⟩ (Nat.le_of_ble_eq_true rfl) dX7_userTold_250 ?_
            refine X_aload_n (pc := 253) C 0 dX7_userTold_253 rfl rfl ?_
            refine X_iload_n (pc := 254) C 1 dX7_userTold_254 rfl rfl ?_
            refine X_iconst (pc := 255) (v := 2) C dX7_userTold_255 (by decide) ?_
            refine X_aload_n (pc := 256) C 0 dX7_userTold_256 rfl rfl ?_
            refine X_iconst (pc := 257) (v := 0) C dX7_userTold_257 (by decide) ?_
            refine X_bipush (pc := 258) (v := 9) C dX7_userTold_258 (by decide) ?_
            refine K_X7_203 (pc := 260) C (by assumption) (c_X7_number l P _ _ _ _ h1 n (mUt8_TK hT) 0 9) ⟨Nat.le_of_ble_eq_true rfl, Nat.le_of_ble_eq_true rfl⟩ ⟨rfl, rfl⟩ ⟨Nat.zero_le _, Nat.zero_le _⟩ (Nat.le_of_ble_eq_true rfl) dX7_userTold_260 ?_
            refine K_X7_123 (pc := 263) C (by assumption) (c_X7_putUser l P _ _ _ _ h1 (mU S) 2 hlt (by decide) _ 2 _ rfl rfl) ⟨Nat.le_of_ble_eq_true rfl, Nat.le_of_ble_eq_true rfl⟩ ⟨rfl, rfl⟩ ⟨Nat.zero_le _, Nat.zero_le _⟩ (Nat.le_of_ble_eq_true rfl) dX7_userTold_263 ?_
            refine XW.eq (σ' := mW τ (upd (upd (upd (mUtS2 (τ.1 (.inr 16)) n S F L) (10 + 12 * mU S + 0) (mUtX (τ.1 (.inr 16)) n S F L)) (10 + 12 * mU S + 1) (mUtY (τ.1 (.inr 16)) n S F L)) (10 + 12 * mU S + 2) (mUtZ (τ.1 (.inr 16)) n S F L)) (mUt9 (τ.1 (.inr 16)) n S F L) (mUtL (τ.1 (.inr 16)) n S F L)) (by rfl) rfl rfl ?_
            refine X_aload_n (pc := 266) C 0 dX7_userTold_266 rfl rfl ?_
            refine X_iload_n (pc := 267) C 1 dX7_userTold_267 rfl rfl ?_
            refine X_iconst (pc := 268) (v := 4) C dX7_userTold_268 (by decide) ?_
            refine X_iconst (pc := 269) (v := 1) C dX7_userTold_269 (by decide) ?_
            refine X_iload_n (pc := 270) C 1 dX7_userTold_270 rfl rfl ?_
            refine X_ishl (pc := 271) C dX7_userTold_271 ?_
            refine K_X7_123 (pc := 272) C (by assumption) (c_X7_putUser l P _ _ _ _ h1 (mU S) 4 hlt (by decide) _ 4 _ rfl rfl) ⟨Nat.le_of_ble_eq_true rfl, Nat.le_of_ble_eq_true rfl⟩ ⟨rfl, rfl⟩ ⟨Nat.zero_le _, Nat.zero_le _⟩ (Nat.le_of_ble_eq_true rfl) dX7_userTold_272 ?_
            refine XW.eq (σ' := mW τ (mUtS4 (τ.1 (.inr 16)) n S F L) (mUt9 (τ.1 (.inr 16)) n S F L) (mUtL (τ.1 (.inr 16)) n S F L)) (by rfl) rfl rfl ?_
            refine X_aload_n (pc := 275) C 0 dX7_userTold_275 rfl rfl ?_
            refine X_aload_n (pc := 276) C 0 dX7_userTold_276 rfl rfl ?_
            refine G_X7_164 (pc := 277) C (by assumption) dX7_userTold_277 ?_
            rw [mW_9]
            refine X_iconst (pc := 280) (v := 3) C dX7_userTold_280 (by decide) ?_
            refine X_icmp_eq (pc := 281) C 288 dX7_userTold_281 (by decide) (fun h281 => ?_) (fun h281 => ?_)
            · have g281 : (if (mUt9 (τ.1 (.inr 16)) n S F L) 16 = 3 then (0 : Int32) else 1) = 0 := if_pos h281
              refine X_iconst (pc := 288) (v := 0) C dX7_userTold_288 (by decide) ?_
              refine X_iconst (pc := 289) (v := 1) C dX7_userTold_289 (by decide) ?_
              refine K_X7_190 (pc := 290) C (by assumption) (c_X7_wrong l P _ _ _ _ h1 _ _) ⟨Nat.le_of_ble_eq_true rfl, Nat.le_of_ble_eq_true rfl⟩ ⟨rfl, rfl⟩ ⟨Nat.zero_le _, Nat.zero_le _⟩ (Nat.le_of_ble_eq_true rfl) dX7_userTold_290 ?_
              refine XW.eq (σ' := mW τ (mUtS4 (τ.1 (.inr 16)) n S F L) (mWr (mUt9 (τ.1 (.inr 16)) n S F L) (if (mUt9 (τ.1 (.inr 16)) n S F L) 16 = 3 then (0 : Int32) else 1) 1) (mUtL (τ.1 (.inr 16)) n S F L)) (by rw [g281]) rfl rfl ?_
              refine X_aload_n (pc := 293) C 0 dX7_userTold_293 rfl rfl ?_
              refine K_X7_194 (pc := 294) C (by assumption) (c_X7_go l P _ _ _ _ h1 n (mWr_TK (mUt9_TK hT))) ⟨Nat.le_of_ble_eq_true rfl, Nat.le_of_ble_eq_true rfl⟩ ⟨rfl, rfl⟩ ⟨Nat.zero_le _, Nat.zero_le _⟩ (Nat.le_of_ble_eq_true rfl) dX7_userTold_294 ?_
              refine XW.eq (σ' := mW τ (mUtS4 (τ.1 (.inr 16)) n S F L) (mUtA (τ.1 (.inr 16)) n S F L) (mUtL (τ.1 (.inr 16)) n S F L)) (by rfl) rfl rfl ?_
              refine X_aload_n (pc := 297) C 0 dX7_userTold_297 rfl rfl ?_
              refine G_X7_180 (pc := 298) C (by assumption) dX7_userTold_298 ?_
              rw [mW_9]
              refine X_if_ne (pc := 301) C 314 dX7_userTold_301 (by decide) (fun h301 => ?_) (fun h301 => ?_)
              · skip
                exact X_vret (pc := 314) C (Nat.zero_le _) (Nat.zero_le _) dX7_userTold_314 ⟨rfl, by first | rw [mUtS, mUtF, if_pos g78, if_pos g78, if_pos h301] | rw [mUtS, mUtF, if_pos g78, if_pos g78, if_neg h301]⟩
              · skip
                refine X_aload_n (pc := 304) C 0 dX7_userTold_304 rfl rfl ?_
                refine G_X7_9 (pc := 305) C (by assumption) dX7_userTold_305 ?_
                refine X_iconst (pc := 308) (v := 4) C dX7_userTold_308 (by decide) ?_
                refine X_dup2 (pc := 309) C dX7_userTold_309 rfl rfl ?_
                refine X_ialdN (j := 4) (pc := 310) C (by first | exact h1 _ (by decide) (by decide)) rfl (by omega) (by decide) dX7_userTold_310 ?_
                rw [mW_10]
                rw [mUtS4_o g78 (by omega), hM.u]
                refine X_iconst (pc := 311) (v := 1) C dX7_userTold_311 (by decide) ?_
                refine X_iadd (pc := 312) C dX7_userTold_312 ?_
                rw [nI_1]
                refine X_iastN (j := 4) (pc := 313) C (by first | exact h1 _ (by decide) (by decide)) rfl (by omega) (by decide) dX7_userTold_313 ?_
                rw [mW_u10]
                exact X_vret (pc := 314) C (Nat.zero_le _) (Nat.zero_le _) dX7_userTold_314 ⟨rfl, by first | rw [mUtS, mUtF, if_pos g78, if_pos g78, if_pos h301] | rw [mUtS, mUtF, if_pos g78, if_pos g78, if_neg h301]⟩
            · have g281 : (if (mUt9 (τ.1 (.inr 16)) n S F L) 16 = 3 then (0 : Int32) else 1) = 1 := if_neg h281
              refine X_iconst (pc := 284) (v := 1) C dX7_userTold_284 (by decide) ?_
              refine X_goto (pc := 285) C 289 dX7_userTold_285 (by decide) ?_
              refine X_iconst (pc := 289) (v := 1) C dX7_userTold_289 (by decide) ?_
              refine K_X7_190 (pc := 290) C (by assumption) (c_X7_wrong l P _ _ _ _ h1 _ _) ⟨Nat.le_of_ble_eq_true rfl, Nat.le_of_ble_eq_true rfl⟩ ⟨rfl, rfl⟩ ⟨Nat.zero_le _, Nat.zero_le _⟩ (Nat.le_of_ble_eq_true rfl) dX7_userTold_290 ?_
              refine XW.eq (σ' := mW τ (mUtS4 (τ.1 (.inr 16)) n S F L) (mWr (mUt9 (τ.1 (.inr 16)) n S F L) (if (mUt9 (τ.1 (.inr 16)) n S F L) 16 = 3 then (0 : Int32) else 1) 1) (mUtL (τ.1 (.inr 16)) n S F L)) (by rw [g281]) rfl rfl ?_
              refine X_aload_n (pc := 293) C 0 dX7_userTold_293 rfl rfl ?_
              refine K_X7_194 (pc := 294) C (by assumption) (c_X7_go l P _ _ _ _ h1 n (mWr_TK (mUt9_TK hT))) ⟨Nat.le_of_ble_eq_true rfl, Nat.le_of_ble_eq_true rfl⟩ ⟨rfl, rfl⟩ ⟨Nat.zero_le _, Nat.zero_le _⟩ (Nat.le_of_ble_eq_true rfl) dX7_userTold_294 ?_
              refine XW.eq (σ' := mW τ (mUtS4 (τ.1 (.inr 16)) n S F L) (mUtA (τ.1 (.inr 16)) n S F L) (mUtL (τ.1 (.inr 16)) n S F L)) (by rfl) rfl rfl ?_
              refine X_aload_n (pc := 297) C 0 dX7_userTold_297 rfl rfl ?_
              refine G_X7_180 (pc := 298) C (by assumption) dX7_userTold_298 ?_
              rw [mW_9]
              refine X_if_ne (pc := 301) C 314 dX7_userTold_301 (by decide) (fun h301 => ?_) (fun h301 => ?_)
              · skip
                exact X_vret (pc := 314) C (Nat.zero_le _) (Nat.zero_le _) dX7_userTold_314 ⟨rfl, by first | rw [mUtS, mUtF, if_pos g78, if_pos g78, if_pos h301] | rw [mUtS, mUtF, if_pos g78, if_pos g78, if_neg h301]⟩
              · skip
                refine X_aload_n (pc := 304) C 0 dX7_userTold_304 rfl rfl ?_
                refine G_X7_9 (pc := 305) C (by assumption) dX7_userTold_305 ?_
                refine X_iconst (pc := 308) (v := 4) C dX7_userTold_308 (by decide) ?_
                refine X_dup2 (pc := 309) C dX7_userTold_309 rfl rfl ?_
                refine X_ialdN (j := 4) (pc := 310) C (by first | exact h1 _ (by decide) (by decide)) rfl (by omega) (by decide) dX7_userTold_310 ?_
                rw [mW_10]
                rw [mUtS4_o g78 (by omega), hM.u]
                refine X_iconst (pc := 311) (v := 1) C dX7_userTold_311 (by decide) ?_
                refine X_iadd (pc := 312) C dX7_userTold_312 ?_
                rw [nI_1]
                refine X_iastN (j := 4) (pc := 313) C (by first | exact h1 _ (by decide) (by decide)) rfl (by omega) (by decide) dX7_userTold_313 ?_
                rw [mW_u10]
                exact X_vret (pc := 314) C (Nat.zero_le _) (Nat.zero_le _) dX7_userTold_314 ⟨rfl, by first | rw [mUtS, mUtF, if_pos g78, if_pos g78, if_pos h301] | rw [mUtS, mUtF, if_pos g78, if_pos g78, if_neg h301]⟩
        · skip
          exact X_vret (pc := 81) C (Nat.zero_le _) (Nat.zero_le _) dX7_userTold_81 ⟨rfl, by rw [mUtS, mUtF, if_neg h78, if_neg h78]⟩
      · have g6 := (mNhF_0 (F := mUt1 (τ.1 (.inr 16)) n S F) h54).2.2.1
        have g15 : (mUt2 (τ.1 (.inr 16)) n S F) 15 = nI (eF (mUt1 (τ.1 (.inr 16)) n S F) - sF (mUt1 (τ.1 (.inr 16)) n S F)) := by rw [mUt2, (mNhF_0 (F := mUt1 (τ.1 (.inr 16)) n S F) h54).2.2.2.1, upd_at]
        refine X_aload_n (pc := 57) C 0 dX7_userTold_57 rfl rfl ?_
        refine K_X7_200 (pc := 58) C (by assumption) (c_X7_named l P _ _ _ _ h1 hM _ g6 g15) ⟨Nat.le_of_ble_eq_true rfl, Nat.le_of_ble_eq_true rfl⟩ ⟨rfl, rfl⟩ ⟨Nat.zero_le _, Nat.zero_le _⟩ (Nat.le_of_ble_eq_true rfl) dX7_userTold_58 ?_
        refine X_iconst (pc := 61) (v := (-1)) C dX7_userTold_61 (by decide) ?_
        refine X_icmp_eq (pc := 62) C 69 dX7_userTold_62 (by decide) (fun h62 => ?_) (fun h62 => ?_)
        · have g62 : (if (mUt2 (τ.1 (.inr 16)) n S F) 20 = 0 ∧ ¬ mNmd S (mUt2 (τ.1 (.inr 16)) n S F) (mUtL (τ.1 (.inr 16)) n S F L) = -1 then (1 : Int32) else 0) = 0 := if_neg (fun q => q.2 h62)
          refine X_iconst (pc := 69) (v := 0) C dX7_userTold_69 (by decide) ?_
          refine X_iconst (pc := 70) (v := 4) C dX7_userTold_70 (by decide) ?_
          refine K_X7_190 (pc := 71) C (by assumption) (c_X7_wrong l P _ _ _ _ h1 _ _) ⟨Nat.le_of_ble_eq_true rfl, Nat.le_of_ble_eq_true rfl⟩ ⟨rfl, rfl⟩ ⟨Nat.zero_le _, Nat.zero_le _⟩ (Nat.le_of_ble_eq_true rfl) dX7_userTold_71 ?_
          refine XW.eq (σ' := mW τ S (mUt3 (τ.1 (.inr 16)) n S F L) (mUtL (τ.1 (.inr 16)) n S F L)) (by rw [mUt3, g62]) rfl rfl ?_
          refine X_aload_n (pc := 74) C 0 dX7_userTold_74 rfl rfl ?_
          refine G_X7_180 (pc := 75) C (by assumption) dX7_userTold_75 ?_
          rw [mW_9]
          refine X_if_eq (pc := 78) C 82 dX7_userTold_78 (by decide) (fun h78 => ?_) (fun h78 => ?_)
          · have g78 := h78
            have hlt := mUt_lt hM h78
            refine X_aload_n (pc := 82) C 0 dX7_userTold_82 rfl rfl ?_
            refine G_X7_9 (pc := 83) C (by assumption) dX7_userTold_83 ?_
            refine X_iconst (pc := 86) (v := 4) C dX7_userTold_86 (by decide) ?_
            refine X_ialdN (j := 4) (pc := 87) C (by first | exact h1 _ (by decide) (by decide)) rfl (by omega) (by decide) dX7_userTold_87 ?_
            rw [mW_10]
            rw [hM.u]
            refine X_istore_n (pc := 88) (lv1 := [(0, _), (1, _)]) C 1 dX7_userTold_88 rfl (by decide) rfl ?_
            refine X_aload_n (pc := 89) C 0 dX7_userTold_89 rfl rfl ?_
            refine X_iload_n (pc := 90) C 1 dX7_userTold_90 rfl rfl ?_
            refine X_iconst (pc := 91) (v := 5) C dX7_userTold_91 (by decide) ?_
            refine X_aload_n (pc := 92) C 0 dX7_userTold_92 rfl rfl ?_
            refine G_X7_148 (pc := 93) C (by assumption) dX7_userTold_93 ?_
            rw [mW_9]
            refine K_X7_123 (pc := 96) C (by assumption) (c_X7_putUser l P _ _ _ _ h1 (mU S) 5 hlt (by decide) _ 5 _ rfl rfl) ⟨Nat.le_of_ble_eq_true rfl, Nat.le_of_ble_eq_true rfl⟩ ⟨rfl, rfl⟩ ⟨Nat.zero_le _, Nat.zero_le _⟩ (Nat.le_of_ble_eq_true rfl) dX7_userTold_96 ?_
            refine XW.eq (σ' := mW τ (upd S (10 + 12 * mU S + 5) ((mUt3 (τ.1 (.inr 16)) n S F L) 15)) (mUt3 (τ.1 (.inr 16)) n S F L) (mUtL (τ.1 (.inr 16)) n S F L)) (by rfl) rfl rfl ?_
            refine X_iconst (pc := 99) (v := 0) C dX7_userTold_99 (by decide) ?_
            refine X_istore_n (pc := 100) (lv1 := [(0, _), (1, _), (2, _)]) C 2 dX7_userTold_100 rfl (by decide) rfl ?_
            have g15 := mUt3_15 g78
            refine L1_X7_userTold C h1 hlt g15.1 g15.2 ?_ (cN ((mUt3 (τ.1 (.inr 16)) n S F L) 15)) 0 (by omega)
            refine XW.eq (σ' := mW τ (mUtS2 (τ.1 (.inr 16)) n S F L) (mUt3 (τ.1 (.inr 16)) n S F L) (mUtL (τ.1 (.inr 16)) n S F L)) (by rfl) rfl rfl ?_
            refine X_aload_n (pc := 130) C 0 dX7_userTold_130 rfl rfl ?_
            refine K_X7_194 (pc := 131) C (by assumption) (c_X7_go l P _ _ _ _ h1 n (mUt3_TK hT)) ⟨Nat.le_of_ble_eq_true rfl, Nat.le_of_ble_eq_true rfl⟩ ⟨rfl, rfl⟩ ⟨Nat.zero_le _, Nat.zero_le _⟩ (Nat.le_of_ble_eq_true rfl) dX7_userTold_131 ?_
            refine XW.eq (σ' := mW τ (mUtS2 (τ.1 (.inr 16)) n S F L) (mUt4 (τ.1 (.inr 16)) n S F L) (mUtL (τ.1 (.inr 16)) n S F L)) (by rfl) rfl rfl ?_
            refine X_aload_n (pc := 134) C 0 dX7_userTold_134 rfl rfl ?_
            refine X_iconst (pc := 135) (v := 0) C dX7_userTold_135 (by decide) ?_
            refine X_aload_n (pc := 136) C 0 dX7_userTold_136 rfl rfl ?_
            refine G_X7_9 (pc := 137) C (by assumption) dX7_userTold_137 ?_
            refine X_iconst (pc := 140) (v := 1) C dX7_userTold_140 (by decide) ?_
            refine X_ialdN (j := 1) (pc := 141) C (by first | exact h1 _ (by decide) (by decide)) rfl (by omega) (by decide) dX7_userTold_141 ?_
            rw [mW_10]
            rw [mUtS2_o g78 (by omega)]
            refine X_iconst (pc := 142) (v := 1) C dX7_userTold_142 (by decide) ?_
            refine X_isub (pc := 143) C dX7_userTold_143 ?_
            refine K_X7_203 (pc := 144) C (by assumption) (c_X7_number l P _ _ _ _ h1 n (mUt4_TK hT) 0 _) ⟨Nat.le_of_ble_eq_true rfl, Nat.le_of_ble_eq_true rfl⟩ ⟨rfl, rfl⟩ ⟨Nat.zero_le _, Nat.zero_le _⟩ (Nat.le_of_ble_eq_true rfl) dX7_userTold_144 ?_
            refine XW.eq (σ' := mW τ (mUtS2 (τ.1 (.inr 16)) n S F L) (mUt5 (τ.1 (.inr 16)) n S F L) (mUtL (τ.1 (.inr 16)) n S F L)) (st' := [.int (mUtX (τ.1 (.inr 16)) n S F L)]) rfl rfl rfl ?_
            refine X_istore_n (pc := 147) (lv1 := [(0, _), (1, _), (2, _)]) C 2 dX7_userTold_147 rfl (by decide) rfl ?_
            refine X_aload_n (pc := 148) C 0 dX7_userTold_148 rfl rfl ?_
            refine G_X7_180 (pc := 149) C (by assumption) dX7_userTold_149 ?_
            rw [mW_9]
            refine X_if_eq (pc := 152) C 159 dX7_userTold_152 (by decide) (fun h152 => ?_) (fun h152 => ?_)
            · have e6 : (mUt6 (τ.1 (.inr 16)) n S F L) = (mRh (τ.1 (.inr 16)) (mUt5 (τ.1 (.inr 16)) n S F L)).1 := if_pos h152
              have eY : (mUtY (τ.1 (.inr 16)) n S F L) = (mRh (τ.1 (.inr 16)) (mUt5 (τ.1 (.inr 16)) n S F L)).2 := if_pos h152
              refine X_aload_n (pc := 159) C 0 dX7_userTold_159 rfl rfl ?_
              refine K_X7_212 (pc := 160) C (by assumption) (c_X7_ringsHere l P _ _ _ _ h1 n (mUt5_TK hT)) ⟨Nat.le_of_ble_eq_true rfl, Nat.le_of_ble_eq_true rfl⟩ ⟨rfl, rfl⟩ ⟨Nat.zero_le _, Nat.zero_le _⟩ (Nat.le_of_ble_eq_true rfl) dX7_userTold_160 ?_
              refine X_istore_n (pc := 163) (lv1 := [(0, _), (1, _), (2, _), (3, _)]) C 3 dX7_userTold_163 rfl (by decide) rfl ?_
              refine X_iconst (pc := 164) (v := 0) C dX7_userTold_164 (by decide) ?_
              refine X_istore (pc := 165) (lv1 := [(0, _), (1, _), (2, _), (3, _), (4, _)]) C dX7_userTold_165 (by decide) rfl ?_
              refine XW.eq (σ' := mW τ (mUtS2 (τ.1 (.inr 16)) n S F L) (mUt6 (τ.1 (.inr 16)) n S F L) (mUtL (τ.1 (.inr 16)) n S F L)) (lv' := [(0, .ref (P.2.2.1 (.inr 9))), (1, .int (nI (mU S))), (2, .int (mUtX (τ.1 (.inr 16)) n S F L)), (3, .int (mUtY (τ.1 (.inr 16)) n S F L)), (4, .int (nI 0))]) (by rw [e6]) (by rw [eY]; rfl) rfl ?_
              refine L2_X7_userTold C h1 (u := mU S) (by omega) mUtY_ok (fun j hj => by rw [sU, mUtS2_o g78 (by omega)]; exact hC j hj) (mU S) 0 _ (by omega) ?_
              refine XW.eq (σ' := mW τ (mUtS2 (τ.1 (.inr 16)) n S F L) (mUt7 (τ.1 (.inr 16)) n S F L) (mUtL (τ.1 (.inr 16)) n S F L)) (by rfl) rfl rfl ?_
              refine X_aload_n (pc := 235) C 0 dX7_userTold_235 rfl rfl ?_
              refine K_X7_194 (pc := 236) C (by assumption) (c_X7_go l P _ _ _ _ h1 n (mUt7_TK hT)) ⟨Nat.le_of_ble_eq_true rfl, Nat.le_of_ble_eq_true rfl⟩ ⟨rfl, rfl⟩ ⟨Nat.zero_le _, Nat.zero_le _⟩ (Nat.le_of_ble_eq_true rfl) dX7_userTold_236 ?_
              refine XW.eq (σ' := mW τ (mUtS2 (τ.1 (.inr 16)) n S F L) (mUt8 (τ.1 (.inr 16)) n S F L) (mUtL (τ.1 (.inr 16)) n S F L)) (by rfl) rfl rfl ?_
              refine X_aload_n (pc := 239) C 0 dX7_userTold_239 rfl rfl ?_
              refine X_iload_n (pc := 240) C 1 dX7_userTold_240 rfl rfl ?_
              refine X_iconst (pc := 241) (v := 0) C dX7_userTold_241 (by decide) ?_
              refine X_iload_n (pc := 242) C 2 dX7_userTold_242 rfl rfl ?_
              refine K_X7_123 (pc := 243) C (by assumption) (c_X7_putUser l P _ _ _ _ h1 (mU S) 0 hlt (by decide) _ 0 _ rfl rfl) ⟨Nat.le_of_ble_eq_true rfl, Nat.le_of_ble_eq_true rfl⟩ ⟨rfl, rfl⟩ ⟨Nat.zero_le _, Nat.zero_le _⟩ (Nat.le_of_ble_eq_true rfl) dX7_userTold_243 ?_
              skip
              refine X_aload_n (pc := 246) C 0 dX7_userTold_246 rfl rfl ?_
              refine X_iload_n (pc := 247) C 1 dX7_userTold_247 rfl rfl ?_
              refine X_iconst (pc := 248) (v := 1) C dX7_userTold_248 (by decide) ?_
              refine X_iload_n (pc := 249) C 3 dX7_userTold_249 rfl rfl ?_
              refine K_X7_123 (pc := 250) C (by assumption) (c_X7_putUser l P _ _ _ _ h1 (mU S) 1 hlt (by decide) _ 1 _ rfl rfl) ⟨Nat.le_of_ble_eq_true rfl, Nat.le_of_ble_eq_true rfl⟩ ⟨rfl, rfl⟩ ⟨Nat.zero_le _, Nat.zero_le _⟩ (Nat.le_of_ble_eq_true rfl) dX7_userTold_250 ?_
              refine X_aload_n (pc := 253) C 0 dX7_userTold_253 rfl rfl ?_
              refine X_iload_n (pc := 254) C 1 dX7_userTold_254 rfl rfl ?_
              refine X_iconst (pc := 255) (v := 2) C dX7_userTold_255 (by decide) ?_
              refine X_aload_n (pc := 256) C 0 dX7_userTold_256 rfl rfl ?_
              refine X_iconst (pc := 257) (v := 0) C dX7_userTold_257 (by decide) ?_
              refine X_bipush (pc := 258) (v := 9) C dX7_userTold_258 (by decide) ?_
              refine K_X7_203 (pc := 260) C (by assumption) (c_X7_number l P _ _ _ _ h1 n (mUt8_TK hT) 0 9) ⟨Nat.le_of_ble_eq_true rfl, Nat.le_of_ble_eq_true rfl⟩ ⟨rfl, rfl⟩ ⟨Nat.zero_le _, Nat.zero_le _⟩ (Nat.le_of_ble_eq_true rfl) dX7_userTold_260 ?_
              refine K_X7_123 (pc := 263) C (by assumption) (c_X7_putUser l P _ _ _ _ h1 (mU S) 2 hlt (by decide) _ 2 _ rfl rfl) ⟨Nat.le_of_ble_eq_true rfl, Nat.le_of_ble_eq_true rfl⟩ ⟨rfl, rfl⟩ ⟨Nat.zero_le _, Nat.zero_le _⟩ (Nat.le_of_ble_eq_true rfl) dX7_userTold_263 ?_
              refine XW.eq (σ' := mW τ (upd (upd (upd (mUtS2 (τ.1 (.inr 16)) n S F L) (10 + 12 * mU S + 0) (mUtX (τ.1 (.inr 16)) n S F L)) (10 + 12 * mU S + 1) (mUtY (τ.1 (.inr 16)) n S F L)) (10 + 12 * mU S + 2) (mUtZ (τ.1 (.inr 16)) n S F L)) (mUt9 (τ.1 (.inr 16)) n S F L) (mUtL (τ.1 (.inr 16)) n S F L)) (by rfl) rfl rfl ?_
              refine X_aload_n (pc := 266) C 0 dX7_userTold_266 rfl rfl ?_
              refine X_iload_n (pc := 267) C 1 dX7_userTold_267 rfl rfl ?_
              refine X_iconst (pc := 268) (v := 4) C dX7_userTold_268 (by decide) ?_
              refine X_iconst (pc := 269) (v := 1) C dX7_userTold_269 (by decide) ?_
              refine X_iload_n (pc := 270) C 1 dX7_userTold_270 rfl rfl ?_
              refine X_ishl (pc := 271) C dX7_userTold_271 ?_
              refine K_X7_123 (pc := 272) C (by assumption) (c_X7_putUser l P _ _ _ _ h1 (mU S) 4 hlt (by decide) _ 4 _ rfl rfl) ⟨Nat.le_of_ble_eq_true rfl, Nat.le_of_ble_eq_true rfl⟩ ⟨rfl, rfl⟩ ⟨Nat.zero_le _, Nat.zero_le _⟩ (Nat.le_of_ble_eq_true rfl) dX7_userTold_272 ?_
              refine XW.eq (σ' := mW τ (mUtS4 (τ.1 (.inr 16)) n S F L) (mUt9 (τ.1 (.inr 16)) n S F L) (mUtL (τ.1 (.inr 16)) n S F L)) (by rfl) rfl rfl ?_
              refine X_aload_n (pc := 275) C 0 dX7_userTold_275 rfl rfl ?_
              refine X_aload_n (pc := 276) C 0 dX7_userTold_276 rfl rfl ?_
              refine G_X7_164 (pc := 277) C (by assumption) dX7_userTold_277 ?_
              rw [mW_9]
              refine X_iconst (pc := 280) (v := 3) C dX7_userTold_280 (by decide) ?_
              refine X_icmp_eq (pc := 281) C 288 dX7_userTold_281 (by decide) (fun h281 => ?_) (fun h281 => ?_)
              · have g281 : (if (mUt9 (τ.1 (.inr 16)) n S F L) 16 = 3 then (0 : Int32) else 1) = 0 := if_pos h281
                refine X_iconst (pc := 288) (v := 0) C dX7_userTold_288 (by decide) ?_
                refine X_iconst (pc := 289) (v := 1) C dX7_userTold_289 (by decide) ?_
                refine K_X7_190 (pc := 290) C (by assumption) (c_X7_wrong l P _ _ _ _ h1 _ _) ⟨Nat.le_of_ble_eq_true rfl, Nat.le_of_ble_eq_true rfl⟩ ⟨rfl, rfl⟩ ⟨Nat.zero_le _, Nat.zero_le _⟩ (Nat.le_of_ble_eq_true rfl) dX7_userTold_290 ?_
                refine XW.eq (σ' := mW τ (mUtS4 (τ.1 (.inr 16)) n S F L) (mWr (mUt9 (τ.1 (.inr 16)) n S F L) (if (mUt9 (τ.1 (.inr 16)) n S F L) 16 = 3 then (0 : Int32) else 1) 1) (mUtL (τ.1 (.inr 16)) n S F L)) (by rw [g281]) rfl rfl ?_
                refine X_aload_n (pc := 293) C 0 dX7_userTold_293 rfl rfl ?_
                refine K_X7_194 (pc := 294) C (by assumption) (c_X7_go l P _ _ _ _ h1 n (mWr_TK (mUt9_TK hT))) ⟨Nat.le_of_ble_eq_true rfl, Nat.le_of_ble_eq_true rfl⟩ ⟨rfl, rfl⟩ ⟨Nat.zero_le _, Nat.zero_le _⟩ (Nat.le_of_ble_eq_true rfl) dX7_userTold_294 ?_
                refine XW.eq (σ' := mW τ (mUtS4 (τ.1 (.inr 16)) n S F L) (mUtA (τ.1 (.inr 16)) n S F L) (mUtL (τ.1 (.inr 16)) n S F L)) (by rfl) rfl rfl ?_
                refine X_aload_n (pc := 297) C 0 dX7_userTold_297 rfl rfl ?_
                refine G_X7_180 (pc := 298) C (by assumption) dX7_userTold_298 ?_
                rw [mW_9]
                refine X_if_ne (pc := 301) C 314 dX7_userTold_301 (by decide) (fun h301 => ?_) (fun h301 => ?_)
                · skip
                  exact X_vret (pc := 314) C (Nat.zero_le _) (Nat.zero_le _) dX7_userTold_314 ⟨rfl, by first | rw [mUtS, mUtF, if_pos g78, if_pos g78, if_pos h301] | rw [mUtS, mUtF, if_pos g78, if_pos g78, if_neg h301]⟩
                · skip
                  refine X_aload_n (pc := 304) C 0 dX7_userTold_304 rfl rfl ?_
                  refine G_X7_9 (pc := 305) C (by assumption) dX7_userTold_305 ?_
                  refine X_iconst (pc := 308) (v := 4) C dX7_userTold_308 (by decide) ?_
                  refine X_dup2 (pc := 309) C dX7_userTold_309 rfl rfl ?_
                  refine X_ialdN (j := 4) (pc := 310) C (by first | exact h1 _ (by decide) (by decide)) rfl (by omega) (by decide) dX7_userTold_310 ?_
                  rw [mW_10]
                  rw [mUtS4_o g78 (by omega), hM.u]
                  refine X_iconst (pc := 311) (v := 1) C dX7_userTold_311 (by decide) ?_
                  refine X_iadd (pc := 312) C dX7_userTold_312 ?_
                  rw [nI_1]
                  refine X_iastN (j := 4) (pc := 313) C (by first | exact h1 _ (by decide) (by decide)) rfl (by omega) (by decide) dX7_userTold_313 ?_
                  rw [mW_u10]
                  exact X_vret (pc := 314) C (Nat.zero_le _) (Nat.zero_le _) dX7_userTold_314 ⟨rfl, by first | rw [mUtS, mUtF, if_pos g78, if_pos g78, if_pos h301] | rw [mUtS, mUtF, if_pos g78, if_pos g78, if_neg h301]⟩
              · have g281 : (if (mUt9 (τ.1 (.inr 16)) n S F L) 16 = 3 then (0 : Int32) else 1) = 1 := if_neg h281
                refine X_iconst (pc := 284) (v := 1) C dX7_userTold_284 (by decide) ?_
                refine X_goto (pc := 285) C 289 dX7_userTold_285 (by decide) ?_
                refine X_iconst (pc := 289) (v := 1) C dX7_userTold_289 (by decide) ?_
                refine K_X7_190 (pc := 290) C (by assumption) (c_X7_wrong l P _ _ _ _ h1 _ _) ⟨Nat.le_of_ble_eq_true rfl, Nat.le_of_ble_eq_true rfl⟩ ⟨rfl, rfl⟩ ⟨Nat.zero_le _, Nat.zero_le _⟩ (Nat.le_of_ble_eq_true rfl) dX7_userTold_290 ?_
                refine XW.eq (σ' := mW τ (mUtS4 (τ.1 (.inr 16)) n S F L) (mWr (mUt9 (τ.1 (.inr 16)) n S F L) (if (mUt9 (τ.1 (.inr 16)) n S F L) 16 = 3 then (0 : Int32) else 1) 1) (mUtL (τ.1 (.inr 16)) n S F L)) (by rw [g281]) rfl rfl ?_
                refine X_aload_n (pc := 293) C 0 dX7_userTold_293 rfl rfl ?_
                refine K_X7_194 (pc := 294) C (by assumption) (c_X7_go l P _ _ _ _ h1 n (mWr_TK (mUt9_TK hT))) ⟨Nat.le_of_ble_eq_true rfl, Nat.le_of_ble_eq_true rfl⟩ ⟨rfl, rfl⟩ ⟨Nat.zero_le _, Nat.zero_le _⟩ (Nat.le_of_ble_eq_true rfl) dX7_userTold_294 ?_
                refine XW.eq (σ' := mW τ (mUtS4 (τ.1 (.inr 16)) n S F L) (mUtA (τ.1 (.inr 16)) n S F L) (mUtL (τ.1 (.inr 16)) n S F L)) (by rfl) rfl rfl ?_
                refine X_aload_n (pc := 297) C 0 dX7_userTold_297 rfl rfl ?_
                refine G_X7_180 (pc := 298) C (by assumption) dX7_userTold_298 ?_
                rw [mW_9]
                refine X_if_ne (pc := 301) C 314 dX7_userTold_301 (by decide) (fun h301 => ?_) (fun h301 => ?_)
                · skip
                  exact X_vret (pc := 314) C (Nat.zero_le _) (Nat.zero_le _) dX7_userTold_314 ⟨rfl, by first | rw [mUtS, mUtF, if_pos g78, if_pos g78, if_pos h301] | rw [mUtS, mUtF, if_pos g78, if_pos g78, if_neg h301]⟩
                · skip
                  refine X_aload_n (pc := 304) C 0 dX7_userTold_304 rfl rfl ?_
                  refine G_X7_9 (pc := 305) C (by assumption) dX7_userTold_305 ?_
                  refine X_iconst (pc := 308) (v := 4) C dX7_userTold_308 (by decide) ?_
                  refine X_dup2 (pc := 309) C dX7_userTold_309 rfl rfl ?_
                  refine X_ialdN (j := 4) (pc := 310) C (by first | exact h1 _ (by decide) (by decide)) rfl (by omega) (by decide) dX7_userTold_310 ?_
                  rw [mW_10]
                  rw [mUtS4_o g78 (by omega), hM.u]
                  refine X_iconst (pc := 311) (v := 1) C dX7_userTold_311 (by decide) ?_
                  refine X_iadd (pc := 312) C dX7_userTold_312 ?_
                  rw [nI_1]
                  refine X_iastN (j := 4) (pc := 313) C (by first | exact h1 _ (by decide) (by decide)) rfl (by omega) (by decide) dX7_userTold_313 ?_
                  rw [mW_u10]
                  exact X_vret (pc := 314) C (Nat.zero_le _) (Nat.zero_le _) dX7_userTold_314 ⟨rfl, by first | rw [mUtS, mUtF, if_pos g78, if_pos g78, if_pos h301] | rw [mUtS, mUtF, if_pos g78, if_pos g78, if_neg h301]⟩
            · have e6 : (mUt6 (τ.1 (.inr 16)) n S F L) = (mUt5 (τ.1 (.inr 16)) n S F L) := if_neg h152
              have eY : (mUtY (τ.1 (.inr 16)) n S F L) = 1 := if_neg h152
              refine X_iconst (pc := 155) (v := 1) C dX7_userTold_155 (by decide) ?_
              refine X_goto (pc := 156) C 163 dX7_userTold_156 (by decide) ?_
              refine X_istore_n (pc := 163) (lv1 := [(0, _), (1, _), (2, _), (3, _)]) C 3 dX7_userTold_163 rfl (by decide) rfl ?_
              refine X_iconst (pc := 164) (v := 0) C dX7_userTold_164 (by decide) ?_
              refine X_istore (pc := 165) (lv1 := [(0, _), (1, _), (2, _), (3, _), (4, _)]) C dX7_userTold_165 (by decide) rfl ?_
              refine XW.eq (σ' := mW τ (mUtS2 (τ.1 (.inr 16)) n S F L) (mUt6 (τ.1 (.inr 16)) n S F L) (mUtL (τ.1 (.inr 16)) n S F L)) (lv' := [(0, .ref (P.2.2.1 (.inr 9))), (1, .int (nI (mU S))), (2, .int (mUtX (τ.1 (.inr 16)) n S F L)), (3, .int (mUtY (τ.1 (.inr 16)) n S F L)), (4, .int (nI 0))]) (by rw [e6]) (by rw [eY]; rfl) rfl ?_
              refine L2_X7_userTold C h1 (u := mU S) (by omega) mUtY_ok (fun j hj => by rw [sU, mUtS2_o g78 (by omega)]; exact hC j hj) (mU S) 0 _ (by omega) ?_
              refine XW.eq (σ' := mW τ (mUtS2 (τ.1 (.inr 16)) n S F L) (mUt7 (τ.1 (.inr 16)) n S F L) (mUtL (τ.1 (.inr 16)) n S F L)) (by rfl) rfl rfl ?_
              refine X_aload_n (pc := 235) C 0 dX7_userTold_235 rfl rfl ?_
              refine K_X7_194 (pc := 236) C (by assumption) (c_X7_go l P _ _ _ _ h1 n (mUt7_TK hT)) ⟨Nat.le_of_ble_eq_true rfl, Nat.le_of_ble_eq_true rfl⟩ ⟨rfl, rfl⟩ ⟨Nat.zero_le _, Nat.zero_le _⟩ (Nat.le_of_ble_eq_true rfl) dX7_userTold_236 ?_
              refine XW.eq (σ' := mW τ (mUtS2 (τ.1 (.inr 16)) n S F L) (mUt8 (τ.1 (.inr 16)) n S F L) (mUtL (τ.1 (.inr 16)) n S F L)) (by rfl) rfl rfl ?_
              refine X_aload_n (pc := 239) C 0 dX7_userTold_239 rfl rfl ?_
              refine X_iload_n (pc := 240) C 1 dX7_userTold_240 rfl rfl ?_
              refine X_iconst (pc := 241) (v := 0) C dX7_userTold_241 (by decide) ?_
              refine X_iload_n (pc := 242) C 2 dX7_userTold_242 rfl rfl ?_
              refine K_X7_123 (pc := 243) C (by assumption) (c_X7_putUser l P _ _ _ _ h1 (mU S) 0 hlt (by decide) _ 0 _ rfl rfl) ⟨Nat.le_of_ble_eq_true rfl, Nat.le_of_ble_eq_true rfl⟩ ⟨rfl, rfl⟩ ⟨Nat.zero_le _, Nat.zero_le _⟩ (Nat.le_of_ble_eq_true rfl) dX7_userTold_243 ?_
              skip
              refine X_aload_n (pc := 246) C 0 dX7_userTold_246 rfl rfl ?_
              refine X_iload_n (pc := 247) C 1 dX7_userTold_247 rfl rfl ?_
              refine X_iconst (pc := 248) (v := 1) C dX7_userTold_248 (by decide) ?_
              refine X_iload_n (pc := 249) C 3 dX7_userTold_249 rfl rfl ?_
              refine K_X7_123 (pc := 250) C (by assumption) (c_X7_putUser l P _ _ _ _ h1 (mU S) 1 hlt (by decide) _ 1 _ rfl rfl) ⟨Nat.le_of_ble_eq_true rfl, Nat.le_of_ble_eq_true rfl⟩ ⟨rfl, rfl⟩ ⟨Nat.zero_le _, Nat.zero_le _⟩ (Nat.le_of_ble_eq_true rfl) dX7_userTold_250 ?_
              refine X_aload_n (pc := 253) C 0 dX7_userTold_253 rfl rfl ?_
              refine X_iload_n (pc := 254) C 1 dX7_userTold_254 rfl rfl ?_
              refine X_iconst (pc := 255) (v := 2) C dX7_userTold_255 (by decide) ?_
              refine X_aload_n (pc := 256) C 0 dX7_userTold_256 rfl rfl ?_
              refine X_iconst (pc := 257) (v := 0) C dX7_userTold_257 (by decide) ?_
              refine X_bipush (pc := 258) (v := 9) C dX7_userTold_258 (by decide) ?_
              refine K_X7_203 (pc := 260) C (by assumption) (c_X7_number l P _ _ _ _ h1 n (mUt8_TK hT) 0 9) ⟨Nat.le_of_ble_eq_true rfl, Nat.le_of_ble_eq_true rfl⟩ ⟨rfl, rfl⟩ ⟨Nat.zero_le _, Nat.zero_le _⟩ (Nat.le_of_ble_eq_true rfl) dX7_userTold_260 ?_
              refine K_X7_123 (pc := 263) C (by assumption) (c_X7_putUser l P _ _ _ _ h1 (mU S) 2 hlt (by decide) _ 2 _ rfl rfl) ⟨Nat.le_of_ble_eq_true rfl, Nat.le_of_ble_eq_true rfl⟩ ⟨rfl, rfl⟩ ⟨Nat.zero_le _, Nat.zero_le _⟩ (Nat.le_of_ble_eq_true rfl) dX7_userTold_263 ?_
              refine XW.eq (σ' := mW τ (upd (upd (upd (mUtS2 (τ.1 (.inr 16)) n S F L) (10 + 12 * mU S + 0) (mUtX (τ.1 (.inr 16)) n S F L)) (10 + 12 * mU S + 1) (mUtY (τ.1 (.inr 16)) n S F L)) (10 + 12 * mU S + 2) (mUtZ (τ.1 (.inr 16)) n S F L)) (mUt9 (τ.1 (.inr 16)) n S F L) (mUtL (τ.1 (.inr 16)) n S F L)) (by rfl) rfl rfl ?_
              refine X_aload_n (pc := 266) C 0 dX7_userTold_266 rfl rfl ?_
              refine X_iload_n (pc := 267) C 1 dX7_userTold_267 rfl rfl ?_
              refine X_iconst (pc := 268) (v := 4) C dX7_userTold_268 (by decide) ?_
              refine X_iconst (pc := 269) (v := 1) C dX7_userTold_269 (by decide) ?_
              refine X_iload_n (pc := 270) C 1 dX7_userTold_270 rfl rfl ?_
              refine X_ishl (pc := 271) C dX7_userTold_271 ?_
              refine K_X7_123 (pc := 272) C (by assumption) (c_X7_putUser l P _ _ _ _ h1 (mU S) 4 hlt (by decide) _ 4 _ rfl rfl) ⟨Nat.le_of_ble_eq_true rfl, Nat.le_of_ble_eq_true rfl⟩ ⟨rfl, rfl⟩ ⟨Nat.zero_le _, Nat.zero_le _⟩ (Nat.le_of_ble_eq_true rfl) dX7_userTold_272 ?_
              refine XW.eq (σ' := mW τ (mUtS4 (τ.1 (.inr 16)) n S F L) (mUt9 (τ.1 (.inr 16)) n S F L) (mUtL (τ.1 (.inr 16)) n S F L)) (by rfl) rfl rfl ?_
              refine X_aload_n (pc := 275) C 0 dX7_userTold_275 rfl rfl ?_
              refine X_aload_n (pc := 276) C 0 dX7_userTold_276 rfl rfl ?_
              refine G_X7_164 (pc := 277) C (by assumption) dX7_userTold_277 ?_
              rw [mW_9]
              refine X_iconst (pc := 280) (v := 3) C dX7_userTold_280 (by decide) ?_
              refine X_icmp_eq (pc := 281) C 288 dX7_userTold_281 (by decide) (fun h281 => ?_) (fun h281 => ?_)
              · have g281 : (if (mUt9 (τ.1 (.inr 16)) n S F L) 16 = 3 then (0 : Int32) else 1) = 0 := if_pos h281
                refine X_iconst (pc := 288) (v := 0) C dX7_userTold_288 (by decide) ?_
                refine X_iconst (pc := 289) (v := 1) C dX7_userTold_289 (by decide) ?_
                refine K_X7_190 (pc := 290) C (by assumption) (c_X7_wrong l P _ _ _ _ h1 _ _) ⟨Nat.le_of_ble_eq_true rfl, Nat.le_of_ble_eq_true rfl⟩ ⟨rfl, rfl⟩ ⟨Nat.zero_le _, Nat.zero_le _⟩ (Nat.le_of_ble_eq_true rfl) dX7_userTold_290 ?_
                refine XW.eq (σ' := mW τ (mUtS4 (τ.1 (.inr 16)) n S F L) (mWr (mUt9 (τ.1 (.inr 16)) n S F L) (if (mUt9 (τ.1 (.inr 16)) n S F L) 16 = 3 then (0 : Int32) else 1) 1) (mUtL (τ.1 (.inr 16)) n S F L)) (by rw [g281]) rfl rfl ?_
                refine X_aload_n (pc := 293) C 0 dX7_userTold_293 rfl rfl ?_
                refine K_X7_194 (pc := 294) C (by assumption) (c_X7_go l P _ _ _ _ h1 n (mWr_TK (mUt9_TK hT))) ⟨Nat.le_of_ble_eq_true rfl, Nat.le_of_ble_eq_true rfl⟩ ⟨rfl, rfl⟩ ⟨Nat.zero_le _, Nat.zero_le _⟩ (Nat.le_of_ble_eq_true rfl) dX7_userTold_294 ?_
                refine XW.eq (σ' := mW τ (mUtS4 (τ.1 (.inr 16)) n S F L) (mUtA (τ.1 (.inr 16)) n S F L) (mUtL (τ.1 (.inr 16)) n S F L)) (by rfl) rfl rfl ?_
                refine X_aload_n (pc := 297) C 0 dX7_userTold_297 rfl rfl ?_
                refine G_X7_180 (pc := 298) C (by assumption) dX7_userTold_298 ?_
                rw [mW_9]
                refine X_if_ne (pc := 301) C 314 dX7_userTold_301 (by decide) (fun h301 => ?_) (fun h301 => ?_)
                · skip
                  exact X_vret (pc := 314) C (Nat.zero_le _) (Nat.zero_le _) dX7_userTold_314 ⟨rfl, by first | rw [mUtS, mUtF, if_pos g78, if_pos g78, if_pos h301] | rw [mUtS, mUtF, if_pos g78, if_pos g78, if_neg h301]⟩
                · skip
                  refine X_aload_n (pc := 304) C 0 dX7_userTold_304 rfl rfl ?_
                  refine G_X7_9 (pc := 305) C (by assumption) dX7_userTold_305 ?_
                  refine X_iconst (pc := 308) (v := 4) C dX7_userTold_308 (by decide) ?_
                  refine X_dup2 (pc := 309) C dX7_userTold_309 rfl rfl ?_
                  refine X_ialdN (j := 4) (pc := 310) C (by first | exact h1 _ (by decide) (by decide)) rfl (by omega) (by decide) dX7_userTold_310 ?_
                  rw [mW_10]
                  rw [mUtS4_o g78 (by omega), hM.u]
                  refine X_iconst (pc := 311) (v := 1) C dX7_userTold_311 (by decide) ?_
                  refine X_iadd (pc := 312) C dX7_userTold_312 ?_
                  rw [nI_1]
                  refine X_iastN (j := 4) (pc := 313) C (by first | exact h1 _ (by decide) (by decide)) rfl (by omega) (by decide) dX7_userTold_313 ?_
                  rw [mW_u10]
                  exact X_vret (pc := 314) C (Nat.zero_le _) (Nat.zero_le _) dX7_userTold_314 ⟨rfl, by first | rw [mUtS, mUtF, if_pos g78, if_pos g78, if_pos h301] | rw [mUtS, mUtF, if_pos g78, if_pos g78, if_neg h301]⟩
              · have g281 : (if (mUt9 (τ.1 (.inr 16)) n S F L) 16 = 3 then (0 : Int32) else 1) = 1 := if_neg h281
                refine X_iconst (pc := 284) (v := 1) C dX7_userTold_284 (by decide) ?_
                refine X_goto (pc := 285) C 289 dX7_userTold_285 (by decide) ?_
                refine X_iconst (pc := 289) (v := 1) C dX7_userTold_289 (by decide) ?_
                refine K_X7_190 (pc := 290) C (by assumption) (c_X7_wrong l P _ _ _ _ h1 _ _) ⟨Nat.le_of_ble_eq_true rfl, Nat.le_of_ble_eq_true rfl⟩ ⟨rfl, rfl⟩ ⟨Nat.zero_le _, Nat.zero_le _⟩ (Nat.le_of_ble_eq_true rfl) dX7_userTold_290 ?_
                refine XW.eq (σ' := mW τ (mUtS4 (τ.1 (.inr 16)) n S F L) (mWr (mUt9 (τ.1 (.inr 16)) n S F L) (if (mUt9 (τ.1 (.inr 16)) n S F L) 16 = 3 then (0 : Int32) else 1) 1) (mUtL (τ.1 (.inr 16)) n S F L)) (by rw [g281]) rfl rfl ?_
                refine X_aload_n (pc := 293) C 0 dX7_userTold_293 rfl rfl ?_
                refine K_X7_194 (pc := 294) C (by assumption) (c_X7_go l P _ _ _ _ h1 n (mWr_TK (mUt9_TK hT))) ⟨Nat.le_of_ble_eq_true rfl, Nat.le_of_ble_eq_true rfl⟩ ⟨rfl, rfl⟩ ⟨Nat.zero_le _, Nat.zero_le _⟩ (Nat.le_of_ble_eq_true rfl) dX7_userTold_294 ?_
                refine XW.eq (σ' := mW τ (mUtS4 (τ.1 (.inr 16)) n S F L) (mUtA (τ.1 (.inr 16)) n S F L) (mUtL (τ.1 (.inr 16)) n S F L)) (by rfl) rfl rfl ?_
                refine X_aload_n (pc := 297) C 0 dX7_userTold_297 rfl rfl ?_
                refine G_X7_180 (pc := 298) C (by assumption) dX7_userTold_298 ?_
                rw [mW_9]
                refine X_if_ne (pc := 301) C 314 dX7_userTold_301 (by decide) (fun h301 => ?_) (fun h301 => ?_)
                · skip
                  exact X_vret (pc := 314) C (Nat.zero_le _) (Nat.zero_le _) dX7_userTold_314 ⟨rfl, by first | rw [mUtS, mUtF, if_pos g78, if_pos g78, if_pos h301] | rw [mUtS, mUtF, if_pos g78, if_pos g78, if_neg h301]⟩
                · skip
                  refine X_aload_n (pc := 304) C 0 dX7_userTold_304 rfl rfl ?_
                  refine G_X7_9 (pc := 305) C (by assumption) dX7_userTold_305 ?_
                  refine X_iconst (pc := 308) (v := 4) C dX7_userTold_308 (by decide) ?_
                  refine X_dup2 (pc := 309) C dX7_userTold_309 rfl rfl ?_
                  refine X_ialdN (j := 4) (pc := 310) C (by first | exact h1 _ (by decide) (by decide)) rfl (by omega) (by decide) dX7_userTold_310 ?_
                  rw [mW_10]
                  rw [mUtS4_o g78 (by omega), hM.u]
                  refine X_iconst (pc := 311) (v := 1) C dX7_userTold_311 (by decide) ?_
                  refine X_iadd (pc := 312) C dX7_userTold_312 ?_
                  rw [nI_1]
                  refine X_iastN (j := 4) (pc := 313) C (by first | exact h1 _ (by decide) (by decide)) rfl (by omega) (by decide) dX7_userTold_313 ?_
                  rw [mW_u10]
                  exact X_vret (pc := 314) C (Nat.zero_le _) (Nat.zero_le _) dX7_userTold_314 ⟨rfl, by first | rw [mUtS, mUtF, if_pos g78, if_pos g78, if_pos h301] | rw [mUtS, mUtF, if_pos g78, if_pos g78, if_neg h301]⟩
          · skip
            exact X_vret (pc := 81) C (Nat.zero_le _) (Nat.zero_le _) dX7_userTold_81 ⟨rfl, by rw [mUtS, mUtF, if_neg h78, if_neg h78]⟩
        · have g62 : (if (mUt2 (τ.1 (.inr 16)) n S F) 20 = 0 ∧ ¬ mNmd S (mUt2 (τ.1 (.inr 16)) n S F) (mUtL (τ.1 (.inr 16)) n S F L) = -1 then (1 : Int32) else 0) = 1 := if_pos ⟨h54, h62⟩
          refine X_iconst (pc := 65) (v := 1) C dX7_userTold_65 (by decide) ?_
          refine X_goto (pc := 66) C 70 dX7_userTold_66 (by decide) ?_
          refine X_iconst (pc := 70) (v := 4) C dX7_userTold_70 (by decide) ?_
          refine K_X7_190 (pc := 71) C (by assumption) (c_X7_wrong l P _ _ _ _ h1 _ _) ⟨Nat.le_of_ble_eq_true rfl, Nat.le_of_ble_eq_true rfl⟩ ⟨rfl, rfl⟩ ⟨Nat.zero_le _, Nat.zero_le _⟩ (Nat.le_of_ble_eq_true rfl) dX7_userTold_71 ?_
          refine XW.eq (σ' := mW τ S (mUt3 (τ.1 (.inr 16)) n S F L) (mUtL (τ.1 (.inr 16)) n S F L)) (by rw [mUt3, g62]) rfl rfl ?_
          refine X_aload_n (pc := 74) C 0 dX7_userTold_74 rfl rfl ?_
          refine G_X7_180 (pc := 75) C (by assumption) dX7_userTold_75 ?_
          rw [mW_9]
          refine X_if_eq (pc := 78) C 82 dX7_userTold_78 (by decide) (fun h78 => ?_) (fun h78 => ?_)
          · have g78 := h78
            have hlt := mUt_lt hM h78
            refine X_aload_n (pc := 82) C 0 dX7_userTold_82 rfl rfl ?_
            refine G_X7_9 (pc := 83) C (by assumption) dX7_userTold_83 ?_
            refine X_iconst (pc := 86) (v := 4) C dX7_userTold_86 (by decide) ?_
            refine X_ialdN (j := 4) (pc := 87) C (by first | exact h1 _ (by decide) (by decide)) rfl (by omega) (by decide) dX7_userTold_87 ?_
            rw [mW_10]
            rw [hM.u]
            refine X_istore_n (pc := 88) (lv1 := [(0, _), (1, _)]) C 1 dX7_userTold_88 rfl (by decide) rfl ?_
            refine X_aload_n (pc := 89) C 0 dX7_userTold_89 rfl rfl ?_
            refine X_iload_n (pc := 90) C 1 dX7_userTold_90 rfl rfl ?_
            refine X_iconst (pc := 91) (v := 5) C dX7_userTold_91 (by decide) ?_
            refine X_aload_n (pc := 92) C 0 dX7_userTold_92 rfl rfl ?_
            refine G_X7_148 (pc := 93) C (by assumption) dX7_userTold_93 ?_
            rw [mW_9]
            refine K_X7_123 (pc := 96) C (by assumption) (c_X7_putUser l P _ _ _ _ h1 (mU S) 5 hlt (by decide) _ 5 _ rfl rfl) ⟨Nat.le_of_ble_eq_true rfl, Nat.le_of_ble_eq_true rfl⟩ ⟨rfl, rfl⟩ ⟨Nat.zero_le _, Nat.zero_le _⟩ (Nat.le_of_ble_eq_true rfl) dX7_userTold_96 ?_
            refine XW.eq (σ' := mW τ (upd S (10 + 12 * mU S + 5) ((mUt3 (τ.1 (.inr 16)) n S F L) 15)) (mUt3 (τ.1 (.inr 16)) n S F L) (mUtL (τ.1 (.inr 16)) n S F L)) (by rfl) rfl rfl ?_
            refine X_iconst (pc := 99) (v := 0) C dX7_userTold_99 (by decide) ?_
            refine X_istore_n (pc := 100) (lv1 := [(0, _), (1, _), (2, _)]) C 2 dX7_userTold_100 rfl (by decide) rfl ?_
            have g15 := mUt3_15 g78
            refine L1_X7_userTold C h1 hlt g15.1 g15.2 ?_ (cN ((mUt3 (τ.1 (.inr 16)) n S F L) 15)) 0 (by omega)
            refine XW.eq (σ' := mW τ (mUtS2 (τ.1 (.inr 16)) n S F L) (mUt3 (τ.1 (.inr 16)) n S F L) (mUtL (τ.1 (.inr 16)) n S F L)) (by rfl) rfl rfl ?_
            refine X_aload_n (pc := 130) C 0 dX7_userTold_130 rfl rfl ?_
            refine K_X7_194 (pc := 131) C (by assumption) (c_X7_go l P _ _ _ _ h1 n (mUt3_TK hT)) ⟨Nat.le_of_ble_eq_true rfl, Nat.le_of_ble_eq_true rfl⟩ ⟨rfl, rfl⟩ ⟨Nat.zero_le _, Nat.zero_le _⟩ (Nat.le_of_ble_eq_true rfl) dX7_userTold_131 ?_
            refine XW.eq (σ' := mW τ (mUtS2 (τ.1 (.inr 16)) n S F L) (mUt4 (τ.1 (.inr 16)) n S F L) (mUtL (τ.1 (.inr 16)) n S F L)) (by rfl) rfl rfl ?_
            refine X_aload_n (pc := 134) C 0 dX7_userTold_134 rfl rfl ?_
            refine X_iconst (pc := 135) (v := 0) C dX7_userTold_135 (by decide) ?_
            refine X_aload_n (pc := 136) C 0 dX7_userTold_136 rfl rfl ?_
            refine G_X7_9 (pc := 137) C (by assumption) dX7_userTold_137 ?_
            refine X_iconst (pc := 140) (v := 1) C dX7_userTold_140 (by decide) ?_
            refine X_ialdN (j := 1) (pc := 141) C (by first | exact h1 _ (by decide) (by decide)) rfl (by omega) (by decide) dX7_userTold_141 ?_
            rw [mW_10]
            rw [mUtS2_o g78 (by omega)]
            refine X_iconst (pc := 142) (v := 1) C dX7_userTold_142 (by decide) ?_
            refine X_isub (pc := 143) C dX7_userTold_143 ?_
            refine K_X7_203 (pc := 144) C (by assumption) (c_X7_number l P _ _ _ _ h1 n (mUt4_TK hT) 0 _) ⟨Nat.le_of_ble_eq_true rfl, Nat.le_of_ble_eq_true rfl⟩ ⟨rfl, rfl⟩ ⟨Nat.zero_le _, Nat.zero_le _⟩ (Nat.le_of_ble_eq_true rfl) dX7_userTold_144 ?_
            refine XW.eq (σ' := mW τ (mUtS2 (τ.1 (.inr 16)) n S F L) (mUt5 (τ.1 (.inr 16)) n S F L) (mUtL (τ.1 (.inr 16)) n S F L)) (st' := [.int (mUtX (τ.1 (.inr 16)) n S F L)]) rfl rfl rfl ?_
            refine X_istore_n (pc := 147) (lv1 := [(0, _), (1, _), (2, _)]) C 2 dX7_userTold_147 rfl (by decide) rfl ?_
            refine X_aload_n (pc := 148) C 0 dX7_userTold_148 rfl rfl ?_
            refine G_X7_180 (pc := 149) C (by assumption) dX7_userTold_149 ?_
            rw [mW_9]
            refine X_if_eq (pc := 152) C 159 dX7_userTold_152 (by decide) (fun h152 => ?_) (fun h152 => ?_)
            · have e6 : (mUt6 (τ.1 (.inr 16)) n S F L) = (mRh (τ.1 (.inr 16)) (mUt5 (τ.1 (.inr 16)) n S F L)).1 := if_pos h152
              have eY : (mUtY (τ.1 (.inr 16)) n S F L) = (mRh (τ.1 (.inr 16)) (mUt5 (τ.1 (.inr 16)) n S F L)).2 := if_pos h152
              refine X_aload_n (pc := 159) C 0 dX7_userTold_159 rfl rfl ?_
              refine K_X7_212 (pc := 160) C (by assumption) (c_X7_ringsHere l P _ _ _ _ h1 n (mUt5_TK hT)) ⟨Nat.le_of_ble_eq_true rfl, Nat.le_of_ble_eq_true rfl⟩ ⟨rfl, rfl⟩ ⟨Nat.zero_le _, Nat.zero_le _⟩ (Nat.le_of_ble_eq_true rfl) dX7_userTold_160 ?_
              refine X_istore_n (pc := 163) (lv1 := [(0, _), (1, _), (2, _), (3, _)]) C 3 dX7_userTold_163 rfl (by decide) rfl ?_
              refine X_iconst (pc := 164) (v := 0) C dX7_userTold_164 (by decide) ?_
              refine X_istore (pc := 165) (lv1 := [(0, _), (1, _), (2, _), (3, _), (4, _)]) C dX7_userTold_165 (by decide) rfl ?_
              refine XW.eq (σ' := mW τ (mUtS2 (τ.1 (.inr 16)) n S F L) (mUt6 (τ.1 (.inr 16)) n S F L) (mUtL (τ.1 (.inr 16)) n S F L)) (lv' := [(0, .ref (P.2.2.1 (.inr 9))), (1, .int (nI (mU S))), (2, .int (mUtX (τ.1 (.inr 16)) n S F L)), (3, .int (mUtY (τ.1 (.inr 16)) n S F L)), (4, .int (nI 0))]) (by rw [e6]) (by rw [eY]; rfl) rfl ?_
              refine L2_X7_userTold C h1 (u := mU S) (by omega) mUtY_ok (fun j hj => by rw [sU, mUtS2_o g78 (by omega)]; exact hC j hj) (mU S) 0 _ (by omega) ?_
              refine XW.eq (σ' := mW τ (mUtS2 (τ.1 (.inr 16)) n S F L) (mUt7 (τ.1 (.inr 16)) n S F L) (mUtL (τ.1 (.inr 16)) n S F L)) (by rfl) rfl rfl ?_
              refine X_aload_n (pc := 235) C 0 dX7_userTold_235 rfl rfl ?_
              refine K_X7_194 (pc := 236) C (by assumption) (c_X7_go l P _ _ _ _ h1 n (mUt7_TK hT)) ⟨Nat.le_of_ble_eq_true rfl, Nat.le_of_ble_eq_true rfl⟩ ⟨rfl, rfl⟩ ⟨Nat.zero_le _, Nat.zero_le _⟩ (Nat.le_of_ble_eq_true rfl) dX7_userTold_236 ?_
              refine XW.eq (σ' := mW τ (mUtS2 (τ.1 (.inr 16)) n S F L) (mUt8 (τ.1 (.inr 16)) n S F L) (mUtL (τ.1 (.inr 16)) n S F L)) (by rfl) rfl rfl ?_
              refine X_aload_n (pc := 239) C 0 dX7_userTold_239 rfl rfl ?_
              refine X_iload_n (pc := 240) C 1 dX7_userTold_240 rfl rfl ?_
              refine X_iconst (pc := 241) (v := 0) C dX7_userTold_241 (by decide) ?_
              refine X_iload_n (pc := 242) C 2 dX7_userTold_242 rfl rfl ?_
              refine K_X7_123 (pc := 243) C (by assumption) (c_X7_putUser l P _ _ _ _ h1 (mU S) 0 hlt (by decide) _ 0 _ rfl rfl) ⟨Nat.le_of_ble_eq_true rfl, Nat.le_of_ble_eq_true rfl⟩ ⟨rfl, rfl⟩ ⟨Nat.zero_le _, Nat.zero_le _⟩ (Nat.le_of_ble_eq_true rfl) dX7_userTold_243 ?_
              skip
              refine X_aload_n (pc := 246) C 0 dX7_userTold_246 rfl rfl ?_
              refine X_iload_n (pc := 247) C 1 dX7_userTold_247 rfl rfl ?_
              refine X_iconst (pc := 248) (v := 1) C dX7_userTold_248 (by decide) ?_
              refine X_iload_n (pc := 249) C 3 dX7_userTold_249 rfl rfl ?_
              refine K_X7_123 (pc := 250) C (by assumption) (c_X7_putUser l P _ _ _ _ h1 (mU S) 1 hlt (by decide) _ 1 _ rfl rfl) ⟨Nat.le_of_ble_eq_true rfl, Nat.le_of_ble_eq_true rfl⟩ ⟨rfl, rfl⟩ ⟨Nat.zero_le _, Nat.zero_le _⟩ (Nat.le_of_ble_eq_true rfl) dX7_userTold_250 ?_
              refine X_aload_n (pc := 253) C 0 dX7_userTold_253 rfl rfl ?_
              refine X_iload_n (pc := 254) C 1 dX7_userTold_254 rfl rfl ?_
              refine X_iconst (pc := 255) (v := 2) C dX7_userTold_255 (by decide) ?_
              refine X_aload_n (pc := 256) C 0 dX7_userTold_256 rfl rfl ?_
              refine X_iconst (pc := 257) (v := 0) C dX7_userTold_257 (by decide) ?_
              refine X_bipush (pc := 258) (v := 9) C dX7_userTold_258 (by decide) ?_
              refine K_X7_203 (pc := 260) C (by assumption) (c_X7_number l P _ _ _ _ h1 n (mUt8_TK hT) 0 9) ⟨Nat.le_of_ble_eq_true rfl, Nat.le_of_ble_eq_true rfl⟩ ⟨rfl, rfl⟩ ⟨Nat.zero_le _, Nat.zero_le _⟩ (Nat.le_of_ble_eq_true rfl) dX7_userTold_260 ?_
              refine K_X7_123 (pc := 263) C (by assumption) (c_X7_putUser l P _ _ _ _ h1 (mU S) 2 hlt (by decide) _ 2 _ rfl rfl) ⟨Nat.le_of_ble_eq_true rfl, Nat.le_of_ble_eq_true rfl⟩ ⟨rfl, rfl⟩ ⟨Nat.zero_le _, Nat.zero_le _⟩ (Nat.le_of_ble_eq_true rfl) dX7_userTold_263 ?_
              refine XW.eq (σ' := mW τ (upd (upd (upd (mUtS2 (τ.1 (.inr 16)) n S F L) (10 + 12 * mU S + 0) (mUtX (τ.1 (.inr 16)) n S F L)) (10 + 12 * mU S + 1) (mUtY (τ.1 (.inr 16)) n S F L)) (10 + 12 * mU S + 2) (mUtZ (τ.1 (.inr 16)) n S F L)) (mUt9 (τ.1 (.inr 16)) n S F L) (mUtL (τ.1 (.inr 16)) n S F L)) (by rfl) rfl rfl ?_
              refine X_aload_n (pc := 266) C 0 dX7_userTold_266 rfl rfl ?_
              refine X_iload_n (pc := 267) C 1 dX7_userTold_267 rfl rfl ?_
              refine X_iconst (pc := 268) (v := 4) C dX7_userTold_268 (by decide) ?_
              refine X_iconst (pc := 269) (v := 1) C dX7_userTold_269 (by decide) ?_
              refine X_iload_n (pc := 270) C 1 dX7_userTold_270 rfl rfl ?_
              refine X_ishl (pc := 271) C dX7_userTold_271 ?_
              refine K_X7_123 (pc := 272) C (by assumption) (c_X7_putUser l P _ _ _ _ h1 (mU S) 4 hlt (by decide) _ 4 _ rfl rfl) ⟨Nat.le_of_ble_eq_true rfl, Nat.le_of_ble_eq_true rfl⟩ ⟨rfl, rfl⟩ ⟨Nat.zero_le _, Nat.zero_le _⟩ (Nat.le_of_ble_eq_true rfl) dX7_userTold_272 ?_
              refine XW.eq (σ' := mW τ (mUtS4 (τ.1 (.inr 16)) n S F L) (mUt9 (τ.1 (.inr 16)) n S F L) (mUtL (τ.1 (.inr 16)) n S F L)) (by rfl) rfl rfl ?_
              refine X_aload_n (pc := 275) C 0 dX7_userTold_275 rfl rfl ?_
              refine X_aload_n (pc := 276) C 0 dX7_userTold_276 rfl rfl ?_
              refine G_X7_164 (pc := 277) C (by assumption) dX7_userTold_277 ?_
              rw [mW_9]
              refine X_iconst (pc := 280) (v := 3) C dX7_userTold_280 (by decide) ?_
              refine X_icmp_eq (pc := 281) C 288 dX7_userTold_281 (by decide) (fun h281 => ?_) (fun h281 => ?_)
              · have g281 : (if (mUt9 (τ.1 (.inr 16)) n S F L) 16 = 3 then (0 : Int32) else 1) = 0 := if_pos h281
                refine X_iconst (pc := 288) (v := 0) C dX7_userTold_288 (by decide) ?_
                refine X_iconst (pc := 289) (v := 1) C dX7_userTold_289 (by decide) ?_
                refine K_X7_190 (pc := 290) C (by assumption) (c_X7_wrong l P _ _ _ _ h1 _ _) ⟨Nat.le_of_ble_eq_true rfl, Nat.le_of_ble_eq_true rfl⟩ ⟨rfl, rfl⟩ ⟨Nat.zero_le _, Nat.zero_le _⟩ (Nat.le_of_ble_eq_true rfl) dX7_userTold_290 ?_
                refine XW.eq (σ' := mW τ (mUtS4 (τ.1 (.inr 16)) n S F L) (mWr (mUt9 (τ.1 (.inr 16)) n S F L) (if (mUt9 (τ.1 (.inr 16)) n S F L) 16 = 3 then (0 : Int32) else 1) 1) (mUtL (τ.1 (.inr 16)) n S F L)) (by rw [g281]) rfl rfl ?_
                refine X_aload_n (pc := 293) C 0 dX7_userTold_293 rfl rfl ?_
                refine K_X7_194 (pc := 294) C (by assumption) (c_X7_go l P _ _ _ _ h1 n (mWr_TK (mUt9_TK hT))) ⟨Nat.le_of_ble_eq_true rfl, Nat.le_of_ble_eq_true rfl⟩ ⟨rfl, rfl⟩ ⟨Nat.zero_le _, Nat.zero_le _⟩ (Nat.le_of_ble_eq_true rfl) dX7_userTold_294 ?_
                refine XW.eq (σ' := mW τ (mUtS4 (τ.1 (.inr 16)) n S F L) (mUtA (τ.1 (.inr 16)) n S F L) (mUtL (τ.1 (.inr 16)) n S F L)) (by rfl) rfl rfl ?_
                refine X_aload_n (pc := 297) C 0 dX7_userTold_297 rfl rfl ?_
                refine G_X7_180 (pc := 298) C (by assumption) dX7_userTold_298 ?_
                rw [mW_9]
                refine X_if_ne (pc := 301) C 314 dX7_userTold_301 (by decide) (fun h301 => ?_) (fun h301 => ?_)
                · skip
                  exact X_vret (pc := 314) C (Nat.zero_le _) (Nat.zero_le _) dX7_userTold_314 ⟨rfl, by first | rw [mUtS, mUtF, if_pos g78, if_pos g78, if_pos h301] | rw [mUtS, mUtF, if_pos g78, if_pos g78, if_neg h301]⟩
                · skip
                  refine X_aload_n (pc := 304) C 0 dX7_userTold_304 rfl rfl ?_
                  refine G_X7_9 (pc := 305) C (by assumption) dX7_userTold_305 ?_
                  refine X_iconst (pc := 308) (v := 4) C dX7_userTold_308 (by decide) ?_
                  refine X_dup2 (pc := 309) C dX7_userTold_309 rfl rfl ?_
                  refine X_ialdN (j := 4) (pc := 310) C (by first | exact h1 _ (by decide) (by decide)) rfl (by omega) (by decide) dX7_userTold_310 ?_
                  rw [mW_10]
                  rw [mUtS4_o g78 (by omega), hM.u]
                  refine X_iconst (pc := 311) (v := 1) C dX7_userTold_311 (by decide) ?_
                  refine X_iadd (pc := 312) C dX7_userTold_312 ?_
                  rw [nI_1]
                  refine X_iastN (j := 4) (pc := 313) C (by first | exact h1 _ (by decide) (by decide)) rfl (by omega) (by decide) dX7_userTold_313 ?_
                  rw [mW_u10]
                  exact X_vret (pc := 314) C (Nat.zero_le _) (Nat.zero_le _) dX7_userTold_314 ⟨rfl, by first | rw [mUtS, mUtF, if_pos g78, if_pos g78, if_pos h301] | rw [mUtS, mUtF, if_pos g78, if_pos g78, if_neg h301]⟩
              · have g281 : (if (mUt9 (τ.1 (.inr 16)) n S F L) 16 = 3 then (0 : Int32) else 1) = 1 := if_neg h281
                refine X_iconst (pc := 284) (v := 1) C dX7_userTold_284 (by decide) ?_
                refine X_goto (pc := 285) C 289 dX7_userTold_285 (by decide) ?_
                refine X_iconst (pc := 289) (v := 1) C dX7_userTold_289 (by decide) ?_
                refine K_X7_190 (pc := 290) C (by assumption) (c_X7_wrong l P _ _ _ _ h1 _ _) ⟨Nat.le_of_ble_eq_true rfl, Nat.le_of_ble_eq_true rfl⟩ ⟨rfl, rfl⟩ ⟨Nat.zero_le _, Nat.zero_le _⟩ (Nat.le_of_ble_eq_true rfl) dX7_userTold_290 ?_
                refine XW.eq (σ' := mW τ (mUtS4 (τ.1 (.inr 16)) n S F L) (mWr (mUt9 (τ.1 (.inr 16)) n S F L) (if (mUt9 (τ.1 (.inr 16)) n S F L) 16 = 3 then (0 : Int32) else 1) 1) (mUtL (τ.1 (.inr 16)) n S F L)) (by rw [g281]) rfl rfl ?_
                refine X_aload_n (pc := 293) C 0 dX7_userTold_293 rfl rfl ?_
                refine K_X7_194 (pc := 294) C (by assumption) (c_X7_go l P _ _ _ _ h1 n (mWr_TK (mUt9_TK hT))) ⟨Nat.le_of_ble_eq_true rfl, Nat.le_of_ble_eq_true rfl⟩ ⟨rfl, rfl⟩ ⟨Nat.zero_le _, Nat.zero_le _⟩ (Nat.le_of_ble_eq_true rfl) dX7_userTold_294 ?_
                refine XW.eq (σ' := mW τ (mUtS4 (τ.1 (.inr 16)) n S F L) (mUtA (τ.1 (.inr 16)) n S F L) (mUtL (τ.1 (.inr 16)) n S F L)) (by rfl) rfl rfl ?_
                refine X_aload_n (pc := 297) C 0 dX7_userTold_297 rfl rfl ?_
                refine G_X7_180 (pc := 298) C (by assumption) dX7_userTold_298 ?_
                rw [mW_9]
                refine X_if_ne (pc := 301) C 314 dX7_userTold_301 (by decide) (fun h301 => ?_) (fun h301 => ?_)
                · skip
                  exact X_vret (pc := 314) C (Nat.zero_le _) (Nat.zero_le _) dX7_userTold_314 ⟨rfl, by first | rw [mUtS, mUtF, if_pos g78, if_pos g78, if_pos h301] | rw [mUtS, mUtF, if_pos g78, if_pos g78, if_neg h301]⟩
                · skip
                  refine X_aload_n (pc := 304) C 0 dX7_userTold_304 rfl rfl ?_
                  refine G_X7_9 (pc := 305) C (by assumption) dX7_userTold_305 ?_
                  refine X_iconst (pc := 308) (v := 4) C dX7_userTold_308 (by decide) ?_
                  refine X_dup2 (pc := 309) C dX7_userTold_309 rfl rfl ?_
                  refine X_ialdN (j := 4) (pc := 310) C (by first | exact h1 _ (by decide) (by decide)) rfl (by omega) (by decide) dX7_userTold_310 ?_
                  rw [mW_10]
                  rw [mUtS4_o g78 (by omega), hM.u]
                  refine X_iconst (pc := 311) (v := 1) C dX7_userTold_311 (by decide) ?_
                  refine X_iadd (pc := 312) C dX7_userTold_312 ?_
                  rw [nI_1]
                  refine X_iastN (j := 4) (pc := 313) C (by first | exact h1 _ (by decide) (by decide)) rfl (by omega) (by decide) dX7_userTold_313 ?_
                  rw [mW_u10]
                  exact X_vret (pc := 314) C (Nat.zero_le _) (Nat.zero_le _) dX7_userTold_314 ⟨rfl, by first | rw [mUtS, mUtF, if_pos g78, if_pos g78, if_pos h301] | rw [mUtS, mUtF, if_pos g78, if_pos g78, if_neg h301]⟩
            · have e6 : (mUt6 (τ.1 (.inr 16)) n S F L) = (mUt5 (τ.1 (.inr 16)) n S F L) := if_neg h152
              have eY : (mUtY (τ.1 (.inr 16)) n S F L) = 1 := if_neg h152
              refine X_iconst (pc := 155) (v := 1) C dX7_userTold_155 (by decide) ?_
              refine X_goto (pc := 156) C 163 dX7_userTold_156 (by decide) ?_
              refine X_istore_n (pc := 163) (lv1 := [(0, _), (1, _), (2, _), (3, _)]) C 3 dX7_userTold_163 rfl (by decide) rfl ?_
              refine X_iconst (pc := 164) (v := 0) C dX7_userTold_164 (by decide) ?_
              refine X_istore (pc := 165) (lv1 := [(0, _), (1, _), (2, _), (3, _), (4, _)]) C dX7_userTold_165 (by decide) rfl ?_
              refine XW.eq (σ' := mW τ (mUtS2 (τ.1 (.inr 16)) n S F L) (mUt6 (τ.1 (.inr 16)) n S F L) (mUtL (τ.1 (.inr 16)) n S F L)) (lv' := [(0, .ref (P.2.2.1 (.inr 9))), (1, .int (nI (mU S))), (2, .int (mUtX (τ.1 (.inr 16)) n S F L)), (3, .int (mUtY (τ.1 (.inr 16)) n S F L)), (4, .int (nI 0))]) (by rw [e6]) (by rw [eY]; rfl) rfl ?_
              refine L2_X7_userTold C h1 (u := mU S) (by omega) mUtY_ok (fun j hj => by rw [sU, mUtS2_o g78 (by omega)]; exact hC j hj) (mU S) 0 _ (by omega) ?_
              refine XW.eq (σ' := mW τ (mUtS2 (τ.1 (.inr 16)) n S F L) (mUt7 (τ.1 (.inr 16)) n S F L) (mUtL (τ.1 (.inr 16)) n S F L)) (by rfl) rfl rfl ?_
              refine X_aload_n (pc := 235) C 0 dX7_userTold_235 rfl rfl ?_
              refine K_X7_194 (pc := 236) C (by assumption) (c_X7_go l P _ _ _ _ h1 n (mUt7_TK hT)) ⟨Nat.le_of_ble_eq_true rfl, Nat.le_of_ble_eq_true rfl⟩ ⟨rfl, rfl⟩ ⟨Nat.zero_le _, Nat.zero_le _⟩ (Nat.le_of_ble_eq_true rfl) dX7_userTold_236 ?_
              refine XW.eq (σ' := mW τ (mUtS2 (τ.1 (.inr 16)) n S F L) (mUt8 (τ.1 (.inr 16)) n S F L) (mUtL (τ.1 (.inr 16)) n S F L)) (by rfl) rfl rfl ?_
              refine X_aload_n (pc := 239) C 0 dX7_userTold_239 rfl rfl ?_
              refine X_iload_n (pc := 240) C 1 dX7_userTold_240 rfl rfl ?_
              refine X_iconst (pc := 241) (v := 0) C dX7_userTold_241 (by decide) ?_
              refine X_iload_n (pc := 242) C 2 dX7_userTold_242 rfl rfl ?_
              refine K_X7_123 (pc := 243) C (by assumption) (c_X7_putUser l P _ _ _ _ h1 (mU S) 0 hlt (by decide) _ 0 _ rfl rfl) ⟨Nat.le_of_ble_eq_true rfl, Nat.le_of_ble_eq_true rfl⟩ ⟨rfl, rfl⟩ ⟨Nat.zero_le _, Nat.zero_le _⟩ (Nat.le_of_ble_eq_true rfl) dX7_userTold_243 ?_
              skip
              refine X_aload_n (pc := 246) C 0 dX7_userTold_246 rfl rfl ?_
              refine X_iload_n (pc := 247) C 1 dX7_userTold_247 rfl rfl ?_
              refine X_iconst (pc := 248) (v := 1) C dX7_userTold_248 (by decide) ?_
              refine X_iload_n (pc := 249) C 3 dX7_userTold_249 rfl rfl ?_
              refine K_X7_123 (pc := 250) C (by assumption) (c_X7_putUser l P _ _ _ _ h1 (mU S) 1 hlt (by decide) _ 1 _ rfl rfl) ⟨Nat.le_of_ble_eq_true rfl, Nat.le_of_ble_eq_true rfl⟩ ⟨rfl, rfl⟩ ⟨Nat.zero_le _, Nat.zero_le _⟩ (Nat.le_of_ble_eq_true rfl) dX7_userTold_250 ?_
              refine X_aload_n (pc := 253) C 0 dX7_userTold_253 rfl rfl ?_
              refine X_iload_n (pc := 254) C 1 dX7_userTold_254 rfl rfl ?_
              refine X_iconst (pc := 255) (v := 2) C dX7_userTold_255 (by decide) ?_
              refine X_aload_n (pc := 256) C 0 dX7_userTold_256 rfl rfl ?_
              refine X_iconst (pc := 257) (v := 0) C dX7_userTold_257 (by decide) ?_
              refine X_bipush (pc := 258) (v := 9) C dX7_userTold_258 (by decide) ?_
              refine K_X7_203 (pc := 260) C (by assumption) (c_X7_number l P _ _ _ _ h1 n (mUt8_TK hT) 0 9) ⟨Nat.le_of_ble_eq_true rfl, Nat.le_of_ble_eq_true rfl⟩ ⟨rfl, rfl⟩ ⟨Nat.zero_le _, Nat.zero_le _⟩ (Nat.le_of_ble_eq_true rfl) dX7_userTold_260 ?_
              refine K_X7_123 (pc := 263) C (by assumption) (c_X7_putUser l P _ _ _ _ h1 (mU S) 2 hlt (by decide) _ 2 _ rfl rfl) ⟨Nat.le_of_ble_eq_true rfl, Nat.le_of_ble_eq_true rfl⟩ ⟨rfl, rfl⟩ ⟨Nat.zero_le _, Nat.zero_le _⟩ (Nat.le_of_ble_eq_true rfl) dX7_userTold_263 ?_
              refine XW.eq (σ' := mW τ (upd (upd (upd (mUtS2 (τ.1 (.inr 16)) n S F L) (10 + 12 * mU S + 0) (mUtX (τ.1 (.inr 16)) n S F L)) (10 + 12 * mU S + 1) (mUtY (τ.1 (.inr 16)) n S F L)) (10 + 12 * mU S + 2) (mUtZ (τ.1 (.inr 16)) n S F L)) (mUt9 (τ.1 (.inr 16)) n S F L) (mUtL (τ.1 (.inr 16)) n S F L)) (by rfl) rfl rfl ?_
              refine X_aload_n (pc := 266) C 0 dX7_userTold_266 rfl rfl ?_
              refine X_iload_n (pc := 267) C 1 dX7_userTold_267 rfl rfl ?_
              refine X_iconst (pc := 268) (v := 4) C dX7_userTold_268 (by decide) ?_
              refine X_iconst (pc := 269) (v := 1) C dX7_userTold_269 (by decide) ?_
              refine X_iload_n (pc := 270) C 1 dX7_userTold_270 rfl rfl ?_
              refine X_ishl (pc := 271) C dX7_userTold_271 ?_
              refine K_X7_123 (pc := 272) C (by assumption) (c_X7_putUser l P _ _ _ _ h1 (mU S) 4 hlt (by decide) _ 4 _ rfl rfl) ⟨Nat.le_of_ble_eq_true rfl, Nat.le_of_ble_eq_true rfl⟩ ⟨rfl, rfl⟩ ⟨Nat.zero_le _, Nat.zero_le _⟩ (Nat.le_of_ble_eq_true rfl) dX7_userTold_272 ?_
              refine XW.eq (σ' := mW τ (mUtS4 (τ.1 (.inr 16)) n S F L) (mUt9 (τ.1 (.inr 16)) n S F L) (mUtL (τ.1 (.inr 16)) n S F L)) (by rfl) rfl rfl ?_
              refine X_aload_n (pc := 275) C 0 dX7_userTold_275 rfl rfl ?_
              refine X_aload_n (pc := 276) C 0 dX7_userTold_276 rfl rfl ?_
              refine G_X7_164 (pc := 277) C (by assumption) dX7_userTold_277 ?_
              rw [mW_9]
              refine X_iconst (pc := 280) (v := 3) C dX7_userTold_280 (by decide) ?_
              refine X_icmp_eq (pc := 281) C 288 dX7_userTold_281 (by decide) (fun h281 => ?_) (fun h281 => ?_)
              · have g281 : (if (mUt9 (τ.1 (.inr 16)) n S F L) 16 = 3 then (0 : Int32) else 1) = 0 := if_pos h281
                refine X_iconst (pc := 288) (v := 0) C dX7_userTold_288 (by decide) ?_
                refine X_iconst (pc := 289) (v := 1) C dX7_userTold_289 (by decide) ?_
                refine K_X7_190 (pc := 290) C (by assumption) (c_X7_wrong l P _ _ _ _ h1 _ _) ⟨Nat.le_of_ble_eq_true rfl, Nat.le_of_ble_eq_true rfl⟩ ⟨rfl, rfl⟩ ⟨Nat.zero_le _, Nat.zero_le _⟩ (Nat.le_of_ble_eq_true rfl) dX7_userTold_290 ?_
                refine XW.eq (σ' := mW τ (mUtS4 (τ.1 (.inr 16)) n S F L) (mWr (mUt9 (τ.1 (.inr 16)) n S F L) (if (mUt9 (τ.1 (.inr 16)) n S F L) 16 = 3 then (0 : Int32) else 1) 1) (mUtL (τ.1 (.inr 16)) n S F L)) (by rw [g281]) rfl rfl ?_
                refine X_aload_n (pc := 293) C 0 dX7_userTold_293 rfl rfl ?_
                refine K_X7_194 (pc := 294) C (by assumption) (c_X7_go l P _ _ _ _ h1 n (mWr_TK (mUt9_TK hT))) ⟨Nat.le_of_ble_eq_true rfl, Nat.le_of_ble_eq_true rfl⟩ ⟨rfl, rfl⟩ ⟨Nat.zero_le _, Nat.zero_le _⟩ (Nat.le_of_ble_eq_true rfl) dX7_userTold_294 ?_
                refine XW.eq (σ' := mW τ (mUtS4 (τ.1 (.inr 16)) n S F L) (mUtA (τ.1 (.inr 16)) n S F L) (mUtL (τ.1 (.inr 16)) n S F L)) (by rfl) rfl rfl ?_
                refine X_aload_n (pc := 297) C 0 dX7_userTold_297 rfl rfl ?_
                refine G_X7_180 (pc := 298) C (by assumption) dX7_userTold_298 ?_
                rw [mW_9]
                refine X_if_ne (pc := 301) C 314 dX7_userTold_301 (by decide) (fun h301 => ?_) (fun h301 => ?_)
                · skip
                  exact X_vret (pc := 314) C (Nat.zero_le _) (Nat.zero_le _) dX7_userTold_314 ⟨rfl, by first | rw [mUtS, mUtF, if_pos g78, if_pos g78, if_pos h301] | rw [mUtS, mUtF, if_pos g78, if_pos g78, if_neg h301]⟩
                · skip
                  refine X_aload_n (pc := 304) C 0 dX7_userTold_304 rfl rfl ?_
                  refine G_X7_9 (pc := 305) C (by assumption) dX7_userTold_305 ?_
                  refine X_iconst (pc := 308) (v := 4) C dX7_userTold_308 (by decide) ?_
                  refine X_dup2 (pc := 309) C dX7_userTold_309 rfl rfl ?_
                  refine X_ialdN (j := 4) (pc := 310) C (by first | exact h1 _ (by decide) (by decide)) rfl (by omega) (by decide) dX7_userTold_310 ?_
                  rw [mW_10]
                  rw [mUtS4_o g78 (by omega), hM.u]
                  refine X_iconst (pc := 311) (v := 1) C dX7_userTold_311 (by decide) ?_
                  refine X_iadd (pc := 312) C dX7_userTold_312 ?_
                  rw [nI_1]
                  refine X_iastN (j := 4) (pc := 313) C (by first | exact h1 _ (by decide) (by decide)) rfl (by omega) (by decide) dX7_userTold_313 ?_
                  rw [mW_u10]
                  exact X_vret (pc := 314) C (Nat.zero_le _) (Nat.zero_le _) dX7_userTold_314 ⟨rfl, by first | rw [mUtS, mUtF, if_pos g78, if_pos g78, if_pos h301] | rw [mUtS, mUtF, if_pos g78, if_pos g78, if_neg h301]⟩
              · have g281 : (if (mUt9 (τ.1 (.inr 16)) n S F L) 16 = 3 then (0 : Int32) else 1) = 1 := if_neg h281
                refine X_iconst (pc := 284) (v := 1) C dX7_userTold_284 (by decide) ?_
                refine X_goto (pc := 285) C 289 dX7_userTold_285 (by decide) ?_
                refine X_iconst (pc := 289) (v := 1) C dX7_userTold_289 (by decide) ?_
                refine K_X7_190 (pc := 290) C (by assumption) (c_X7_wrong l P _ _ _ _ h1 _ _) ⟨Nat.le_of_ble_eq_true rfl, Nat.le_of_ble_eq_true rfl⟩ ⟨rfl, rfl⟩ ⟨Nat.zero_le _, Nat.zero_le _⟩ (Nat.le_of_ble_eq_true rfl) dX7_userTold_290 ?_
                refine XW.eq (σ' := mW τ (mUtS4 (τ.1 (.inr 16)) n S F L) (mWr (mUt9 (τ.1 (.inr 16)) n S F L) (if (mUt9 (τ.1 (.inr 16)) n S F L) 16 = 3 then (0 : Int32) else 1) 1) (mUtL (τ.1 (.inr 16)) n S F L)) (by rw [g281]) rfl rfl ?_
                refine X_aload_n (pc := 293) C 0 dX7_userTold_293 rfl rfl ?_
                refine K_X7_194 (pc := 294) C (by assumption) (c_X7_go l P _ _ _ _ h1 n (mWr_TK (mUt9_TK hT))) ⟨Nat.le_of_ble_eq_true rfl, Nat.le_of_ble_eq_true rfl⟩ ⟨rfl, rfl⟩ ⟨Nat.zero_le _, Nat.zero_le _⟩ (Nat.le_of_ble_eq_true rfl) dX7_userTold_294 ?_
                refine XW.eq (σ' := mW τ (mUtS4 (τ.1 (.inr 16)) n S F L) (mUtA (τ.1 (.inr 16)) n S F L) (mUtL (τ.1 (.inr 16)) n S F L)) (by rfl) rfl rfl ?_
                refine X_aload_n (pc := 297) C 0 dX7_userTold_297 rfl rfl ?_
                refine G_X7_180 (pc := 298) C (by assumption) dX7_userTold_298 ?_
                rw [mW_9]
                refine X_if_ne (pc := 301) C 314 dX7_userTold_301 (by decide) (fun h301 => ?_) (fun h301 => ?_)
                · skip
                  exact X_vret (pc := 314) C (Nat.zero_le _) (Nat.zero_le _) dX7_userTold_314 ⟨rfl, by first | rw [mUtS, mUtF, if_pos g78, if_pos g78, if_pos h301] | rw [mUtS, mUtF, if_pos g78, if_pos g78, if_neg h301]⟩
                · skip
                  refine X_aload_n (pc := 304) C 0 dX7_userTold_304 rfl rfl ?_
                  refine G_X7_9 (pc := 305) C (by assumption) dX7_userTold_305 ?_
                  refine X_iconst (pc := 308) (v := 4) C dX7_userTold_308 (by decide) ?_
                  refine X_dup2 (pc := 309) C dX7_userTold_309 rfl rfl ?_
                  refine X_ialdN (j := 4) (pc := 310) C (by first | exact h1 _ (by decide) (by decide)) rfl (by omega) (by decide) dX7_userTold_310 ?_
                  rw [mW_10]
                  rw [mUtS4_o g78 (by omega), hM.u]
                  refine X_iconst (pc := 311) (v := 1) C dX7_userTold_311 (by decide) ?_
                  refine X_iadd (pc := 312) C dX7_userTold_312 ?_
                  rw [nI_1]
                  refine X_iastN (j := 4) (pc := 313) C (by first | exact h1 _ (by decide) (by decide)) rfl (by omega) (by decide) dX7_userTold_313 ?_
                  rw [mW_u10]
                  exact X_vret (pc := 314) C (Nat.zero_le _) (Nat.zero_le _) dX7_userTold_314 ⟨rfl, by first | rw [mUtS, mUtF, if_pos g78, if_pos g78, if_pos h301] | rw [mUtS, mUtF, if_pos g78, if_pos g78, if_neg h301]⟩
          · skip
            exact X_vret (pc := 81) C (Nat.zero_le _) (Nat.zero_le _) dX7_userTold_81 ⟨rfl, by rw [mUtS, mUtF, if_neg h78, if_neg h78]⟩
    · have g28 : (if S 4 = 15 then (1 : Int32) else 0) = 1 := if_pos h28
      refine X_iconst (pc := 31) (v := 1) C dX7_userTold_31 (by decide) ?_
      refine X_goto (pc := 32) C 36 dX7_userTold_32 (by decide) ?_
      refine X_bipush (pc := 36) (v := 6) C dX7_userTold_36 (by decide) ?_
      refine K_X7_190 (pc := 38) C (by assumption) (c_X7_wrong l P _ _ _ _ h1 _ _) ⟨Nat.le_of_ble_eq_true rfl, Nat.le_of_ble_eq_true rfl⟩ ⟨rfl, rfl⟩ ⟨Nat.zero_le _, Nat.zero_le _⟩ (Nat.le_of_ble_eq_true rfl) dX7_userTold_38 ?_
      refine XW.eq (σ' := mW τ S (mWr (mWr F (if mIs (τ.1 (.inr 16)) F 2 = 0 then (1 : Int32) else 0) 1) (if S 4 = 15 then (1 : Int32) else 0) 6) L) (by rw [g28]) rfl rfl ?_
      refine X_aload_n (pc := 41) C 0 dX7_userTold_41 rfl rfl ?_
      refine K_X7_194 (pc := 42) C (by assumption) (c_X7_go l P _ _ _ _ h1 n (mWr_TK (mWr_TK hT))) ⟨Nat.le_of_ble_eq_true rfl, Nat.le_of_ble_eq_true rfl⟩ ⟨rfl, rfl⟩ ⟨Nat.zero_le _, Nat.zero_le _⟩ (Nat.le_of_ble_eq_true rfl) dX7_userTold_42 ?_
      refine XW.eq (σ' := mW τ S (mUt1 (τ.1 (.inr 16)) n S F) L) (by rfl) rfl rfl ?_
      refine X_aload_n (pc := 45) C 0 dX7_userTold_45 rfl rfl ?_
      refine K_X7_197 (pc := 46) C (by assumption) (c_X7_nameHere l P _ _ _ _ h1 n (mUt1_TK hT)) ⟨Nat.le_of_ble_eq_true rfl, Nat.le_of_ble_eq_true rfl⟩ ⟨rfl, rfl⟩ ⟨Nat.zero_le _, Nat.zero_le _⟩ (Nat.le_of_ble_eq_true rfl) dX7_userTold_46 ?_
      refine XW.eq (σ' := mW τ S (mUt2 (τ.1 (.inr 16)) n S F) (mUtL (τ.1 (.inr 16)) n S F L)) (by rfl) rfl rfl ?_
      refine X_aload_n (pc := 49) C 0 dX7_userTold_49 rfl rfl ?_
      refine X_aload_n (pc := 50) C 0 dX7_userTold_50 rfl rfl ?_
      refine G_X7_180 (pc := 51) C (by assumption) dX7_userTold_51 ?_
      rw [mW_9]
      refine X_if_ne (pc := 54) C 69 dX7_userTold_54 (by decide) (fun h54 => ?_) (fun h54 => ?_)
      · have g62 : (if (mUt2 (τ.1 (.inr 16)) n S F) 20 = 0 ∧ ¬ mNmd S (mUt2 (τ.1 (.inr 16)) n S F) (mUtL (τ.1 (.inr 16)) n S F L) = -1 then (1 : Int32) else 0) = 0 := if_neg (fun q => h54 q.1)
        refine X_iconst (pc := 69) (v := 0) C dX7_userTold_69 (by decide) ?_
        refine X_iconst (pc := 70) (v := 4) C dX7_userTold_70 (by decide) ?_
        refine K_X7_190 (pc := 71) C (by assumption) (c_X7_wrong l P _ _ _ _ h1 _ _) ⟨Nat.le_of_ble_eq_true rfl, Nat.le_of_ble_eq_true rfl⟩ ⟨rfl, rfl⟩ ⟨Nat.zero_le _, Nat.zero_le _⟩ (Nat.le_of_ble_eq_true rfl) dX7_userTold_71 ?_
        refine XW.eq (σ' := mW τ S (mUt3 (τ.1 (.inr 16)) n S F L) (mUtL (τ.1 (.inr 16)) n S F L)) (by rw [mUt3, g62]) rfl rfl ?_
        refine X_aload_n (pc := 74) C 0 dX7_userTold_74 rfl rfl ?_
        refine G_X7_180 (pc := 75) C (by assumption) dX7_userTold_75 ?_
        rw [mW_9]
        refine X_if_eq (pc := 78) C 82 dX7_userTold_78 (by decide) (fun h78 => ?_) (fun h78 => ?_)
        · have g78 := h78
          have hlt := mUt_lt hM h78
          refine X_aload_n (pc := 82) C 0 dX7_userTold_82 rfl rfl ?_
          refine G_X7_9 (pc := 83) C (by assumption) dX7_userTold_83 ?_
          refine X_iconst (pc := 86) (v := 4) C dX7_userTold_86 (by decide) ?_
          refine X_ialdN (j := 4) (pc := 87) C (by first | exact h1 _ (by decide) (by decide)) rfl (by omega) (by decide) dX7_userTold_87 ?_
          rw [mW_10]
          rw [hM.u]
          refine X_istore_n (pc := 88) (lv1 := [(0, _), (1, _)]) C 1 dX7_userTold_88 rfl (by decide) rfl ?_
          refine X_aload_n (pc := 89) C 0 dX7_userTold_89 rfl rfl ?_
          refine X_iload_n (pc := 90) C 1 dX7_userTold_90 rfl rfl ?_
          refine X_iconst (pc := 91) (v := 5) C dX7_userTold_91 (by decide) ?_
          refine X_aload_n (pc := 92) C 0 dX7_userTold_92 rfl rfl ?_
          refine G_X7_148 (pc := 93) C (by assumption) dX7_userTold_93 ?_
          rw [mW_9]
          refine K_X7_123 (pc := 96) C (by assumption) (c_X7_putUser l P _ _ _ _ h1 (mU S) 5 hlt (by decide) _ 5 _ rfl rfl) ⟨Nat.le_of_ble_eq_true rfl, Nat.le_of_ble_eq_true rfl⟩ ⟨rfl, rfl⟩ ⟨Nat.zero_le _, Nat.zero_le _⟩ (Nat.le_of_ble_eq_true rfl) dX7_userTold_96 ?_
          refine XW.eq (σ' := mW τ (upd S (10 + 12 * mU S + 5) ((mUt3 (τ.1 (.inr 16)) n S F L) 15)) (mUt3 (τ.1 (.inr 16)) n S F L) (mUtL (τ.1 (.inr 16)) n S F L)) (by rfl) rfl rfl ?_
          refine X_iconst (pc := 99) (v := 0) C dX7_userTold_99 (by decide) ?_
          refine X_istore_n (pc := 100) (lv1 := [(0, _), (1, _), (2, _)]) C 2 dX7_userTold_100 rfl (by decide) rfl ?_
          have g15 := mUt3_15 g78
          refine L1_X7_userTold C h1 hlt g15.1 g15.2 ?_ (cN ((mUt3 (τ.1 (.inr 16)) n S F L) 15)) 0 (by omega)
          refine XW.eq (σ' := mW τ (mUtS2 (τ.1 (.inr 16)) n S F L) (mUt3 (τ.1 (.inr 16)) n S F L) (mUtL (τ.1 (.inr 16)) n S F L)) (by rfl) rfl rfl ?_
          refine X_aload_n (pc := 130) C 0 dX7_userTold_130 rfl rfl ?_
          refine K_X7_194 (pc := 131) C (by assumption) (c_X7_go l P _ _ _ _ h1 n (mUt3_TK hT)) ⟨Nat.le_of_ble_eq_true rfl, Nat.le_of_ble_eq_true rfl⟩ ⟨rfl, rfl⟩ ⟨Nat.zero_le _, Nat.zero_le _⟩ (Nat.le_of_ble_eq_true rfl) dX7_userTold_131 ?_
          refine XW.eq (σ' := mW τ (mUtS2 (τ.1 (.inr 16)) n S F L) (mUt4 (τ.1 (.inr 16)) n S F L) (mUtL (τ.1 (.inr 16)) n S F L)) (by rfl) rfl rfl ?_
          refine X_aload_n (pc := 134) C 0 dX7_userTold_134 rfl rfl ?_
          refine X_iconst (pc := 135) (v := 0) C dX7_userTold_135 (by decide) ?_
          refine X_aload_n (pc := 136) C 0 dX7_userTold_136 rfl rfl ?_
          refine G_X7_9 (pc := 137) C (by assumption) dX7_userTold_137 ?_
          refine X_iconst (pc := 140) (v := 1) C dX7_userTold_140 (by decide) ?_
          refine X_ialdN (j := 1) (pc := 141) C (by first | exact h1 _ (by decide) (by decide)) rfl (by omega) (by decide) dX7_userTold_141 ?_
          rw [mW_10]
          rw [mUtS2_o g78 (by omega)]
          refine X_iconst (pc := 142) (v := 1) C dX7_userTold_142 (by decide) ?_
          refine X_isub (pc := 143) C dX7_userTold_143 ?_
          refine K_X7_203 (pc := 144) C (by assumption) (c_X7_number l P _ _ _ _ h1 n (mUt4_TK hT) 0 _) ⟨Nat.le_of_ble_eq_true rfl, Nat.le_of_ble_eq_true rfl⟩ ⟨rfl, rfl⟩ ⟨Nat.zero_le _, Nat.zero_le _⟩ (Nat.le_of_ble_eq_true rfl) dX7_userTold_144 ?_
          refine XW.eq (σ' := mW τ (mUtS2 (τ.1 (.inr 16)) n S F L) (mUt5 (τ.1 (.inr 16)) n S F L) (mUtL (τ.1 (.inr 16)) n S F L)) (st' := [.int (mUtX (τ.1 (.inr 16)) n S F L)]) rfl rfl rfl ?_
          refine X_istore_n (pc := 147) (lv1 := [(0, _), (1, _), (2, _)]) C 2 dX7_userTold_147 rfl (by decide) rfl ?_
          refine X_aload_n (pc := 148) C 0 dX7_userTold_148 rfl rfl ?_
          refine G_X7_180 (pc := 149) C (by assumption) dX7_userTold_149 ?_
          rw [mW_9]
          refine X_if_eq (pc := 152) C 159 dX7_userTold_152 (by decide) (fun h152 => ?_) (fun h152 => ?_)
          · have e6 : (mUt6 (τ.1 (.inr 16)) n S F L) = (mRh (τ.1 (.inr 16)) (mUt5 (τ.1 (.inr 16)) n S F L)).1 := if_pos h152
            have eY : (mUtY (τ.1 (.inr 16)) n S F L) = (mRh (τ.1 (.inr 16)) (mUt5 (τ.1 (.inr 16)) n S F L)).2 := if_pos h152
            refine X_aload_n (pc := 159) C 0 dX7_userTold_159 rfl rfl ?_
            refine K_X7_212 (pc := 160) C (by assumption) (c_X7_ringsHere l P _ _ _ _ h1 n (mUt5_TK hT)) ⟨Nat.le_of_ble_eq_true rfl, Nat.le_of_ble_eq_true rfl⟩ ⟨rfl, rfl⟩ ⟨Nat.zero_le _, Nat.zero_le _⟩ (Nat.le_of_ble_eq_true rfl) dX7_userTold_160 ?_
            refine X_istore_n (pc := 163) (lv1 := [(0, _), (1, _), (2, _), (3, _)]) C 3 dX7_userTold_163 rfl (by decide) rfl ?_
            refine X_iconst (pc := 164) (v := 0) C dX7_userTold_164 (by decide) ?_
            refine X_istore (pc := 165) (lv1 := [(0, _), (1, _), (2, _), (3, _), (4, _)]) C dX7_userTold_165 (by decide) rfl ?_
            refine XW.eq (σ' := mW τ (mUtS2 (τ.1 (.inr 16)) n S F L) (mUt6 (τ.1 (.inr 16)) n S F L) (mUtL (τ.1 (.inr 16)) n S F L)) (lv' := [(0, .ref (P.2.2.1 (.inr 9))), (1, .int (nI (mU S))), (2, .int (mUtX (τ.1 (.inr 16)) n S F L)), (3, .int (mUtY (τ.1 (.inr 16)) n S F L)), (4, .int (nI 0))]) (by rw [e6]) (by rw [eY]; rfl) rfl ?_
            refine L2_X7_userTold C h1 (u := mU S) (by omega) mUtY_ok (fun j hj => by rw [sU, mUtS2_o g78 (by omega)]; exact hC j hj) (mU S) 0 _ (by omega) ?_
            refine XW.eq (σ' := mW τ (mUtS2 (τ.1 (.inr 16)) n S F L) (mUt7 (τ.1 (.inr 16)) n S F L) (mUtL (τ.1 (.inr 16)) n S F L)) (by rfl) rfl rfl ?_
            refine X_aload_n (pc := 235) C 0 dX7_userTold_235 rfl rfl ?_
            refine K_X7_194 (pc := 236) C (by assumption) (c_X7_go l P _ _ _ _ h1 n (mUt7_TK hT)) ⟨Nat.le_of_ble_eq_true rfl, Nat.le_of_ble_eq_true rfl⟩ ⟨rfl, rfl⟩ ⟨Nat.zero_le _, Nat.zero_le _⟩ (Nat.le_of_ble_eq_true rfl) dX7_userTold_236 ?_
            refine XW.eq (σ' := mW τ (mUtS2 (τ.1 (.inr 16)) n S F L) (mUt8 (τ.1 (.inr 16)) n S F L) (mUtL (τ.1 (.inr 16)) n S F L)) (by rfl) rfl rfl ?_
            refine X_aload_n (pc := 239) C 0 dX7_userTold_239 rfl rfl ?_
            refine X_iload_n (pc := 240) C 1 dX7_userTold_240 rfl rfl ?_
            refine X_iconst (pc := 241) (v := 0) C dX7_userTold_241 (by decide) ?_
            refine X_iload_n (pc := 242) C 2 dX7_userTold_242 rfl rfl ?_
            refine K_X7_123 (pc := 243) C (by assumption) (c_X7_putUser l P _ _ _ _ h1 (mU S) 0 hlt (by decide) _ 0 _ rfl rfl) ⟨Nat.le_of_ble_eq_true rfl, Nat.le_of_ble_eq_true rfl⟩ ⟨rfl, rfl⟩ ⟨Nat.zero_le _, Nat.zero_le _⟩ (Nat.le_of_ble_eq_true rfl) dX7_userTold_243 ?_
            skip
            refine X_aload_n (pc := 246) C 0 dX7_userTold_246 rfl rfl ?_
            refine X_iload_n (pc := 247) C 1 dX7_userTold_247 rfl rfl ?_
            refine X_iconst (pc := 248) (v := 1) C dX7_userTold_248 (by decide) ?_
            refine X_iload_n (pc := 249) C 3 dX7_userTold_249 rfl rfl ?_
            refine K_X7_123 (pc := 250) C (by assumption) (c_X7_putUser l P _ _ _ _ h1 (mU S) 1 hlt (by decide) _ 1 _ rfl rfl) ⟨Nat.le_of_ble_eq_true rfl, Nat.le_of_ble_eq_true rfl⟩ ⟨rfl, rfl⟩ ⟨Nat.zero_le _, Nat.zero_le _⟩ (Nat.le_of_ble_eq_true rfl) dX7_userTold_250 ?_
            refine X_aload_n (pc := 253) C 0 dX7_userTold_253 rfl rfl ?_
            refine X_iload_n (pc := 254) C 1 dX7_userTold_254 rfl rfl ?_
            refine X_iconst (pc := 255) (v := 2) C dX7_userTold_255 (by decide) ?_
            refine X_aload_n (pc := 256) C 0 dX7_userTold_256 rfl rfl ?_
            refine X_iconst (pc := 257) (v := 0) C dX7_userTold_257 (by decide) ?_
            refine X_bipush (pc := 258) (v := 9) C dX7_userTold_258 (by decide) ?_
            refine K_X7_203 (pc := 260) C (by assumption) (c_X7_number l P _ _ _ _ h1 n (mUt8_TK hT) 0 9) ⟨Nat.le_of_ble_eq_true rfl, Nat.le_of_ble_eq_true rfl⟩ ⟨rfl, rfl⟩ ⟨Nat.zero_le _, Nat.zero_le _⟩ (Nat.le_of_ble_eq_true rfl) dX7_userTold_260 ?_
            refine K_X7_123 (pc := 263) C (by assumption) (c_X7_putUser l P _ _ _ _ h1 (mU S) 2 hlt (by decide) _ 2 _ rfl rfl) ⟨Nat.le_of_ble_eq_true rfl, Nat.le_of_ble_eq_true rfl⟩ ⟨rfl, rfl⟩ ⟨Nat.zero_le _, Nat.zero_le _⟩ (Nat.le_of_ble_eq_true rfl) dX7_userTold_263 ?_
            refine XW.eq (σ' := mW τ (upd (upd (upd (mUtS2 (τ.1 (.inr 16)) n S F L) (10 + 12 * mU S + 0) (mUtX (τ.1 (.inr 16)) n S F L)) (10 + 12 * mU S + 1) (mUtY (τ.1 (.inr 16)) n S F L)) (10 + 12 * mU S + 2) (mUtZ (τ.1 (.inr 16)) n S F L)) (mUt9 (τ.1 (.inr 16)) n S F L) (mUtL (τ.1 (.inr 16)) n S F L)) (by rfl) rfl rfl ?_
            refine X_aload_n (pc := 266) C 0 dX7_userTold_266 rfl rfl ?_
            refine X_iload_n (pc := 267) C 1 dX7_userTold_267 rfl rfl ?_
            refine X_iconst (pc := 268) (v := 4) C dX7_userTold_268 (by decide) ?_
            refine X_iconst (pc := 269) (v := 1) C dX7_userTold_269 (by decide) ?_
            refine X_iload_n (pc := 270) C 1 dX7_userTold_270 rfl rfl ?_
            refine X_ishl (pc := 271) C dX7_userTold_271 ?_
            refine K_X7_123 (pc := 272) C (by assumption) (c_X7_putUser l P _ _ _ _ h1 (mU S) 4 hlt (by decide) _ 4 _ rfl rfl) ⟨Nat.le_of_ble_eq_true rfl, Nat.le_of_ble_eq_true rfl⟩ ⟨rfl, rfl⟩ ⟨Nat.zero_le _, Nat.zero_le _⟩ (Nat.le_of_ble_eq_true rfl) dX7_userTold_272 ?_
            refine XW.eq (σ' := mW τ (mUtS4 (τ.1 (.inr 16)) n S F L) (mUt9 (τ.1 (.inr 16)) n S F L) (mUtL (τ.1 (.inr 16)) n S F L)) (by rfl) rfl rfl ?_
            refine X_aload_n (pc := 275) C 0 dX7_userTold_275 rfl rfl ?_
            refine X_aload_n (pc := 276) C 0 dX7_userTold_276 rfl rfl ?_
            refine G_X7_164 (pc := 277) C (by assumption) dX7_userTold_277 ?_
            rw [mW_9]
            refine X_iconst (pc := 280) (v := 3) C dX7_userTold_280 (by decide) ?_
            refine X_icmp_eq (pc := 281) C 288 dX7_userTold_281 (by decide) (fun h281 => ?_) (fun h281 => ?_)
            · have g281 : (if (mUt9 (τ.1 (.inr 16)) n S F L) 16 = 3 then (0 : Int32) else 1) = 0 := if_pos h281
              refine X_iconst (pc := 288) (v := 0) C dX7_userTold_288 (by decide) ?_
              refine X_iconst (pc := 289) (v := 1) C dX7_userTold_289 (by decide) ?_
              refine K_X7_190 (pc := 290) C (by assumption) (c_X7_wrong l P _ _ _ _ h1 _ _) ⟨Nat.le_of_ble_eq_true rfl, Nat.le_of_ble_eq_true rfl⟩ ⟨rfl, rfl⟩ ⟨Nat.zero_le _, Nat.zero_le _⟩ (Nat.le_of_ble_eq_true rfl) dX7_userTold_290 ?_
              refine XW.eq (σ' := mW τ (mUtS4 (τ.1 (.inr 16)) n S F L) (mWr (mUt9 (τ.1 (.inr 16)) n S F L) (if (mUt9 (τ.1 (.inr 16)) n S F L) 16 = 3 then (0 : Int32) else 1) 1) (mUtL (τ.1 (.inr 16)) n S F L)) (by rw [g281]) rfl rfl ?_
              refine X_aload_n (pc := 293) C 0 dX7_userTold_293 rfl rfl ?_
              refine K_X7_194 (pc := 294) C (by assumption) (c_X7_go l P _ _ _ _ h1 n (mWr_TK (mUt9_TK hT))) ⟨Nat.le_of_ble_eq_true rfl, Nat.le_of_ble_eq_true rfl⟩ ⟨rfl, rfl⟩ ⟨Nat.zero_le _, Nat.zero_le _⟩ (Nat.le_of_ble_eq_true rfl) dX7_userTold_294 ?_
              refine XW.eq (σ' := mW τ (mUtS4 (τ.1 (.inr 16)) n S F L) (mUtA (τ.1 (.inr 16)) n S F L) (mUtL (τ.1 (.inr 16)) n S F L)) (by rfl) rfl rfl ?_
              refine X_aload_n (pc := 297) C 0 dX7_userTold_297 rfl rfl ?_
              refine G_X7_180 (pc := 298) C (by assumption) dX7_userTold_298 ?_
              rw [mW_9]
              refine X_if_ne (pc := 301) C 314 dX7_userTold_301 (by decide) (fun h301 => ?_) (fun h301 => ?_)
              · skip
                exact X_vret (pc := 314) C (Nat.zero_le _) (Nat.zero_le _) dX7_userTold_314 ⟨rfl, by first | rw [mUtS, mUtF, if_pos g78, if_pos g78, if_pos h301] | rw [mUtS, mUtF, if_pos g78, if_pos g78, if_neg h301]⟩
              · skip
                refine X_aload_n (pc := 304) C 0 dX7_userTold_304 rfl rfl ?_
                refine G_X7_9 (pc := 305) C (by assumption) dX7_userTold_305 ?_
                refine X_iconst (pc := 308) (v := 4) C dX7_userTold_308 (by decide) ?_
                refine X_dup2 (pc := 309) C dX7_userTold_309 rfl rfl ?_
                refine X_ialdN (j := 4) (pc := 310) C (by first | exact h1 _ (by decide) (by decide)) rfl (by omega) (by decide) dX7_userTold_310 ?_
                rw [mW_10]
                rw [mUtS4_o g78 (by omega), hM.u]
                refine X_iconst (pc := 311) (v := 1) C dX7_userTold_311 (by decide) ?_
                refine X_iadd (pc := 312) C dX7_userTold_312 ?_
                rw [nI_1]
                refine X_iastN (j := 4) (pc := 313) C (by first | exact h1 _ (by decide) (by decide)) rfl (by omega) (by decide) dX7_userTold_313 ?_
                rw [mW_u10]
                exact X_vret (pc := 314) C (Nat.zero_le _) (Nat.zero_le _) dX7_userTold_314 ⟨rfl, by first | rw [mUtS, mUtF, if_pos g78, if_pos g78, if_pos h301] | rw [mUtS, mUtF, if_pos g78, if_pos g78, if_neg h301]⟩
            · have g281 : (if (mUt9 (τ.1 (.inr 16)) n S F L) 16 = 3 then (0 : Int32) else 1) = 1 := if_neg h281
              refine X_iconst (pc := 284) (v := 1) C dX7_userTold_284 (by decide) ?_
              refine X_goto (pc := 285) C 289 dX7_userTold_285 (by decide) ?_
              refine X_iconst (pc := 289) (v := 1) C dX7_userTold_289 (by decide) ?_
              refine K_X7_190 (pc := 290) C (by assumption) (c_X7_wrong l P _ _ _ _ h1 _ _) ⟨Nat.le_of_ble_eq_true rfl, Nat.le_of_ble_eq_true rfl⟩ ⟨rfl, rfl⟩ ⟨Nat.zero_le _, Nat.zero_le _⟩ (Nat.le_of_ble_eq_true rfl) dX7_userTold_290 ?_
              refine XW.eq (σ' := mW τ (mUtS4 (τ.1 (.inr 16)) n S F L) (mWr (mUt9 (τ.1 (.inr 16)) n S F L) (if (mUt9 (τ.1 (.inr 16)) n S F L) 16 = 3 then (0 : Int32) else 1) 1) (mUtL (τ.1 (.inr 16)) n S F L)) (by rw [g281]) rfl rfl ?_
              refine X_aload_n (pc := 293) C 0 dX7_userTold_293 rfl rfl ?_
              refine K_X7_194 (pc := 294) C (by assumption) (c_X7_go l P _ _ _ _ h1 n (mWr_TK (mUt9_TK hT))) ⟨Nat.le_of_ble_eq_true rfl, Nat.le_of_ble_eq_true rfl⟩ ⟨rfl, rfl⟩ ⟨Nat.zero_le _, Nat.zero_le _⟩ (Nat.le_of_ble_eq_true rfl) dX7_userTold_294 ?_
              refine XW.eq (σ' := mW τ (mUtS4 (τ.1 (.inr 16)) n S F L) (mUtA (τ.1 (.inr 16)) n S F L) (mUtL (τ.1 (.inr 16)) n S F L)) (by rfl) rfl rfl ?_
              refine X_aload_n (pc := 297) C 0 dX7_userTold_297 rfl rfl ?_
              refine G_X7_180 (pc := 298) C (by assumption) dX7_userTold_298 ?_
              rw [mW_9]
              refine X_if_ne (pc := 301) C 314 dX7_userTold_301 (by decide) (fun h301 => ?_) (fun h301 => ?_)
              · skip
                exact X_vret (pc := 314) C (Nat.zero_le _) (Nat.zero_le _) dX7_userTold_314 ⟨rfl, by first | rw [mUtS, mUtF, if_pos g78, if_pos g78, if_pos h301] | rw [mUtS, mUtF, if_pos g78, if_pos g78, if_neg h301]⟩
              · skip
                refine X_aload_n (pc := 304) C 0 dX7_userTold_304 rfl rfl ?_
                refine G_X7_9 (pc := 305) C (by assumption) dX7_userTold_305 ?_
                refine X_iconst (pc := 308) (v := 4) C dX7_userTold_308 (by decide) ?_
                refine X_dup2 (pc := 309) C dX7_userTold_309 rfl rfl ?_
                refine X_ialdN (j := 4) (pc := 310) C (by first | exact h1 _ (by decide) (by decide)) rfl (by omega) (by decide) dX7_userTold_310 ?_
                rw [mW_10]
                rw [mUtS4_o g78 (by omega), hM.u]
                refine X_iconst (pc := 311) (v := 1) C dX7_userTold_311 (by decide) ?_
                refine X_iadd (pc := 312) C dX7_userTold_312 ?_
                rw [nI_1]
                refine X_iastN (j := 4) (pc := 313) C (by first | exact h1 _ (by decide) (by decide)) rfl (by omega) (by decide) dX7_userTold_313 ?_
                rw [mW_u10]
                exact X_vret (pc := 314) C (Nat.zero_le _) (Nat.zero_le _) dX7_userTold_314 ⟨rfl, by first | rw [mUtS, mUtF, if_pos g78, if_pos g78, if_pos h301] | rw [mUtS, mUtF, if_pos g78, if_pos g78, if_neg h301]⟩
          · have e6 : (mUt6 (τ.1 (.inr 16)) n S F L) = (mUt5 (τ.1 (.inr 16)) n S F L) := if_neg h152
            have eY : (mUtY (τ.1 (.inr 16)) n S F L) = 1 := if_neg h152
            refine X_iconst (pc := 155) (v := 1) C dX7_userTold_155 (by decide) ?_
            refine X_goto (pc := 156) C 163 dX7_userTold_156 (by decide) ?_
            refine X_istore_n (pc := 163) (lv1 := [(0, _), (1, _), (2, _), (3, _)]) C 3 dX7_userTold_163 rfl (by decide) rfl ?_
            refine X_iconst (pc := 164) (v := 0) C dX7_userTold_164 (by decide) ?_
            refine X_istore (pc := 165) (lv1 := [(0, _), (1, _), (2, _), (3, _), (4, _)]) C dX7_userTold_165 (by decide) rfl ?_
            refine XW.eq (σ' := mW τ (mUtS2 (τ.1 (.inr 16)) n S F L) (mUt6 (τ.1 (.inr 16)) n S F L) (mUtL (τ.1 (.inr 16)) n S F L)) (lv' := [(0, .ref (P.2.2.1 (.inr 9))), (1, .int (nI (mU S))), (2, .int (mUtX (τ.1 (.inr 16)) n S F L)), (3, .int (mUtY (τ.1 (.inr 16)) n S F L)), (4, .int (nI 0))]) (by rw [e6]) (by rw [eY]; rfl) rfl ?_
            refine L2_X7_userTold C h1 (u := mU S) (by omega) mUtY_ok (fun j hj => by rw [sU, mUtS2_o g78 (by omega)]; exact hC j hj) (mU S) 0 _ (by omega) ?_
            refine XW.eq (σ' := mW τ (mUtS2 (τ.1 (.inr 16)) n S F L) (mUt7 (τ.1 (.inr 16)) n S F L) (mUtL (τ.1 (.inr 16)) n S F L)) (by rfl) rfl rfl ?_
            refine X_aload_n (pc := 235) C 0 dX7_userTold_235 rfl rfl ?_
            refine K_X7_194 (pc := 236) C (by assumption) (c_X7_go l P _ _ _ _ h1 n (mUt7_TK hT)) ⟨Nat.le_of_ble_eq_true rfl, Nat.le_of_ble_eq_true rfl⟩ ⟨rfl, rfl⟩ ⟨Nat.zero_le _, Nat.zero_le _⟩ (Nat.le_of_ble_eq_true rfl) dX7_userTold_236 ?_
            refine XW.eq (σ' := mW τ (mUtS2 (τ.1 (.inr 16)) n S F L) (mUt8 (τ.1 (.inr 16)) n S F L) (mUtL (τ.1 (.inr 16)) n S F L)) (by rfl) rfl rfl ?_
            refine X_aload_n (pc := 239) C 0 dX7_userTold_239 rfl rfl ?_
            refine X_iload_n (pc := 240) C 1 dX7_userTold_240 rfl rfl ?_
            refine X_iconst (pc := 241) (v := 0) C dX7_userTold_241 (by decide) ?_
            refine X_iload_n (pc := 242) C 2 dX7_userTold_242 rfl rfl ?_
            refine K_X7_123 (pc := 243) C (by assumption) (c_X7_putUser l P _ _ _ _ h1 (mU S) 0 hlt (by decide) _ 0 _ rfl rfl) ⟨Nat.le_of_ble_eq_true rfl, Nat.le_of_ble_eq_true rfl⟩ ⟨rfl, rfl⟩ ⟨Nat.zero_le _, Nat.zero_le _⟩ (Nat.le_of_ble_eq_true rfl) dX7_userTold_243 ?_
            skip
            refine X_aload_n (pc := 246) C 0 dX7_userTold_246 rfl rfl ?_
            refine X_iload_n (pc := 247) C 1 dX7_userTold_247 rfl rfl ?_
            refine X_iconst (pc := 248) (v := 1) C dX7_userTold_248 (by decide) ?_
            refine X_iload_n (pc := 249) C 3 dX7_userTold_249 rfl rfl ?_
            refine K_X7_123 (pc := 250) C (by assumption) (c_X7_putUser l P _ _ _ _ h1 (mU S) 1 hlt (by decide) _ 1 _ rfl rfl) ⟨Nat.le_of_ble_eq_true rfl, Nat.le_of_ble_eq_true rfl⟩ ⟨rfl, rfl⟩ ⟨Nat.zero_le _, Nat.zero_le _⟩ (Nat.le_of_ble_eq_true rfl) dX7_userTold_250 ?_
            refine X_aload_n (pc := 253) C 0 dX7_userTold_253 rfl rfl ?_
            refine X_iload_n (pc := 254) C 1 dX7_userTold_254 rfl rfl ?_
            refine X_iconst (pc := 255) (v := 2) C dX7_userTold_255 (by decide) ?_
            refine X_aload_n (pc := 256) C 0 dX7_userTold_256 rfl rfl ?_
            refine X_iconst (pc := 257) (v := 0) C dX7_userTold_257 (by decide) ?_
            refine X_bipush (pc := 258) (v := 9) C dX7_userTold_258 (by decide) ?_
            refine K_X7_203 (pc := 260) C (by assumption) (c_X7_number l P _ _ _ _ h1 n (mUt8_TK hT) 0 9) ⟨Nat.le_of_ble_eq_true rfl, Nat.le_of_ble_eq_true rfl⟩ ⟨rfl, rfl⟩ ⟨Nat.zero_le _, Nat.zero_le _⟩ (Nat.le_of_ble_eq_true rfl) dX7_userTold_260 ?_
            refine K_X7_123 (pc := 263) C (by assumption) (c_X7_putUser l P _ _ _ _ h1 (mU S) 2 hlt (by decide) _ 2 _ rfl rfl) ⟨Nat.le_of_ble_eq_true rfl, Nat.le_of_ble_eq_true rfl⟩ ⟨rfl, rfl⟩ ⟨Nat.zero_le _, Nat.zero_le _⟩ (Nat.le_of_ble_eq_true rfl) dX7_userTold_263 ?_
            refine XW.eq (σ' := mW τ (upd (upd (upd (mUtS2 (τ.1 (.inr 16)) n S F L) (10 + 12 * mU S + 0) (mUtX (τ.1 (.inr 16)) n S F L)) (10 + 12 * mU S + 1) (mUtY (τ.1 (.inr 16)) n S F L)) (10 + 12 * mU S + 2) (mUtZ (τ.1 (.inr 16)) n S F L)) (mUt9 (τ.1 (.inr 16)) n S F L) (mUtL (τ.1 (.inr 16)) n S F L)) (by rfl) rfl rfl ?_
            refine X_aload_n (pc := 266) C 0 dX7_userTold_266 rfl rfl ?_
            refine X_iload_n (pc := 267) C 1 dX7_userTold_267 rfl rfl ?_
            refine X_iconst (pc := 268) (v := 4) C dX7_userTold_268 (by decide) ?_
            refine X_iconst (pc := 269) (v := 1) C dX7_userTold_269 (by decide) ?_
            refine X_iload_n (pc := 270) C 1 dX7_userTold_270 rfl rfl ?_
            refine X_ishl (pc := 271) C dX7_userTold_271 ?_
            refine K_X7_123 (pc := 272) C (by assumption) (c_X7_putUser l P _ _ _ _ h1 (mU S) 4 hlt (by decide) _ 4 _ rfl rfl) ⟨Nat.le_of_ble_eq_true rfl, Nat.le_of_ble_eq_true rfl⟩ ⟨rfl, rfl⟩ ⟨Nat.zero_le _, Nat.zero_le _⟩ (Nat.le_of_ble_eq_true rfl) dX7_userTold_272 ?_
            refine XW.eq (σ' := mW τ (mUtS4 (τ.1 (.inr 16)) n S F L) (mUt9 (τ.1 (.inr 16)) n S F L) (mUtL (τ.1 (.inr 16)) n S F L)) (by rfl) rfl rfl ?_
            refine X_aload_n (pc := 275) C 0 dX7_userTold_275 rfl rfl ?_
            refine X_aload_n (pc := 276) C 0 dX7_userTold_276 rfl rfl ?_
            refine G_X7_164 (pc := 277) C (by assumption) dX7_userTold_277 ?_
            rw [mW_9]
            refine X_iconst (pc := 280) (v := 3) C dX7_userTold_280 (by decide) ?_
            refine X_icmp_eq (pc := 281) C 288 dX7_userTold_281 (by decide) (fun h281 => ?_) (fun h281 => ?_)
            · have g281 : (if (mUt9 (τ.1 (.inr 16)) n S F L) 16 = 3 then (0 : Int32) else 1) = 0 := if_pos h281
              refine X_iconst (pc := 288) (v := 0) C dX7_userTold_288 (by decide) ?_
              refine X_iconst (pc := 289) (v := 1) C dX7_userTold_289 (by decide) ?_
              refine K_X7_190 (pc := 290) C (by assumption) (c_X7_wrong l P _ _ _ _ h1 _ _) ⟨Nat.le_of_ble_eq_true rfl, Nat.le_of_ble_eq_true rfl⟩ ⟨rfl, rfl⟩ ⟨Nat.zero_le _, Nat.zero_le _⟩ (Nat.le_of_ble_eq_true rfl) dX7_userTold_290 ?_
              refine XW.eq (σ' := mW τ (mUtS4 (τ.1 (.inr 16)) n S F L) (mWr (mUt9 (τ.1 (.inr 16)) n S F L) (if (mUt9 (τ.1 (.inr 16)) n S F L) 16 = 3 then (0 : Int32) else 1) 1) (mUtL (τ.1 (.inr 16)) n S F L)) (by rw [g281]) rfl rfl ?_
              refine X_aload_n (pc := 293) C 0 dX7_userTold_293 rfl rfl ?_
              refine K_X7_194 (pc := 294) C (by assumption) (c_X7_go l P _ _ _ _ h1 n (mWr_TK (mUt9_TK hT))) ⟨Nat.le_of_ble_eq_true rfl, Nat.le_of_ble_eq_true rfl⟩ ⟨rfl, rfl⟩ ⟨Nat.zero_le _, Nat.zero_le _⟩ (Nat.le_of_ble_eq_true rfl) dX7_userTold_294 ?_
              refine XW.eq (σ' := mW τ (mUtS4 (τ.1 (.inr 16)) n S F L) (mUtA (τ.1 (.inr 16)) n S F L) (mUtL (τ.1 (.inr 16)) n S F L)) (by rfl) rfl rfl ?_
              refine X_aload_n (pc := 297) C 0 dX7_userTold_297 rfl rfl ?_
              refine G_X7_180 (pc := 298) C (by assumption) dX7_userTold_298 ?_
              rw [mW_9]
              refine X_if_ne (pc := 301) C 314 dX7_userTold_301 (by decide) (fun h301 => ?_) (fun h301 => ?_)
              · skip
                exact X_vret (pc := 314) C (Nat.zero_le _) (Nat.zero_le _) dX7_userTold_314 ⟨rfl, by first | rw [mUtS, mUtF, if_pos g78, if_pos g78, if_pos h301] | rw [mUtS, mUtF, if_pos g78, if_pos g78, if_neg h301]⟩
              · skip
                refine X_aload_n (pc := 304) C 0 dX7_userTold_304 rfl rfl ?_
                refine G_X7_9 (pc := 305) C (by assumption) dX7_userTold_305 ?_
                refine X_iconst (pc := 308) (v := 4) C dX7_userTold_308 (by decide) ?_
                refine X_dup2 (pc := 309) C dX7_userTold_309 rfl rfl ?_
                refine X_ialdN (j := 4) (pc := 310) C (by first | exact h1 _ (by decide) (by decide)) rfl (by omega) (by decide) dX7_userTold_310 ?_
                rw [mW_10]
                rw [mUtS4_o g78 (by omega), hM.u]
                refine X_iconst (pc := 311) (v := 1) C dX7_userTold_311 (by decide) ?_
                refine X_iadd (pc := 312) C dX7_userTold_312 ?_
                rw [nI_1]
                refine X_iastN (j := 4) (pc := 313) C (by first | exact h1 _ (by decide) (by decide)) rfl (by omega) (by decide) dX7_userTold_313 ?_
                rw [mW_u10]
                exact X_vret (pc := 314) C (Nat.zero_le _) (Nat.zero_le _) dX7_userTold_314 ⟨rfl, by first | rw [mUtS, mUtF, if_pos g78, if_pos g78, if_pos h301] | rw [mUtS, mUtF, if_pos g78, if_pos g78, if_neg h301]⟩
            · have g281 : (if (mUt9 (τ.1 (.inr 16)) n S F L) 16 = 3 then (0 : Int32) else 1) = 1 := if_neg h281
              refine X_iconst (pc := 284) (v := 1) C dX7_userTold_284 (by decide) ?_
              refine X_goto (pc := 285) C 289 dX7_userTold_285 (by decide) ?_
              refine X_iconst (pc := 289) (v := 1) C dX7_userTold_289 (by decide) ?_
              refine K_X7_190 (pc := 290) C (by assumption) (c_X7_wrong l P _ _ _ _ h1 _ _) ⟨Nat.le_of_ble_eq_true rfl, Nat.le_of_ble_eq_true rfl⟩ ⟨rfl, rfl⟩ ⟨Nat.zero_le _, Nat.zero_le _⟩ (Nat.le_of_ble_eq_true rfl) dX7_userTold_290 ?_
              refine XW.eq (σ' := mW τ (mUtS4 (τ.1 (.inr 16)) n S F L) (mWr (mUt9 (τ.1 (.inr 16)) n S F L) (if (mUt9 (τ.1 (.inr 16)) n S F L) 16 = 3 then (0 : Int32) else 1) 1) (mUtL (τ.1 (.inr 16)) n S F L)) (by rw [g281]) rfl rfl ?_
              refine X_aload_n (pc := 293) C 0 dX7_userTold_293 rfl rfl ?_
              refine K_X7_194 (pc := 294) C (by assumption) (c_X7_go l P _ _ _ _ h1 n (mWr_TK (mUt9_TK hT))) ⟨Nat.le_of_ble_eq_true rfl, Nat.le_of_ble_eq_true rfl⟩ ⟨rfl, rfl⟩ ⟨Nat.zero_le _, Nat.zero_le _⟩ (Nat.le_of_ble_eq_true rfl) dX7_userTold_294 ?_
              refine XW.eq (σ' := mW τ (mUtS4 (τ.1 (.inr 16)) n S F L) (mUtA (τ.1 (.inr 16)) n S F L) (mUtL (τ.1 (.inr 16)) n S F L)) (by rfl) rfl rfl ?_
              refine X_aload_n (pc := 297) C 0 dX7_userTold_297 rfl rfl ?_
              refine G_X7_180 (pc := 298) C (by assumption) dX7_userTold_298 ?_
              rw [mW_9]
              refine X_if_ne (pc := 301) C 314 dX7_userTold_301 (by decide) (fun h301 => ?_) (fun h301 => ?_)
              · skip
                exact X_vret (pc := 314) C (Nat.zero_le _) (Nat.zero_le _) dX7_userTold_314 ⟨rfl, by first | rw [mUtS, mUtF, if_pos g78, if_pos g78, if_pos h301] | rw [mUtS, mUtF, if_pos g78, if_pos g78, if_neg h301]⟩
              · skip
                refine X_aload_n (pc := 304) C 0 dX7_userTold_304 rfl rfl ?_
                refine G_X7_9 (pc := 305) C (by assumption) dX7_userTold_305 ?_
                refine X_iconst (pc := 308) (v := 4) C dX7_userTold_308 (by decide) ?_
                refine X_dup2 (pc := 309) C dX7_userTold_309 rfl rfl ?_
                refine X_ialdN (j := 4) (pc := 310) C (by first | exact h1 _ (by decide) (by decide)) rfl (by omega) (by decide) dX7_userTold_310 ?_
                rw [mW_10]
                rw [mUtS4_o g78 (by omega), hM.u]
                refine X_iconst (pc := 311) (v := 1) C dX7_userTold_311 (by decide) ?_
                refine X_iadd (pc := 312) C dX7_userTold_312 ?_
                rw [nI_1]
                refine X_iastN (j := 4) (pc := 313) C (by first | exact h1 _ (by decide) (by decide)) rfl (by omega) (by decide) dX7_userTold_313 ?_
                rw [mW_u10]
                exact X_vret (pc := 314) C (Nat.zero_le _) (Nat.zero_le _) dX7_userTold_314 ⟨rfl, by first | rw [mUtS, mUtF, if_pos g78, if_pos g78, if_pos h301] | rw [mUtS, mUtF, if_pos g78, if_pos g78, if_neg h301]⟩
        · skip
          exact X_vret (pc := 81) C (Nat.zero_le _) (Nat.zero_le _) dX7_userTold_81 ⟨rfl, by rw [mUtS, mUtF, if_neg h78, if_neg h78]⟩
      · have g6 := (mNhF_0 (F := mUt1 (τ.1 (.inr 16)) n S F) h54).2.2.1
        have g15 : (mUt2 (τ.1 (.inr 16)) n S F) 15 = nI (eF (mUt1 (τ.1 (.inr 16)) n S F) - sF (mUt1 (τ.1 (.inr 16)) n S F)) := by rw [mUt2, (mNhF_0 (F := mUt1 (τ.1 (.inr 16)) n S F) h54).2.2.2.1, upd_at]
        refine X_aload_n (pc := 57) C 0 dX7_userTold_57 rfl rfl ?_
        refine K_X7_200 (pc := 58) C (by assumption) (c_X7_named l P _ _ _ _ h1 hM _ g6 g15) ⟨Nat.le_of_ble_eq_true rfl, Nat.le_of_ble_eq_true rfl⟩ ⟨rfl, rfl⟩ ⟨Nat.zero_le _, Nat.zero_le _⟩ (Nat.le_of_ble_eq_true rfl) dX7_userTold_58 ?_
        refine X_iconst (pc := 61) (v := (-1)) C dX7_userTold_61 (by decide) ?_
        refine X_icmp_eq (pc := 62) C 69 dX7_userTold_62 (by decide) (fun h62 => ?_) (fun h62 => ?_)
        · have g62 : (if (mUt2 (τ.1 (.inr 16)) n S F) 20 = 0 ∧ ¬ mNmd S (mUt2 (τ.1 (.inr 16)) n S F) (mUtL (τ.1 (.inr 16)) n S F L) = -1 then (1 : Int32) else 0) = 0 := if_neg (fun q => q.2 h62)
          refine X_iconst (pc := 69) (v := 0) C dX7_userTold_69 (by decide) ?_
          refine X_iconst (pc := 70) (v := 4) C dX7_userTold_70 (by decide) ?_
          refine K_X7_190 (pc := 71) C (by assumption) (c_X7_wrong l P _ _ _ _ h1 _ _) ⟨Nat.le_of_ble_eq_true rfl, Nat.le_of_ble_eq_true rfl⟩ ⟨rfl, rfl⟩ ⟨Nat.zero_le _, Nat.zero_le _⟩ (Nat.le_of_ble_eq_true rfl) dX7_userTold_71 ?_
          refine XW.eq (σ' := mW τ S (mUt3 (τ.1 (.inr 16)) n S F L) (mUtL (τ.1 (.inr 16)) n S F L)) (by rw [mUt3, g62]) rfl rfl ?_
          refine X_aload_n (pc := 74) C 0 dX7_userTold_74 rfl rfl ?_
          refine G_X7_180 (pc := 75) C (by assumption) dX7_userTold_75 ?_
          rw [mW_9]
          refine X_if_eq (pc := 78) C 82 dX7_userTold_78 (by decide) (fun h78 => ?_) (fun h78 => ?_)
          · have g78 := h78
            have hlt := mUt_lt hM h78
            refine X_aload_n (pc := 82) C 0 dX7_userTold_82 rfl rfl ?_
            refine G_X7_9 (pc := 83) C (by assumption) dX7_userTold_83 ?_
            refine X_iconst (pc := 86) (v := 4) C dX7_userTold_86 (by decide) ?_
            refine X_ialdN (j := 4) (pc := 87) C (by first | exact h1 _ (by decide) (by decide)) rfl (by omega) (by decide) dX7_userTold_87 ?_
            rw [mW_10]
            rw [hM.u]
            refine X_istore_n (pc := 88) (lv1 := [(0, _), (1, _)]) C 1 dX7_userTold_88 rfl (by decide) rfl ?_
            refine X_aload_n (pc := 89) C 0 dX7_userTold_89 rfl rfl ?_
            refine X_iload_n (pc := 90) C 1 dX7_userTold_90 rfl rfl ?_
            refine X_iconst (pc := 91) (v := 5) C dX7_userTold_91 (by decide) ?_
            refine X_aload_n (pc := 92) C 0 dX7_userTold_92 rfl rfl ?_
            refine G_X7_148 (pc := 93) C (by assumption) dX7_userTold_93 ?_
            rw [mW_9]
            refine K_X7_123 (pc := 96) C (by assumption) (c_X7_putUser l P _ _ _ _ h1 (mU S) 5 hlt (by decide) _ 5 _ rfl rfl) ⟨Nat.le_of_ble_eq_true rfl, Nat.le_of_ble_eq_true rfl⟩ ⟨rfl, rfl⟩ ⟨Nat.zero_le _, Nat.zero_le _⟩ (Nat.le_of_ble_eq_true rfl) dX7_userTold_96 ?_
            refine XW.eq (σ' := mW τ (upd S (10 + 12 * mU S + 5) ((mUt3 (τ.1 (.inr 16)) n S F L) 15)) (mUt3 (τ.1 (.inr 16)) n S F L) (mUtL (τ.1 (.inr 16)) n S F L)) (by rfl) rfl rfl ?_
            refine X_iconst (pc := 99) (v := 0) C dX7_userTold_99 (by decide) ?_
            refine X_istore_n (pc := 100) (lv1 := [(0, _), (1, _), (2, _)]) C 2 dX7_userTold_100 rfl (by decide) rfl ?_
            have g15 := mUt3_15 g78
            refine L1_X7_userTold C h1 hlt g15.1 g15.2 ?_ (cN ((mUt3 (τ.1 (.inr 16)) n S F L) 15)) 0 (by omega)
            refine XW.eq (σ' := mW τ (mUtS2 (τ.1 (.inr 16)) n S F L) (mUt3 (τ.1 (.inr 16)) n S F L) (mUtL (τ.1 (.inr 16)) n S F L)) (by rfl) rfl rfl ?_
            refine X_aload_n (pc := 130) C 0 dX7_userTold_130 rfl rfl ?_
            refine K_X7_194 (pc := 131) C (by assumption) (c_X7_go l P _ _ _ _ h1 n (mUt3_TK hT)) ⟨Nat.le_of_ble_eq_true rfl, Nat.le_of_ble_eq_true rfl⟩ ⟨rfl, rfl⟩ ⟨Nat.zero_le _, Nat.zero_le _⟩ (Nat.le_of_ble_eq_true rfl) dX7_userTold_131 ?_
            refine XW.eq (σ' := mW τ (mUtS2 (τ.1 (.inr 16)) n S F L) (mUt4 (τ.1 (.inr 16)) n S F L) (mUtL (τ.1 (.inr 16)) n S F L)) (by rfl) rfl rfl ?_
            refine X_aload_n (pc := 134) C 0 dX7_userTold_134 rfl rfl ?_
            refine X_iconst (pc := 135) (v := 0) C dX7_userTold_135 (by decide) ?_
            refine X_aload_n (pc := 136) C 0 dX7_userTold_136 rfl rfl ?_
            refine G_X7_9 (pc := 137) C (by assumption) dX7_userTold_137 ?_
            refine X_iconst (pc := 140) (v := 1) C dX7_userTold_140 (by decide) ?_
            refine X_ialdN (j := 1) (pc := 141) C (by first | exact h1 _ (by decide) (by decide)) rfl (by omega) (by decide) dX7_userTold_141 ?_
            rw [mW_10]
            rw [mUtS2_o g78 (by omega)]
            refine X_iconst (pc := 142) (v := 1) C dX7_userTold_142 (by decide) ?_
            refine X_isub (pc := 143) C dX7_userTold_143 ?_
            refine K_X7_203 (pc := 144) C (by assumption) (c_X7_number l P _ _ _ _ h1 n (mUt4_TK hT) 0 _) ⟨Nat.le_of_ble_eq_true rfl, Nat.le_of_ble_eq_true rfl⟩ ⟨rfl, rfl⟩ ⟨Nat.zero_le _, Nat.zero_le _⟩ (Nat.le_of_ble_eq_true rfl) dX7_userTold_144 ?_
            refine XW.eq (σ' := mW τ (mUtS2 (τ.1 (.inr 16)) n S F L) (mUt5 (τ.1 (.inr 16)) n S F L) (mUtL (τ.1 (.inr 16)) n S F L)) (st' := [.int (mUtX (τ.1 (.inr 16)) n S F L)]) rfl rfl rfl ?_
            refine X_istore_n (pc := 147) (lv1 := [(0, _), (1, _), (2, _)]) C 2 dX7_userTold_147 rfl (by decide) rfl ?_
            refine X_aload_n (pc := 148) C 0 dX7_userTold_148 rfl rfl ?_
            refine G_X7_180 (pc := 149) C (by assumption) dX7_userTold_149 ?_
            rw [mW_9]
            refine X_if_eq (pc := 152) C 159 dX7_userTold_152 (by decide) (fun h152 => ?_) (fun h152 => ?_)
            · have e6 : (mUt6 (τ.1 (.inr 16)) n S F L) = (mRh (τ.1 (.inr 16)) (mUt5 (τ.1 (.inr 16)) n S F L)).1 := if_pos h152
              have eY : (mUtY (τ.1 (.inr 16)) n S F L) = (mRh (τ.1 (.inr 16)) (mUt5 (τ.1 (.inr 16)) n S F L)).2 := if_pos h152
              refine X_aload_n (pc := 159) C 0 dX7_userTold_159 rfl rfl ?_
              refine K_X7_212 (pc := 160) C (by assumption) (c_X7_ringsHere l P _ _ _ _ h1 n (mUt5_TK hT)) ⟨Nat.le_of_ble_eq_true rfl, Nat.le_of_ble_eq_true rfl⟩ ⟨rfl, rfl⟩ ⟨Nat.zero_le _, Nat.zero_le _⟩ (Nat.le_of_ble_eq_true rfl) dX7_userTold_160 ?_
              refine X_istore_n (pc := 163) (lv1 := [(0, _), (1, _), (2, _), (3, _)]) C 3 dX7_userTold_163 rfl (by decide) rfl ?_
              refine X_iconst (pc := 164) (v := 0) C dX7_userTold_164 (by decide) ?_
              refine X_istore (pc := 165) (lv1 := [(0, _), (1, _), (2, _), (3, _), (4, _)]) C dX7_userTold_165 (by decide) rfl ?_
              refine XW.eq (σ' := mW τ (mUtS2 (τ.1 (.inr 16)) n S F L) (mUt6 (τ.1 (.inr 16)) n S F L) (mUtL (τ.1 (.inr 16)) n S F L)) (lv' := [(0, .ref (P.2.2.1 (.inr 9))), (1, .int (nI (mU S))), (2, .int (mUtX (τ.1 (.inr 16)) n S F L)), (3, .int (mUtY (τ.1 (.inr 16)) n S F L)), (4, .int (nI 0))]) (by rw [e6]) (by rw [eY]; rfl) rfl ?_
              refine L2_X7_userTold C h1 (u := mU S) (by omega) mUtY_ok (fun j hj => by rw [sU, mUtS2_o g78 (by omega)]; exact hC j hj) (mU S) 0 _ (by omega) ?_
              refine XW.eq (σ' := mW τ (mUtS2 (τ.1 (.inr 16)) n S F L) (mUt7 (τ.1 (.inr 16)) n S F L) (mUtL (τ.1 (.inr 16)) n S F L)) (by rfl) rfl rfl ?_
              refine X_aload_n (pc := 235) C 0 dX7_userTold_235 rfl rfl ?_
              refine K_X7_194 (pc := 236) C (by assumption) (c_X7_go l P _ _ _ _ h1 n (mUt7_TK hT)) ⟨Nat.le_of_ble_eq_true rfl, Nat.le_of_ble_eq_true rfl⟩ ⟨rfl, rfl⟩ ⟨Nat.zero_le _, Nat.zero_le _⟩ (Nat.le_of_ble_eq_true rfl) dX7_userTold_236 ?_
              refine XW.eq (σ' := mW τ (mUtS2 (τ.1 (.inr 16)) n S F L) (mUt8 (τ.1 (.inr 16)) n S F L) (mUtL (τ.1 (.inr 16)) n S F L)) (by rfl) rfl rfl ?_
              refine X_aload_n (pc := 239) C 0 dX7_userTold_239 rfl rfl ?_
              refine X_iload_n (pc := 240) C 1 dX7_userTold_240 rfl rfl ?_
              refine X_iconst (pc := 241) (v := 0) C dX7_userTold_241 (by decide) ?_
              refine X_iload_n (pc := 242) C 2 dX7_userTold_242 rfl rfl ?_
              refine K_X7_123 (pc := 243) C (by assumption) (c_X7_putUser l P _ _ _ _ h1 (mU S) 0 hlt (by decide) _ 0 _ rfl rfl) ⟨Nat.le_of_ble_eq_true rfl, Nat.le_of_ble_eq_true rfl⟩ ⟨rfl, rfl⟩ ⟨Nat.zero_le _, Nat.zero_le _⟩ (Nat.le_of_ble_eq_true rfl) dX7_userTold_243 ?_
              skip
              refine X_aload_n (pc := 246) C 0 dX7_userTold_246 rfl rfl ?_
              refine X_iload_n (pc := 247) C 1 dX7_userTold_247 rfl rfl ?_
              refine X_iconst (pc := 248) (v := 1) C dX7_userTold_248 (by decide) ?_
              refine X_iload_n (pc := 249) C 3 dX7_userTold_249 rfl rfl ?_
              refine K_X7_123 (pc := 250) C (by assumption) (c_X7_putUser l P _ _ _ _ h1 (mU S) 1 hlt (by decide) _ 1 _ rfl rfl) ⟨Nat.le_of_ble_eq_true rfl, Nat.le_of_ble_eq_true rfl⟩ ⟨rfl, rfl⟩ ⟨Nat.zero_le _, Nat.zero_le _⟩ (Nat.le_of_ble_eq_true rfl) dX7_userTold_250 ?_
              refine X_aload_n (pc := 253) C 0 dX7_userTold_253 rfl rfl ?_
              refine X_iload_n (pc := 254) C 1 dX7_userTold_254 rfl rfl ?_
              refine X_iconst (pc := 255) (v := 2) C dX7_userTold_255 (by decide) ?_
              refine X_aload_n (pc := 256) C 0 dX7_userTold_256 rfl rfl ?_
              refine X_iconst (pc := 257) (v := 0) C dX7_userTold_257 (by decide) ?_
              refine X_bipush (pc := 258) (v := 9) C dX7_userTold_258 (by decide) ?_
              refine K_X7_203 (pc := 260) C (by assumption) (c_X7_number l P _ _ _ _ h1 n (mUt8_TK hT) 0 9) ⟨Nat.le_of_ble_eq_true rfl, Nat.le_of_ble_eq_true rfl⟩ ⟨rfl, rfl⟩ ⟨Nat.zero_le _, Nat.zero_le _⟩ (Nat.le_of_ble_eq_true rfl) dX7_userTold_260 ?_
              refine K_X7_123 (pc := 263) C (by assumption) (c_X7_putUser l P _ _ _ _ h1 (mU S) 2 hlt (by decide) _ 2 _ rfl rfl) ⟨Nat.le_of_ble_eq_true rfl, Nat.le_of_ble_eq_true rfl⟩ ⟨rfl, rfl⟩ ⟨Nat.zero_le _, Nat.zero_le _⟩ (Nat.le_of_ble_eq_true rfl) dX7_userTold_263 ?_
              refine XW.eq (σ' := mW τ (upd (upd (upd (mUtS2 (τ.1 (.inr 16)) n S F L) (10 + 12 * mU S + 0) (mUtX (τ.1 (.inr 16)) n S F L)) (10 + 12 * mU S + 1) (mUtY (τ.1 (.inr 16)) n S F L)) (10 + 12 * mU S + 2) (mUtZ (τ.1 (.inr 16)) n S F L)) (mUt9 (τ.1 (.inr 16)) n S F L) (mUtL (τ.1 (.inr 16)) n S F L)) (by rfl) rfl rfl ?_
              refine X_aload_n (pc := 266) C 0 dX7_userTold_266 rfl rfl ?_
              refine X_iload_n (pc := 267) C 1 dX7_userTold_267 rfl rfl ?_
              refine X_iconst (pc := 268) (v := 4) C dX7_userTold_268 (by decide) ?_
              refine X_iconst (pc := 269) (v := 1) C dX7_userTold_269 (by decide) ?_
              refine X_iload_n (pc := 270) C 1 dX7_userTold_270 rfl rfl ?_
              refine X_ishl (pc := 271) C dX7_userTold_271 ?_
              refine K_X7_123 (pc := 272) C (by assumption) (c_X7_putUser l P _ _ _ _ h1 (mU S) 4 hlt (by decide) _ 4 _ rfl rfl) ⟨Nat.le_of_ble_eq_true rfl, Nat.le_of_ble_eq_true rfl⟩ ⟨rfl, rfl⟩ ⟨Nat.zero_le _, Nat.zero_le _⟩ (Nat.le_of_ble_eq_true rfl) dX7_userTold_272 ?_
              refine XW.eq (σ' := mW τ (mUtS4 (τ.1 (.inr 16)) n S F L) (mUt9 (τ.1 (.inr 16)) n S F L) (mUtL (τ.1 (.inr 16)) n S F L)) (by rfl) rfl rfl ?_
              refine X_aload_n (pc := 275) C 0 dX7_userTold_275 rfl rfl ?_
              refine X_aload_n (pc := 276) C 0 dX7_userTold_276 rfl rfl ?_
              refine G_X7_164 (pc := 277) C (by assumption) dX7_userTold_277 ?_
              rw [mW_9]
              refine X_iconst (pc := 280) (v := 3) C dX7_userTold_280 (by decide) ?_
              refine X_icmp_eq (pc := 281) C 288 dX7_userTold_281 (by decide) (fun h281 => ?_) (fun h281 => ?_)
              · have g281 : (if (mUt9 (τ.1 (.inr 16)) n S F L) 16 = 3 then (0 : Int32) else 1) = 0 := if_pos h281
                refine X_iconst (pc := 288) (v := 0) C dX7_userTold_288 (by decide) ?_
                refine X_iconst (pc := 289) (v := 1) C dX7_userTold_289 (by decide) ?_
                refine K_X7_190 (pc := 290) C (by assumption) (c_X7_wrong l P _ _ _ _ h1 _ _) ⟨Nat.le_of_ble_eq_true rfl, Nat.le_of_ble_eq_true rfl⟩ ⟨rfl, rfl⟩ ⟨Nat.zero_le _, Nat.zero_le _⟩ (Nat.le_of_ble_eq_true rfl) dX7_userTold_290 ?_
                refine XW.eq (σ' := mW τ (mUtS4 (τ.1 (.inr 16)) n S F L) (mWr (mUt9 (τ.1 (.inr 16)) n S F L) (if (mUt9 (τ.1 (.inr 16)) n S F L) 16 = 3 then (0 : Int32) else 1) 1) (mUtL (τ.1 (.inr 16)) n S F L)) (by rw [g281]) rfl rfl ?_
                refine X_aload_n (pc := 293) C 0 dX7_userTold_293 rfl rfl ?_
                refine K_X7_194 (pc := 294) C (by assumption) (c_X7_go l P _ _ _ _ h1 n (mWr_TK (mUt9_TK hT))) ⟨Nat.le_of_ble_eq_true rfl, Nat.le_of_ble_eq_true rfl⟩ ⟨rfl, rfl⟩ ⟨Nat.zero_le _, Nat.zero_le _⟩ (Nat.le_of_ble_eq_true rfl) dX7_userTold_294 ?_
                refine XW.eq (σ' := mW τ (mUtS4 (τ.1 (.inr 16)) n S F L) (mUtA (τ.1 (.inr 16)) n S F L) (mUtL (τ.1 (.inr 16)) n S F L)) (by rfl) rfl rfl ?_
                refine X_aload_n (pc := 297) C 0 dX7_userTold_297 rfl rfl ?_
                refine G_X7_180 (pc := 298) C (by assumption) dX7_userTold_298 ?_
                rw [mW_9]
                refine X_if_ne (pc := 301) C 314 dX7_userTold_301 (by decide) (fun h301 => ?_) (fun h301 => ?_)
                · skip
                  exact X_vret (pc := 314) C (Nat.zero_le _) (Nat.zero_le _) dX7_userTold_314 ⟨rfl, by first | rw [mUtS, mUtF, if_pos g78, if_pos g78, if_pos h301] | rw [mUtS, mUtF, if_pos g78, if_pos g78, if_neg h301]⟩
                · skip
                  refine X_aload_n (pc := 304) C 0 dX7_userTold_304 rfl rfl ?_
                  refine G_X7_9 (pc := 305) C (by assumption) dX7_userTold_305 ?_
                  refine X_iconst (pc := 308) (v := 4) C dX7_userTold_308 (by decide) ?_
                  refine X_dup2 (pc := 309) C dX7_userTold_309 rfl rfl ?_
                  refine X_ialdN (j := 4) (pc := 310) C (by first | exact h1 _ (by decide) (by decide)) rfl (by omega) (by decide) dX7_userTold_310 ?_
                  rw [mW_10]
                  rw [mUtS4_o g78 (by omega), hM.u]
                  refine X_iconst (pc := 311) (v := 1) C dX7_userTold_311 (by decide) ?_
                  refine X_iadd (pc := 312) C dX7_userTold_312 ?_
                  rw [nI_1]
                  refine X_iastN (j := 4) (pc := 313) C (by first | exact h1 _ (by decide) (by decide)) rfl (by omega) (by decide) dX7_userTold_313 ?_
                  rw [mW_u10]
                  exact X_vret (pc := 314) C (Nat.zero_le _) (Nat.zero_le _) dX7_userTold_314 ⟨rfl, by first | rw [mUtS, mUtF, if_pos g78, if_pos g78, if_pos h301] | rw [mUtS, mUtF, if_pos g78, if_pos g78, if_neg h301]⟩
              · have g281 : (if (mUt9 (τ.1 (.inr 16)) n S F L) 16 = 3 then (0 : Int32) else 1) = 1 := if_neg h281
                refine X_iconst (pc := 284) (v := 1) C dX7_userTold_284 (by decide) ?_
                refine X_goto (pc := 285) C 289 dX7_userTold_285 (by decide) ?_
                refine X_iconst (pc := 289) (v := 1) C dX7_userTold_289 (by decide) ?_
                refine K_X7_190 (pc := 290) C (by assumption) (c_X7_wrong l P _ _ _ _ h1 _ _) ⟨Nat.le_of_ble_eq_true rfl, Nat.le_of_ble_eq_true rfl⟩ ⟨rfl, rfl⟩ ⟨Nat.zero_le _, Nat.zero_le _⟩ (Nat.le_of_ble_eq_true rfl) dX7_userTold_290 ?_
                refine XW.eq (σ' := mW τ (mUtS4 (τ.1 (.inr 16)) n S F L) (mWr (mUt9 (τ.1 (.inr 16)) n S F L) (if (mUt9 (τ.1 (.inr 16)) n S F L) 16 = 3 then (0 : Int32) else 1) 1) (mUtL (τ.1 (.inr 16)) n S F L)) (by rw [g281]) rfl rfl ?_
                refine X_aload_n (pc := 293) C 0 dX7_userTold_293 rfl rfl ?_
                refine K_X7_194 (pc := 294) C (by assumption) (c_X7_go l P _ _ _ _ h1 n (mWr_TK (mUt9_TK hT))) ⟨Nat.le_of_ble_eq_true rfl, Nat.le_of_ble_eq_true rfl⟩ ⟨rfl, rfl⟩ ⟨Nat.zero_le _, Nat.zero_le _⟩ (Nat.le_of_ble_eq_true rfl) dX7_userTold_294 ?_
                refine XW.eq (σ' := mW τ (mUtS4 (τ.1 (.inr 16)) n S F L) (mUtA (τ.1 (.inr 16)) n S F L) (mUtL (τ.1 (.inr 16)) n S F L)) (by rfl) rfl rfl ?_
                refine X_aload_n (pc := 297) C 0 dX7_userTold_297 rfl rfl ?_
                refine G_X7_180 (pc := 298) C (by assumption) dX7_userTold_298 ?_
                rw [mW_9]
                refine X_if_ne (pc := 301) C 314 dX7_userTold_301 (by decide) (fun h301 => ?_) (fun h301 => ?_)
                · skip
                  exact X_vret (pc := 314) C (Nat.zero_le _) (Nat.zero_le _) dX7_userTold_314 ⟨rfl, by first | rw [mUtS, mUtF, if_pos g78, if_pos g78, if_pos h301] | rw [mUtS, mUtF, if_pos g78, if_pos g78, if_neg h301]⟩
                · skip
                  refine X_aload_n (pc := 304) C 0 dX7_userTold_304 rfl rfl ?_
                  refine G_X7_9 (pc := 305) C (by assumption) dX7_userTold_305 ?_
                  refine X_iconst (pc := 308) (v := 4) C dX7_userTold_308 (by decide) ?_
                  refine X_dup2 (pc := 309) C dX7_userTold_309 rfl rfl ?_
                  refine X_ialdN (j := 4) (pc := 310) C (by first | exact h1 _ (by decide) (by decide)) rfl (by omega) (by decide) dX7_userTold_310 ?_
                  rw [mW_10]
                  rw [mUtS4_o g78 (by omega), hM.u]
                  refine X_iconst (pc := 311) (v := 1) C dX7_userTold_311 (by decide) ?_
                  refine X_iadd (pc := 312) C dX7_userTold_312 ?_
                  rw [nI_1]
                  refine X_iastN (j := 4) (pc := 313) C (by first | exact h1 _ (by decide) (by decide)) rfl (by omega) (by decide) dX7_userTold_313 ?_
                  rw [mW_u10]
                  exact X_vret (pc := 314) C (Nat.zero_le _) (Nat.zero_le _) dX7_userTold_314 ⟨rfl, by first | rw [mUtS, mUtF, if_pos g78, if_pos g78, if_pos h301] | rw [mUtS, mUtF, if_pos g78, if_pos g78, if_neg h301]⟩
            · have e6 : (mUt6 (τ.1 (.inr 16)) n S F L) = (mUt5 (τ.1 (.inr 16)) n S F L) := if_neg h152
              have eY : (mUtY (τ.1 (.inr 16)) n S F L) = 1 := if_neg h152
              refine X_iconst (pc := 155) (v := 1) C dX7_userTold_155 (by decide) ?_
              refine X_goto (pc := 156) C 163 dX7_userTold_156 (by decide) ?_
              refine X_istore_n (pc := 163) (lv1 := [(0, _), (1, _), (2, _), (3, _)]) C 3 dX7_userTold_163 rfl (by decide) rfl ?_
              refine X_iconst (pc := 164) (v := 0) C dX7_userTold_164 (by decide) ?_
              refine X_istore (pc := 165) (lv1 := [(0, _), (1, _), (2, _), (3, _), (4, _)]) C dX7_userTold_165 (by decide) rfl ?_
              refine XW.eq (σ' := mW τ (mUtS2 (τ.1 (.inr 16)) n S F L) (mUt6 (τ.1 (.inr 16)) n S F L) (mUtL (τ.1 (.inr 16)) n S F L)) (lv' := [(0, .ref (P.2.2.1 (.inr 9))), (1, .int (nI (mU S))), (2, .int (mUtX (τ.1 (.inr 16)) n S F L)), (3, .int (mUtY (τ.1 (.inr 16)) n S F L)), (4, .int (nI 0))]) (by rw [e6]) (by rw [eY]; rfl) rfl ?_
              refine L2_X7_userTold C h1 (u := mU S) (by omega) mUtY_ok (fun j hj => by rw [sU, mUtS2_o g78 (by omega)]; exact hC j hj) (mU S) 0 _ (by omega) ?_
              refine XW.eq (σ' := mW τ (mUtS2 (τ.1 (.inr 16)) n S F L) (mUt7 (τ.1 (.inr 16)) n S F L) (mUtL (τ.1 (.inr 16)) n S F L)) (by rfl) rfl rfl ?_
              refine X_aload_n (pc := 235) C 0 dX7_userTold_235 rfl rfl ?_
              refine K_X7_194 (pc := 236) C (by assumption) (c_X7_go l P _ _ _ _ h1 n (mUt7_TK hT)) ⟨Nat.le_of_ble_eq_true rfl, Nat.le_of_ble_eq_true rfl⟩ ⟨rfl, rfl⟩ ⟨Nat.zero_le _, Nat.zero_le _⟩ (Nat.le_of_ble_eq_true rfl) dX7_userTold_236 ?_
              refine XW.eq (σ' := mW τ (mUtS2 (τ.1 (.inr 16)) n S F L) (mUt8 (τ.1 (.inr 16)) n S F L) (mUtL (τ.1 (.inr 16)) n S F L)) (by rfl) rfl rfl ?_
              refine X_aload_n (pc := 239) C 0 dX7_userTold_239 rfl rfl ?_
              refine X_iload_n (pc := 240) C 1 dX7_userTold_240 rfl rfl ?_
              refine X_iconst (pc := 241) (v := 0) C dX7_userTold_241 (by decide) ?_
              refine X_iload_n (pc := 242) C 2 dX7_userTold_242 rfl rfl ?_
              refine K_X7_123 (pc := 243) C (by assumption) (c_X7_putUser l P _ _ _ _ h1 (mU S) 0 hlt (by decide) _ 0 _ rfl rfl) ⟨Nat.le_of_ble_eq_true rfl, Nat.le_of_ble_eq_true rfl⟩ ⟨rfl, rfl⟩ ⟨Nat.zero_le _, Nat.zero_le _⟩ (Nat.le_of_ble_eq_true rfl) dX7_userTold_243 ?_
              skip
              refine X_aload_n (pc := 246) C 0 dX7_userTold_246 rfl rfl ?_
              refine X_iload_n (pc := 247) C 1 dX7_userTold_247 rfl rfl ?_
              refine X_iconst (pc := 248) (v := 1) C dX7_userTold_248 (by decide) ?_
              refine X_iload_n (pc := 249) C 3 dX7_userTold_249 rfl rfl ?_
              refine K_X7_123 (pc := 250) C (by assumption) (c_X7_putUser l P _ _ _ _ h1 (mU S) 1 hlt (by decide) _ 1 _ rfl rfl) ⟨Nat.le_of_ble_eq_true rfl, Nat.le_of_ble_eq_true rfl⟩ ⟨rfl, rfl⟩ ⟨Nat.zero_le _, Nat.zero_le _⟩ (Nat.le_of_ble_eq_true rfl) dX7_userTold_250 ?_
              refine X_aload_n (pc := 253) C 0 dX7_userTold_253 rfl rfl ?_
              refine X_iload_n (pc := 254) C 1 dX7_userTold_254 rfl rfl ?_
              refine X_iconst (pc := 255) (v := 2) C dX7_userTold_255 (by decide) ?_
              refine X_aload_n (pc := 256) C 0 dX7_userTold_256 rfl rfl ?_
              refine X_iconst (pc := 257) (v := 0) C dX7_userTold_257 (by decide) ?_
              refine X_bipush (pc := 258) (v := 9) C dX7_userTold_258 (by decide) ?_
              refine K_X7_203 (pc := 260) C (by assumption) (c_X7_number l P _ _ _ _ h1 n (mUt8_TK hT) 0 9) ⟨Nat.le_of_ble_eq_true rfl, Nat.le_of_ble_eq_true rfl⟩ ⟨rfl, rfl⟩ ⟨Nat.zero_le _, Nat.zero_le _⟩ (Nat.le_of_ble_eq_true rfl) dX7_userTold_260 ?_
              refine K_X7_123 (pc := 263) C (by assumption) (c_X7_putUser l P _ _ _ _ h1 (mU S) 2 hlt (by decide) _ 2 _ rfl rfl) ⟨Nat.le_of_ble_eq_true rfl, Nat.le_of_ble_eq_true rfl⟩ ⟨rfl, rfl⟩ ⟨Nat.zero_le _, Nat.zero_le _⟩ (Nat.le_of_ble_eq_true rfl) dX7_userTold_263 ?_
              refine XW.eq (σ' := mW τ (upd (upd (upd (mUtS2 (τ.1 (.inr 16)) n S F L) (10 + 12 * mU S + 0) (mUtX (τ.1 (.inr 16)) n S F L)) (10 + 12 * mU S + 1) (mUtY (τ.1 (.inr 16)) n S F L)) (10 + 12 * mU S + 2) (mUtZ (τ.1 (.inr 16)) n S F L)) (mUt9 (τ.1 (.inr 16)) n S F L) (mUtL (τ.1 (.inr 16)) n S F L)) (by rfl) rfl rfl ?_
              refine X_aload_n (pc := 266) C 0 dX7_userTold_266 rfl rfl ?_
              refine X_iload_n (pc := 267) C 1 dX7_userTold_267 rfl rfl ?_
              refine X_iconst (pc := 268) (v := 4) C dX7_userTold_268 (by decide) ?_
              refine X_iconst (pc := 269) (v := 1) C dX7_userTold_269 (by decide) ?_
              refine X_iload_n (pc := 270) C 1 dX7_userTold_270 rfl rfl ?_
              refine X_ishl (pc := 271) C dX7_userTold_271 ?_
              refine K_X7_123 (pc := 272) C (by assumption) (c_X7_putUser l P _ _ _ _ h1 (mU S) 4 hlt (by decide) _ 4 _ rfl rfl) ⟨Nat.le_of_ble_eq_true rfl, Nat.le_of_ble_eq_true rfl⟩ ⟨rfl, rfl⟩ ⟨Nat.zero_le _, Nat.zero_le _⟩ (Nat.le_of_ble_eq_true rfl) dX7_userTold_272 ?_
              refine XW.eq (σ' := mW τ (mUtS4 (τ.1 (.inr 16)) n S F L) (mUt9 (τ.1 (.inr 16)) n S F L) (mUtL (τ.1 (.inr 16)) n S F L)) (by rfl) rfl rfl ?_
              refine X_aload_n (pc := 275) C 0 dX7_userTold_275 rfl rfl ?_
              refine X_aload_n (pc := 276) C 0 dX7_userTold_276 rfl rfl ?_
              refine G_X7_164 (pc := 277) C (by assumption) dX7_userTold_277 ?_
              rw [mW_9]
              refine X_iconst (pc := 280) (v := 3) C dX7_userTold_280 (by decide) ?_
              refine X_icmp_eq (pc := 281) C 288 dX7_userTold_281 (by decide) (fun h281 => ?_) (fun h281 => ?_)
              · have g281 : (if (mUt9 (τ.1 (.inr 16)) n S F L) 16 = 3 then (0 : Int32) else 1) = 0 := if_pos h281
                refine X_iconst (pc := 288) (v := 0) C dX7_userTold_288 (by decide) ?_
                refine X_iconst (pc := 289) (v := 1) C dX7_userTold_289 (by decide) ?_
                refine K_X7_190 (pc := 290) C (by assumption) (c_X7_wrong l P _ _ _ _ h1 _ _) ⟨Nat.le_of_ble_eq_true rfl, Nat.le_of_ble_eq_true rfl⟩ ⟨rfl, rfl⟩ ⟨Nat.zero_le _, Nat.zero_le _⟩ (Nat.le_of_ble_eq_true rfl) dX7_userTold_290 ?_
                refine XW.eq (σ' := mW τ (mUtS4 (τ.1 (.inr 16)) n S F L) (mWr (mUt9 (τ.1 (.inr 16)) n S F L) (if (mUt9 (τ.1 (.inr 16)) n S F L) 16 = 3 then (0 : Int32) else 1) 1) (mUtL (τ.1 (.inr 16)) n S F L)) (by rw [g281]) rfl rfl ?_
                refine X_aload_n (pc := 293) C 0 dX7_userTold_293 rfl rfl ?_
                refine K_X7_194 (pc := 294) C (by assumption) (c_X7_go l P _ _ _ _ h1 n (mWr_TK (mUt9_TK hT))) ⟨Nat.le_of_ble_eq_true rfl, Nat.le_of_ble_eq_true rfl⟩ ⟨rfl, rfl⟩ ⟨Nat.zero_le _, Nat.zero_le _⟩ (Nat.le_of_ble_eq_true rfl) dX7_userTold_294 ?_
                refine XW.eq (σ' := mW τ (mUtS4 (τ.1 (.inr 16)) n S F L) (mUtA (τ.1 (.inr 16)) n S F L) (mUtL (τ.1 (.inr 16)) n S F L)) (by rfl) rfl rfl ?_
                refine X_aload_n (pc := 297) C 0 dX7_userTold_297 rfl rfl ?_
                refine G_X7_180 (pc := 298) C (by assumption) dX7_userTold_298 ?_
                rw [mW_9]
                refine X_if_ne (pc := 301) C 314 dX7_userTold_301 (by decide) (fun h301 => ?_) (fun h301 => ?_)
                · skip
                  exact X_vret (pc := 314) C (Nat.zero_le _) (Nat.zero_le _) dX7_userTold_314 ⟨rfl, by first | rw [mUtS, mUtF, if_pos g78, if_pos g78, if_pos h301] | rw [mUtS, mUtF, if_pos g78, if_pos g78, if_neg h301]⟩
                · skip
                  refine X_aload_n (pc := 304) C 0 dX7_userTold_304 rfl rfl ?_
                  refine G_X7_9 (pc := 305) C (by assumption) dX7_userTold_305 ?_
                  refine X_iconst (pc := 308) (v := 4) C dX7_userTold_308 (by decide) ?_
                  refine X_dup2 (pc := 309) C dX7_userTold_309 rfl rfl ?_
                  refine X_ialdN (j := 4) (pc := 310) C (by first | exact h1 _ (by decide) (by decide)) rfl (by omega) (by decide) dX7_userTold_310 ?_
                  rw [mW_10]
                  rw [mUtS4_o g78 (by omega), hM.u]
                  refine X_iconst (pc := 311) (v := 1) C dX7_userTold_311 (by decide) ?_
                  refine X_iadd (pc := 312) C dX7_userTold_312 ?_
                  rw [nI_1]
                  refine X_iastN (j := 4) (pc := 313) C (by first | exact h1 _ (by decide) (by decide)) rfl (by omega) (by decide) dX7_userTold_313 ?_
                  rw [mW_u10]
                  exact X_vret (pc := 314) C (Nat.zero_le _) (Nat.zero_le _) dX7_userTold_314 ⟨rfl, by first | rw [mUtS, mUtF, if_pos g78, if_pos g78, if_pos h301] | rw [mUtS, mUtF, if_pos g78, if_pos g78, if_neg h301]⟩
              · have g281 : (if (mUt9 (τ.1 (.inr 16)) n S F L) 16 = 3 then (0 : Int32) else 1) = 1 := if_neg h281
                refine X_iconst (pc := 284) (v := 1) C dX7_userTold_284 (by decide) ?_
                refine X_goto (pc := 285) C 289 dX7_userTold_285 (by decide) ?_
                refine X_iconst (pc := 289) (v := 1) C dX7_userTold_289 (by decide) ?_
                refine K_X7_190 (pc := 290) C (by assumption) (c_X7_wrong l P _ _ _ _ h1 _ _) ⟨Nat.le_of_ble_eq_true rfl, Nat.le_of_ble_eq_true rfl⟩ ⟨rfl, rfl⟩ ⟨Nat.zero_le _, Nat.zero_le _⟩ (Nat.le_of_ble_eq_true rfl) dX7_userTold_290 ?_
                refine XW.eq (σ' := mW τ (mUtS4 (τ.1 (.inr 16)) n S F L) (mWr (mUt9 (τ.1 (.inr 16)) n S F L) (if (mUt9 (τ.1 (.inr 16)) n S F L) 16 = 3 then (0 : Int32) else 1) 1) (mUtL (τ.1 (.inr 16)) n S F L)) (by rw [g281]) rfl rfl ?_
                refine X_aload_n (pc := 293) C 0 dX7_userTold_293 rfl rfl ?_
                refine K_X7_194 (pc := 294) C (by assumption) (c_X7_go l P _ _ _ _ h1 n (mWr_TK (mUt9_TK hT))) ⟨Nat.le_of_ble_eq_true rfl, Nat.le_of_ble_eq_true rfl⟩ ⟨rfl, rfl⟩ ⟨Nat.zero_le _, Nat.zero_le _⟩ (Nat.le_of_ble_eq_true rfl) dX7_userTold_294 ?_
                refine XW.eq (σ' := mW τ (mUtS4 (τ.1 (.inr 16)) n S F L) (mUtA (τ.1 (.inr 16)) n S F L) (mUtL (τ.1 (.inr 16)) n S F L)) (by rfl) rfl rfl ?_
                refine X_aload_n (pc := 297) C 0 dX7_userTold_297 rfl rfl ?_
                refine G_X7_180 (pc := 298) C (by assumption) dX7_userTold_298 ?_
                rw [mW_9]
                refine X_if_ne (pc := 301) C 314 dX7_userTold_301 (by decide) (fun h301 => ?_) (fun h301 => ?_)
                · skip
                  exact X_vret (pc := 314) C (Nat.zero_le _) (Nat.zero_le _) dX7_userTold_314 ⟨rfl, by first | rw [mUtS, mUtF, if_pos g78, if_pos g78, if_pos h301] | rw [mUtS, mUtF, if_pos g78, if_pos g78, if_neg h301]⟩
                · skip
                  refine X_aload_n (pc := 304) C 0 dX7_userTold_304 rfl rfl ?_
                  refine G_X7_9 (pc := 305) C (by assumption) dX7_userTold_305 ?_
                  refine X_iconst (pc := 308) (v := 4) C dX7_userTold_308 (by decide) ?_
                  refine X_dup2 (pc := 309) C dX7_userTold_309 rfl rfl ?_
                  refine X_ialdN (j := 4) (pc := 310) C (by first | exact h1 _ (by decide) (by decide)) rfl (by omega) (by decide) dX7_userTold_310 ?_
                  rw [mW_10]
                  rw [mUtS4_o g78 (by omega), hM.u]
                  refine X_iconst (pc := 311) (v := 1) C dX7_userTold_311 (by decide) ?_
                  refine X_iadd (pc := 312) C dX7_userTold_312 ?_
                  rw [nI_1]
                  refine X_iastN (j := 4) (pc := 313) C (by first | exact h1 _ (by decide) (by decide)) rfl (by omega) (by decide) dX7_userTold_313 ?_
                  rw [mW_u10]
                  exact X_vret (pc := 314) C (Nat.zero_le _) (Nat.zero_le _) dX7_userTold_314 ⟨rfl, by first | rw [mUtS, mUtF, if_pos g78, if_pos g78, if_pos h301] | rw [mUtS, mUtF, if_pos g78, if_pos g78, if_neg h301]⟩
          · skip
            exact X_vret (pc := 81) C (Nat.zero_le _) (Nat.zero_le _) dX7_userTold_81 ⟨rfl, by rw [mUtS, mUtF, if_neg h78, if_neg h78]⟩
        · have g62 : (if (mUt2 (τ.1 (.inr 16)) n S F) 20 = 0 ∧ ¬ mNmd S (mUt2 (τ.1 (.inr 16)) n S F) (mUtL (τ.1 (.inr 16)) n S F L) = -1 then (1 : Int32) else 0) = 1 := if_pos ⟨h54, h62⟩
          refine X_iconst (pc := 65) (v := 1) C dX7_userTold_65 (by decide) ?_
          refine X_goto (pc := 66) C 70 dX7_userTold_66 (by decide) ?_
          refine X_iconst (pc := 70) (v := 4) C dX7_userTold_70 (by decide) ?_
          refine K_X7_190 (pc := 71) C (by assumption) (c_X7_wrong l P _ _ _ _ h1 _ _) ⟨Nat.le_of_ble_eq_true rfl, Nat.le_of_ble_eq_true rfl⟩ ⟨rfl, rfl⟩ ⟨Nat.zero_le _, Nat.zero_le _⟩ (Nat.le_of_ble_eq_true rfl) dX7_userTold_71 ?_
          refine XW.eq (σ' := mW τ S (mUt3 (τ.1 (.inr 16)) n S F L) (mUtL (τ.1 (.inr 16)) n S F L)) (by rw [mUt3, g62]) rfl rfl ?_
          refine X_aload_n (pc := 74) C 0 dX7_userTold_74 rfl rfl ?_
          refine G_X7_180 (pc := 75) C (by assumption) dX7_userTold_75 ?_
          rw [mW_9]
          refine X_if_eq (pc := 78) C 82 dX7_userTold_78 (by decide) (fun h78 => ?_) (fun h78 => ?_)
          · have g78 := h78
            have hlt := mUt_lt hM h78
            refine X_aload_n (pc := 82) C 0 dX7_userTold_82 rfl rfl ?_
            refine G_X7_9 (pc := 83) C (by assumption) dX7_userTold_83 ?_
            refine X_iconst (pc := 86) (v := 4) C dX7_userTold_86 (by decide) ?_
            refine X_ialdN (j := 4) (pc := 87) C (by first | exact h1 _ (by decide) (by decide)) rfl (by omega) (by decide) dX7_userTold_87 ?_
            rw [mW_10]
            rw [hM.u]
            refine X_istore_n (pc := 88) (lv1 := [(0, _), (1, _)]) C 1 dX7_userTold_88 rfl (by decide) rfl ?_
            refine X_aload_n (pc := 89) C 0 dX7_userTold_89 rfl rfl ?_
            refine X_iload_n (pc := 90) C 1 dX7_userTold_90 rfl rfl ?_
            refine X_iconst (pc := 91) (v := 5) C dX7_userTold_91 (by decide) ?_
            refine X_aload_n (pc := 92) C 0 dX7_userTold_92 rfl rfl ?_
            refine G_X7_148 (pc := 93) C (by assumption) dX7_userTold_93 ?_
            rw [mW_9]
            refine K_X7_123 (pc := 96) C (by assumption) (c_X7_putUser l P _ _ _ _ h1 (mU S) 5 hlt (by decide) _ 5 _ rfl rfl) ⟨Nat.le_of_ble_eq_true rfl, Nat.le_of_ble_eq_true rfl⟩ ⟨rfl, rfl⟩ ⟨Nat.zero_le _, Nat.zero_le _⟩ (Nat.le_of_ble_eq_true rfl) dX7_userTold_96 ?_
            refine XW.eq (σ' := mW τ (upd S (10 + 12 * mU S + 5) ((mUt3 (τ.1 (.inr 16)) n S F L) 15)) (mUt3 (τ.1 (.inr 16)) n S F L) (mUtL (τ.1 (.inr 16)) n S F L)) (by rfl) rfl rfl ?_
            refine X_iconst (pc := 99) (v := 0) C dX7_userTold_99 (by decide) ?_
            refine X_istore_n (pc := 100) (lv1 := [(0, _), (1, _), (2, _)]) C 2 dX7_userTold_100 rfl (by decide) rfl ?_
            have g15 := mUt3_15 g78
            refine L1_X7_userTold C h1 hlt g15.1 g15.2 ?_ (cN ((mUt3 (τ.1 (.inr 16)) n S F L) 15)) 0 (by omega)
            refine XW.eq (σ' := mW τ (mUtS2 (τ.1 (.inr 16)) n S F L) (mUt3 (τ.1 (.inr 16)) n S F L) (mUtL (τ.1 (.inr 16)) n S F L)) (by rfl) rfl rfl ?_
            refine X_aload_n (pc := 130) C 0 dX7_userTold_130 rfl rfl ?_
            refine K_X7_194 (pc := 131) C (by assumption) (c_X7_go l P _ _ _ _ h1 n (mUt3_TK hT)) ⟨Nat.le_of_ble_eq_true rfl, Nat.le_of_ble_eq_true rfl⟩ ⟨rfl, rfl⟩ ⟨Nat.zero_le _, Nat.zero_le _⟩ (Nat.le_of_ble_eq_true rfl) dX7_userTold_131 ?_
            refine XW.eq (σ' := mW τ (mUtS2 (τ.1 (.inr 16)) n S F L) (mUt4 (τ.1 (.inr 16)) n S F L) (mUtL (τ.1 (.inr 16)) n S F L)) (by rfl) rfl rfl ?_
            refine X_aload_n (pc := 134) C 0 dX7_userTold_134 rfl rfl ?_
            refine X_iconst (pc := 135) (v := 0) C dX7_userTold_135 (by decide) ?_
            refine X_aload_n (pc := 136) C 0 dX7_userTold_136 rfl rfl ?_
            refine G_X7_9 (pc := 137) C (by assumption) dX7_userTold_137 ?_
            refine X_iconst (pc := 140) (v := 1) C dX7_userTold_140 (by decide) ?_
            refine X_ialdN (j := 1) (pc := 141) C (by first | exact h1 _ (by decide) (by decide)) rfl (by omega) (by decide) dX7_userTold_141 ?_
            rw [mW_10]
            rw [mUtS2_o g78 (by omega)]
            refine X_iconst (pc := 142) (v := 1) C dX7_userTold_142 (by decide) ?_
            refine X_isub (pc := 143) C dX7_userTold_143 ?_
            refine K_X7_203 (pc := 144) C (by assumption) (c_X7_number l P _ _ _ _ h1 n (mUt4_TK hT) 0 _) ⟨Nat.le_of_ble_eq_true rfl, Nat.le_of_ble_eq_true rfl⟩ ⟨rfl, rfl⟩ ⟨Nat.zero_le _, Nat.zero_le _⟩ (Nat.le_of_ble_eq_true rfl) dX7_userTold_144 ?_
            refine XW.eq (σ' := mW τ (mUtS2 (τ.1 (.inr 16)) n S F L) (mUt5 (τ.1 (.inr 16)) n S F L) (mUtL (τ.1 (.inr 16)) n S F L)) (st' := [.int (mUtX (τ.1 (.inr 16)) n S F L)]) rfl rfl rfl ?_
            refine X_istore_n (pc := 147) (lv1 := [(0, _), (1, _), (2, _)]) C 2 dX7_userTold_147 rfl (by decide) rfl ?_
            refine X_aload_n (pc := 148) C 0 dX7_userTold_148 rfl rfl ?_
            refine G_X7_180 (pc := 149) C (by assumption) dX7_userTold_149 ?_
            rw [mW_9]
            refine X_if_eq (pc := 152) C 159 dX7_userTold_152 (by decide) (fun h152 => ?_) (fun h152 => ?_)
            · have e6 : (mUt6 (τ.1 (.inr 16)) n S F L) = (mRh (τ.1 (.inr 16)) (mUt5 (τ.1 (.inr 16)) n S F L)).1 := if_pos h152
              have eY : (mUtY (τ.1 (.inr 16)) n S F L) = (mRh (τ.1 (.inr 16)) (mUt5 (τ.1 (.inr 16)) n S F L)).2 := if_pos h152
              refine X_aload_n (pc := 159) C 0 dX7_userTold_159 rfl rfl ?_
              refine K_X7_212 (pc := 160) C (by assumption) (c_X7_ringsHere l P _ _ _ _ h1 n (mUt5_TK hT)) ⟨Nat.le_of_ble_eq_true rfl, Nat.le_of_ble_eq_true rfl⟩ ⟨rfl, rfl⟩ ⟨Nat.zero_le _, Nat.zero_le _⟩ (Nat.le_of_ble_eq_true rfl) dX7_userTold_160 ?_
              refine X_istore_n (pc := 163) (lv1 := [(0, _), (1, _), (2, _), (3, _)]) C 3 dX7_userTold_163 rfl (by decide) rfl ?_
              refine X_iconst (pc := 164) (v := 0) C dX7_userTold_164 (by decide) ?_
              refine X_istore (pc := 165) (lv1 := [(0, _), (1, _), (2, _), (3, _), (4, _)]) C dX7_userTold_165 (by decide) rfl ?_
              refine XW.eq (σ' := mW τ (mUtS2 (τ.1 (.inr 16)) n S F L) (mUt6 (τ.1 (.inr 16)) n S F L) (mUtL (τ.1 (.inr 16)) n S F L)) (lv' := [(0, .ref (P.2.2.1 (.inr 9))), (1, .int (nI (mU S))), (2, .int (mUtX (τ.1 (.inr 16)) n S F L)), (3, .int (mUtY (τ.1 (.inr 16)) n S F L)), (4, .int (nI 0))]) (by rw [e6]) (by rw [eY]; rfl) rfl ?_
              refine L2_X7_userTold C h1 (u := mU S) (by omega) mUtY_ok (fun j hj => by rw [sU, mUtS2_o g78 (by omega)]; exact hC j hj) (mU S) 0 _ (by omega) ?_
              refine XW.eq (σ' := mW τ (mUtS2 (τ.1 (.inr 16)) n S F L) (mUt7 (τ.1 (.inr 16)) n S F L) (mUtL (τ.1 (.inr 16)) n S F L)) (by rfl) rfl rfl ?_
              refine X_aload_n (pc := 235) C 0 dX7_userTold_235 rfl rfl ?_
              refine K_X7_194 (pc := 236) C (by assumption) (c_X7_go l P _ _ _ _ h1 n (mUt7_TK hT)) ⟨Nat.le_of_ble_eq_true rfl, Nat.le_of_ble_eq_true rfl⟩ ⟨rfl, rfl⟩ ⟨Nat.zero_le _, Nat.zero_le _⟩ (Nat.le_of_ble_eq_true rfl) dX7_userTold_236 ?_
              refine XW.eq (σ' := mW τ (mUtS2 (τ.1 (.inr 16)) n S F L) (mUt8 (τ.1 (.inr 16)) n S F L) (mUtL (τ.1 (.inr 16)) n S F L)) (by rfl) rfl rfl ?_
              refine X_aload_n (pc := 239) C 0 dX7_userTold_239 rfl rfl ?_
              refine X_iload_n (pc := 240) C 1 dX7_userTold_240 rfl rfl ?_
              refine X_iconst (pc := 241) (v := 0) C dX7_userTold_241 (by decide) ?_
              refine X_iload_n (pc := 242) C 2 dX7_userTold_242 rfl rfl ?_
              refine K_X7_123 (pc := 243) C (by assumption) (c_X7_putUser l P _ _ _ _ h1 (mU S) 0 hlt (by decide) _ 0 _ rfl rfl) ⟨Nat.le_of_ble_eq_true rfl, Nat.le_of_ble_eq_true rfl⟩ ⟨rfl, rfl⟩ ⟨Nat.zero_le _, Nat.zero_le _⟩ (Nat.le_of_ble_eq_true rfl) dX7_userTold_243 ?_
              skip
              refine X_aload_n (pc := 246) C 0 dX7_userTold_246 rfl rfl ?_
              refine X_iload_n (pc := 247) C 1 dX7_userTold_247 rfl rfl ?_
              refine X_iconst (pc := 248) (v := 1) C dX7_userTold_248 (by decide) ?_
              refine X_iload_n (pc := 249) C 3 dX7_userTold_249 rfl rfl ?_
              refine K_X7_123 (pc := 250) C (by assumption) (c_X7_putUser l P _ _ _ _ h1 (mU S) 1 hlt (by decide) _ 1 _ rfl rfl) ⟨Nat.le_of_ble_eq_true rfl, Nat.le_of_ble_eq_true rfl⟩ ⟨rfl, rfl⟩ ⟨Nat.zero_le _, Nat.zero_le _⟩ (Nat.le_of_ble_eq_true rfl) dX7_userTold_250 ?_
              refine X_aload_n (pc := 253) C 0 dX7_userTold_253 rfl rfl ?_
              refine X_iload_n (pc := 254) C 1 dX7_userTold_254 rfl rfl ?_
              refine X_iconst (pc := 255) (v := 2) C dX7_userTold_255 (by decide) ?_
              refine X_aload_n (pc := 256) C 0 dX7_userTold_256 rfl rfl ?_
              refine X_iconst (pc := 257) (v := 0) C dX7_userTold_257 (by decide) ?_
              refine X_bipush (pc := 258) (v := 9) C dX7_userTold_258 (by decide) ?_
              refine K_X7_203 (pc := 260) C (by assumption) (c_X7_number l P _ _ _ _ h1 n (mUt8_TK hT) 0 9) ⟨Nat.le_of_ble_eq_true rfl, Nat.le_of_ble_eq_true rfl⟩ ⟨rfl, rfl⟩ ⟨Nat.zero_le _, Nat.zero_le _⟩ (Nat.le_of_ble_eq_true rfl) dX7_userTold_260 ?_
              refine K_X7_123 (pc := 263) C (by assumption) (c_X7_putUser l P _ _ _ _ h1 (mU S) 2 hlt (by decide) _ 2 _ rfl rfl) ⟨Nat.le_of_ble_eq_true rfl, Nat.le_of_ble_eq_true rfl⟩ ⟨rfl, rfl⟩ ⟨Nat.zero_le _, Nat.zero_le _⟩ (Nat.le_of_ble_eq_true rfl) dX7_userTold_263 ?_
              refine XW.eq (σ' := mW τ (upd (upd (upd (mUtS2 (τ.1 (.inr 16)) n S F L) (10 + 12 * mU S + 0) (mUtX (τ.1 (.inr 16)) n S F L)) (10 + 12 * mU S + 1) (mUtY (τ.1 (.inr 16)) n S F L)) (10 + 12 * mU S + 2) (mUtZ (τ.1 (.inr 16)) n S F L)) (mUt9 (τ.1 (.inr 16)) n S F L) (mUtL (τ.1 (.inr 16)) n S F L)) (by rfl) rfl rfl ?_
              refine X_aload_n (pc := 266) C 0 dX7_userTold_266 rfl rfl ?_
              refine X_iload_n (pc := 267) C 1 dX7_userTold_267 rfl rfl ?_
              refine X_iconst (pc := 268) (v := 4) C dX7_userTold_268 (by decide) ?_
              refine X_iconst (pc := 269) (v := 1) C dX7_userTold_269 (by decide) ?_
              refine X_iload_n (pc := 270) C 1 dX7_userTold_270 rfl rfl ?_
              refine X_ishl (pc := 271) C dX7_userTold_271 ?_
              refine K_X7_123 (pc := 272) C (by assumption) (c_X7_putUser l P _ _ _ _ h1 (mU S) 4 hlt (by decide) _ 4 _ rfl rfl) ⟨Nat.le_of_ble_eq_true rfl, Nat.le_of_ble_eq_true rfl⟩ ⟨rfl, rfl⟩ ⟨Nat.zero_le _, Nat.zero_le _⟩ (Nat.le_of_ble_eq_true rfl) dX7_userTold_272 ?_
              refine XW.eq (σ' := mW τ (mUtS4 (τ.1 (.inr 16)) n S F L) (mUt9 (τ.1 (.inr 16)) n S F L) (mUtL (τ.1 (.inr 16)) n S F L)) (by rfl) rfl rfl ?_
              refine X_aload_n (pc := 275) C 0 dX7_userTold_275 rfl rfl ?_
              refine X_aload_n (pc := 276) C 0 dX7_userTold_276 rfl rfl ?_
              refine G_X7_164 (pc := 277) C (by assumption) dX7_userTold_277 ?_
              rw [mW_9]
              refine X_iconst (pc := 280) (v := 3) C dX7_userTold_280 (by decide) ?_
              refine X_icmp_eq (pc := 281) C 288 dX7_userTold_281 (by decide) (fun h281 => ?_) (fun h281 => ?_)
              · have g281 : (if (mUt9 (τ.1 (.inr 16)) n S F L) 16 = 3 then (0 : Int32) else 1) = 0 := if_pos h281
                refine X_iconst (pc := 288) (v := 0) C dX7_userTold_288 (by decide) ?_
                refine X_iconst (pc := 289) (v := 1) C dX7_userTold_289 (by decide) ?_
                refine K_X7_190 (pc := 290) C (by assumption) (c_X7_wrong l P _ _ _ _ h1 _ _) ⟨Nat.le_of_ble_eq_true rfl, Nat.le_of_ble_eq_true rfl⟩ ⟨rfl, rfl⟩ ⟨Nat.zero_le _, Nat.zero_le _⟩ (Nat.le_of_ble_eq_true rfl) dX7_userTold_290 ?_
                refine XW.eq (σ' := mW τ (mUtS4 (τ.1 (.inr 16)) n S F L) (mWr (mUt9 (τ.1 (.inr 16)) n S F L) (if (mUt9 (τ.1 (.inr 16)) n S F L) 16 = 3 then (0 : Int32) else 1) 1) (mUtL (τ.1 (.inr 16)) n S F L)) (by rw [g281]) rfl rfl ?_
                refine X_aload_n (pc := 293) C 0 dX7_userTold_293 rfl rfl ?_
                refine K_X7_194 (pc := 294) C (by assumption) (c_X7_go l P _ _ _ _ h1 n (mWr_TK (mUt9_TK hT))) ⟨Nat.le_of_ble_eq_true rfl, Nat.le_of_ble_eq_true rfl⟩ ⟨rfl, rfl⟩ ⟨Nat.zero_le _, Nat.zero_le _⟩ (Nat.le_of_ble_eq_true rfl) dX7_userTold_294 ?_
                refine XW.eq (σ' := mW τ (mUtS4 (τ.1 (.inr 16)) n S F L) (mUtA (τ.1 (.inr 16)) n S F L) (mUtL (τ.1 (.inr 16)) n S F L)) (by rfl) rfl rfl ?_
                refine X_aload_n (pc := 297) C 0 dX7_userTold_297 rfl rfl ?_
                refine G_X7_180 (pc := 298) C (by assumption) dX7_userTold_298 ?_
                rw [mW_9]
                refine X_if_ne (pc := 301) C 314 dX7_userTold_301 (by decide) (fun h301 => ?_) (fun h301 => ?_)
                · skip
                  exact X_vret (pc := 314) C (Nat.zero_le _) (Nat.zero_le _) dX7_userTold_314 ⟨rfl, by first | rw [mUtS, mUtF, if_pos g78, if_pos g78, if_pos h301] | rw [mUtS, mUtF, if_pos g78, if_pos g78, if_neg h301]⟩
                · skip
                  refine X_aload_n (pc := 304) C 0 dX7_userTold_304 rfl rfl ?_
                  refine G_X7_9 (pc := 305) C (by assumption) dX7_userTold_305 ?_
                  refine X_iconst (pc := 308) (v := 4) C dX7_userTold_308 (by decide) ?_
                  refine X_dup2 (pc := 309) C dX7_userTold_309 rfl rfl ?_
                  refine X_ialdN (j := 4) (pc := 310) C (by first | exact h1 _ (by decide) (by decide)) rfl (by omega) (by decide) dX7_userTold_310 ?_
                  rw [mW_10]
                  rw [mUtS4_o g78 (by omega), hM.u]
                  refine X_iconst (pc := 311) (v := 1) C dX7_userTold_311 (by decide) ?_
                  refine X_iadd (pc := 312) C dX7_userTold_312 ?_
                  rw [nI_1]
                  refine X_iastN (j := 4) (pc := 313) C (by first | exact h1 _ (by decide) (by decide)) rfl (by omega) (by decide) dX7_userTold_313 ?_
                  rw [mW_u10]
                  exact X_vret (pc := 314) C (Nat.zero_le _) (Nat.zero_le _) dX7_userTold_314 ⟨rfl, by first | rw [mUtS, mUtF, if_pos g78, if_pos g78, if_pos h301] | rw [mUtS, mUtF, if_pos g78, if_pos g78, if_neg h301]⟩
              · have g281 : (if (mUt9 (τ.1 (.inr 16)) n S F L) 16 = 3 then (0 : Int32) else 1) = 1 := if_neg h281
                refine X_iconst (pc := 284) (v := 1) C dX7_userTold_284 (by decide) ?_
                refine X_goto (pc := 285) C 289 dX7_userTold_285 (by decide) ?_
                refine X_iconst (pc := 289) (v := 1) C dX7_userTold_289 (by decide) ?_
                refine K_X7_190 (pc := 290) C (by assumption) (c_X7_wrong l P _ _ _ _ h1 _ _) ⟨Nat.le_of_ble_eq_true rfl, Nat.le_of_ble_eq_true rfl⟩ ⟨rfl, rfl⟩ ⟨Nat.zero_le _, Nat.zero_le _⟩ (Nat.le_of_ble_eq_true rfl) dX7_userTold_290 ?_
                refine XW.eq (σ' := mW τ (mUtS4 (τ.1 (.inr 16)) n S F L) (mWr (mUt9 (τ.1 (.inr 16)) n S F L) (if (mUt9 (τ.1 (.inr 16)) n S F L) 16 = 3 then (0 : Int32) else 1) 1) (mUtL (τ.1 (.inr 16)) n S F L)) (by rw [g281]) rfl rfl ?_
                refine X_aload_n (pc := 293) C 0 dX7_userTold_293 rfl rfl ?_
                refine K_X7_194 (pc := 294) C (by assumption) (c_X7_go l P _ _ _ _ h1 n (mWr_TK (mUt9_TK hT))) ⟨Nat.le_of_ble_eq_true rfl, Nat.le_of_ble_eq_true rfl⟩ ⟨rfl, rfl⟩ ⟨Nat.zero_le _, Nat.zero_le _⟩ (Nat.le_of_ble_eq_true rfl) dX7_userTold_294 ?_
                refine XW.eq (σ' := mW τ (mUtS4 (τ.1 (.inr 16)) n S F L) (mUtA (τ.1 (.inr 16)) n S F L) (mUtL (τ.1 (.inr 16)) n S F L)) (by rfl) rfl rfl ?_
                refine X_aload_n (pc := 297) C 0 dX7_userTold_297 rfl rfl ?_
                refine G_X7_180 (pc := 298) C (by assumption) dX7_userTold_298 ?_
                rw [mW_9]
                refine X_if_ne (pc := 301) C 314 dX7_userTold_301 (by decide) (fun h301 => ?_) (fun h301 => ?_)
                · skip
                  exact X_vret (pc := 314) C (Nat.zero_le _) (Nat.zero_le _) dX7_userTold_314 ⟨rfl, by first | rw [mUtS, mUtF, if_pos g78, if_pos g78, if_pos h301] | rw [mUtS, mUtF, if_pos g78, if_pos g78, if_neg h301]⟩
                · skip
                  refine X_aload_n (pc := 304) C 0 dX7_userTold_304 rfl rfl ?_
                  refine G_X7_9 (pc := 305) C (by assumption) dX7_userTold_305 ?_
                  refine X_iconst (pc := 308) (v := 4) C dX7_userTold_308 (by decide) ?_
                  refine X_dup2 (pc := 309) C dX7_userTold_309 rfl rfl ?_
                  refine X_ialdN (j := 4) (pc := 310) C (by first | exact h1 _ (by decide) (by decide)) rfl (by omega) (by decide) dX7_userTold_310 ?_
                  rw [mW_10]
                  rw [mUtS4_o g78 (by omega), hM.u]
                  refine X_iconst (pc := 311) (v := 1) C dX7_userTold_311 (by decide) ?_
                  refine X_iadd (pc := 312) C dX7_userTold_312 ?_
                  rw [nI_1]
                  refine X_iastN (j := 4) (pc := 313) C (by first | exact h1 _ (by decide) (by decide)) rfl (by omega) (by decide) dX7_userTold_313 ?_
                  rw [mW_u10]
                  exact X_vret (pc := 314) C (Nat.zero_le _) (Nat.zero_le _) dX7_userTold_314 ⟨rfl, by first | rw [mUtS, mUtF, if_pos g78, if_pos g78, if_pos h301] | rw [mUtS, mUtF, if_pos g78, if_pos g78, if_neg h301]⟩
            · have e6 : (mUt6 (τ.1 (.inr 16)) n S F L) = (mUt5 (τ.1 (.inr 16)) n S F L) := if_neg h152
              have eY : (mUtY (τ.1 (.inr 16)) n S F L) = 1 := if_neg h152
              refine X_iconst (pc := 155) (v := 1) C dX7_userTold_155 (by decide) ?_
              refine X_goto (pc := 156) C 163 dX7_userTold_156 (by decide) ?_
              refine X_istore_n (pc := 163) (lv1 := [(0, _), (1, _), (2, _), (3, _)]) C 3 dX7_userTold_163 rfl (by decide) rfl ?_
              refine X_iconst (pc := 164) (v := 0) C dX7_userTold_164 (by decide) ?_
              refine X_istore (pc := 165) (lv1 := [(0, _), (1, _), (2, _), (3, _), (4, _)]) C dX7_userTold_165 (by decide) rfl ?_
              refine XW.eq (σ' := mW τ (mUtS2 (τ.1 (.inr 16)) n S F L) (mUt6 (τ.1 (.inr 16)) n S F L) (mUtL (τ.1 (.inr 16)) n S F L)) (lv' := [(0, .ref (P.2.2.1 (.inr 9))), (1, .int (nI (mU S))), (2, .int (mUtX (τ.1 (.inr 16)) n S F L)), (3, .int (mUtY (τ.1 (.inr 16)) n S F L)), (4, .int (nI 0))]) (by rw [e6]) (by rw [eY]; rfl) rfl ?_
              refine L2_X7_userTold C h1 (u := mU S) (by omega) mUtY_ok (fun j hj => by rw [sU, mUtS2_o g78 (by omega)]; exact hC j hj) (mU S) 0 _ (by omega) ?_
              refine XW.eq (σ' := mW τ (mUtS2 (τ.1 (.inr 16)) n S F L) (mUt7 (τ.1 (.inr 16)) n S F L) (mUtL (τ.1 (.inr 16)) n S F L)) (by rfl) rfl rfl ?_
              refine X_aload_n (pc := 235) C 0 dX7_userTold_235 rfl rfl ?_
              refine K_X7_194 (pc := 236) C (by assumption) (c_X7_go l P _ _ _ _ h1 n (mUt7_TK hT)) ⟨Nat.le_of_ble_eq_true rfl, Nat.le_of_ble_eq_true rfl⟩ ⟨rfl, rfl⟩ ⟨Nat.zero_le _, Nat.zero_le _⟩ (Nat.le_of_ble_eq_true rfl) dX7_userTold_236 ?_
              refine XW.eq (σ' := mW τ (mUtS2 (τ.1 (.inr 16)) n S F L) (mUt8 (τ.1 (.inr 16)) n S F L) (mUtL (τ.1 (.inr 16)) n S F L)) (by rfl) rfl rfl ?_
              refine X_aload_n (pc := 239) C 0 dX7_userTold_239 rfl rfl ?_
              refine X_iload_n (pc := 240) C 1 dX7_userTold_240 rfl rfl ?_
              refine X_iconst (pc := 241) (v := 0) C dX7_userTold_241 (by decide) ?_
              refine X_iload_n (pc := 242) C 2 dX7_userTold_242 rfl rfl ?_
              refine K_X7_123 (pc := 243) C (by assumption) (c_X7_putUser l P _ _ _ _ h1 (mU S) 0 hlt (by decide) _ 0 _ rfl rfl) ⟨Nat.le_of_ble_eq_true rfl, Nat.le_of_ble_eq_true rfl⟩ ⟨rfl, rfl⟩ ⟨Nat.zero_le _, Nat.zero_le _⟩ (Nat.le_of_ble_eq_true rfl) dX7_userTold_243 ?_
              skip
              refine X_aload_n (pc := 246) C 0 dX7_userTold_246 rfl rfl ?_
              refine X_iload_n (pc := 247) C 1 dX7_userTold_247 rfl rfl ?_
              refine X_iconst (pc := 248) (v := 1) C dX7_userTold_248 (by decide) ?_
              refine X_iload_n (pc := 249) C 3 dX7_userTold_249 rfl rfl ?_
              refine K_X7_123 (pc := 250) C (by assumption) (c_X7_putUser l P _ _ _ _ h1 (mU S) 1 hlt (by decide) _ 1 _ rfl rfl) ⟨Nat.le_of_ble_eq_true rfl, Nat.le_of_ble_eq_true rfl⟩ ⟨rfl, rfl⟩ ⟨Nat.zero_le _, Nat.zero_le _⟩ (Nat.le_of_ble_eq_true rfl) dX7_userTold_250 ?_
              refine X_aload_n (pc := 253) C 0 dX7_userTold_253 rfl rfl ?_
              refine X_iload_n (pc := 254) C 1 dX7_userTold_254 rfl rfl ?_
              refine X_iconst (pc := 255) (v := 2) C dX7_userTold_255 (by decide) ?_
              refine X_aload_n (pc := 256) C 0 dX7_userTold_256 rfl rfl ?_
              refine X_iconst (pc := 257) (v := 0) C dX7_userTold_257 (by decide) ?_
              refine X_bipush (pc := 258) (v := 9) C dX7_userTold_258 (by decide) ?_
              refine K_X7_203 (pc := 260) C (by assumption) (c_X7_number l P _ _ _ _ h1 n (mUt8_TK hT) 0 9) ⟨Nat.le_of_ble_eq_true rfl, Nat.le_of_ble_eq_true rfl⟩ ⟨rfl, rfl⟩ ⟨Nat.zero_le _, Nat.zero_le _⟩ (Nat.le_of_ble_eq_true rfl) dX7_userTold_260 ?_
              refine K_X7_123 (pc := 263) C (by assumption) (c_X7_putUser l P _ _ _ _ h1 (mU S) 2 hlt (by decide) _ 2 _ rfl rfl) ⟨Nat.le_of_ble_eq_true rfl, Nat.le_of_ble_eq_true rfl⟩ ⟨rfl, rfl⟩ ⟨Nat.zero_le _, Nat.zero_le _⟩ (Nat.le_of_ble_eq_true rfl) dX7_userTold_263 ?_
              refine XW.eq (σ' := mW τ (upd (upd (upd (mUtS2 (τ.1 (.inr 16)) n S F L) (10 + 12 * mU S + 0) (mUtX (τ.1 (.inr 16)) n S F L)) (10 + 12 * mU S + 1) (mUtY (τ.1 (.inr 16)) n S F L)) (10 + 12 * mU S + 2) (mUtZ (τ.1 (.inr 16)) n S F L)) (mUt9 (τ.1 (.inr 16)) n S F L) (mUtL (τ.1 (.inr 16)) n S F L)) (by rfl) rfl rfl ?_
              refine X_aload_n (pc := 266) C 0 dX7_userTold_266 rfl rfl ?_
              refine X_iload_n (pc := 267) C 1 dX7_userTold_267 rfl rfl ?_
              refine X_iconst (pc := 268) (v := 4) C dX7_userTold_268 (by decide) ?_
              refine X_iconst (pc := 269) (v := 1) C dX7_userTold_269 (by decide) ?_
              refine X_iload_n (pc := 270) C 1 dX7_userTold_270 rfl rfl ?_
              refine X_ishl (pc := 271) C dX7_userTold_271 ?_
              refine K_X7_123 (pc := 272) C (by assumption) (c_X7_putUser l P _ _ _ _ h1 (mU S) 4 hlt (by decide) _ 4 _ rfl rfl) ⟨Nat.le_of_ble_eq_true rfl, Nat.le_of_ble_eq_true rfl⟩ ⟨rfl, rfl⟩ ⟨Nat.zero_le _, Nat.zero_le _⟩ (Nat.le_of_ble_eq_true rfl) dX7_userTold_272 ?_
              refine XW.eq (σ' := mW τ (mUtS4 (τ.1 (.inr 16)) n S F L) (mUt9 (τ.1 (.inr 16)) n S F L) (mUtL (τ.1 (.inr 16)) n S F L)) (by rfl) rfl rfl ?_
              refine X_aload_n (pc := 275) C 0 dX7_userTold_275 rfl rfl ?_
              refine X_aload_n (pc := 276) C 0 dX7_userTold_276 rfl rfl ?_
              refine G_X7_164 (pc := 277) C (by assumption) dX7_userTold_277 ?_
              rw [mW_9]
              refine X_iconst (pc := 280) (v := 3) C dX7_userTold_280 (by decide) ?_
              refine X_icmp_eq (pc := 281) C 288 dX7_userTold_281 (by decide) (fun h281 => ?_) (fun h281 => ?_)
              · have g281 : (if (mUt9 (τ.1 (.inr 16)) n S F L) 16 = 3 then (0 : Int32) else 1) = 0 := if_pos h281
                refine X_iconst (pc := 288) (v := 0) C dX7_userTold_288 (by decide) ?_
                refine X_iconst (pc := 289) (v := 1) C dX7_userTold_289 (by decide) ?_
                refine K_X7_190 (pc := 290) C (by assumption) (c_X7_wrong l P _ _ _ _ h1 _ _) ⟨Nat.le_of_ble_eq_true rfl, Nat.le_of_ble_eq_true rfl⟩ ⟨rfl, rfl⟩ ⟨Nat.zero_le _, Nat.zero_le _⟩ (Nat.le_of_ble_eq_true rfl) dX7_userTold_290 ?_
                refine XW.eq (σ' := mW τ (mUtS4 (τ.1 (.inr 16)) n S F L) (mWr (mUt9 (τ.1 (.inr 16)) n S F L) (if (mUt9 (τ.1 (.inr 16)) n S F L) 16 = 3 then (0 : Int32) else 1) 1) (mUtL (τ.1 (.inr 16)) n S F L)) (by rw [g281]) rfl rfl ?_
                refine X_aload_n (pc := 293) C 0 dX7_userTold_293 rfl rfl ?_
                refine K_X7_194 (pc := 294) C (by assumption) (c_X7_go l P _ _ _ _ h1 n (mWr_TK (mUt9_TK hT))) ⟨Nat.le_of_ble_eq_true rfl, Nat.le_of_ble_eq_true rfl⟩ ⟨rfl, rfl⟩ ⟨Nat.zero_le _, Nat.zero_le _⟩ (Nat.le_of_ble_eq_true rfl) dX7_userTold_294 ?_
                refine XW.eq (σ' := mW τ (mUtS4 (τ.1 (.inr 16)) n S F L) (mUtA (τ.1 (.inr 16)) n S F L) (mUtL (τ.1 (.inr 16)) n S F L)) (by rfl) rfl rfl ?_
                refine X_aload_n (pc := 297) C 0 dX7_userTold_297 rfl rfl ?_
                refine G_X7_180 (pc := 298) C (by assumption) dX7_userTold_298 ?_
                rw [mW_9]
                refine X_if_ne (pc := 301) C 314 dX7_userTold_301 (by decide) (fun h301 => ?_) (fun h301 => ?_)
                · skip
                  exact X_vret (pc := 314) C (Nat.zero_le _) (Nat.zero_le _) dX7_userTold_314 ⟨rfl, by first | rw [mUtS, mUtF, if_pos g78, if_pos g78, if_pos h301] | rw [mUtS, mUtF, if_pos g78, if_pos g78, if_neg h301]⟩
                · skip
                  refine X_aload_n (pc := 304) C 0 dX7_userTold_304 rfl rfl ?_
                  refine G_X7_9 (pc := 305) C (by assumption) dX7_userTold_305 ?_
                  refine X_iconst (pc := 308) (v := 4) C dX7_userTold_308 (by decide) ?_
                  refine X_dup2 (pc := 309) C dX7_userTold_309 rfl rfl ?_
                  refine X_ialdN (j := 4) (pc := 310) C (by first | exact h1 _ (by decide) (by decide)) rfl (by omega) (by decide) dX7_userTold_310 ?_
                  rw [mW_10]
                  rw [mUtS4_o g78 (by omega), hM.u]
                  refine X_iconst (pc := 311) (v := 1) C dX7_userTold_311 (by decide) ?_
                  refine X_iadd (pc := 312) C dX7_userTold_312 ?_
                  rw [nI_1]
                  refine X_iastN (j := 4) (pc := 313) C (by first | exact h1 _ (by decide) (by decide)) rfl (by omega) (by decide) dX7_userTold_313 ?_
                  rw [mW_u10]
                  exact X_vret (pc := 314) C (Nat.zero_le _) (Nat.zero_le _) dX7_userTold_314 ⟨rfl, by first | rw [mUtS, mUtF, if_pos g78, if_pos g78, if_pos h301] | rw [mUtS, mUtF, if_pos g78, if_pos g78, if_neg h301]⟩
              · have g281 : (if (mUt9 (τ.1 (.inr 16)) n S F L) 16 = 3 then (0 : Int32) else 1) = 1 := if_neg h281
                refine X_iconst (pc := 284) (v := 1) C dX7_userTold_284 (by decide) ?_
                refine X_goto (pc := 285) C 289 dX7_userTold_285 (by decide) ?_
                refine X_iconst (pc := 289) (v := 1) C dX7_userTold_289 (by decide) ?_
                refine K_X7_190 (pc := 290) C (by assumption) (c_X7_wrong l P _ _ _ _ h1 _ _) ⟨Nat.le_of_ble_eq_true rfl, Nat.le_of_ble_eq_true rfl⟩ ⟨rfl, rfl⟩ ⟨Nat.zero_le _, Nat.zero_le _⟩ (Nat.le_of_ble_eq_true rfl) dX7_userTold_290 ?_
                refine XW.eq (σ' := mW τ (mUtS4 (τ.1 (.inr 16)) n S F L) (mWr (mUt9 (τ.1 (.inr 16)) n S F L) (if (mUt9 (τ.1 (.inr 16)) n S F L) 16 = 3 then (0 : Int32) else 1) 1) (mUtL (τ.1 (.inr 16)) n S F L)) (by rw [g281]) rfl rfl ?_
                refine X_aload_n (pc := 293) C 0 dX7_userTold_293 rfl rfl ?_
                refine K_X7_194 (pc := 294) C (by assumption) (c_X7_go l P _ _ _ _ h1 n (mWr_TK (mUt9_TK hT))) ⟨Nat.le_of_ble_eq_true rfl, Nat.le_of_ble_eq_true rfl⟩ ⟨rfl, rfl⟩ ⟨Nat.zero_le _, Nat.zero_le _⟩ (Nat.le_of_ble_eq_true rfl) dX7_userTold_294 ?_
                refine XW.eq (σ' := mW τ (mUtS4 (τ.1 (.inr 16)) n S F L) (mUtA (τ.1 (.inr 16)) n S F L) (mUtL (τ.1 (.inr 16)) n S F L)) (by rfl) rfl rfl ?_
                refine X_aload_n (pc := 297) C 0 dX7_userTold_297 rfl rfl ?_
                refine G_X7_180 (pc := 298) C (by assumption) dX7_userTold_298 ?_
                rw [mW_9]
                refine X_if_ne (pc := 301) C 314 dX7_userTold_301 (by decide) (fun h301 => ?_) (fun h301 => ?_)
                · skip
                  exact X_vret (pc := 314) C (Nat.zero_le _) (Nat.zero_le _) dX7_userTold_314 ⟨rfl, by first | rw [mUtS, mUtF, if_pos g78, if_pos g78, if_pos h301] | rw [mUtS, mUtF, if_pos g78, if_pos g78, if_neg h301]⟩
                · skip
                  refine X_aload_n (pc := 304) C 0 dX7_userTold_304 rfl rfl ?_
                  refine G_X7_9 (pc := 305) C (by assumption) dX7_userTold_305 ?_
                  refine X_iconst (pc := 308) (v := 4) C dX7_userTold_308 (by decide) ?_
                  refine X_dup2 (pc := 309) C dX7_userTold_309 rfl rfl ?_
                  refine X_ialdN (j := 4) (pc := 310) C (by first | exact h1 _ (by decide) (by decide)) rfl (by omega) (by decide) dX7_userTold_310 ?_
                  rw [mW_10]
                  rw [mUtS4_o g78 (by omega), hM.u]
                  refine X_iconst (pc := 311) (v := 1) C dX7_userTold_311 (by decide) ?_
                  refine X_iadd (pc := 312) C dX7_userTold_312 ?_
                  rw [nI_1]
                  refine X_iastN (j := 4) (pc := 313) C (by first | exact h1 _ (by decide) (by decide)) rfl (by omega) (by decide) dX7_userTold_313 ?_
                  rw [mW_u10]
                  exact X_vret (pc := 314) C (Nat.zero_le _) (Nat.zero_le _) dX7_userTold_314 ⟨rfl, by first | rw [mUtS, mUtF, if_pos g78, if_pos g78, if_pos h301] | rw [mUtS, mUtF, if_pos g78, if_pos g78, if_neg h301]⟩
          · skip
            exact X_vret (pc := 81) C (Nat.zero_le _) (Nat.zero_le _) dX7_userTold_81 ⟨rfl, by rw [mUtS, mUtF, if_neg h78, if_neg h78]⟩

end XP38

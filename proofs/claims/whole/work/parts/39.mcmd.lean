/-! THE REFERENCE: its commands -/
abbrev MR : Type := (Nat → Int32) × (Nat → Int32) × (Nat → Int32)
def mV (τ : XS) (r : MR) : XS := mW τ r.1 r.2.1 r.2.2
/-- urgent, or not -/
def mUrF (B : Nat → Int32) (n : Nat) (F : Nat → Int32) : Nat → Int32 := if mIs B F 7 = 0 then F else mGo B n F
def mUrV (B F : Nat → Int32) : Int32 := if mIs B F 7 = 0 then 0 else 1
theorem mUrF_TK {B F : Nat → Int32} {n : Nat} (h : TK n F) : TK n (mUrF B n F) := by
  unfold mUrF
  split
  · exact h
  · exact mGo_TK h
theorem mUrF_20 {B F : Nat → Int32} {n : Nat} : mUrF B n F 20 = F 20 := by
  unfold mUrF
  split
  · rfl
  · exact mGo_20
/-- a call's end: urgent, the semicolon, the request -/
def mCe (B : Nat → Int32) (n : Nat) (S F : Nat → Int32) : Nat → Int32 := mEn (mUrF B n F) (if S 5 < 40 then 1 else 0) 6
theorem mCe_TK {B S F : Nat → Int32} {n : Nat} (h : TK n F) : TK n (mCe B n S F) := mEn_TK (mUrF_TK h)
theorem mCe_0 {B S F : Nat → Int32} {n : Nat} (h : mCe B n S F 20 = 0) : F 20 = 0 ∧ mUrF B n F 16 = 3 ∧ S 5 < 40 ∧ mCe B n S F = mUrF B n F := by
  unfold mCe at h ⊢
  obtain ⟨h1, h2, h3, h4⟩ := mEn_0 h
  rw [mUrF_20] at h1
  exact ⟨h1, h2, Classical.byContradiction fun q => h3 (if_neg q), h4⟩
noncomputable def mCeR (B : Nat → Int32) (n : Nat) (S F L : Nat → Int32) (x y t : Int32) : MR :=
  if mCe B n S F 20 = 0 then (mReq S x y t (mUrV B F), upd (mCe B n S F) 21 (nI (mK S)), L) else (S, mCe B n S F, L)
/-- a call between subscribers -/
noncomputable def mCa1 (B : Nat → Int32) (n : Nat) (S F L : Nat → Int32) : Nat → Int32 := mUhF B n S (mGo B n F) L (-1)
def mCaL (B : Nat → Int32) (n : Nat) (F L : Nat → Int32) : Nat → Int32 := mNhL B (mGo B n F) L
noncomputable def mCaX (B : Nat → Int32) (n : Nat) (S F L : Nat → Int32) : Int32 := mUhV B S (mGo B n F) L
theorem mCa1_TK {B S F L : Nat → Int32} {n : Nat} (h : TK n F) : TK n (mCa1 B n S F L) := mUhF_TK (mGo_TK h)
noncomputable def mCa (B : Nat → Int32) (n : Nat) (S F L : Nat → Int32) : MR :=
  if mCa1 B n S F L 20 = 0 then mCeR B n S (mUhF B n S (mCa1 B n S F L) (mCaL B n F L) (mCaX B n S F L)) (mNhL B (mCa1 B n S F L) (mCaL B n F L)) (mCaX B n S F L) (mUhV B S (mCa1 B n S F L) (mCaL B n F L)) (-1)
  else mCeR B n S (mCa1 B n S F L) (mCaL B n F L) (mCaX B n S F L) (-1) (-1)
/-- a call to a trunk -/
noncomputable def mTr (B : Nat → Int32) (n : Nat) (S F L : Nat → Int32) : MR :=
  mCeR B n S (mNbF B n (mCa1 B n S F L) 0 (S 3 - 1)) (mCaL B n F L) (mCaX B n S F L) (-1) (mNbV (mCa1 B n S F L) 0 (S 3 - 1))
/-- an end -/
def mEdC (B : Nat → Int32) (n : Nat) (S F : Nat → Int32) : Int32 := mNbV (mGo B n F) 0 (S 5 - 1)
def mEd1 (B : Nat → Int32) (n : Nat) (S F : Nat → Int32) : Nat → Int32 := mNbF B n (mGo B n F) 0 (S 5 - 1)
def mEd2 (B : Nat → Int32) (n : Nat) (S F : Nat → Int32) : Nat → Int32 := mEn (mEd1 B n S F) (if mEd1 B n S F 20 = 0 ∧ 2 ≤ sC S 4 (cN (mEdC B n S F)) then 0 else 1) 7
noncomputable def mEd (B : Nat → Int32) (n : Nat) (S F L : Nat → Int32) : MR :=
  if mEd2 B n S F 20 = 0 then ((mFin S (cN (mEdC B n S F))).1, upd (mEd2 B n S F) 21 (nI (mFin S (cN (mEdC B n S F))).2), L) else (S, mEd2 B n S F, L)
/-- seconds -/
def mWaV (B : Nat → Int32) (n : Nat) (S F : Nat → Int32) : Int32 := mNbV (mGo B n F) 1 (xmin 9999 (999999 - S 0))
def mWa1 (B : Nat → Int32) (n : Nat) (S F : Nat → Int32) : Nat → Int32 := mEn (mNbF B n (mGo B n F) 1 (xmin 9999 (999999 - S 0))) 1 1
def mWa (B : Nat → Int32) (n : Nat) (S F L : Nat → Int32) : MR :=
  if mWa1 B n S F 20 = 0 then (upd S 0 (S 0 + mWaV B n S F), upd (mWa1 B n S F) 21 (S 0 + mWaV B n S F), L) else (S, mWa1 B n S F, L)
/-- a mood -/
def mMo1 (B : Nat → Int32) (n : Nat) (F : Nat → Int32) : Nat → Int32 := mGo B n (mWr F (if mIs B F 6 = 0 then 1 else 0) 1)
theorem mMo1_TK {B F : Nat → Int32} {n : Nat} (h : TK n F) : TK n (mMo1 B n F) := mGo_TK (mWr_TK h)
noncomputable def mMo2 (B : Nat → Int32) (n : Nat) (S F L : Nat → Int32) : Nat → Int32 := if mMo1 B n F 20 = 0 then mUhF B n S (mMo1 B n F) L (-1) else mMo1 B n F
theorem mMo2_TK {B S F L : Nat → Int32} {n : Nat} (h : TK n F) : TK n (mMo2 B n S F L) := by
  unfold mMo2
  split
  · exact mUhF_TK (mMo1_TK h)
  · exact mMo1_TK h
noncomputable def mMoX (B : Nat → Int32) (n : Nat) (S F L : Nat → Int32) : Int32 := if mMo1 B n F 20 = 0 then mUhV B S (mMo1 B n F) L else 0
def mMoL (B : Nat → Int32) (n : Nat) (F L : Nat → Int32) : Nat → Int32 := if mMo1 B n F 20 = 0 then mNhL B (mMo1 B n F) L else L
noncomputable def mMoV (B : Nat → Int32) (n : Nat) (S F L : Nat → Int32) : Int32 := mNbV (mMo2 B n S F L) 0 9
noncomputable def mMo3 (B : Nat → Int32) (n : Nat) (S F L : Nat → Int32) : Nat → Int32 := mEn (mNbF B n (mMo2 B n S F L) 0 9) 1 1
theorem mMo3_TK {B S F L : Nat → Int32} {n : Nat} (h : TK n F) : TK n (mMo3 B n S F L) := mEn_TK (mNbF_TK (mMo2_TK h))
noncomputable def mMo (B : Nat → Int32) (n : Nat) (S F L : Nat → Int32) : MR :=
  if mMo3 B n S F L 20 = 0 then (upd S (10 + 12 * cN (mMoX B n S F L) + 2) (mMoV B n S F L), upd (mMo3 B n S F L) 21 (sU S 2 (cN (mMoX B n S F L))), mMoL B n F L) else (S, mMo3 B n S F L, mMoL B n F L)
noncomputable def mCm0 (B : Nat → Int32) (n : Nat) (S F L : Nat → Int32) : MR :=
  if mIs B F 3 = 0 then (if mIs B F 1 = 0 then (if mIs B F 4 = 0 then (if mIs B F 5 = 0 then mMo B n S F L else mWa B n S F L) else mEd B n S F L) else mTr B n S F L) else mCa B n S F L
noncomputable def mCm (B : Nat → Int32) (n : Nat) (r : MR) : MR := ((mCm0 B n r.1 r.2.1 r.2.2).1, mGo B n (mCm0 B n r.1 r.2.1 r.2.2).2.1, (mCm0 B n r.1 r.2.1 r.2.2).2.2)
theorem mMo3_0 {B S F L : Nat → Int32} {n : Nat} (h : mMo3 B n S F L 20 = 0) : F 20 = 0 ∧ ¬ mIs B F 6 = 0 ∧ mMo1 B n F = mNx1 B n F ∧ mUhF B n S (mNx1 B n F) L (-1) 20 = 0 ∧ mMo2 B n S F L = mUhF B n S (mNx1 B n F) L (-1) ∧ mNbF B n (mMo2 B n S F L) 0 9 20 = 0 ∧ mNbF B n (mMo2 B n S F L) 0 9 16 = 3 ∧ mMo3 B n S F L = mNbF B n (mMo2 B n S F L) 0 9 ∧ mMoX B n S F L = mUhV B S (mNx1 B n F) L := by
  unfold mMo3 at h ⊢
  obtain ⟨h1, h2, -, h4⟩ := mEn_0 h
  have h5 := (mNbF_0 h1).1
  have g1 : mMo1 B n F 20 = 0 := Classical.byContradiction fun q => by
    unfold mMo2 at h5
    rw [if_neg q] at h5
    exact q h5
  have e2 : mMo2 B n S F L = mUhF B n S (mMo1 B n F) L (-1) := if_pos g1
  have eX : mMoX B n S F L = mUhV B S (mMo1 B n F) L := if_pos g1
  have g2 := g1
  unfold mMo1 at g2
  rw [mGo_20] at g2
  obtain ⟨h6, h7, h8⟩ := mWr_0 g2
  have e1 : mMo1 B n F = mNx1 B n F := by unfold mMo1; rw [h8, mGo, if_pos h6]
  rw [e1] at e2 eX
  rw [e2] at h5
  exact ⟨h6, fun q => by rw [if_pos q] at h7; exact absurd h7 (by decide), e1, h5, e2, h1, h2, h4, eX⟩
theorem mMoX_ok {B S F L : Nat → Int32} {n : Nat} (hM : MI S) (h : mMo3 B n S F L 20 = 0) : xok (mMoX B n S F L) (mU S) := by
  obtain ⟨-, -, -, h1, -, -, -, -, h2⟩ := mMo3_0 h
  rw [h2]
  exact mUhV_ok hM h1
theorem mEd2_0 {B S F : Nat → Int32} {n : Nat} (h : mEd2 B n S F 20 = 0) : F 20 = 0 ∧ mGo B n F = mNx1 B n F ∧ mEd1 B n S F 20 = 0 ∧ mEd1 B n S F 16 = 3 ∧ ¬ 2 ≤ sC S 4 (cN (mEdC B n S F)) ∧ mEd2 B n S F = mEd1 B n S F := by
  unfold mEd2 at h ⊢
  obtain ⟨h1, h2, h3, h4⟩ := mEn_0 h
  have h5 := (mNbF_0 h1).1
  rw [mGo_20] at h5
  exact ⟨h5, if_pos h5, h1, h2, fun q => h3 (if_pos ⟨h1, q⟩), h4⟩
theorem mEdC_ok {B S F : Nat → Int32} {n : Nat} (hM : MI S) (h : mEd1 B n S F 20 = 0) : xok (mEdC B n S F) (mK S) := by
  have hk := hM.k40
  obtain ⟨-, -, h1, h2, h3, -⟩ := mNbF_0 (F := mGo B n F) (lo := 0) (hi := S 5 - 1) h
  rw [mEdC, h3]
  have h5 := mIn_ok (x := mGo B n F 19) (n := mK S) (by omega)
  rw [hM.k] at h2
  rw [mIn, if_pos ⟨h1, h2⟩] at h5
  exact Classical.byContradiction fun q => by rw [if_neg q] at h5; exact absurd h5 (by decide)
theorem mTrV_ok {S F : Nat → Int32} {B : Nat → Int32} {n : Nat} (hM : MI S) (h : mNbF B n F 0 (S 3 - 1) 20 = 0) : xok (mNbV F 0 (S 3 - 1)) (mT S) := by
  have hk := hM.t4
  obtain ⟨-, -, h1, h2, h3, -⟩ := mNbF_0 h
  rw [h3]
  have h5 := mIn_ok (x := F 19) (n := mT S) (by omega)
  rw [hM.t] at h2
  rw [mIn, if_pos ⟨h1, h2⟩] at h5
  exact Classical.byContradiction fun q => by rw [if_neg q] at h5; exact absurd h5 (by decide)
theorem k40_of {S : Nat → Int32} (hM : MI S) (h : S 5 < 40) : mK S < 40 := by
  have hk := hM.k40
  rw [hM.k] at h
  exact nlt (b := 40) h
theorem MS.fxM {S S1 : Nat → Int32} (h : MS S) (hI : MI S1) (hu : mU S1 = mU S) (h5 : ∀ u, u < 15 → sU S1 5 u = sU S 5 u) (h1 : ∀ u, u < 15 → sU S1 1 u = sU S 1 u) : MS S1 := by
  have h15 := h.1.u15
  refine ⟨hI, fun u hu9 => ?_, fun u hu9 => ?_⟩
  · rw [hu] at hu9
    rw [h5 u (by omega)]
    exact h.2.1 u hu9
  · rw [hu] at hu9
    rw [h1 u (by omega)]
    exact h.2.2 u hu9
theorem mStart_u {S : Nat → Int32} {c w u : Nat} (hM : MI S) (hc : c < mK S) (hw : w ≠ 4) (hw2 : w < 12) (hu : u < 15) : sU (mStart S c) w u = sU S w u := by
  have hk := hM.k40
  have h15 := hM.u15
  rw [sU, mStart, upd_ne (by omega), upd_ne (by omega), upd_ne (by omega), upd_ne (by omega), mStart0, mHear_o _ (fun j hj => by omega), mTell_o (fun j => by omega)]
theorem mWait_u {S : Nat → Int32} {v : Int32} {w u : Nat} (hM : MI S) (hw : w ≠ 4) (hw2 : w < 12) (hu : u < 15) : ∀ k, k ≤ mK S → sU (mWait S v k).1 w u = sU S w u
  | 0, _ => rfl
  | k + 1, hk => by
    have ih := mWait_u (v := v) hM hw hw2 hu k (by omega)
    have hf := mWait_fx (u := v) hM k (by omega)
    by_cases g : sC (mWait S v k).1 4 k = 0 ∧ sC (mWait S v k).1 3 k = v ∧ mWhy (mWait S v k).1 k = 0
    · rw [mWait_y g]
      rw [mStart_u (hM.fx hf) (by rw [mK_fx hf]; omega) hw hw2 hu, ih]
    · rw [mWait_n g]
      exact ih
theorem mWaits_u {S : Nat → Int32} {w u : Nat} (hM : MI S) (hw : w ≠ 4) (hw2 : w < 12) (hu : u < 15) : sU (mWaits S).1 w u = sU S w u := by
  have h1 := mWait_fx (u := 1) hM (mK S) (Nat.le_refl _)
  show sU (mWait (mWait S 1 (mK S)).1 0 (mK S)).1 w u = sU S w u
  rw [mWait_u (hM.fx h1) hw hw2 hu _ (by rw [mK_fx h1]; omega), mWait_u hM hw hw2 hu _ (Nat.le_refl _)]
theorem mFin_u {S : Nat → Int32} {c w u : Nat} (hM : MI S) (hc : c < mK S) (hw : w ≠ 4) (hw3 : w ≠ 3) (hw2 : w < 12) (hu : u < 15) : sU (mFin S c).1 w u = sU S w u := by
  have hk := hM.k40
  show sU (mWaits (mFin0 S c)).1 w u = sU S w u
  rw [mWaits_u (hM.fx (mFin0_fx hM hc)) hw hw2 hu, sU, mFin0, upd_ne (by omega), upd_ne (by omega), upd_ne (by omega)]
theorem mReq_u {S : Nat → Int32} {x y t v : Int32} {w u : Nat} (hM : MI S) (hk : mK S < 40) (hx : xok x (mU S)) (hyt : (t = -1 ∧ xok y (mU S)) ∨ (y = -1 ∧ xok t (mT S))) (hw : w ≠ 4) (hw2 : w < 12) (hu : u < 15) : sU (mReq S x y t v) w u = sU S w u := by
  have e0 : sU (mReq0 S x y t v) w u = sU S w u := mReq0_o (by omega) (by omega)
  unfold mReq
  split
  · rw [mStart_u (hM.req hk hx hyt) (by rw [mReq0_K hk]; omega) hw hw2 hu, e0]
  · exact e0
theorem MS.req {S : Nat → Int32} {x y t v : Int32} (h : MS S) (hk : mK S < 40) (hx : xok x (mU S)) (hyt : (t = -1 ∧ xok y (mU S)) ∨ (y = -1 ∧ xok t (mT S))) : MS (mReq S x y t v) := by
  have hu : mU (mReq S x y t v) = mU S := by
    have e0 : mReq0 S x y t v 4 = S 4 := mReq0_o (by decide) (by omega)
    unfold mReq
    split
    · rw [mU, mStart_fx (h.1.req hk hx hyt) (by rw [mReq0_K hk]; omega) 4 (Or.inl (by decide)), e0]
    · rw [mU, e0]
  exact h.fxM (h.1.req1 hk hx hyt) hu (fun u hu => mReq_u h.1 hk hx hyt (by decide) (by decide) hu) (fun u hu => mReq_u h.1 hk hx hyt (by decide) (by decide) hu)
theorem MS.fin {S : Nat → Int32} {c : Nat} (h : MS S) (hc : c < mK S) : MS (mFin S c).1 :=
  h.fxM (h.1.fin hc) (by rw [mU, mFin_fx h.1 hc 4 (Or.inl (by decide))]) (fun u hu => mFin_u h.1 hc (by decide) (by decide) (by decide) hu) (fun u hu => mFin_u h.1 hc (by decide) (by decide) (by decide) hu)
theorem MS.clk {S : Nat → Int32} {v : Int32} (h : MS S) : MS (upd S 0 v) := by
  have o : ∀ k, k ≠ 0 → upd S 0 v k = S k := fun k a => upd_ne a
  have hI : MI (upd S 0 v) := by
    unfold MI mL mT mU mK
    rw [o 1 (by decide), o 3 (by decide), o 4 (by decide), o 5 (by decide)]
    obtain ⟨a, b, c, d, e, f, g, i, j⟩ := h.1
    refine ⟨a, b, c, d, e, f, g, i, fun q hq => ?_⟩
    have := j q hq
    unfold CR at this ⊢
    rw [sC, o _ (by omega), sC, o _ (by omega), sC, o _ (by omega)]
    exact this
  exact h.fxM hI (by rw [mU, o 4 (by decide)]) (fun u hu => o _ (by omega)) (fun u hu => o _ (by omega))
theorem MS.mood {S : Nat → Int32} {u : Nat} {v : Int32} (h : MS S) (hu : u < 15) : MS (upd S (10 + 12 * u + 2) v) := by
  have o : ∀ k, k ≠ 10 + 12 * u + 2 → upd S (10 + 12 * u + 2) v k = S k := fun k a => upd_ne a
  exact h.fxM (h.1.row (fun m hm => o m (by omega))) (by rw [mU, o 4 (by omega)]) (fun u hu => o _ (by omega)) (fun u hu => o _ (by omega))
theorem mCeR_ok {B S F L : Nat → Int32} {n : Nat} {x y t : Int32} (hS : MS S) (hT : TK n F) (hxy : F 20 = 0 → xok x (mU S) ∧ ((t = -1 ∧ xok y (mU S)) ∨ (y = -1 ∧ xok t (mT S)))) : MS (mCeR B n S F L x y t).1 ∧ TK n (mCeR B n S F L x y t).2.1 := by
  unfold mCeR
  by_cases g : mCe B n S F 20 = 0
  · rw [if_pos g]
    dsimp only
    obtain ⟨h1, -, h3, -⟩ := mCe_0 g
    exact ⟨hS.req (k40_of hS.1 h3) (hxy h1).1 (hxy h1).2, (mCe_TK hT).u (by decide) (by decide) (by decide)⟩
  · rw [if_neg g]
    dsimp only
    exact ⟨hS, mCe_TK hT⟩
theorem mCa_ok {B S F L : Nat → Int32} {n : Nat} (hS : MS S) (hT : TK n F) : MS (mCa B n S F L).1 ∧ TK n (mCa B n S F L).2.1 := by
  unfold mCa
  by_cases g : mCa1 B n S F L 20 = 0
  · rw [if_pos g]
    exact mCeR_ok hS (mUhF_TK (mCa1_TK hT)) (fun h => ⟨mUhV_ok hS.1 g, Or.inl ⟨rfl, mUhV_ok hS.1 h⟩⟩)
  · rw [if_neg g]
    exact mCeR_ok hS (mCa1_TK hT) (fun h => absurd h g)
theorem mTr_ok {B S F L : Nat → Int32} {n : Nat} (hS : MS S) (hT : TK n F) : MS (mTr B n S F L).1 ∧ TK n (mTr B n S F L).2.1 := by
  unfold mTr
  exact mCeR_ok hS (mNbF_TK (mCa1_TK hT)) (fun h => ⟨mUhV_ok hS.1 (mNbF_0 h).1, Or.inr ⟨rfl, mTrV_ok hS.1 h⟩⟩)
theorem mEd2_TK {B S F : Nat → Int32} {n : Nat} (h : TK n F) : TK n (mEd2 B n S F) := mEn_TK (mNbF_TK (mGo_TK h))
theorem mWa1_TK {B S F : Nat → Int32} {n : Nat} (h : TK n F) : TK n (mWa1 B n S F) := mEn_TK (mNbF_TK (mGo_TK h))
theorem mMo_ok {B S F L : Nat → Int32} {n : Nat} (hS : MS S) (hT : TK n F) : MS (mMo B n S F L).1 ∧ TK n (mMo B n S F L).2.1 := by
  unfold mMo
  by_cases g : mMo3 B n S F L 20 = 0
  · rw [if_pos g]
    dsimp only
    have h15 := hS.1.u15
    have h1 := (xok_c (mMoX_ok hS.1 g) (by omega)).1
    exact ⟨hS.mood (by omega), (mMo3_TK hT).u (by decide) (by decide) (by decide)⟩
  · rw [if_neg g]
    dsimp only
    exact ⟨hS, mMo3_TK hT⟩
theorem mWa_ok {B S F L : Nat → Int32} {n : Nat} (hS : MS S) (hT : TK n F) : MS (mWa B n S F L).1 ∧ TK n (mWa B n S F L).2.1 := by
  unfold mWa
  by_cases g : mWa1 B n S F 20 = 0
  · rw [if_pos g]
    dsimp only
    exact ⟨hS.clk, (mWa1_TK hT).u (by decide) (by decide) (by decide)⟩
  · rw [if_neg g]
    dsimp only
    exact ⟨hS, mWa1_TK hT⟩
theorem mEd_ok {B S F L : Nat → Int32} {n : Nat} (hS : MS S) (hT : TK n F) : MS (mEd B n S F L).1 ∧ TK n (mEd B n S F L).2.1 := by
  unfold mEd
  by_cases g : mEd2 B n S F 20 = 0
  · rw [if_pos g]
    dsimp only
    have h40 := hS.1.k40
    have h1 := (xok_c (mEdC_ok hS.1 (mEd2_0 g).2.2.1) (by omega)).1
    exact ⟨hS.fin h1, (mEd2_TK hT).u (by decide) (by decide) (by decide)⟩
  · rw [if_neg g]
    dsimp only
    exact ⟨hS, mEd2_TK hT⟩
theorem mCm0_ok {B S F L : Nat → Int32} {n : Nat} (hS : MS S) (hT : TK n F) : MS (mCm0 B n S F L).1 ∧ TK n (mCm0 B n S F L).2.1 := by
  unfold mCm0
  by_cases g3 : mIs B F 3 = 0
  · rw [if_pos g3]
    by_cases g1 : mIs B F 1 = 0
    · rw [if_pos g1]
      by_cases g4 : mIs B F 4 = 0
      · rw [if_pos g4]
        by_cases g5 : mIs B F 5 = 0
        · rw [if_pos g5]; exact mMo_ok hS hT
        · rw [if_neg g5]; exact mWa_ok hS hT
      · rw [if_neg g4]; exact mEd_ok hS hT
    · rw [if_neg g1]; exact mTr_ok hS hT
  · rw [if_neg g3]; exact mCa_ok hS hT
theorem mCm_ok {B : Nat → Int32} {n : Nat} {r : MR} (hS : MS r.1) (hT : TK n r.2.1) : MS (mCm B n r).1 ∧ TK n (mCm B n r).2.1 := by
  unfold mCm
  dsimp only
  exact ⟨(mCm0_ok hS hT).1, mGo_TK (mCm0_ok hS hT).2⟩
section XP39
variable {p : Program} {l : Launch} {e : Env} {R : Room} {s : State} {m : MethodId} {args : Array Value} {below : List Frame} {meth : Method} {c : Code} {P : XP} {A : Nat → Prop} {nL cells slots : Nat} {Q : State → Prop} {cc : ByteArray} {ret : Option FieldType} {σ : XS} {pc : Nat} {lv : List (Nat × Value)} {st : List Value}
set_option maxRecDepth 100000 in
set_option maxHeartbeats 4000000 in
theorem c_X7_urgentHere (l : Launch) (P : XP) (τ : XS) (S F L : Nat → Int32) (h1 : xI1 P) (n : Nat) (hT : TK n F) : XF l yX7_urgentHere cX7_urgentHere 1 (some .int) rm_X7_urgentHere P [.ref (P.2.2.1 (.inr 9))] (mW τ S F L) (some (.int (mUrV (τ.1 (.inr 16)) F))) (mW τ S (mUrF (τ.1 (.inr 16)) n F) L) := by
  refine XM.of (by decide +kernel) (Nat.le_of_ble_eq_true rfl) (fun p e s m args below meth c A C => ?_)
  replace C : XC p s m args meth c P A 1 RX7 cX7_urgentHere (some .int) := C
  refine XW.eq (lv' := [(0, _)]) rfl rfl rfl ?_
  refine X_aload_n (pc := 0) C 0 dX7_urgentHere_0 rfl rfl ?_
  refine X_ldcS (pc := 1) (q := 7) C (List.mem_of_getElem? (i := 16) rfl) dX7_urgentHere_1 ?_
  refine X_fV (i := .inr 9) (ci := 7) (n := 1) (pc := 3) C [.ref _] (c_X7_is l P _ _ _ _ h1 n hT 7 (by decide)) m_c_X7_is m_m_X7_208 m_i_X7_is m_s_X7_is m_n_X7 ⟨by decide +kernel, by decide +kernel, by decide +kernel⟩ ⟨Nat.le_of_ble_eq_true rfl, Nat.le_of_ble_eq_true rfl⟩ ⟨rfl, rfl⟩ ⟨Nat.zero_le _, Nat.zero_le _⟩ (h1 9 (by decide) (by decide)) rfl rfl rfl rfl (Nat.le_of_ble_eq_true rfl) rfl dX7_urgentHere_3 ?_
  refine X_if_ne (pc := 6) C 11 dX7_urgentHere_6 (by decide) (fun h6 => ?_) (fun h6 => ?_)
  · skip
    refine X_aload_n (pc := 11) C 0 dX7_urgentHere_11 rfl rfl ?_
    refine K_X7_194 (pc := 12) C (by assumption) (c_X7_go l P _ _ _ _ h1 n hT) ⟨Nat.le_of_ble_eq_true rfl, Nat.le_of_ble_eq_true rfl⟩ ⟨rfl, rfl⟩ ⟨Nat.zero_le _, Nat.zero_le _⟩ (Nat.le_of_ble_eq_true rfl) dX7_urgentHere_12 ?_
    refine X_iconst (pc := 15) (v := 1) C dX7_urgentHere_15 (by decide) ?_
    exact X_iret (pc := 16) C (Nat.zero_le _) (Nat.zero_le _) dX7_urgentHere_16 ⟨by first | rw [mUrV, if_pos h6] | rw [mUrV, if_neg h6], by first | rw [mUrF, if_pos h6] | rw [mUrF, if_neg h6]⟩
  · skip
    refine X_iconst (pc := 9) (v := 0) C dX7_urgentHere_9 (by decide) ?_
    exact X_iret (pc := 10) C (Nat.zero_le _) (Nat.zero_le _) dX7_urgentHere_10 ⟨by first | rw [mUrV, if_pos h6] | rw [mUrV, if_neg h6], by first | rw [mUrF, if_pos h6] | rw [mUrF, if_neg h6]⟩

set_option maxRecDepth 100000 in
set_option maxHeartbeats 4000000 in
theorem c_X7_callTold0 (l : Launch) (P : XP) (τ : XS) (S F L : Nat → Int32) (h1 : xI1 P) (n : Nat) (hT : TK n F) (hM : MI S) : XF l yX7_callTold cX7_callTold 6 none rm_X7_callTold P [.ref (P.2.2.1 (.inr 9)), .int 0] (mW τ S F L) (none) (mV τ (mCa (τ.1 (.inr 16)) n S F L)) := by
  refine XM.of (by decide +kernel) (Nat.le_of_ble_eq_true rfl) (fun p e s m args below meth c A C => ?_)
  replace C : XC p s m args meth c P A 6 RX7 cX7_callTold none := C
  refine XW.eq (lv' := [(0, _), (1, _)]) rfl rfl rfl ?_
  by_cases h18g : (mCa1 (τ.1 (.inr 16)) n S F L) 20 = 0
  · skip
    refine X_aload_n (pc := 0) C 0 dX7_callTold_0 rfl rfl ?_
    refine K_X7_194 (pc := 1) C (by assumption) (c_X7_go l P _ _ _ _ h1 n hT) ⟨Nat.le_of_ble_eq_true rfl, Nat.le_of_ble_eq_true rfl⟩ ⟨rfl, rfl⟩ ⟨Nat.zero_le _, Nat.zero_le _⟩ (Nat.le_of_ble_eq_true rfl) dX7_callTold_1 ?_
    refine X_aload_n (pc := 4) C 0 dX7_callTold_4 rfl rfl ?_
    refine X_iconst (pc := 5) (v := (-1)) C dX7_callTold_5 (by decide) ?_
    refine K_X7_220 (pc := 6) C (by assumption) (c_X7_userHere l P _ _ _ _ h1 n (mGo_TK hT) hM (-1)) ⟨Nat.le_of_ble_eq_true rfl, Nat.le_of_ble_eq_true rfl⟩ ⟨rfl, rfl⟩ ⟨Nat.zero_le _, Nat.zero_le _⟩ (Nat.le_of_ble_eq_true rfl) dX7_callTold_6 ?_
    refine XW.eq (σ' := mW τ S (mCa1 (τ.1 (.inr 16)) n S F L) (mCaL (τ.1 (.inr 16)) n F L)) (st' := [.int (mCaX (τ.1 (.inr 16)) n S F L)]) rfl rfl rfl ?_
    refine X_istore_n (pc := 9) (lv1 := [(0, _), (1, _), (2, _)]) C 2 dX7_callTold_9 rfl (by decide) rfl ?_
    refine X_iload_n (pc := 10) C 1 dX7_callTold_10 rfl rfl ?_
    refine X_if_ne (pc := 11) C 21 dX7_callTold_11 (by decide) (fun h11 => ?_) (fun h11 => ?_)
    · exact absurd h11 (by decide)
    · skip
      refine X_aload_n (pc := 14) C 0 dX7_callTold_14 rfl rfl ?_
      refine G_X7_180 (pc := 15) C (by assumption) dX7_callTold_15 ?_
      rw [mW_9]
      refine X_if_eq (pc := 18) C 25 dX7_callTold_18 (by decide) (fun h18 => ?_) (fun h18 => ?_)
      · skip
        refine X_aload_n (pc := 25) C 0 dX7_callTold_25 rfl rfl ?_
        refine X_iload_n (pc := 26) C 2 dX7_callTold_26 rfl rfl ?_
        refine K_X7_220 (pc := 27) C (by assumption) (c_X7_userHere l P _ _ _ _ h1 n (mCa1_TK hT) hM _) ⟨Nat.le_of_ble_eq_true rfl, Nat.le_of_ble_eq_true rfl⟩ ⟨rfl, rfl⟩ ⟨Nat.zero_le _, Nat.zero_le _⟩ (Nat.le_of_ble_eq_true rfl) dX7_callTold_27 ?_
        refine XW.eq (σ' := mW τ S (mUhF (τ.1 (.inr 16)) n S (mCa1 (τ.1 (.inr 16)) n S F L) (mCaL (τ.1 (.inr 16)) n F L) (mCaX (τ.1 (.inr 16)) n S F L)) (mNhL (τ.1 (.inr 16)) (mCa1 (τ.1 (.inr 16)) n S F L) (mCaL (τ.1 (.inr 16)) n F L))) (st' := [.int (mUhV (τ.1 (.inr 16)) S (mCa1 (τ.1 (.inr 16)) n S F L) (mCaL (τ.1 (.inr 16)) n F L))]) rfl rfl rfl ?_
        refine X_istore_n (pc := 30) (lv1 := [(0, _), (1, _), (2, _), (3, _)]) C 3 dX7_callTold_30 rfl (by decide) rfl ?_
        refine X_iload_n (pc := 31) C 1 dX7_callTold_31 rfl rfl ?_
        refine X_if_eq (pc := 32) C 51 dX7_callTold_32 (by decide) (fun h32 => ?_) (fun h32 => ?_)
        · skip
          refine X_iconst (pc := 51) (v := (-1)) C dX7_callTold_51 (by decide) ?_
          refine X_istore (pc := 52) (lv1 := [(0, _), (1, _), (2, _), (3, _), (4, _)]) C dX7_callTold_52 (by decide) rfl ?_
          refine XW.eq (lv' := [(0, .ref (P.2.2.1 (.inr 9))), (1, .int 0), (2, .int (mCaX (τ.1 (.inr 16)) n S F L)), (3, .int (mUhV (τ.1 (.inr 16)) S (mCa1 (τ.1 (.inr 16)) n S F L) (mCaL (τ.1 (.inr 16)) n F L))), (4, .int (-1))]) rfl rfl rfl ?_
          refine X_aload_n (pc := 54) C 0 dX7_callTold_54 rfl rfl ?_
          refine K_X7_223 (pc := 55) C (by assumption) (c_X7_urgentHere l P _ _ _ _ h1 n (mUhF_TK (mCa1_TK hT))) ⟨Nat.le_of_ble_eq_true rfl, Nat.le_of_ble_eq_true rfl⟩ ⟨rfl, rfl⟩ ⟨Nat.zero_le _, Nat.zero_le _⟩ (Nat.le_of_ble_eq_true rfl) dX7_callTold_55 ?_
          refine XW.eq (σ' := mW τ S (mUrF (τ.1 (.inr 16)) n (mUhF (τ.1 (.inr 16)) n S (mCa1 (τ.1 (.inr 16)) n S F L) (mCaL (τ.1 (.inr 16)) n F L) (mCaX (τ.1 (.inr 16)) n S F L))) (mNhL (τ.1 (.inr 16)) (mCa1 (τ.1 (.inr 16)) n S F L) (mCaL (τ.1 (.inr 16)) n F L))) (by rfl) rfl rfl ?_
          refine X_istore (pc := 58) (lv1 := [(0, _), (1, _), (2, _), (3, _), (4, _), (5, _)]) C dX7_callTold_58 (by decide) rfl ?_
          refine X_aload_n (pc := 60) C 0 dX7_callTold_60 rfl rfl ?_
          refine X_aload_n (pc := 61) C 0 dX7_callTold_61 rfl rfl ?_
          refine G_X7_9 (pc := 62) C (by assumption) dX7_callTold_62 ?_
          refine X_iconst (pc := 65) (v := 5) C dX7_callTold_65 (by decide) ?_
          refine X_ialdN (j := 5) (pc := 66) C (by first | exact h1 _ (by decide) (by decide)) rfl (by omega) (by decide) dX7_callTold_66 ?_
          rw [mW_10]
          refine X_bipush (pc := 67) (v := 40) C dX7_callTold_67 (by decide) ?_
          refine X_icmp_ge (pc := 69) C 76 dX7_callTold_69 (by decide) (fun h69 => ?_) (fun h69 => ?_)
          · have g69 : (if S 5 < 40 then (1 : Int32) else 0) = 0 := if_neg (Int32.not_lt.mpr h69)
            refine X_iconst (pc := 76) (v := 0) C dX7_callTold_76 (by decide) ?_
            refine X_bipush (pc := 77) (v := 6) C dX7_callTold_77 (by decide) ?_
            refine K_X7_226 (pc := 79) C (by assumption) (c_X7_ends l P _ _ _ _ h1 _ _) ⟨Nat.le_of_ble_eq_true rfl, Nat.le_of_ble_eq_true rfl⟩ ⟨rfl, rfl⟩ ⟨Nat.zero_le _, Nat.zero_le _⟩ (Nat.le_of_ble_eq_true rfl) dX7_callTold_79 ?_
            refine XW.eq (σ' := mW τ S (mCe (τ.1 (.inr 16)) n S (mUhF (τ.1 (.inr 16)) n S (mCa1 (τ.1 (.inr 16)) n S F L) (mCaL (τ.1 (.inr 16)) n F L) (mCaX (τ.1 (.inr 16)) n S F L))) (mNhL (τ.1 (.inr 16)) (mCa1 (τ.1 (.inr 16)) n S F L) (mCaL (τ.1 (.inr 16)) n F L))) (st' := [.int (if (mCe (τ.1 (.inr 16)) n S (mUhF (τ.1 (.inr 16)) n S (mCa1 (τ.1 (.inr 16)) n S F L) (mCaL (τ.1 (.inr 16)) n F L) (mCaX (τ.1 (.inr 16)) n S F L))) 20 = 0 then 1 else 0)]) (by rw [mCe, g69]) rfl (by rw [mCe, g69]) ?_
            refine X_if_eq (pc := 82) C 99 dX7_callTold_82 (by decide) (fun h82 => ?_) (fun h82 => ?_)
            · have g82 : ¬ (mCe (τ.1 (.inr 16)) n S (mUhF (τ.1 (.inr 16)) n S (mCa1 (τ.1 (.inr 16)) n S F L) (mCaL (τ.1 (.inr 16)) n F L) (mCaX (τ.1 (.inr 16)) n S F L))) 20 = 0 := bz0 h82
              exact X_vret (pc := 99) C (Nat.zero_le _) (Nat.zero_le _) dX7_callTold_99 ⟨rfl, by first | (rw [mV, mCa, if_pos h18g, mCeR, if_pos g82]) | (rw [mV, mCa, if_pos h18g, mCeR, if_neg g82])⟩
            · have g82 : (mCe (τ.1 (.inr 16)) n S (mUhF (τ.1 (.inr 16)) n S (mCa1 (τ.1 (.inr 16)) n S F L) (mCaL (τ.1 (.inr 16)) n F L) (mCaX (τ.1 (.inr 16)) n S F L))) 20 = 0 := bz1 h82
              have gz := mCe_0 g82
              have gx := (show xok (mCaX (τ.1 (.inr 16)) n S F L) (mU S) ∧ ((-1 : Int32) = -1 ∧ xok (mUhV (τ.1 (.inr 16)) S (mCa1 (τ.1 (.inr 16)) n S F L) (mCaL (τ.1 (.inr 16)) n F L)) (mU S) ∨ (mUhV (τ.1 (.inr 16)) S (mCa1 (τ.1 (.inr 16)) n S F L) (mCaL (τ.1 (.inr 16)) n F L)) = -1 ∧ xok (-1) (mT S)) from ⟨mUhV_ok hM h18g, Or.inl ⟨rfl, mUhV_ok hM gz.1⟩⟩)
              refine X_aload_n (pc := 85) C 0 dX7_callTold_85 rfl rfl ?_
              refine X_aload_n (pc := 86) C 0 dX7_callTold_86 rfl rfl ?_
              refine X_iload_n (pc := 87) C 2 dX7_callTold_87 rfl rfl ?_
              refine X_iload_n (pc := 88) C 3 dX7_callTold_88 rfl rfl ?_
              refine X_iload (pc := 89) C dX7_callTold_89 rfl ?_
              refine X_iload (pc := 91) C dX7_callTold_91 rfl ?_
              refine K_X7_230 (pc := 93) C (by assumption) (c_X7_requests l P _ _ _ _ h1 hM (k40_of hM gz.2.2.1) _ _ _ _ gx.1 gx.2) ⟨Nat.le_of_ble_eq_true rfl, Nat.le_of_ble_eq_true rfl⟩ ⟨rfl, rfl⟩ ⟨Nat.zero_le _, Nat.zero_le _⟩ (Nat.le_of_ble_eq_true rfl) dX7_callTold_93 ?_
              refine U_X7_234 (pc := 96) C (by assumption) dX7_callTold_96 ?_
              rw [mW_u9]
              exact X_vret (pc := 99) C (Nat.zero_le _) (Nat.zero_le _) dX7_callTold_99 ⟨rfl, by first | (rw [mV, mCa, if_pos h18g, mCeR, if_pos g82]) | (rw [mV, mCa, if_pos h18g, mCeR, if_neg g82])⟩
          · have g69 : (if S 5 < 40 then (1 : Int32) else 0) = 1 := if_pos (Int32.not_le.mp h69)
            refine X_iconst (pc := 72) (v := 1) C dX7_callTold_72 (by decide) ?_
            refine X_goto (pc := 73) C 77 dX7_callTold_73 (by decide) ?_
            refine X_bipush (pc := 77) (v := 6) C dX7_callTold_77 (by decide) ?_
            refine K_X7_226 (pc := 79) C (by assumption) (c_X7_ends l P _ _ _ _ h1 _ _) ⟨Nat.le_of_ble_eq_true rfl, Nat.le_of_ble_eq_true rfl⟩ ⟨rfl, rfl⟩ ⟨Nat.zero_le _, Nat.zero_le _⟩ (Nat.le_of_ble_eq_true rfl) dX7_callTold_79 ?_
            refine XW.eq (σ' := mW τ S (mCe (τ.1 (.inr 16)) n S (mUhF (τ.1 (.inr 16)) n S (mCa1 (τ.1 (.inr 16)) n S F L) (mCaL (τ.1 (.inr 16)) n F L) (mCaX (τ.1 (.inr 16)) n S F L))) (mNhL (τ.1 (.inr 16)) (mCa1 (τ.1 (.inr 16)) n S F L) (mCaL (τ.1 (.inr 16)) n F L))) (st' := [.int (if (mCe (τ.1 (.inr 16)) n S (mUhF (τ.1 (.inr 16)) n S (mCa1 (τ.1 (.inr 16)) n S F L) (mCaL (τ.1 (.inr 16)) n F L) (mCaX (τ.1 (.inr 16)) n S F L))) 20 = 0 then 1 else 0)]) (by rw [mCe, g69]) rfl (by rw [mCe, g69]) ?_
            refine X_if_eq (pc := 82) C 99 dX7_callTold_82 (by decide) (fun h82 => ?_) (fun h82 => ?_)
            · have g82 : ¬ (mCe (τ.1 (.inr 16)) n S (mUhF (τ.1 (.inr 16)) n S (mCa1 (τ.1 (.inr 16)) n S F L) (mCaL (τ.1 (.inr 16)) n F L) (mCaX (τ.1 (.inr 16)) n S F L))) 20 = 0 := bz0 h82
              exact X_vret (pc := 99) C (Nat.zero_le _) (Nat.zero_le _) dX7_callTold_99 ⟨rfl, by first | (rw [mV, mCa, if_pos h18g, mCeR, if_pos g82]) | (rw [mV, mCa, if_pos h18g, mCeR, if_neg g82])⟩
            · have g82 : (mCe (τ.1 (.inr 16)) n S (mUhF (τ.1 (.inr 16)) n S (mCa1 (τ.1 (.inr 16)) n S F L) (mCaL (τ.1 (.inr 16)) n F L) (mCaX (τ.1 (.inr 16)) n S F L))) 20 = 0 := bz1 h82
              have gz := mCe_0 g82
              have gx := (show xok (mCaX (τ.1 (.inr 16)) n S F L) (mU S) ∧ ((-1 : Int32) = -1 ∧ xok (mUhV (τ.1 (.inr 16)) S (mCa1 (τ.1 (.inr 16)) n S F L) (mCaL (τ.1 (.inr 16)) n F L)) (mU S) ∨ (mUhV (τ.1 (.inr 16)) S (mCa1 (τ.1 (.inr 16)) n S F L) (mCaL (τ.1 (.inr 16)) n F L)) = -1 ∧ xok (-1) (mT S)) from ⟨mUhV_ok hM h18g, Or.inl ⟨rfl, mUhV_ok hM gz.1⟩⟩)
              refine X_aload_n (pc := 85) C 0 dX7_callTold_85 rfl rfl ?_
              refine X_aload_n (pc := 86) C 0 dX7_callTold_86 rfl rfl ?_
              refine X_iload_n (pc := 87) C 2 dX7_callTold_87 rfl rfl ?_
              refine X_iload_n (pc := 88) C 3 dX7_callTold_88 rfl rfl ?_
              refine X_iload (pc := 89) C dX7_callTold_89 rfl ?_
              refine X_iload (pc := 91) C dX7_callTold_91 rfl ?_
              refine K_X7_230 (pc := 93) C (by assumption) (c_X7_requests l P _ _ _ _ h1 hM (k40_of hM gz.2.2.1) _ _ _ _ gx.1 gx.2) ⟨Nat.le_of_ble_eq_true rfl, Nat.le_of_ble_eq_true rfl⟩ ⟨rfl, rfl⟩ ⟨Nat.zero_le _, Nat.zero_le _⟩ (Nat.le_of_ble_eq_true rfl) dX7_callTold_93 ?_
              refine U_X7_234 (pc := 96) C (by assumption) dX7_callTold_96 ?_
              rw [mW_u9]
              exact X_vret (pc := 99) C (Nat.zero_le _) (Nat.zero_le _) dX7_callTold_99 ⟨rfl, by first | (rw [mV, mCa, if_pos h18g, mCeR, if_pos g82]) | (rw [mV, mCa, if_pos h18g, mCeR, if_neg g82])⟩
        · exact absurd h32 (by decide)
      · exact absurd h18g h18
  · skip
    refine X_aload_n (pc := 0) C 0 dX7_callTold_0 rfl rfl ?_
    refine K_X7_194 (pc := 1) C (by assumption) (c_X7_go l P _ _ _ _ h1 n hT) ⟨Nat.le_of_ble_eq_true rfl, Nat.le_of_ble_eq_true rfl⟩ ⟨rfl, rfl⟩ ⟨Nat.zero_le _, Nat.zero_le _⟩ (Nat.le_of_ble_eq_true rfl) dX7_callTold_1 ?_
    refine X_aload_n (pc := 4) C 0 dX7_callTold_4 rfl rfl ?_
    refine X_iconst (pc := 5) (v := (-1)) C dX7_callTold_5 (by decide) ?_
    refine K_X7_220 (pc := 6) C (by assumption) (c_X7_userHere l P _ _ _ _ h1 n (mGo_TK hT) hM (-1)) ⟨Nat.le_of_ble_eq_true rfl, Nat.le_of_ble_eq_true rfl⟩ ⟨rfl, rfl⟩ ⟨Nat.zero_le _, Nat.zero_le _⟩ (Nat.le_of_ble_eq_true rfl) dX7_callTold_6 ?_
    refine XW.eq (σ' := mW τ S (mCa1 (τ.1 (.inr 16)) n S F L) (mCaL (τ.1 (.inr 16)) n F L)) (st' := [.int (mCaX (τ.1 (.inr 16)) n S F L)]) rfl rfl rfl ?_
    refine X_istore_n (pc := 9) (lv1 := [(0, _), (1, _), (2, _)]) C 2 dX7_callTold_9 rfl (by decide) rfl ?_
    refine X_iload_n (pc := 10) C 1 dX7_callTold_10 rfl rfl ?_
    refine X_if_ne (pc := 11) C 21 dX7_callTold_11 (by decide) (fun h11 => ?_) (fun h11 => ?_)
    · exact absurd h11 (by decide)
    · skip
      refine X_aload_n (pc := 14) C 0 dX7_callTold_14 rfl rfl ?_
      refine G_X7_180 (pc := 15) C (by assumption) dX7_callTold_15 ?_
      rw [mW_9]
      refine X_if_eq (pc := 18) C 25 dX7_callTold_18 (by decide) (fun h18 => ?_) (fun h18 => ?_)
      · exact absurd h18 h18g
      · skip
        refine X_iconst (pc := 21) (v := (-1)) C dX7_callTold_21 (by decide) ?_
        refine X_goto (pc := 22) C 30 dX7_callTold_22 (by decide) ?_
        refine X_istore_n (pc := 30) (lv1 := [(0, _), (1, _), (2, _), (3, _)]) C 3 dX7_callTold_30 rfl (by decide) rfl ?_
        refine X_iload_n (pc := 31) C 1 dX7_callTold_31 rfl rfl ?_
        refine X_if_eq (pc := 32) C 51 dX7_callTold_32 (by decide) (fun h32 => ?_) (fun h32 => ?_)
        · skip
          refine X_iconst (pc := 51) (v := (-1)) C dX7_callTold_51 (by decide) ?_
          refine X_istore (pc := 52) (lv1 := [(0, _), (1, _), (2, _), (3, _), (4, _)]) C dX7_callTold_52 (by decide) rfl ?_
          refine XW.eq (lv' := [(0, .ref (P.2.2.1 (.inr 9))), (1, .int 0), (2, .int (mCaX (τ.1 (.inr 16)) n S F L)), (3, .int (-1)), (4, .int (-1))]) rfl rfl rfl ?_
          refine X_aload_n (pc := 54) C 0 dX7_callTold_54 rfl rfl ?_
          refine K_X7_223 (pc := 55) C (by assumption) (c_X7_urgentHere l P _ _ _ _ h1 n (mCa1_TK hT)) ⟨Nat.le_of_ble_eq_true rfl, Nat.le_of_ble_eq_true rfl⟩ ⟨rfl, rfl⟩ ⟨Nat.zero_le _, Nat.zero_le _⟩ (Nat.le_of_ble_eq_true rfl) dX7_callTold_55 ?_
          refine XW.eq (σ' := mW τ S (mUrF (τ.1 (.inr 16)) n (mCa1 (τ.1 (.inr 16)) n S F L)) (mCaL (τ.1 (.inr 16)) n F L)) (by rfl) rfl rfl ?_
          refine X_istore (pc := 58) (lv1 := [(0, _), (1, _), (2, _), (3, _), (4, _), (5, _)]) C dX7_callTold_58 (by decide) rfl ?_
          refine X_aload_n (pc := 60) C 0 dX7_callTold_60 rfl rfl ?_
          refine X_aload_n (pc := 61) C 0 dX7_callTold_61 rfl rfl ?_
          refine G_X7_9 (pc := 62) C (by assumption) dX7_callTold_62 ?_
          refine X_iconst (pc := 65) (v := 5) C dX7_callTold_65 (by decide) ?_
          refine X_ialdN (j := 5) (pc := 66) C (by first | exact h1 _ (by decide) (by decide)) rfl (by omega) (by decide) dX7_callTold_66 ?_
          rw [mW_10]
          refine X_bipush (pc := 67) (v := 40) C dX7_callTold_67 (by decide) ?_
          refine X_icmp_ge (pc := 69) C 76 dX7_callTold_69 (by decide) (fun h69 => ?_) (fun h69 => ?_)
          · have g69 : (if S 5 < 40 then (1 : Int32) else 0) = 0 := if_neg (Int32.not_lt.mpr h69)
            refine X_iconst (pc := 76) (v := 0) C dX7_callTold_76 (by decide) ?_
            refine X_bipush (pc := 77) (v := 6) C dX7_callTold_77 (by decide) ?_
            refine K_X7_226 (pc := 79) C (by assumption) (c_X7_ends l P _ _ _ _ h1 _ _) ⟨Nat.le_of_ble_eq_true rfl, Nat.le_of_ble_eq_true rfl⟩ ⟨rfl, rfl⟩ ⟨Nat.zero_le _, Nat.zero_le _⟩ (Nat.le_of_ble_eq_true rfl) dX7_callTold_79 ?_
            refine XW.eq (σ' := mW τ S (mCe (τ.1 (.inr 16)) n S (mCa1 (τ.1 (.inr 16)) n S F L)) (mCaL (τ.1 (.inr 16)) n F L)) (st' := [.int (if (mCe (τ.1 (.inr 16)) n S (mCa1 (τ.1 (.inr 16)) n S F L)) 20 = 0 then 1 else 0)]) (by rw [mCe, g69]) rfl (by rw [mCe, g69]) ?_
            refine X_if_eq (pc := 82) C 99 dX7_callTold_82 (by decide) (fun h82 => ?_) (fun h82 => ?_)
            · have g82 : ¬ (mCe (τ.1 (.inr 16)) n S (mCa1 (τ.1 (.inr 16)) n S F L)) 20 = 0 := bz0 h82
              exact X_vret (pc := 99) C (Nat.zero_le _) (Nat.zero_le _) dX7_callTold_99 ⟨rfl, by first | (rw [mV, mCa, if_neg h18g, mCeR, if_pos g82]) | (rw [mV, mCa, if_neg h18g, mCeR, if_neg g82])⟩
            · have g82 : (mCe (τ.1 (.inr 16)) n S (mCa1 (τ.1 (.inr 16)) n S F L)) 20 = 0 := bz1 h82
              have gz := mCe_0 g82
              have gx := (show xok (mCaX (τ.1 (.inr 16)) n S F L) (mU S) ∧ ((-1 : Int32) = -1 ∧ xok (-1) (mU S) ∨ (-1 : Int32) = -1 ∧ xok (-1) (mT S)) from absurd gz.1 h18g)
              refine X_aload_n (pc := 85) C 0 dX7_callTold_85 rfl rfl ?_
              refine X_aload_n (pc := 86) C 0 dX7_callTold_86 rfl rfl ?_
              refine X_iload_n (pc := 87) C 2 dX7_callTold_87 rfl rfl ?_
              refine X_iload_n (pc := 88) C 3 dX7_callTold_88 rfl rfl ?_
              refine X_iload (pc := 89) C dX7_callTold_89 rfl ?_
              refine X_iload (pc := 91) C dX7_callTold_91 rfl ?_
              refine K_X7_230 (pc := 93) C (by assumption) (c_X7_requests l P _ _ _ _ h1 hM (k40_of hM gz.2.2.1) _ _ _ _ gx.1 gx.2) ⟨Nat.le_of_ble_eq_true rfl, Nat.le_of_ble_eq_true rfl⟩ ⟨rfl, rfl⟩ ⟨Nat.zero_le _, Nat.zero_le _⟩ (Nat.le_of_ble_eq_true rfl) dX7_callTold_93 ?_
              refine U_X7_234 (pc := 96) C (by assumption) dX7_callTold_96 ?_
              rw [mW_u9]
              exact X_vret (pc := 99) C (Nat.zero_le _) (Nat.zero_le _) dX7_callTold_99 ⟨rfl, by first | (rw [mV, mCa, if_neg h18g, mCeR, if_pos g82]) | (rw [mV, mCa, if_neg h18g, mCeR, if_neg g82])⟩
          · have g69 : (if S 5 < 40 then (1 : Int32) else 0) = 1 := if_pos (Int32.not_le.mp h69)
            refine X_iconst (pc := 72) (v := 1) C dX7_callTold_72 (by decide) ?_
            refine X_goto (pc := 73) C 77 dX7_callTold_73 (by decide) ?_
            refine X_bipush (pc := 77) (v := 6) C dX7_callTold_77 (by decide) ?_
            refine K_X7_226 (pc := 79) C (by assumption) (c_X7_ends l P _ _ _ _ h1 _ _) ⟨Nat.le_of_ble_eq_true rfl, Nat.le_of_ble_eq_true rfl⟩ ⟨rfl, rfl⟩ ⟨Nat.zero_le _, Nat.zero_le _⟩ (Nat.le_of_ble_eq_true rfl) dX7_callTold_79 ?_
            refine XW.eq (σ' := mW τ S (mCe (τ.1 (.inr 16)) n S (mCa1 (τ.1 (.inr 16)) n S F L)) (mCaL (τ.1 (.inr 16)) n F L)) (st' := [.int (if (mCe (τ.1 (.inr 16)) n S (mCa1 (τ.1 (.inr 16)) n S F L)) 20 = 0 then 1 else 0)]) (by rw [mCe, g69]) rfl (by rw [mCe, g69]) ?_
            refine X_if_eq (pc := 82) C 99 dX7_callTold_82 (by decide) (fun h82 => ?_) (fun h82 => ?_)
            · have g82 : ¬ (mCe (τ.1 (.inr 16)) n S (mCa1 (τ.1 (.inr 16)) n S F L)) 20 = 0 := bz0 h82
              exact X_vret (pc := 99) C (Nat.zero_le _) (Nat.zero_le _) dX7_callTold_99 ⟨rfl, by first | (rw [mV, mCa, if_neg h18g, mCeR, if_pos g82]) | (rw [mV, mCa, if_neg h18g, mCeR, if_neg g82])⟩
            · have g82 : (mCe (τ.1 (.inr 16)) n S (mCa1 (τ.1 (.inr 16)) n S F L)) 20 = 0 := bz1 h82
              have gz := mCe_0 g82
              have gx := (show xok (mCaX (τ.1 (.inr 16)) n S F L) (mU S) ∧ ((-1 : Int32) = -1 ∧ xok (-1) (mU S) ∨ (-1 : Int32) = -1 ∧ xok (-1) (mT S)) from absurd gz.1 h18g)
              refine X_aload_n (pc := 85) C 0 dX7_callTold_85 rfl rfl ?_
              refine X_aload_n (pc := 86) C 0 dX7_callTold_86 rfl rfl ?_
              refine X_iload_n (pc := 87) C 2 dX7_callTold_87 rfl rfl ?_
              refine X_iload_n (pc := 88) C 3 dX7_callTold_88 rfl rfl ?_
              refine X_iload (pc := 89) C dX7_callTold_89 rfl ?_
              refine X_iload (pc := 91) C dX7_callTold_91 rfl ?_
              refine K_X7_230 (pc := 93) C (by assumption) (c_X7_requests l P _ _ _ _ h1 hM (k40_of hM gz.2.2.1) _ _ _ _ gx.1 gx.2) ⟨Nat.le_of_ble_eq_true rfl, Nat.le_of_ble_eq_true rfl⟩ ⟨rfl, rfl⟩ ⟨Nat.zero_le _, Nat.zero_le _⟩ (Nat.le_of_ble_eq_true rfl) dX7_callTold_93 ?_
              refine U_X7_234 (pc := 96) C (by assumption) dX7_callTold_96 ?_
              rw [mW_u9]
              exact X_vret (pc := 99) C (Nat.zero_le _) (Nat.zero_le _) dX7_callTold_99 ⟨rfl, by first | (rw [mV, mCa, if_neg h18g, mCeR, if_pos g82]) | (rw [mV, mCa, if_neg h18g, mCeR, if_neg g82])⟩
        · exact absurd h32 (by decide)

set_option maxRecDepth 100000 in
set_option maxHeartbeats 4000000 in
theorem c_X7_callTold1 (l : Launch) (P : XP) (τ : XS) (S F L : Nat → Int32) (h1 : xI1 P) (n : Nat) (hT : TK n F) (hM : MI S) : XF l yX7_callTold cX7_callTold 6 none rm_X7_callTold P [.ref (P.2.2.1 (.inr 9)), .int 1] (mW τ S F L) (none) (mV τ (mTr (τ.1 (.inr 16)) n S F L)) := by
  refine XM.of (by decide +kernel) (Nat.le_of_ble_eq_true rfl) (fun p e s m args below meth c A C => ?_)
  replace C : XC p s m args meth c P A 6 RX7 cX7_callTold none := C
  refine XW.eq (lv' := [(0, _), (1, _)]) rfl rfl rfl ?_
  refine X_aload_n (pc := 0) C 0 dX7_callTold_0 rfl rfl ?_
  refine K_X7_194 (pc := 1) C (by assumption) (c_X7_go l P _ _ _ _ h1 n hT) ⟨Nat.le_of_ble_eq_true rfl, Nat.le_of_ble_eq_true rfl⟩ ⟨rfl, rfl⟩ ⟨Nat.zero_le _, Nat.zero_le _⟩ (Nat.le_of_ble_eq_true rfl) dX7_callTold_1 ?_
  refine X_aload_n (pc := 4) C 0 dX7_callTold_4 rfl rfl ?_
  refine X_iconst (pc := 5) (v := (-1)) C dX7_callTold_5 (by decide) ?_
  refine K_X7_220 (pc := 6) C (by assumption) (c_X7_userHere l P _ _ _ _ h1 n (mGo_TK hT) hM (-1)) ⟨Nat.le_of_ble_eq_true rfl, Nat.le_of_ble_eq_true rfl⟩ ⟨rfl, rfl⟩ ⟨Nat.zero_le _, Nat.zero_le _⟩ (Nat.le_of_ble_eq_true rfl) dX7_callTold_6 ?_
  refine XW.eq (σ' := mW τ S (mCa1 (τ.1 (.inr 16)) n S F L) (mCaL (τ.1 (.inr 16)) n F L)) (st' := [.int (mCaX (τ.1 (.inr 16)) n S F L)]) rfl rfl rfl ?_
  refine X_istore_n (pc := 9) (lv1 := [(0, _), (1, _), (2, _)]) C 2 dX7_callTold_9 rfl (by decide) rfl ?_
  refine X_iload_n (pc := 10) C 1 dX7_callTold_10 rfl rfl ?_
  refine X_if_ne (pc := 11) C 21 dX7_callTold_11 (by decide) (fun h11 => ?_) (fun h11 => ?_)
  · skip
    refine X_iconst (pc := 21) (v := (-1)) C dX7_callTold_21 (by decide) ?_
    refine X_goto (pc := 22) C 30 dX7_callTold_22 (by decide) ?_
    refine X_istore_n (pc := 30) (lv1 := [(0, _), (1, _), (2, _), (3, _)]) C 3 dX7_callTold_30 rfl (by decide) rfl ?_
    refine X_iload_n (pc := 31) C 1 dX7_callTold_31 rfl rfl ?_
    refine X_if_eq (pc := 32) C 51 dX7_callTold_32 (by decide) (fun h32 => ?_) (fun h32 => ?_)
    · exact absurd h32 (by decide)
    · skip
      refine X_aload_n (pc := 35) C 0 dX7_callTold_35 rfl rfl ?_
      refine X_iconst (pc := 36) (v := 0) C dX7_callTold_36 (by decide) ?_
      refine X_aload_n (pc := 37) C 0 dX7_callTold_37 rfl rfl ?_
      refine G_X7_9 (pc := 38) C (by assumption) dX7_callTold_38 ?_
      refine X_iconst (pc := 41) (v := 3) C dX7_callTold_41 (by decide) ?_
      refine X_ialdN (j := 3) (pc := 42) C (by first | exact h1 _ (by decide) (by decide)) rfl (by omega) (by decide) dX7_callTold_42 ?_
      rw [mW_10]
      refine X_iconst (pc := 43) (v := 1) C dX7_callTold_43 (by decide) ?_
      refine X_isub (pc := 44) C dX7_callTold_44 ?_
      refine K_X7_203 (pc := 45) C (by assumption) (c_X7_number l P _ _ _ _ h1 n (mCa1_TK hT) 0 _) ⟨Nat.le_of_ble_eq_true rfl, Nat.le_of_ble_eq_true rfl⟩ ⟨rfl, rfl⟩ ⟨Nat.zero_le _, Nat.zero_le _⟩ (Nat.le_of_ble_eq_true rfl) dX7_callTold_45 ?_
      refine X_goto (pc := 48) C 52 dX7_callTold_48 (by decide) ?_
      refine X_istore (pc := 52) (lv1 := [(0, _), (1, _), (2, _), (3, _), (4, _)]) C dX7_callTold_52 (by decide) rfl ?_
      refine X_aload_n (pc := 54) C 0 dX7_callTold_54 rfl rfl ?_
      refine K_X7_223 (pc := 55) C (by assumption) (c_X7_urgentHere l P _ _ _ _ h1 n (mNbF_TK (mCa1_TK hT))) ⟨Nat.le_of_ble_eq_true rfl, Nat.le_of_ble_eq_true rfl⟩ ⟨rfl, rfl⟩ ⟨Nat.zero_le _, Nat.zero_le _⟩ (Nat.le_of_ble_eq_true rfl) dX7_callTold_55 ?_
      refine XW.eq (σ' := mW τ S (mUrF (τ.1 (.inr 16)) n (mNbF (τ.1 (.inr 16)) n (mCa1 (τ.1 (.inr 16)) n S F L) 0 (S 3 - 1))) (mCaL (τ.1 (.inr 16)) n F L)) (by rfl) rfl rfl ?_
      refine X_istore (pc := 58) (lv1 := [(0, _), (1, _), (2, _), (3, _), (4, _), (5, _)]) C dX7_callTold_58 (by decide) rfl ?_
      refine X_aload_n (pc := 60) C 0 dX7_callTold_60 rfl rfl ?_
      refine X_aload_n (pc := 61) C 0 dX7_callTold_61 rfl rfl ?_
      refine G_X7_9 (pc := 62) C (by assumption) dX7_callTold_62 ?_
      refine X_iconst (pc := 65) (v := 5) C dX7_callTold_65 (by decide) ?_
      refine X_ialdN (j := 5) (pc := 66) C (by first | exact h1 _ (by decide) (by decide)) rfl (by omega) (by decide) dX7_callTold_66 ?_
      rw [mW_10]
      refine X_bipush (pc := 67) (v := 40) C dX7_callTold_67 (by decide) ?_
      refine X_icmp_ge (pc := 69) C 76 dX7_callTold_69 (by decide) (fun h69 => ?_) (fun h69 => ?_)
      · have g69 : (if S 5 < 40 then (1 : Int32) else 0) = 0 := if_neg (Int32.not_lt.mpr h69)
        refine X_iconst (pc := 76) (v := 0) C dX7_callTold_76 (by decide) ?_
        refine X_bipush (pc := 77) (v := 6) C dX7_callTold_77 (by decide) ?_
        refine K_X7_226 (pc := 79) C (by assumption) (c_X7_ends l P _ _ _ _ h1 _ _) ⟨Nat.le_of_ble_eq_true rfl, Nat.le_of_ble_eq_true rfl⟩ ⟨rfl, rfl⟩ ⟨Nat.zero_le _, Nat.zero_le _⟩ (Nat.le_of_ble_eq_true rfl) dX7_callTold_79 ?_
        refine XW.eq (σ' := mW τ S (mCe (τ.1 (.inr 16)) n S (mNbF (τ.1 (.inr 16)) n (mCa1 (τ.1 (.inr 16)) n S F L) 0 (S 3 - 1))) (mCaL (τ.1 (.inr 16)) n F L)) (st' := [.int (if (mCe (τ.1 (.inr 16)) n S (mNbF (τ.1 (.inr 16)) n (mCa1 (τ.1 (.inr 16)) n S F L) 0 (S 3 - 1))) 20 = 0 then 1 else 0)]) (by rw [mCe, g69]) rfl (by rw [mCe, g69]) ?_
        refine X_if_eq (pc := 82) C 99 dX7_callTold_82 (by decide) (fun h82 => ?_) (fun h82 => ?_)
        · have g82 : ¬ (mCe (τ.1 (.inr 16)) n S (mNbF (τ.1 (.inr 16)) n (mCa1 (τ.1 (.inr 16)) n S F L) 0 (S 3 - 1))) 20 = 0 := bz0 h82
          exact X_vret (pc := 99) C (Nat.zero_le _) (Nat.zero_le _) dX7_callTold_99 ⟨rfl, by first | (rw [mV, mTr, mCeR, if_pos g82]) | (rw [mV, mTr, mCeR, if_neg g82])⟩
        · have g82 : (mCe (τ.1 (.inr 16)) n S (mNbF (τ.1 (.inr 16)) n (mCa1 (τ.1 (.inr 16)) n S F L) 0 (S 3 - 1))) 20 = 0 := bz1 h82
          have gz := mCe_0 g82
          have gx := (show xok (mCaX (τ.1 (.inr 16)) n S F L) (mU S) ∧ ((mNbV (mCa1 (τ.1 (.inr 16)) n S F L) 0 (S 3 - 1)) = -1 ∧ xok (-1) (mU S) ∨ (-1 : Int32) = -1 ∧ xok (mNbV (mCa1 (τ.1 (.inr 16)) n S F L) 0 (S 3 - 1)) (mT S)) from ⟨mUhV_ok hM (mNbF_0 gz.1).1, Or.inr ⟨rfl, mTrV_ok hM gz.1⟩⟩)
          refine X_aload_n (pc := 85) C 0 dX7_callTold_85 rfl rfl ?_
          refine X_aload_n (pc := 86) C 0 dX7_callTold_86 rfl rfl ?_
          refine X_iload_n (pc := 87) C 2 dX7_callTold_87 rfl rfl ?_
          refine X_iload_n (pc := 88) C 3 dX7_callTold_88 rfl rfl ?_
          refine X_iload (pc := 89) C dX7_callTold_89 rfl ?_
          refine X_iload (pc := 91) C dX7_callTold_91 rfl ?_
          refine K_X7_230 (pc := 93) C (by assumption) (c_X7_requests l P _ _ _ _ h1 hM (k40_of hM gz.2.2.1) _ _ _ _ gx.1 gx.2) ⟨Nat.le_of_ble_eq_true rfl, Nat.le_of_ble_eq_true rfl⟩ ⟨rfl, rfl⟩ ⟨Nat.zero_le _, Nat.zero_le _⟩ (Nat.le_of_ble_eq_true rfl) dX7_callTold_93 ?_
          refine U_X7_234 (pc := 96) C (by assumption) dX7_callTold_96 ?_
          rw [mW_u9]
          exact X_vret (pc := 99) C (Nat.zero_le _) (Nat.zero_le _) dX7_callTold_99 ⟨rfl, by first | (rw [mV, mTr, mCeR, if_pos g82]) | (rw [mV, mTr, mCeR, if_neg g82])⟩
      · have g69 : (if S 5 < 40 then (1 : Int32) else 0) = 1 := if_pos (Int32.not_le.mp h69)
        refine X_iconst (pc := 72) (v := 1) C dX7_callTold_72 (by decide) ?_
        refine X_goto (pc := 73) C 77 dX7_callTold_73 (by decide) ?_
        refine X_bipush (pc := 77) (v := 6) C dX7_callTold_77 (by decide) ?_
        refine K_X7_226 (pc := 79) C (by assumption) (c_X7_ends l P _ _ _ _ h1 _ _) ⟨Nat.le_of_ble_eq_true rfl, Nat.le_of_ble_eq_true rfl⟩ ⟨rfl, rfl⟩ ⟨Nat.zero_le _, Nat.zero_le _⟩ (Nat.le_of_ble_eq_true rfl) dX7_callTold_79 ?_
        refine XW.eq (σ' := mW τ S (mCe (τ.1 (.inr 16)) n S (mNbF (τ.1 (.inr 16)) n (mCa1 (τ.1 (.inr 16)) n S F L) 0 (S 3 - 1))) (mCaL (τ.1 (.inr 16)) n F L)) (st' := [.int (if (mCe (τ.1 (.inr 16)) n S (mNbF (τ.1 (.inr 16)) n (mCa1 (τ.1 (.inr 16)) n S F L) 0 (S 3 - 1))) 20 = 0 then 1 else 0)]) (by rw [mCe, g69]) rfl (by rw [mCe, g69]) ?_
        refine X_if_eq (pc := 82) C 99 dX7_callTold_82 (by decide) (fun h82 => ?_) (fun h82 => ?_)
        · have g82 : ¬ (mCe (τ.1 (.inr 16)) n S (mNbF (τ.1 (.inr 16)) n (mCa1 (τ.1 (.inr 16)) n S F L) 0 (S 3 - 1))) 20 = 0 := bz0 h82
          exact X_vret (pc := 99) C (Nat.zero_le _) (Nat.zero_le _) dX7_callTold_99 ⟨rfl, by first | (rw [mV, mTr, mCeR, if_pos g82]) | (rw [mV, mTr, mCeR, if_neg g82])⟩
        · have g82 : (mCe (τ.1 (.inr 16)) n S (mNbF (τ.1 (.inr 16)) n (mCa1 (τ.1 (.inr 16)) n S F L) 0 (S 3 - 1))) 20 = 0 := bz1 h82
          have gz := mCe_0 g82
          have gx := (show xok (mCaX (τ.1 (.inr 16)) n S F L) (mU S) ∧ ((mNbV (mCa1 (τ.1 (.inr 16)) n S F L) 0 (S 3 - 1)) = -1 ∧ xok (-1) (mU S) ∨ (-1 : Int32) = -1 ∧ xok (mNbV (mCa1 (τ.1 (.inr 16)) n S F L) 0 (S 3 - 1)) (mT S)) from ⟨mUhV_ok hM (mNbF_0 gz.1).1, Or.inr ⟨rfl, mTrV_ok hM gz.1⟩⟩)
          refine X_aload_n (pc := 85) C 0 dX7_callTold_85 rfl rfl ?_
          refine X_aload_n (pc := 86) C 0 dX7_callTold_86 rfl rfl ?_
          refine X_iload_n (pc := 87) C 2 dX7_callTold_87 rfl rfl ?_
          refine X_iload_n (pc := 88) C 3 dX7_callTold_88 rfl rfl ?_
          refine X_iload (pc := 89) C dX7_callTold_89 rfl ?_
          refine X_iload (pc := 91) C dX7_callTold_91 rfl ?_
          refine K_X7_230 (pc := 93) C (by assumption) (c_X7_requests l P _ _ _ _ h1 hM (k40_of hM gz.2.2.1) _ _ _ _ gx.1 gx.2) ⟨Nat.le_of_ble_eq_true rfl, Nat.le_of_ble_eq_true rfl⟩ ⟨rfl, rfl⟩ ⟨Nat.zero_le _, Nat.zero_le _⟩ (Nat.le_of_ble_eq_true rfl) dX7_callTold_93 ?_
          refine U_X7_234 (pc := 96) C (by assumption) dX7_callTold_96 ?_
          rw [mW_u9]
          exact X_vret (pc := 99) C (Nat.zero_le _) (Nat.zero_le _) dX7_callTold_99 ⟨rfl, by first | (rw [mV, mTr, mCeR, if_pos g82]) | (rw [mV, mTr, mCeR, if_neg g82])⟩
  · exact absurd h11 (by decide)

end XP39

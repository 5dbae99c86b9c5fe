/-! THE TWO READERS: tokens -/
theorem cSkip_cg {q r : Nat → Bool} : ∀ {k i : Nat}, (∀ j, i ≤ j → j < i + k → q j = r j) → cSkip q k i = cSkip r k i
  | 0, _, _ => rfl
  | k + 1, i, h => by
    unfold cSkip
    rw [h i (Nat.le_refl _) (by omega), cSkip_cg (k := k) (i := i + 1) (fun j a b => h j (by omega) (by omega))]
theorem cSkip_all {q : Nat → Bool} : ∀ {k i j : Nat}, i ≤ j → j < cSkip q k i → q j = true
  | 0, i, j, a, b => by rw [cSkip] at b; omega
  | k + 1, i, j, a, b => by
    unfold cSkip at b
    by_cases g : q i = true
    · rw [if_pos g] at b
      by_cases e : i = j
      · exact e ▸ g
      · exact cSkip_all (k := k) (i := i + 1) (by omega) b
    · rw [if_neg g] at b; omega
theorem tkS_cg {B D : Nat → Int32} {n p : Nat} (h : ∀ i, i < n → B i = D i) (hp : p ≤ n) : tkS B n p = tkS D n p := cSkip_cg (fun j a b => by unfold qS; rw [h j (by omega)])
theorem tkK_cg {B D : Nat → Int32} {n p : Nat} (h : ∀ i, i < n → B i = D i) (hp : p ≤ n) : tkK B n p = tkK D n p := by
  unfold tkK
  rw [tkS_cg h hp]
  by_cases g : tkS D n p < n
  · rw [if_pos g, if_pos g, h _ g]
  · rw [if_neg g, if_neg g]
theorem tkE_cg {B D : Nat → Int32} {n p : Nat} (h : ∀ i, i < n → B i = D i) (hp : p ≤ n) : tkE B n p = tkE D n p := by
  have e1 : cSkip (qL B) (n - tkS D n p) (tkS D n p) = cSkip (qL D) (n - tkS D n p) (tkS D n p) := cSkip_cg (fun j a b => by unfold qL; rw [h j (by omega)])
  have e2 : cSkip (qD B) (n - tkS D n p) (tkS D n p) = cSkip (qD D) (n - tkS D n p) (tkS D n p) := cSkip_cg (fun j a b => by unfold qD; rw [h j (by omega)])
  unfold tkE
  rw [tkS_cg h hp, e1, e2]
  by_cases g : tkS D n p < n
  · rw [if_pos g, if_pos g, h _ g]
  · rw [if_neg g, if_neg g]
theorem cNum_cg {B D : Nat → Int32} : ∀ {k i : Nat} {a : Int32}, (∀ j, i ≤ j → j < i + k → B j = D j) → cNum B k i a = cNum D k i a
  | 0, _, _, _ => rfl
  | k + 1, i, a, h => by
    unfold cNum
    rw [h i (Nat.le_refl _) (by omega)]
    by_cases g : isD (D i)
    · rw [if_pos g, if_pos g]
      exact cNum_cg (k := k) (i := i + 1) (fun j a b => h j (by omega) (by omega))
    · rw [if_neg g, if_neg g]
theorem isD_n {v : Int32} (h : isD v) : ∃ d : Nat, 48 ≤ d ∧ d ≤ 57 ∧ v = nI d := by
  have h1 := Int32.le_iff_toInt_le.mp h.1
  have h2 := Int32.le_iff_toInt_le.mp h.2
  have e1 : (48 : Int32).toInt = 48 := by decide
  have e2 : (57 : Int32).toInt = 57 := by decide
  rw [e1] at h1
  rw [e2] at h2
  obtain ⟨d, hd, e⟩ := xok_of (x := v) (n := 58) ⟨by omega, by omega⟩ (by decide)
  rw [e, nI_toInt (by omega)] at h1
  exact ⟨d, by omega, by omega, e⟩
/-- the number as the class has it, as the reference has it -/
def NV (x y : Nat) : Prop := (x = y ∧ x < 1000000) ∨ (1000000 ≤ x ∧ x ≤ 10000000 ∧ 1000000 ≤ y ∧ y ≤ 10000000)
theorem num_rel {B : Nat → Int32} : ∀ {k i x y : Nat}, NV x y → ∃ x1 y1, cNum B k i (nI x) = nI x1 ∧ mNum B k i (nI y) = nI y1 ∧ NV x1 y1
  | 0, _, x, y, h => ⟨x, y, rfl, rfl, h⟩
  | k + 1, i, x, y, h => by
    unfold cNum mNum
    by_cases g : isD (B i)
    · rw [if_pos g, if_pos g]
      obtain ⟨d, h1, h2, e⟩ := isD_n g
      have xb : x ≤ 10000000 := by rcases h with h | h <;> omega
      have yb : y ≤ 10000000 := by rcases h with h | h <;> omega
      have e1 : (if nI x < 1000000 then 10 * nI x + B i - 48 else nI x) = nI (if x < 1000000 then 10 * x + d - 48 else x) := by
        rw [e, show (10 : Int32) * nI x = nI (10 * x) from nI_m 10 x, nI_add, show (48 : Int32) = nI 48 from rfl, nI_subN (by omega), show (1000000 : Int32) = nI 1000000 from rfl]
        by_cases q : x < 1000000
        · rw [if_pos q, if_pos ((nI_ltI (by omega) (by omega)).mpr q)]
        · rw [if_neg q, if_neg (fun z => q ((nI_ltI (by omega) (by omega)).mp z))]
      have e2 : xmin 10000000 (nI y * 10 + B i - 48) = nI (if y * 10 + d - 48 < 10000000 then y * 10 + d - 48 else 10000000) := by
        rw [e, show nI y * (10 : Int32) = nI (y * 10) from nI_m y 10, nI_add, show (48 : Int32) = nI 48 from rfl, nI_subN (by omega), show (10000000 : Int32) = nI 10000000 from rfl]
        unfold xmin
        by_cases q : y * 10 + d - 48 < 10000000
        · rw [if_pos q, if_pos ((nI_ltI (by omega) (by omega)).mpr q)]
        · rw [if_neg q, if_neg (fun z => q ((nI_ltI (by omega) (by omega)).mp z))]
      rw [e1, e2]
      refine num_rel (k := k) (i := i + 1) ?_
      rcases h with ⟨h3, h4⟩ | ⟨h3, h4, h5, h6⟩
      · subst h3
        rw [if_pos h4, if_pos (by omega)]
        by_cases q : 10 * x + d - 48 < 1000000
        · exact Or.inl ⟨by omega, q⟩
        · exact Or.inr ⟨by omega, by omega, by omega, by omega⟩
      · rw [if_neg (by omega)]
        refine Or.inr ⟨h3, h4, ?_, ?_⟩
        · split <;> omega
        · split <;> omega
    · rw [if_neg g, if_neg g]
      exact ⟨x, y, rfl, rfl, h⟩
def VR (v w : Int32) : Prop := ∃ x y : Nat, v = nI x ∧ w = nI y ∧ NV x y
theorem VR.le {v w hi : Int32} (h : VR v w) (hh : hi < 1000000) : v = w ∨ (¬ v ≤ hi ∧ ¬ w ≤ hi) := by
  obtain ⟨x, y, rfl, rfl, h | ⟨h1, h2, h3, h4⟩⟩ := h
  · exact Or.inl (by rw [h.1])
  · have big : ∀ z : Nat, 1000000 ≤ z → z ≤ 10000000 → ¬ nI z ≤ hi := fun z a b q => by
      have h5 := Int32.lt_of_le_of_lt q hh
      rw [show (1000000 : Int32) = nI 1000000 from rfl] at h5
      have := (nI_ltI (by omega) (by omega)).mp h5
      omega
    exact Or.inr ⟨big x h1 h2, big y h3 h4⟩
/-! the two readers look at the same token -/
theorem mWr_dead {F : Nat → Int32} {b c : Int32} (h : ¬ F 20 = 0) : mWr F b c = F := if_neg (fun q => h q.1)
theorem mWr_z {F : Nat → Int32} {c : Int32} : mWr F 0 c = F := if_neg (fun q => q.2 rfl)
theorem mWr_1 {F : Nat → Int32} {c : Int32} (h : F 20 = 0) : mWr F 1 c = upd (upd (upd F 20 1) 12 c) 13 (F 17) := if_pos ⟨h, by decide⟩
theorem mGo_dead {B F : Nat → Int32} {n : Nat} (h : ¬ F 20 = 0) : mGo B n F = F := if_neg h
theorem mGo_live {B F : Nat → Int32} {n : Nat} (h : F 20 = 0) : mGo B n F = mNx1 B n F := if_pos h
def AB (σ : XS) (n : Nat) (B : Nat → Int32) : Prop := ∀ i, i < n → σ.1 (.inr 3) i = B i
def RF (σ : XS) (n p : Nat) (F : Nat → Int32) : Prop := F 20 = 0 ∧ F 10 = nI n ∧ F 16 = kT σ n p ∧ F 17 = nI (sT σ n p) ∧ F 18 = nI (eT σ n p) ∧ (kT σ n p = 2 → VR (vT σ n p) (F 19)) ∧ F 12 = σ.1 (.inr 1) 2 ∧ F 13 = σ.1 (.inr 1) 3
def RT0 (σ : XS) (n p : Nat) (B F : Nat → Int32) : Prop := At σ n p ∧ AB σ n B ∧ RF σ n p F
def RT (σ : XS) (n p : Nat) (B S F : Nat → Int32) : Prop := RT0 σ n p B F ∧ RB σ 1 S
/-- both have found the same error -/
def ER (σ : XS) (F : Nat → Int32) : Prop := F 20 = 1 ∧ F 12 = σ.1 (.inr 1) 2 ∧ F 13 = σ.1 (.inr 1) 3
theorem ER.d {σ : XS} {F : Nat → Int32} (h : ER σ F) : ¬ F 20 = 0 := fun q => by rw [h.1] at q; exact absurd q (by decide)
section RTS
variable {σ : XS} {n p : Nat} {B S F L : Nat → Int32}
theorem RT0.at (h : RT0 σ n p B F) : At σ n p := h.1
theorem RT0.ab (h : RT0 σ n p B F) : AB σ n B := h.2.1
theorem RT0.f (h : RT0 σ n p B F) : RF σ n p F := h.2.2
theorem RT0.z (h : RT0 σ n p B F) : F 20 = 0 := h.f.1
theorem RT0.n7 (h : RT0 σ n p B F) : n ≤ 700 := h.at.1
theorem RT0.pn (h : RT0 σ n p B F) : p ≤ n := h.at.2.1
theorem RT0.k (h : RT0 σ n p B F) : F 16 = kT σ n p := h.f.2.2.1
theorem RT0.kk (h : RT0 σ n p B F) : kT σ n p = tkK B n p := tkK_cg h.ab h.pn
theorem RT0.sB (h : RT0 σ n p B F) : sT σ n p = tkS B n p := tkS_cg h.ab h.pn
theorem RT0.eB (h : RT0 σ n p B F) : eT σ n p = tkE B n p := tkE_cg h.ab h.pn
theorem RT0.se (h : RT0 σ n p B F) : sT σ n p ≤ eT σ n p ∧ eT σ n p ≤ n := tkE_in _ h.pn
theorem RT0.sF (h : RT0 σ n p B F) : sF F = sT σ n p := by
  have a := h.se
  have b := h.n7
  rw [_root_.Jvm.Pilot.CCordBoardLaw_law_r8608_4d6273.sF, h.f.2.2.2.1, cN, nI_clamp (n31 (by omega))]
theorem RT0.eF (h : RT0 σ n p B F) : eF F = eT σ n p := by
  have a := h.se
  have b := h.n7
  rw [_root_.Jvm.Pilot.CCordBoardLaw_law_r8608_4d6273.eF, h.f.2.2.2.2.1, cN, nI_clamp (n31 (by omega))]
theorem RT0.tk (h : RT0 σ n p B F) : TK n F := by
  have a := h.se
  exact TK.mk h.n7 h.f.2.1 h.f.2.2.2.2.1 h.f.2.2.2.1 a.1 a.2
/-- the fields that don't tell of the token may change -/
theorem RT0.o (h : RT0 σ n p B F) {G : Nat → Int32} (ho : ∀ k, k = 10 ∨ k = 12 ∨ k = 13 ∨ k = 16 ∨ k = 17 ∨ k = 18 ∨ k = 19 ∨ k = 20 → G k = F k) : RT0 σ n p B G := by
  refine ⟨h.at, h.ab, ?_⟩
  unfold RF
  rw [ho 10 (by decide), ho 12 (by decide), ho 13 (by decide), ho 16 (by decide), ho 17 (by decide), ho 18 (by decide), ho 19 (by decide), ho 20 (by decide)]
  exact h.f
theorem RT0.u15 (h : RT0 σ n p B F) {v : Int32} : RT0 σ n p B (upd F 15 v) := h.o (fun k hk => upd_ne (by omega))
theorem RT0.u21 (h : RT0 σ n p B F) {v : Int32} : RT0 σ n p B (upd F 21 v) := h.o (fun k hk => upd_ne (by omega))
/-- on to the next token -/
theorem RT0.adv (h : RT0 σ n p B F) : RT0 (fA σ n p) n (eT σ n p) B (mNx1 B n F) := by
  have a := h.se
  have e3 : (fA σ n p).1 (.inr 3) = σ.1 (.inr 3) := fA_o _ _ _ (by simp)
  have e1 : (fA σ n p).1 (.inr 1) = σ.1 (.inr 1) := fA_o _ _ _ (by simp)
  have ab : AB (fA σ n p) n B := fun i hi => by rw [e3]; exact h.ab i hi
  have cS := tkS_cg (p := eT σ n p) h.ab a.2
  have cK := tkK_cg (p := eT σ n p) h.ab a.2
  have cE := tkE_cg (p := eT σ n p) h.ab a.2
  refine ⟨h.at.a, ab, ?_⟩
  unfold RF kT sT eT vT
  rw [e3, e1, cS, cK, cE]
  have o : ∀ k, k ≠ 16 → k ≠ 17 → k ≠ 18 → k ≠ 19 → mNx1 B n F k = F k := fun k a b c d => mNx1_o a b c d
  refine ⟨(o 20 (by decide) (by decide) (by decide) (by decide)).trans h.z, (o 10 (by decide) (by decide) (by decide) (by decide)).trans h.f.2.1, ?_, ?_, ?_, fun hk => ?_, (o 12 (by decide) (by decide) (by decide) (by decide)).trans h.f.2.2.2.2.2.2.1, (o 13 (by decide) (by decide) (by decide) (by decide)).trans h.f.2.2.2.2.2.2.2⟩
  · rw [mNx1, mNextF, upd_ne (by decide), upd_at, h.eF]
  · rw [mNx1, mNextF, upd_ne (by decide), upd_ne (by decide), upd_at, h.eF]
  · rw [mNx1, mNextF, upd_ne (by decide), upd_ne (by decide), upd_ne (by decide), upd_at, h.eF]
  · rw [mNx1, mNextF, upd_at, h.eF, if_pos hk]
    have hs := tkS_in B a.2
    rw [cNum_cg (D := B) (fun j a b => h.ab j (by omega))]
    exact num_rel (x := 0) (y := 0) (Or.inl ⟨rfl, by decide⟩)
theorem RT0.kz (h : RT0 σ n p B F) : mGo B n F = mNx1 B n F := mGo_live h.z
/-- an error at the present token -/
theorem RT0.err (h : RT0 σ n p B F) (k : Int32) : ER (fF σ n p k) (mWr F 1 k) := by
  rw [mWr_1 h.z]
  refine ⟨?_, ?_, ?_⟩
  · rw [upd_ne (by decide), upd_ne (by decide), upd_at]
  · rw [upd_ne (by decide), upd_at]
    simp [fF, xu_ap]
  · rw [upd_at, h.f.2.2.2.1]
    simp [fF, xu_ap]
/-- whether a word stands here -/
theorem xmat_cg {f g : Nat → Int32} {q : Nat} : ∀ {k i : Nat}, (∀ j, i ≤ j → j < i + k → f j = g j) → xmat f q k i = xmat g q k i
  | 0, _, _ => rfl
  | k + 1, i, h => by
    unfold xmat
    rw [h i (Nat.le_refl _) (by omega), xmat_cg (k := k) (i := i + 1) (fun j a b => h j (by omega) (by omega))]
theorem xln_0 : ∀ q, q < 9 → ¬ 0 = xln q := by decide +kernel
theorem RT0.is (h : RT0 σ n p B F) {q : Nat} (hq : q < 9) : rIsW σ n p q = mIs B F q := by
  have a := h.se
  unfold rIsW xisW mIs
  rw [h.eF, h.sF, h.k]
  by_cases g : kT σ n p = 1
  · have ew : wL (kT σ n p) (sT σ n p) (eT σ n p) = eT σ n p - sT σ n p := by unfold wL; rw [if_pos g]
    rw [ew]
    by_cases g2 : eT σ n p - sT σ n p = xln q
    · rw [if_pos g2, if_pos ⟨h.z, g, g2⟩, g2]
      refine xmat_cg (fun j _ b => ?_)
      unfold wC
      rw [ew, if_pos (by omega)]
      exact h.ab _ (by omega)
    · rw [if_neg g2, if_neg (fun z => g2 z.2.2)]
  · have ew : wL (kT σ n p) (sT σ n p) (eT σ n p) = 0 := by unfold wL; rw [if_neg g]
    rw [ew, if_neg (xln_0 q hq), if_neg (fun z => g z.2.1)]
/-- a number between lo and hi -/
theorem RT0.num (h : RT0 σ n p B F) {lo hi : Int32} (hh : hi < 1000000) : (∃ v, rNum σ n p lo hi = (v, fA σ n p) ∧ lo ≤ v ∧ v ≤ hi ∧ mNbV F lo hi = v ∧ mNbF B n F lo hi = mNx1 B n F) ∨ ((rNum σ n p lo hi).1 = -1 ∧ ER (rNum σ n p lo hi).2 (mNbF B n F lo hi)) := by
  unfold rNum mNbF mNbV mNb0
  rw [h.k]
  by_cases g : kT σ n p = 2
  · rw [if_pos g, if_pos g, mWr_z, h.z]
    have hv := h.f.2.2.2.2.2.1 g
    rcases hv.le hh with e | ⟨e1, e2⟩
    · rw [← e]
      by_cases g1 : vT σ n p < lo
      · rw [if_pos g1, if_pos (c := (0 : Int32) = 0 ∧ ¬ (lo ≤ vT σ n p ∧ vT σ n p ≤ hi)) ⟨rfl, fun q => Int32.not_le.mpr g1 q.1⟩]
        have := h.err 2
        rw [mGo_dead this.d]
        exact Or.inr ⟨rfl, this⟩
      · rw [if_neg g1]
        by_cases g2 : vT σ n p ≤ hi
        · rw [if_pos g2, if_neg (c := (0 : Int32) = 0 ∧ ¬ (lo ≤ vT σ n p ∧ vT σ n p ≤ hi)) (fun q => q.2 ⟨Int32.not_lt.mp g1, g2⟩), mWr_z, if_pos h.z]
          exact Or.inl ⟨_, rfl, Int32.not_lt.mp g1, g2, rfl, h.kz⟩
        · rw [if_neg g2, if_pos (c := (0 : Int32) = 0 ∧ ¬ (lo ≤ vT σ n p ∧ vT σ n p ≤ hi)) ⟨rfl, fun q => g2 q.2⟩]
          have := h.err 2
          rw [mGo_dead this.d]
          exact Or.inr ⟨rfl, this⟩
    · rw [if_pos (c := (0 : Int32) = 0 ∧ _) ⟨rfl, fun q => e2 q.2⟩]
      have := h.err 2
      rw [mGo_dead this.d]
      by_cases g1 : vT σ n p < lo
      · rw [if_pos g1]; exact Or.inr ⟨rfl, this⟩
      · rw [if_neg g1, if_neg e1]; exact Or.inr ⟨rfl, this⟩
  · have := h.err 1
    rw [if_neg g, if_neg g, mWr_dead this.d, mGo_dead this.d]
    exact Or.inr ⟨rfl, this⟩
theorem RT0.wd (h : RT0 σ n p B F) (g : kT σ n p = 1) : (∀ i, i < eT σ n p - sT σ n p → isL (B (sT σ n p + i))) ∧ sT σ n p < eT σ n p := by
  rw [h.kk] at g
  rw [h.sB, h.eB]
  unfold tkK at g
  by_cases g1 : tkS B n p < n
  · rw [if_pos g1] at g
    by_cases g2 : isL (B (tkS B n p))
    · have e : tkE B n p = cSkip (qL B) (n - tkS B n p) (tkS B n p) := by unfold tkE; rw [if_pos g1, if_pos g2]
      have e1 : tkS B n p < tkE B n p := by
        rw [e, show n - tkS B n p = (n - tkS B n p - 1) + 1 by omega, cSkip, if_pos (by simp only [qL, decide_eq_true_eq]; exact g2)]
        have := (cSkip_in (qL B) (n - tkS B n p - 1) (tkS B n p + 1)).1
        omega
      refine ⟨fun i hi => ?_, e1⟩
      have := cSkip_all (q := qL B) (k := n - tkS B n p) (i := tkS B n p) (j := tkS B n p + i) (by omega) (by rw [← e]; omega)
      simpa only [qL, decide_eq_true_eq] using this
    · rw [if_neg g2] at g
      by_cases g3 : isD (B (tkS B n p))
      · rw [if_pos g3] at g; exact absurd g (by decide)
      · rw [if_neg g3] at g
        split at g <;> exact absurd g (by decide)
  · rw [if_neg g1] at g; exact absurd g (by decide)
/-- the name that stands here -/
theorem RT0.nm (h : RT0 σ n p B F) (g : rIsN σ n p) : rNm σ n p = xnm (fun i => if i < eT σ n p - sT σ n p then B (sT σ n p + i) else 0) 6 := by
  have a := h.se
  unfold rNm
  refine xnm_cg (fun i hi => ?_)
  unfold wC wL
  rw [if_pos g.1]
  by_cases q : i < eT σ n p - sT σ n p
  · rw [if_pos q, if_pos q]; exact h.ab _ (by omega)
  · rw [if_neg q, if_neg q]
theorem RT0.nh (h : RT0 σ n p B F) (g : rIsN σ n p) : mNhF F = upd F 15 (nI (eT σ n p - sT σ n p)) ∧ mNhL B F L = mCpL B (sT σ n p) L (eT σ n p - sT σ n p) := by
  have e : mNhW F = F := by
    unfold mNhW
    rw [h.k, h.eF, h.sF, if_pos g, mWr_z]
  unfold mNhF mNhL
  rw [e, if_pos h.z, if_pos h.z, h.eF, h.sF]
  exact ⟨rfl, rfl⟩
theorem RT0.nhE (h : RT0 σ n p B F) (g : ¬ rIsN σ n p) : mNhF F = mWr F 1 1 := by
  have e : mNhW F = mWr F 1 1 := by
    unfold mNhW
    rw [h.k, h.eF, h.sF, if_neg g]
  unfold mNhF
  rw [e, if_neg (h.err 1).d]
/-- a semicolon -/
theorem RT0.semi (h : RT0 σ n p B F) (g : kT σ n p = 3) : (if F 16 = 3 then (0 : Int32) else 1) = 0 := by rw [h.k, if_pos g]
theorem RT0.semiE (h : RT0 σ n p B F) (g : ¬ kT σ n p = 3) : (if F 16 = 3 then (0 : Int32) else 1) = 1 := by rw [h.k, if_neg g]
theorem RT0.enE (h : RT0 σ n p B F) (g : ¬ kT σ n p = 3) (b q : Int32) : mEn F b q = mWr F 1 1 := by
  unfold mEn
  rw [h.semiE g, mWr_dead (h.err 1).d]
theorem RT0.en0 (h : RT0 σ n p B F) (g : kT σ n p = 3) (q : Int32) : mEn F 0 q = mWr F 1 q := by
  unfold mEn
  rw [h.semi g, mWr_z, if_pos ⟨h.z, rfl⟩]
theorem RT0.en1 (h : RT0 σ n p B F) (g : kT σ n p = 3) {b : Int32} (hb : ¬ b = 0) (q : Int32) : mEn F b q = F := by
  unfold mEn
  rw [h.semi g, mWr_z, if_neg (fun z => hb z.2), mWr_z]
theorem RT.zero (h : RT σ n p B S F) : RT0 σ n p B F := h.1
theorem RT.b (h : RT σ n p B S F) : RB σ 1 S := h.2
theorem RT.o (h : RT σ n p B S F) {G : Nat → Int32} (ho : ∀ k, k = 10 ∨ k = 12 ∨ k = 13 ∨ k = 16 ∨ k = 17 ∨ k = 18 ∨ k = 19 ∨ k = 20 → G k = F k) : RT σ n p B S G := ⟨h.1.o ho, h.b⟩
theorem RT.u15 (h : RT σ n p B S F) {v : Int32} : RT σ n p B S (upd F 15 v) := h.o (fun k hk => upd_ne (by omega))
theorem RT.u21 (h : RT σ n p B S F) {v : Int32} : RT σ n p B S (upd F 21 v) := h.o (fun k hk => upd_ne (by omega))
theorem RT.adv (h : RT σ n p B S F) : RT (fA σ n p) n (eT σ n p) B S (mNx1 B n F) := ⟨h.1.adv, h.b.fr (fun k => fA_o _ _ _ (by simp)) (by rw [fA_l])⟩
theorem RT.at (h : RT σ n p B S F) : At σ n p := h.1.at
theorem RT.ab (h : RT σ n p B S F) : AB σ n B := h.1.ab
theorem RT.f (h : RT σ n p B S F) : RF σ n p F := h.1.f
theorem RT.z (h : RT σ n p B S F) : F 20 = 0 := h.1.z
theorem RT.n7 (h : RT σ n p B S F) : n ≤ 700 := h.1.n7
theorem RT.pn (h : RT σ n p B S F) : p ≤ n := h.1.pn
theorem RT.k (h : RT σ n p B S F) : F 16 = kT σ n p := h.1.k
theorem RT.kk (h : RT σ n p B S F) : kT σ n p = tkK B n p := h.1.kk
theorem RT.sB (h : RT σ n p B S F) : sT σ n p = tkS B n p := h.1.sB
theorem RT.eB (h : RT σ n p B S F) : eT σ n p = tkE B n p := h.1.eB
theorem RT.se (h : RT σ n p B S F) : sT σ n p ≤ eT σ n p ∧ eT σ n p ≤ n := h.1.se
theorem RT.tk (h : RT σ n p B S F) : TK n F := h.1.tk
theorem RT.kz (h : RT σ n p B S F) : mGo B n F = mNx1 B n F := h.1.kz
theorem RT.err (h : RT σ n p B S F) (k : Int32) : ER (fF σ n p k) (mWr F 1 k) := h.1.err k
theorem RT.is (h : RT σ n p B S F) {q : Nat} (hq : q < 9) : rIsW σ n p q = mIs B F q := h.1.is hq
theorem RT.num (h : RT σ n p B S F) {lo hi : Int32} (hh : hi < 1000000) : (∃ v, rNum σ n p lo hi = (v, fA σ n p) ∧ lo ≤ v ∧ v ≤ hi ∧ mNbV F lo hi = v ∧ mNbF B n F lo hi = mNx1 B n F) ∨ ((rNum σ n p lo hi).1 = -1 ∧ ER (rNum σ n p lo hi).2 (mNbF B n F lo hi)) := h.1.num hh
theorem RT.wd (h : RT σ n p B S F) (g : kT σ n p = 1) : (∀ i, i < eT σ n p - sT σ n p → isL (B (sT σ n p + i))) ∧ sT σ n p < eT σ n p := h.1.wd g
theorem RT.nm (h : RT σ n p B S F) (g : rIsN σ n p) : rNm σ n p = xnm (fun i => if i < eT σ n p - sT σ n p then B (sT σ n p + i) else 0) 6 := h.1.nm g
theorem RT.nh (h : RT σ n p B S F) (g : rIsN σ n p) : mNhF F = upd F 15 (nI (eT σ n p - sT σ n p)) ∧ mNhL B F L = mCpL B (sT σ n p) L (eT σ n p - sT σ n p) := h.1.nh g
theorem RT.nhE (h : RT σ n p B S F) (g : ¬ rIsN σ n p) : mNhF F = mWr F 1 1 := h.1.nhE g
theorem RT.enE (h : RT σ n p B S F) (g : ¬ kT σ n p = 3) (b q : Int32) : mEn F b q = mWr F 1 1 := h.1.enE g b q
theorem RT.en0 (h : RT σ n p B S F) (g : kT σ n p = 3) (q : Int32) : mEn F 0 q = mWr F 1 q := h.1.en0 g q
theorem RT.en1 (h : RT σ n p B S F) (g : kT σ n p = 3) {b : Int32} (hb : ¬ b = 0) (q : Int32) : mEn F b q = F := h.1.en1 g hb q
theorem RT.semi (h : RT σ n p B S F) (g : kT σ n p = 3) : (if F 16 = 3 then (0 : Int32) else 1) = 0 := h.1.semi g
theorem RT.semiE (h : RT σ n p B S F) (g : ¬ kT σ n p = 3) : (if F 16 = 3 then (0 : Int32) else 1) = 1 := h.1.semiE g
/-- the class's board may change, the row with it -/
theorem RT.bd (h : RT σ n p B S F) {τ : XS} {S1 : Nat → Int32} (hf : Fr 1 σ τ) (h1 : τ.1 (.inr 1) = σ.1 (.inr 1)) (h2 : τ.1 (.inr 2) = σ.1 (.inr 2)) (hb : RB τ 1 S1) : RT τ n p B S1 F := by
  have h3 : τ.1 (.inr 3) = σ.1 (.inr 3) := hf.1 _ (by simp) (by simp) (by simp)
  refine ⟨⟨h.at.o h2 h3, ?_, ?_⟩, hb⟩
  · unfold AB
    rw [h3]
    exact h.ab
  · have hF := h.f
    unfold RF kT sT eT vT at *
    rw [h3, h1]
    exact hF
theorem RT.find (h : RT σ n p B S F) (g : rIsN σ n p) : rFind σ n p (mU S) = mNmd S (upd F 15 (nI (eT σ n p - sT σ n p))) (mCpL B (sT σ n p) L (eT σ n p - sT σ n p)) := by
  have hx := h.b.x
  have w := h.wd g.1
  have g6 := g.2
  unfold rFind mNmd
  refine zc_first (fun k _ hk => ?_)
  have hk2 : k < mU S := by omega
  rw [(h.b.u hk2).2.2.2.2.2, h.nm g]
  have e5 := (xok_c (hx.n k hk2) (by decide)).2
  have key : mName S k = xnm (fun i => if i < eT σ n p - sT σ n p then B (sT σ n p + i) else 0) 6 ↔ mNamedQ S (upd F 15 (nI (eT σ n p - sT σ n p))) (mCpL B (sT σ n p) L (eT σ n p - sT σ n p)) k := by
    rw [mName, nm_eq (hx.n6 hk2) g6 (hx.u hk2).2.2.2 w.1]
    unfold mNamedQ
    rw [upd_at, show cN (nI (eT σ n p - sT σ n p)) = eT σ n p - sT σ n p from nI_clamp (n31 (by omega))]
    constructor
    · rintro ⟨q1, q2⟩
      refine ⟨by rw [e5, q1], fun i hi => ?_⟩
      rw [q2 i (by omega)]
      unfold mCpL
      rw [if_pos hi]
    · rintro ⟨q1, q2⟩
      have e : cN (sU S 5 k) = eT σ n p - sT σ n p := by rw [q1, cN, nI_clamp (n31 (by omega))]
      refine ⟨e, fun i hi => ?_⟩
      rw [q2 i (by omega)]
      unfold mCpL
      rw [if_pos (by omega)]
  rw [Bool.eq_iff_iff, beq_iff_eq, key]
  exact (@decide_eq_true_iff _ (Classical.propDecidable _)).symm
/-- a subscriber's name, not x's -/
theorem RT.known (h : RT σ n p B S F) (L : Nat → Int32) (x : Int32) : (∃ v, rKnown σ n p (mU S) x = (v, fA σ n p) ∧ ¬ v = -1 ∧ ¬ v = x ∧ xok v (mU S) ∧ mUhV B S F L = v ∧ mUhF B n S F L x = mNx1 B n (upd F 15 (nI (eT σ n p - sT σ n p))) ∧ mUhF B n S F L x 20 = 0) ∨ ((rKnown σ n p (mU S) x).1 = -1 ∧ ER (rKnown σ n p (mU S) x).2 (mUhF B n S F L x)) := by
  unfold rKnown
  by_cases g : rIsN σ n p
  · rw [if_pos g]
    have hh := h.nh (L := L) g
    have h15 := h.u15 (v := nI (eT σ n p - sT σ n p))
    have ev : mUhV B S F L = rFind σ n p (mU S) := by
      unfold mUhV
      rw [hh.1, if_pos h15.z, hh.2]
      exact (h.find g).symm
    have e0 : mUh0 B S F L x = mWr (upd F 15 (nI (eT σ n p - sT σ n p))) (if rFind σ n p (mU S) = -1 ∨ rFind σ n p (mU S) = x then 1 else 0) 3 := by
      unfold mUh0
      rw [ev, hh.1]
      congr 1
      by_cases q : rFind σ n p (mU S) = -1 ∨ rFind σ n p (mU S) = x
      · rw [if_pos q, if_pos ⟨h15.z, q⟩]
      · rw [if_neg q, if_neg (fun z => q z.2)]
    unfold mUhF
    rw [e0]
    by_cases g1 : rFind σ n p (mU S) = -1
    · rw [if_pos g1, if_pos (Or.inl g1)]
      have := h15.err 3
      rw [mGo_dead this.d]
      exact Or.inr ⟨rfl, this⟩
    · rw [if_neg g1]
      by_cases g2 : rFind σ n p (mU S) = x
      · rw [if_pos g2, if_pos (Or.inr g2)]
        have := h15.err 3
        rw [mGo_dead this.d]
        exact Or.inr ⟨rfl, this⟩
      · rw [if_neg g2, if_neg (fun z => z.elim g1 g2), mWr_z, h15.kz]
        refine Or.inl ⟨_, rfl, g1, g2, ?_, ev, rfl, h15.adv.z⟩
        rw [h.find (L := L) g] at g1 ⊢
        exact mNmd_ok h.b.x.i g1
  · rw [if_neg g]
    have := h.err 1
    unfold mUhF mUh0
    rw [h.nhE g, mWr_dead this.d, mGo_dead this.d]
    exact Or.inr ⟨rfl, this⟩
end RTS

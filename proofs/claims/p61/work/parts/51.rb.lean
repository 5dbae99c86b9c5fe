/-! THE TWO BOARDS: row S says what board b holds -/
/-- what call c uses -/
def mMask (S : Nat → Int32) (c : Nat) : Int32 := xline (fun u => sU S 0 u) (mU S) (sC S 0 c) ||| xline (fun u => sU S 0 u) (mU S) (sC S 1 c) ||| xtb (sC S 2 c)
def mName (S : Nat → Int32) (u : Nat) : Int64 := xnm (fun i => if i < cN (sU S 5 u) then sU S (6 + i) u else 0) 6
def MXu (S : Nat → Int32) (u : Nat) : Prop := xok (sU S 0 u) (mL S) ∧ 2 ≤ cN (sU S 1 u) ∧ 1 ≤ cN (sU S 5 u) ∧ ∀ i, i < cN (sU S 5 u) → isL (sU S (6 + i) u)
def MXc (S : Nat → Int32) (c : Nat) : Prop := (sC S 4 c = 0 ∨ sC S 4 c = 1 ∨ sC S 4 c = 2 ∨ sC S 4 c = 3) ∧ (sC S 3 c = 0 ∨ sC S 3 c = 1) ∧ sC S 8 c = xvolW (sC S 7 c)
/-- what holds of every row -/
def MX (S : Nat → Int32) : Prop := MS S ∧ 1 ≤ mL S ∧ (S 2 = nI (cN (S 2)) ∧ cN (S 2) ≤ 6 ∧ mCords S (mK S) ≤ cN (S 2)) ∧ (∀ u, u < mU S → MXu S u) ∧ (∀ c, c < mK S → MXc S c)
theorem MX.s {S : Nat → Int32} (h : MX S) : MS S := h.1
theorem MX.i {S : Nat → Int32} (h : MX S) : MI S := h.1.1
theorem MX.n {S : Nat → Int32} (h : MX S) : MN S := h.1.2.1
theorem MX.co {S : Nat → Int32} (h : MX S) : MC S := h.1.2.2
theorem MX.l1 {S : Nat → Int32} (h : MX S) : 1 ≤ mL S := h.2.1
theorem MX.c2 {S : Nat → Int32} (h : MX S) : S 2 = nI (cN (S 2)) := h.2.2.1.1
theorem MX.c6 {S : Nat → Int32} (h : MX S) : cN (S 2) ≤ 6 := h.2.2.1.2.1
theorem MX.cs {S : Nat → Int32} (h : MX S) : mCords S (mK S) ≤ cN (S 2) := h.2.2.1.2.2
theorem MX.u {S : Nat → Int32} (h : MX S) {u : Nat} (hu : u < mU S) : MXu S u := h.2.2.2.1 u hu
theorem MX.c {S : Nat → Int32} (h : MX S) {c : Nat} (hc : c < mK S) : MXc S c := h.2.2.2.2 c hc
/-- user u's line -/
theorem MX.ln {S : Nat → Int32} (h : MX S) {u : Nat} (hu : u < mU S) : ∃ a : Nat, a < 6 ∧ sU S 0 u = nI a := by
  have h6 := h.i.l6
  obtain ⟨a, ha, e⟩ := xok_of (h.u hu).1 (by omega)
  exact ⟨a, by omega, e⟩
def RBu (σ : XS) (b : Nat) (S : Nat → Int32) (u : Nat) : Prop := σ.1 (.inl (b, 3)) u = sU S 0 u ∧ σ.1 (.inl (b, 4)) u = sU S 1 u ∧ σ.1 (.inl (b, 5)) u = sU S 2 u ∧ σ.1 (.inl (b, 6)) u = sU S 3 u ∧ σ.1 (.inl (b, 7)) u = sU S 4 u ∧ σ.2 (.inl (b, 2)) u = mName S u
def RBc (σ : XS) (b : Nat) (S : Nat → Int32) (c : Nat) : Prop := σ.1 (.inl (b, 9)) c = sC S 4 c ∧ σ.1 (.inl (b, 10)) c = sC S 0 c ∧ σ.1 (.inl (b, 11)) c = sC S 1 c ∧ σ.1 (.inl (b, 12)) c = sC S 2 c ∧ σ.1 (.inl (b, 13)) c = sC S 3 c ∧ σ.1 (.inl (b, 14)) c = mMask S c ∧ σ.1 (.inl (b, 15)) c = (if xbc (mMask S c) ≤ 1 then 0 else 1) ∧ σ.1 (.inl (b, 16)) c = sC S 5 c ∧ σ.1 (.inl (b, 17)) c = sC S 6 c ∧ σ.1 (.inl (b, 18)) c = sC S 7 c
def RBs (σ : XS) (b : Nat) (S : Nat → Int32) : Prop := σ.1 (.inl (b, 0)) 3 = S 0 ∧ σ.1 (.inl (b, 0)) 4 = S 1 ∧ σ.1 (.inl (b, 0)) 5 = S 2 ∧ σ.1 (.inl (b, 0)) 6 = S 3 ∧ σ.1 (.inl (b, 1)) 6 = S 4 ∧ σ.1 (.inl (b, 8)) 10 = S 5
def RB (σ : XS) (b : Nat) (S : Nat → Int32) : Prop := RBs σ b S ∧ (∀ i, i < mT S → σ.1 (.inl (b, 19)) i = S (6 + i)) ∧ (∀ u, u < mU S → RBu σ b S u) ∧ (∀ c, c < mK S → RBc σ b S c) ∧ MX S
theorem RB.s {σ : XS} {b : Nat} {S : Nat → Int32} (h : RB σ b S) : RBs σ b S := h.1
theorem RB.to {σ : XS} {b : Nat} {S : Nat → Int32} (h : RB σ b S) {i : Nat} (hi : i < mT S) : σ.1 (.inl (b, 19)) i = S (6 + i) := h.2.1 i hi
theorem RB.u {σ : XS} {b : Nat} {S : Nat → Int32} (h : RB σ b S) {u : Nat} (hu : u < mU S) : RBu σ b S u := h.2.2.1 u hu
theorem RB.c {σ : XS} {b : Nat} {S : Nat → Int32} (h : RB σ b S) {c : Nat} (hc : c < mK S) : RBc σ b S c := h.2.2.2.1 c hc
theorem RB.x {σ : XS} {b : Nat} {S : Nat → Int32} (h : RB σ b S) : MX S := h.2.2.2.2
theorem RB.nu {σ : XS} {b : Nat} {S : Nat → Int32} (h : RB σ b S) : nuN σ b = mU S := by unfold nuN; rw [h.s.2.2.2.2.1]
theorem RB.nc {σ : XS} {b : Nat} {S : Nat → Int32} (h : RB σ b S) : ncN σ b = mK S := by unfold ncN; rw [h.s.2.2.2.2.2]
theorem RB.nt {σ : XS} {b : Nat} {S : Nat → Int32} (h : RB σ b S) : ntN σ b = mT S := by unfold ntN; rw [h.s.2.2.2.1]
theorem RB.bd {σ : XS} {b : Nat} {S : Nat → Int32} (h : RB σ b S) : Bd σ b := by
  have hM := h.x.i
  unfold Bd
  rw [h.nu, h.nc, h.nt, h.s.2.2.2.2.1, h.s.2.2.2.2.2, h.s.2.2.2.1]
  exact ⟨hM.u, hM.u15, hM.k, hM.k40, hM.t, hM.t4⟩
/-- a line as a bit -/
theorem zl_bt {v : Int32} {n i : Nat} (hv : xok v n) (hn : n ≤ 6) (hi : i < 32) : bt ((1 : Int32) <<< (v &&& 31)) i = true ↔ v = nI i := by
  obtain ⟨a, ha, rfl⟩ := xok_of hv (by omega)
  rw [zb_shl a (by omega) i hi, decide_eq_true_iff]
  exact (nI_eq (n31 (by omega)) (n31 (by omega))).symm
theorem xline_y {li : Nat → Int32} {n : Nat} {x : Int32} (h : xok x n) : xline li n x = (1 : Int32) <<< (li (cN x) &&& 31) := if_pos h
theorem xline_n {li : Nat → Int32} {n : Nat} {x : Int32} (h : ¬ xok x n) : xline li n x = 0 := if_neg h
theorem xline_cg {li li2 : Nat → Int32} {n : Nat} {x : Int32} (hn : n ≤ 1000000) (h : ∀ u, u < n → li u = li2 u) : xline li n x = xline li2 n x := by
  by_cases g : xok x n
  · rw [xline_y g, xline_y g, h _ (xok_c g hn).1]
  · rw [xline_n g, xline_n g]
theorem CR.cu {S : Nat → Int32} {nu nt c : Nat} (h : CR S nu nt c) (hn : nu ≤ 15) : cN (sC S 0 c) < nu := (xok_c h.1 (by omega)).1
/-- a call to a subscriber, or to a trunk -/
theorem CR.two {S : Nat → Int32} {nu nt c : Nat} (h : CR S nu nt c) (hn : nu ≤ 15) (ht : nt ≤ 4) : (sC S 2 c = -1 ∧ ¬ sC S 1 c = -1 ∧ xok (sC S 1 c) nu ∧ cN (sC S 1 c) < nu) ∨ (sC S 1 c = -1 ∧ ¬ sC S 2 c = -1 ∧ cN (sC S 2 c) < nt ∧ sC S 2 c = nI (cN (sC S 2 c))) := by
  rcases h.2 with ⟨h1, h2⟩ | ⟨h1, h2⟩
  · exact Or.inl ⟨h1, fun q => xok_m1 (q ▸ h2), h2, (xok_c h2 (by omega)).1⟩
  · exact Or.inr ⟨h1, fun q => xok_m1 (q ▸ h2), (xok_c h2 (by omega)).1, (xok_c h2 (by omega)).2⟩
theorem mMask_bt {S : Nat → Int32} (h : MX S) {c : Nat} (hc : c < mK S) {i : Nat} (hi : i < 32) : bt (mMask S c) i = true ↔ sU S 0 (cN (sC S 0 c)) = nI i ∨ (sC S 2 c = -1 ∧ sU S 0 (cN (sC S 1 c)) = nI i) ∨ (¬ sC S 2 c = -1 ∧ 6 + cN (sC S 2 c) = i) := by
  have hC := h.i.c hc
  have h6 := h.i.l6
  have ca := hC.cu h.i.u15
  unfold mMask
  rw [zb_orT, zb_orT, xline_y hC.1, zl_bt (h.u ca).1 h6 hi]
  rcases hC.two h.i.u15 h.i.t4 with ⟨h1, h2, h3, h4⟩ | ⟨h1, h2, h3, h4⟩
  · rw [xline_y h3, zl_bt (h.u h4).1 h6 hi, h1, zb_tbM]
    constructor
    · rintro ((q | q) | q)
      · exact Or.inl q
      · exact Or.inr (Or.inl ⟨rfl, q⟩)
      · exact absurd q zb_0
    · rintro (q | q | q)
      · exact Or.inl (Or.inl q)
      · exact Or.inl (Or.inr q.2)
      · exact absurd rfl q.1
  · have t4 := h.i.t4
    have e : bt (xtb (sC S 2 c)) i = true ↔ 6 + cN (sC S 2 c) = i := by
      have z := zb_tb (cN (sC S 2 c)) (by omega) i hi
      rw [← h4] at z
      rw [z, decide_eq_true_iff]
    rw [h1, xline_n xok_m1, e]
    constructor
    · rintro ((q | q) | q)
      · exact Or.inl q
      · exact absurd q zb_0
      · exact Or.inr (Or.inr ⟨h2, q⟩)
    · rintro (q | q | q)
      · exact Or.inl (Or.inl q)
      · exact absurd q.1 h2
      · exact Or.inr q.2
theorem mMask_line {S : Nat → Int32} (h : MX S) {c : Nat} (hc : c < mK S) {i : Nat} (hi : i < 6) : bt (mMask S c) i = true ↔ mUses S c (nI i) := by
  rw [mMask_bt h hc (by omega)]
  constructor
  · rintro (q | q | q)
    · exact Or.inl q
    · exact Or.inr q
    · omega
  · rintro (q | q)
    · exact Or.inl q
    · exact Or.inr (Or.inl q)
theorem mMask_trk {S : Nat → Int32} (h : MX S) {c : Nat} (hc : c < mK S) {t : Nat} (ht : t < 4) : bt (mMask S c) (6 + t) = true ↔ sC S 2 c = nI t := by
  have hC := h.i.c hc
  have h6 := h.i.l6
  have far : ∀ u, u < mU S → ¬ sU S 0 u = nI (6 + t) := fun u hu q => by
    obtain ⟨a, ha, e⟩ := h.ln hu
    rw [e] at q
    have := neq q
    omega
  rw [mMask_bt h hc (by omega)]
  rcases hC.two h.i.u15 h.i.t4 with ⟨h1, h2, h3, h4⟩ | ⟨h1, h2, h3, h4⟩
  · constructor
    · rintro (q | q | q)
      · exact absurd q (far _ (hC.cu h.i.u15))
      · exact absurd q.2 (far _ h4)
      · exact absurd h1 q.1
    · intro q
      rw [h1] at q
      exact absurd q (fun z => xok_m1 (n := 4) (z ▸ xok_nI ht))
  · have t4 := h.i.t4
    constructor
    · rintro (q | q | q)
      · exact absurd q (far _ (hC.cu h.i.u15))
      · exact absurd q.1 h2
      · rw [h4, show cN (sC S 2 c) = t by omega]
    · intro q
      refine Or.inr (Or.inr ⟨h2, ?_⟩)
      rw [q, cN, nI_clamp (n31 (by omega))]
theorem mMask_own {S : Nat → Int32} (h : MX S) {c : Nat} (hc : c < mK S) : xbc (mMask S c) ≤ 1 ↔ mOwn S c := by
  have hC := h.i.c hc
  have h6 := h.i.l6
  have ca := hC.cu h.i.u15
  obtain ⟨a, ha, ea⟩ := h.ln ca
  unfold mMask mOwn
  rw [xline_y hC.1, ea]
  rcases hC.two h.i.u15 h.i.t4 with ⟨h1, h2, h3, h4⟩ | ⟨h1, h2, h3, h4⟩
  · obtain ⟨d, hd, ed⟩ := h.ln h4
    rw [xline_y h3, ed, h1, zb_tbM, zp_1 a ha d hd]
    exact ⟨fun q => ⟨rfl, by rw [q]⟩, fun q => (neq q.2).symm⟩
  · have t4 := h.i.t4
    rw [h1, xline_n xok_m1, h4]
    exact ⟨fun q => absurd q (zp_2 a ha _ (by omega)), fun q => absurd q.1 (h4 ▸ h2)⟩
/-- what is busy -/
abbrev xBz (σ : XS) (b n : Nat) : Int32 := cBusy (σ.1 (.inl (b, 9))) (σ.1 (.inl (b, 14))) n
theorem RB.bz {σ : XS} {b : Nat} {S : Nat → Int32} (h : RB σ b S) {i : Nat} : bt (xBz σ b (mK S)) i = true ↔ ∃ c, c < mK S ∧ sC S 4 c = 1 ∧ bt (mMask S c) i = true := by
  rw [zc_busy]
  constructor
  · rintro ⟨c, h1, h2, h3⟩
    have hc := h.c h1
    exact ⟨c, h1, hc.1 ▸ h2, hc.2.2.2.2.2.1 ▸ h3⟩
  · rintro ⟨c, h1, h2, h3⟩
    have hc := h.c h1
    exact ⟨c, h1, hc.1 ▸ h2, hc.2.2.2.2.2.1 ▸ h3⟩
theorem RB.bl {σ : XS} {b : Nat} {S : Nat → Int32} (h : RB σ b S) {i : Nat} (hi : i < 6) : bt (xBz σ b (mK S)) i = true ↔ 0 < mLine S (nI i) (mK S) := by
  rw [h.bz, mLine, zc_pos]
  constructor
  · rintro ⟨c, h1, h2, h3⟩; exact ⟨c, h1, h2, (mMask_line h.x h1 hi).mp h3⟩
  · rintro ⟨c, h1, h2, h3⟩; exact ⟨c, h1, h2, (mMask_line h.x h1 hi).mpr h3⟩
theorem RB.bk {σ : XS} {b : Nat} {S : Nat → Int32} (h : RB σ b S) {t : Nat} (ht : t < 4) : bt (xBz σ b (mK S)) (6 + t) = true ↔ 0 < mTrk S (nI t) (mK S) := by
  rw [h.bz, mTrk, zc_pos]
  constructor
  · rintro ⟨c, h1, h2, h3⟩; exact ⟨c, h1, h2, (mMask_trk h.x h1 ht).mp h3⟩
  · rintro ⟨c, h1, h2, h3⟩; exact ⟨c, h1, h2, (mMask_trk h.x h1 ht).mpr h3⟩
theorem RB.cords {σ : XS} {b : Nat} {S : Nat → Int32} (h : RB σ b S) : cCords (σ.1 (.inl (b, 9))) (σ.1 (.inl (b, 15))) (mK S) = mCords S (mK S) := by
  rw [zc_cords, mCords]
  refine zc_cg (fun c hc => ?_)
  have h1 := h.c hc
  rw [h1.1, h1.2.2.2.2.2.2.1]
  have h2 := mMask_own h.x hc
  by_cases g : xbc (mMask S c) ≤ 1
  · rw [if_pos g]
    exact ⟨fun q => absurd rfl q.2, fun q => absurd (h2.mp g) q.2⟩
  · rw [if_neg g]
    exact ⟨fun q => ⟨q.1, fun z => g (h2.mpr z)⟩, fun q => ⟨q.1, by decide⟩⟩
theorem RB.blk {σ : XS} {b : Nat} {S : Nat → Int32} (h : RB σ b S) {j : Nat} (hj : j < mK S) : xblk σ b (mU S) (mK S) j = mWhy S j := by
  have hx := h.x
  have hC := hx.i.c hj
  have h6 := hx.i.l6
  have u15 := hx.i.u15
  have ca := hC.cu u15
  have hc := h.c hj
  obtain ⟨a, ha, ea⟩ := hx.ln ca
  have eL : xline (σ.1 (.inl (b, 3))) (mU S) (σ.1 (.inl (b, 10)) j) = (1 : Int32) <<< (nI a &&& 31) := by
    rw [hc.2.1, xline_y hC.1, (h.u ca).1, ea]
  unfold xblk mWhy
  rw [eL]
  have e1 : bt (xBz σ b (mK S)) a = true ↔ 0 < mLine S (sU S 0 (cN (sC S 0 j))) (mK S) := by rw [h.bl ha, ea]
  by_cases g1 : bt (xBz σ b (mK S)) a = true
  · rw [if_neg (fun q => (zb_tst (by omega)).mp q g1), if_pos (e1.mp g1)]
  · rw [if_pos ((zb_tst (by omega)).mpr g1), if_neg (fun q => g1 (e1.mpr q)), hc.2.2.2.2.2.1]
    have e2 : xBz σ b (mK S) &&& mMask S j = 0 ↔ ¬ ((sC S 2 j = -1 ∧ 0 < mLine S (sU S 0 (cN (sC S 1 j))) (mK S)) ∨ (¬ sC S 2 j = -1 ∧ 0 < mTrk S (sC S 2 j) (mK S))) := by
      rw [zb_and0]
      rcases hC.two u15 hx.i.t4 with ⟨h1, h2, h3, h4⟩ | ⟨h1, h2, h3, h4⟩
      · obtain ⟨d, hd, ed⟩ := hx.ln h4
        rw [ed, ← h.bl hd]
        constructor
        · intro q z
          rcases z with ⟨-, z⟩ | ⟨z, -⟩
          · exact q d (by omega) z ((mMask_bt hx hj (by omega)).mpr (Or.inr (Or.inl ⟨h1, ed⟩)))
          · exact z h1
        · intro q i hi b1 b2
          rcases (mMask_bt hx hj hi).mp b2 with z | z | z
          · rw [ea] at z
            exact g1 ((neq z : a = i) ▸ b1)
          · rw [ed] at z
            exact q (Or.inl ⟨h1, (neq z.2 : d = i) ▸ b1⟩)
          · exact z.1 h1
      · have t4 := hx.i.t4
        have hb := h.bk (t := cN (sC S 2 j)) (by omega)
        rw [← h4] at hb
        rw [← hb]
        constructor
        · intro q z
          rcases z with ⟨z, -⟩ | ⟨-, z⟩
          · exact h2 z
          · exact q _ (by omega) z ((mMask_bt hx hj (by omega)).mpr (Or.inr (Or.inr ⟨h2, rfl⟩)))
        · intro q i hi b1 b2
          rcases (mMask_bt hx hj hi).mp b2 with z | z | z
          · rw [ea] at z
            exact g1 ((neq z : a = i) ▸ b1)
          · exact h2 z.1
          · exact q (Or.inr ⟨h2, z.2 ▸ b1⟩)
    by_cases g2 : ((sC S 2 j = -1 ∧ 0 < mLine S (sU S 0 (cN (sC S 1 j))) (mK S)) ∨ (¬ sC S 2 j = -1 ∧ 0 < mTrk S (sC S 2 j) (mK S)))
    · rw [if_neg (fun q => e2.mp q g2), if_pos g2]
    · rw [if_pos (e2.mpr g2), if_neg g2, hc.2.2.2.2.2.2.1, h.cords, h.s.2.2.1]
      have h2 := mMask_own hx hj
      have ck := hx.cs
      have c6 := hx.c6
      by_cases g3 : xbc (mMask S j) ≤ 1
      · rw [if_pos (by rw [if_pos g3]), if_neg (fun q => q.1 (h2.mp g3))]
      · rw [if_neg (by rw [if_neg g3]; decide)]
        by_cases g4 : mCords S (mK S) = cN (S 2)
        · rw [if_neg (by rw [hx.c2, g4]; exact Int32.lt_irrefl), if_pos ⟨fun q => g3 (h2.mpr q), by rw [g4]; exact hx.c2.symm⟩]
        · rw [if_pos (by rw [hx.c2]; exact (nI_ltI (n31 (by omega)) (n31 (by omega))).mpr (by omega)), if_neg (fun q => g4 (by
            have := q.2
            rw [hx.c2] at this
            exact neq this))]
/-! who listens, what is told -/
theorem ears_eq {S : Nat → Int32} (hx : MX S) {li cu : Nat → Int32} {us ta x y : Int32} (hli : ∀ u, u < mU S → li u = sU S 0 u) (hcu : ∀ u, u < mU S → cu u = sU S 2 u) (hus : ∀ a, a < 6 → (bt us a = true ↔ (sU S 0 (cN x) = nI a ∨ (¬ y = -1 ∧ sU S 0 (cN y) = nI a)))) (hta : ∀ u, u < mU S → (bt ta u = true ↔ (nI u = x ∨ nI u = y))) : xears li cu (mU S) us ta = mEars S x y := by
  have u15 := hx.i.u15
  refine zb_eq (fun i hi => ?_)
  unfold xears mEars
  rw [zb_andT, zb_not hi, zc_ears hi (by omega), zb_set (by omega) hi]
  unfold mEarQ
  constructor
  · rintro ⟨⟨h1, h2, h3⟩, h4⟩
    rw [hta i h1] at h4
    rw [hcu i h1] at h3
    rw [hli i h1] at h2
    obtain ⟨a, ha, ea⟩ := hx.ln h1
    rw [ea] at h2
    have h5 : bt us a = true := Classical.byContradiction (fun q => h2 ((zb_bitT (by omega)).mpr q))
    refine ⟨h1, fun q => h4 (Or.inl q), fun q => h4 (Or.inr q), h3, ?_⟩
    rw [ea]
    rcases (hus a ha).mp h5 with q | q
    · exact Or.inl q.symm
    · exact Or.inr ⟨q.1, q.2.symm⟩
  · rintro ⟨h1, h2, h3, h4, h5⟩
    rw [hta i h1, hcu i h1, hli i h1]
    obtain ⟨a, ha, ea⟩ := hx.ln h1
    rw [ea] at h5 ⊢
    refine ⟨⟨h1, fun q => (zb_bitT (by omega)).mp q ((hus a ha).mpr ?_), h4⟩, fun q => q.elim h2 h3⟩
    rcases h5 with q | q
    · exact Or.inl q.symm
    · exact Or.inr ⟨q.1, q.2.symm⟩
theorem talk_bt {S : Nat → Int32} (hx : MX S) {x y : Int32} (h1 : xok x (mU S)) (h2 : y = -1 ∨ xok y (mU S)) {u : Nat} (hu : u < 32) : bt (xbit x ||| xbit y) u = true ↔ (nI u = x ∨ nI u = y) := by
  have u15 := hx.i.u15
  have hz : ∀ z, xok z (mU S) → (bt (xbit z) u = true ↔ nI u = z) := fun z hz => by
    obtain ⟨q, hq, rfl⟩ := xok_of hz (by omega)
    rw [zb_bit (by omega) hu]
    exact ⟨fun e => by rw [e], fun e => (neq e).symm⟩
  rw [zb_orT, hz x h1]
  rcases h2 with rfl | h2
  · rw [zb_bitM]
    exact ⟨fun q => q.elim Or.inl (fun z => absurd z zb_0), fun q => q.elim Or.inl (fun z => absurd z (fun z => xok_m1 (n := 32) (z ▸ xok_nI hu)))⟩
  · rw [hz y h2]
theorem CR.oy {S : Nat → Int32} {nu nt c : Nat} (h : CR S nu nt c) : sC S 1 c = -1 ∨ xok (sC S 1 c) nu := h.2.elim (fun q => Or.inr q.2) (fun q => Or.inl q.1)
theorem RB.heard {σ : XS} {b : Nat} {S : Nat → Int32} (h : RB σ b S) {j : Nat} (hj : j < mK S) : xheard σ b (mU S) j = mEars S (sC S 0 j) (sC S 1 j) := by
  have hx := h.x
  have hC := hx.i.c hj
  have hc := h.c hj
  have u15 := hx.i.u15
  unfold xheard xtalk
  rw [hc.2.2.2.2.2.1, hc.2.1, hc.2.2.1]
  refine ears_eq hx (fun u hu => (h.u hu).1) (fun u hu => (h.u hu).2.2.1) (fun a ha => ?_) (fun u hu => talk_bt hx hC.1 hC.oy (by omega))
  rw [mMask_line hx hj ha]
  rcases hC.two u15 hx.i.t4 with ⟨h1, h2, -, -⟩ | ⟨h1, h2, -, -⟩
  · exact ⟨fun q => q.elim Or.inl (fun z => Or.inr ⟨h2, z.2⟩), fun q => q.elim Or.inl (fun z => Or.inr ⟨h1, z.2⟩)⟩
  · exact ⟨fun q => q.elim Or.inl (fun z => absurd z.1 h2), fun q => q.elim Or.inl (fun z => absurd h1 z.1)⟩
theorem told_eq {S : Nat → Int32} (hx : MX S) {se : Nat → Int32} {x y : Int32} (hse : ∀ u, u < mU S → se u = sU S 4 u) (h1 : xok x (mU S)) (h2 : y = -1 ∨ xok y (mU S)) : cTold se (xbit x ||| xbit y) (mU S) = mTold S x y := by
  have u15 := hx.i.u15
  have hxc := xok_c h1 (by omega)
  refine zb_eq (fun i hi => ?_)
  rw [zc_told (by omega)]
  unfold mTold
  rcases h2 with rfl | h2
  · rw [if_pos rfl]
    constructor
    · rintro ⟨k, hk, q1, q2⟩
      rcases (talk_bt hx h1 (Or.inl rfl) (by omega)).mp q1 with e | e
      · rw [hse k hk] at q2
        have : k = cN x := neq (e.trans hxc.2)
        exact this ▸ q2
      · exact absurd e (fun z => xok_m1 (n := 32) (z ▸ xok_nI (by omega)))
    · intro q
      exact ⟨cN x, hxc.1, (talk_bt hx h1 (Or.inl rfl) (by omega)).mpr (Or.inl hxc.2.symm), by rw [hse _ hxc.1]; exact q⟩
  · have hyc := xok_c h2 (by omega)
    rw [if_neg (fun q => xok_m1 (q ▸ h2)), zb_orT]
    constructor
    · rintro ⟨k, hk, q1, q2⟩
      rw [hse k hk] at q2
      rcases (talk_bt hx h1 (Or.inr h2) (by omega)).mp q1 with e | e
      · have : k = cN x := neq (e.trans hxc.2)
        exact Or.inl (this ▸ q2)
      · have : k = cN y := neq (e.trans hyc.2)
        exact Or.inr (this ▸ q2)
    · rintro (q | q)
      · exact ⟨cN x, hxc.1, (talk_bt hx h1 (Or.inr h2) (by omega)).mpr (Or.inl hxc.2.symm), by rw [hse _ hxc.1]; exact q⟩
      · exact ⟨cN y, hyc.1, (talk_bt hx h1 (Or.inr h2) (by omega)).mpr (Or.inr hyc.2.symm), by rw [hse _ hyc.1]; exact q⟩
theorem uTell_at {σ : XS} {b : Nat} {set told : Int32} {u : Nat} : ∀ {k : Nat}, k ≤ 32 → (uTell σ b set told k).1 (.inl (b, 7)) u = (if u < k ∧ bt set u = true then σ.1 (.inl (b, 7)) u ||| told else σ.1 (.inl (b, 7)) u)
  | 0, _ => by rw [if_neg (fun q => absurd q.1 (Nat.not_lt_zero _))]; rfl
  | k + 1, hk => by
    have ih := uTell_at (σ := σ) (b := b) (set := set) (told := told) (u := u) (k := k) (by omega)
    unfold uTell
    by_cases g : bt set k = true
    · rw [if_pos (fun q => (zb_bitT (by omega)).mp q g)]
      by_cases e : u = k
      · subst e
        rw [xu_self, ih, if_neg (fun q => absurd q.1 (Nat.lt_irrefl _)), if_pos ⟨by omega, g⟩]
      · rw [xu_nk _ _ _ e, ih]
        by_cases z : u < k ∧ bt set u = true
        · rw [if_pos z, if_pos ⟨by omega, z.2⟩]
        · rw [if_neg z, if_neg (fun q => z ⟨by omega, q.2⟩)]
    · rw [if_neg (fun q => q ((zb_bitT (by omega)).mpr g)), ih]
      by_cases z : u < k ∧ bt set u = true
      · rw [if_pos z, if_pos ⟨by omega, z.2⟩]
      · rw [if_neg z, if_neg (fun q => by
          by_cases e : u = k
          · exact g (e ▸ q.2)
          · exact z ⟨by omega, q.2⟩)]
theorem mHear_at {S : Nat → Int32} {e t : Int32} {u : Nat} : ∀ {k : Nat}, k ≤ 32 → mHear S e t k (10 + 12 * u + 4) = (if u < k ∧ bt e u = true then S (10 + 12 * u + 4) ||| t else S (10 + 12 * u + 4))
  | 0, _ => by rw [if_neg (fun q => absurd q.1 (Nat.not_lt_zero _))]; rfl
  | k + 1, hk => by
    have ih := mHear_at (S := S) (e := e) (t := t) (u := u) (k := k) (by omega)
    by_cases g : bt e k = true
    · rw [mHear_y ((zb_shr (by omega)).mpr g)]
      by_cases z : u = k
      · subst z
        rw [upd_at, sU, ih, if_neg (fun q => absurd q.1 (Nat.lt_irrefl _)), if_pos ⟨by omega, g⟩]
      · rw [upd_ne (by omega), ih]
        by_cases w : u < k ∧ bt e u = true
        · rw [if_pos w, if_pos ⟨by omega, w.2⟩]
        · rw [if_neg w, if_neg (fun q => w ⟨by omega, q.2⟩)]
    · rw [mHear_n (fun q => g ((zb_shr (by omega)).mp q)), ih]
      by_cases w : u < k ∧ bt e u = true
      · rw [if_pos w, if_pos ⟨by omega, w.2⟩]
      · rw [if_neg w, if_neg (fun q => by
          by_cases z : u = k
          · exact g (z ▸ q.2)
          · exact w ⟨by omega, q.2⟩)]

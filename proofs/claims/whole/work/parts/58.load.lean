/-! THE TWO READERS: a subscriber, a trunk, a whole setup -/
theorem xnm_0 : xnm (fun _ => 0) 6 = 0 := by decide +kernel
section LOADS
variable {σ : XS} {n p : Nat} {B S F L : Nat → Int32}
/-- a new name -/
theorem RT.new (h : RT σ n p B S F) (L : Nat → Int32) : (∃ v, rNew σ n p (mU S) = (v, fA σ n p) ∧ ¬ v = 0 ∧ v = xnm (fun i => if i < eT σ n p - sT σ n p then B (sT σ n p + i) else 0) 6 ∧ rIsN σ n p ∧ mNhF F = upd F 15 (nI (eT σ n p - sT σ n p)) ∧ mNhL B F L = mCpL B (sT σ n p) L (eT σ n p - sT σ n p) ∧ mNmd S (mNhF F) (mNhL B F L) = -1) ∨ ((rNew σ n p (mU S)).1 = 0 ∧ ER (rNew σ n p (mU S)).2 (mWr (mNhF F) (if mNhF F 20 = 0 ∧ ¬ mNmd S (mNhF F) (mNhL B F L) = -1 then 1 else 0) 4)) := by
  unfold rNew
  by_cases g : rIsN σ n p
  · rw [if_pos g]
    have hh := h.nh (L := L) g
    have h15 := h.u15 (v := nI (eT σ n p - sT σ n p))
    have hf := h.find (L := L) g
    by_cases g1 : rFind σ n p (mU S) = -1
    · rw [if_pos g1]
      have w := h.wd g.1
      have e := h.nm g
      refine Or.inl ⟨_, rfl, fun q => ?_, e, g, hh.1, hh.2, ?_⟩
      · rw [e, ← xnm_0] at q
        have := (xnm_inj (zby_if (f := fun i => B (sT σ n p + i)) w.1) (fun i _ => xok_nI (j := 0) (by decide))).mp q 0 (by decide)
        have h0 : (0 : Nat) < eT σ n p - sT σ n p := by have := w.2; omega
        rw [if_pos h0] at this
        exact (isL_256 (w.1 0 h0)).2 this
      · rw [hh.1, hh.2, ← hf]
        exact g1
    · rw [if_neg g1]
      have := h15.err 4
      rw [hh.1, hh.2, if_pos ⟨h15.z, fun q => g1 (by rw [hf]; exact q)⟩]
      exact Or.inr ⟨rfl, this⟩
  · rw [if_neg g]
    have := h.err 1
    rw [h.nhE g, mWr_dead this.d]
    exact Or.inr ⟨rfl, this⟩
/-- the rings -/
theorem RT.rings (h : RT σ n p B S F) : (∃ j, rCd σ n p = nI j ∧ 2 ≤ j ∧ j < 64 ∧ mRh B F = (F, nI j)) ∨ (rCd σ n p = -1 ∧ (mRh B F).1 = mWr F 1 1) := by
  have a := h.se
  unfold rCd xcode mRh mRh0
  rw [h.k, h.1.eF, h.1.sF]
  by_cases g : kT σ n p = 1 ∧ eT σ n p - sT σ n p ≤ 5
  · rw [if_pos g, if_pos g, mWr_z]
    have w := h.wd g.1
    rcases rings_rel (f := wC (bT σ) (kT σ n p) (sT σ n p) (eT σ n p)) (B := B) (s := sT σ n p) h.z (k := eT σ n p - sT σ n p) (i := 0) (j := 1) (fun q _ b => by
      unfold wC wL
      rw [if_pos g.1, if_pos (by omega)]
      exact h.ab _ (by omega)) with ⟨j1, q1, q2, q3, q4, q5⟩ | ⟨q1, q2⟩
    · rw [Nat.add_zero] at q2
      have h64 : (1 + 1) * 2 ^ (eT σ n p - sT σ n p) ≤ 64 := Nat.mul_le_mul_left 2 (Nat.pow_le_pow_right (by decide) g.2 : 2 ^ (eT σ n p - sT σ n p) ≤ 2 ^ 5)
      exact Or.inl ⟨j1, q1, q4 (by have := w.2; omega), by omega, q2⟩
    · rw [Nat.add_zero] at q2
      exact Or.inr ⟨q1, q2⟩
  · rw [if_neg g, if_neg g]
    refine Or.inr ⟨rfl, ?_⟩
    have := h.err 1
    cases hk : eT σ n p - sT σ n p with
    | zero => rfl
    | succ k => rw [mRhL, if_neg this.d]
theorem RT.code (h : RT σ n p B S F) {li : Int32} {S2 : Nat → Int32} (hl : ∀ v, v < mU S → sU S2 0 v = sU S 0 v) (hc : ∀ v, v < mU S → sU S2 1 v = sU S 1 v) : (∃ j, rCode σ n p (mU S) li = (nI j, fA σ n p) ∧ 2 ≤ j ∧ j < 64 ∧ mRh B F = (F, nI j) ∧ mAmb S2 li (nI j) (mU S) 0 F = F) ∨ ((rCode σ n p (mU S) li).1 = -1 ∧ ER (rCode σ n p (mU S) li).2 (mAmb S2 li (mRh B F).2 (mU S) 0 (mRh B F).1)) := by
  have hx := h.b.x
  unfold rCode
  rcases h.rings with ⟨j, q1, q2, q3, q4⟩ | ⟨q1, q2⟩
  · have hm : ¬ nI j = -1 := fun q => xok_m1 (n := 64) (q ▸ xok_nI q3)
    have ej : cN (nI j) = j := nI_clamp (n31 (by omega))
    have key : ∀ v, v < mU S → (xamb (σ.1 (.inl (1, 3))) (σ.1 (.inl (1, 4))) li (nI j) v = true ↔ mAmbQ S2 li (nI j) v) := fun v hv => by
      have hu := h.b.u hv
      have hX := hx.u hv
      unfold mAmbQ
      rw [hl v hv, hc v hv, ← beg_eq (hx.co v hv) (xok_nI q3) (by have := hX.2.1; omega) (by omega), ← hu.1, ← hu.2.1]
      exact ⟨fun q => Classical.byContradiction (fun z => xamb_n z q), fun q => xamb_y q.1 q.2⟩
    rw [q1, if_neg hm, q4]
    unfold rAmb
    by_cases g : ∃ v, v < mU S ∧ mAmbQ S2 li (nI j) v
    · obtain ⟨v, hv, gv⟩ := g
      rw [cFirstB_y ⟨v, Nat.zero_le _, by omega, (key v hv).mpr gv⟩, if_neg (by decide), amb_y h.z ⟨v, Nat.zero_le _, by omega, gv⟩]
      exact Or.inr ⟨rfl, h.err 5⟩
    · rw [cFirstB_n (fun v _ b q => g ⟨v, by omega, (key v (by omega)).mp q⟩), if_pos rfl]
      exact Or.inl ⟨j, rfl, q2, q3, rfl, amb_n (fun v _ b q => g ⟨v, by omega, q⟩)⟩
  · have he := h.err 1
    rw [q1, if_pos rfl, q2, amb_dead he.d]
    exact Or.inr ⟨rfl, he⟩
/-- bills behind the last subscriber are 0 -/
def ZB (S : Nat → Int32) : Prop := mK S = 0 ∧ ∀ u, mU S ≤ u → u < 15 → sU S 3 u = 0
/-- a subscriber's end: the curiosity, the semicolon -/
theorem RT.userD (h : RT σ n p B S F) {nm : Int64} {li co : Int32} {S1 : Nat → Int32} (hS : mNbF B n F 0 9 20 = 0 → mNbF B n F 0 9 16 = 3 → ∀ τ : XS, RB τ 1 S → RB (uSub τ 1 (mU S) nm li co (mNbV F 0 9)) 1 S1) : OT n B (rSubD σ n p (mU S) nm li co) S1 (mGo B n (mWr (mNbF B n F 0 9) (if mNbF B n F 0 9 16 = 3 then 0 else 1) 1)) := by
  unfold rSubD
  rcases h.num (lo := 0) (hi := 9) (by decide) with ⟨cu, t1, t2, t3, t4, t5⟩ | ⟨t1, t2⟩
  · have h6 := h.adv
    rw [← t5] at h6
    rw [t1]
    dsimp only
    rw [if_neg (ge0_m1 t2)]
    rw [t4] at hS
    unfold rSem
    by_cases g : kT (fA σ n p) n (eT σ n p) = 3
    · rw [if_pos g, h6.semi g, mWr_z]
      have hb := hS h6.z (by rw [h6.k]; exact g) _ h6.b
      exact OT.ye (h6.step Fr.sub (by simp [uSub, xu_ne, xL_i]) (by simp [uSub, xu_ne, xL_i]) hb (Or.inl rfl))
    · have he := h6.err 1
      rw [if_neg g, h6.semiE g, mGo_dead he.d]
      exact OT.no he
  · rw [if_pos t1, mWr_dead t2.d, mGo_dead t2.d]
    exact OT.no t2
theorem RT.userC (h : RT σ n p B S F) {nm : Int64} {li : Int32} {S1 S2 : Nat → Int32} (hl : ∀ v, v < mU S → sU S2 0 v = sU S 0 v) (hc : ∀ v, v < mU S → sU S2 1 v = sU S 1 v) {F8 : Nat → Int32} (e8 : F8 = mGo B n (mAmb S2 li (mRh B F).2 (mU S) 0 (mRh B F).1)) (hS : ∀ j, (mRh B F).2 = nI j → 2 ≤ j → j < 64 → mNbF B n F8 0 9 20 = 0 → mNbF B n F8 0 9 16 = 3 → ∀ τ : XS, RB τ 1 S → RB (uSub τ 1 (mU S) nm li (nI j) (mNbV F8 0 9)) 1 S1) : OT n B (rSubC σ n p (mU S) nm li) S1 (mGo B n (mWr (mNbF B n F8 0 9) (if mNbF B n F8 0 9 16 = 3 then 0 else 1) 1)) := by
  unfold rSubC
  rcases h.code (li := li) (S2 := S2) hl hc with ⟨j, s1, s2, s3, s4, s5⟩ | ⟨s1, s2⟩
  · have h5 := h.adv
    rw [s4] at e8 hS
    dsimp only at e8 hS
    rw [s5, h.kz] at e8
    rw [s1]
    dsimp only
    rw [if_neg (c := nI j = -1) (fun q => xok_m1 (n := 64) (q ▸ xok_nI s3))]
    rw [← e8] at h5
    exact h5.userD (hS j rfl s2 s3)
  · rw [mGo_dead s2.d] at e8
    rw [← e8] at s2
    rw [if_pos s1, nbF_dead s2.d, mWr_dead s2.d, mGo_dead s2.d]
    exact OT.no s2
/-- a subscriber -/
theorem RT.user (h : RT σ n p B S F) (hz : ZB S) (hw : ¬ mIs B F 2 = 0) (hu : mU S < 15) (L : Nat → Int32) : OT n B (rSub σ n p (mU S)) (mUtS B n S F L) (mUtF B n S F L) := by
  have hx := h.b.x
  have t4 := hx.i.t4
  have n4 : ¬ S 4 = 15 := fun q => by
    have := hx.i.u
    rw [q, show (15 : Int32) = nI 15 from rfl] at this
    have := neq this
    omega
  have e1 : mUt1 B n S F = mNx1 B n F := by
    unfold mUt1
    rw [if_neg hw, mWr_z, if_neg n4, mWr_z, h.kz]
  have h1 := h.adv
  rw [← e1] at h1
  unfold rSub rSubA
  generalize hσ1 : fA σ n p = σ1 at h1 ⊢
  generalize hp1 : eT σ n p = p1 at h1 ⊢
  have e2 : mUt2 B n S F = mNhF (mUt1 B n S F) := rfl
  have eL : mUtL B n S F L = mNhL B (mUt1 B n S F) L := rfl
  rcases h1.new L with ⟨nm, q1, q2, q3, q4, q5, q6, q7⟩ | ⟨q1, q2⟩
  · have e3 : mUt3 B n S F L = upd (mUt1 B n S F) 15 (nI (eT σ1 n p1 - sT σ1 n p1)) := by
      unfold mUt3
      rw [e2, eL, if_neg (fun z => z.2 q7), mWr_z, q5]
    have h2 := h1.u15 (v := nI (eT σ1 n p1 - sT σ1 n p1))
    rw [← e3] at h2
    have lt3 : mUt3 B n S F L 20 = 0 := h2.z
    have e4 : mUt4 B n S F L = mNx1 B n (mUt3 B n S F L) := h2.kz
    have h3 := h2.adv
    rw [← e4] at h3
    have eF : mUtF B n S F L = mUtA B n S F L := if_pos h2.z
    have w := h1.wd q4.1
    have w6 := q4.2
    -- the letters of the new row
    have l15 : mUt3 B n S F L 15 = nI (eT σ1 n p1 - sT σ1 n p1) := by rw [e3, upd_at]
    have c15 : cN (mUt3 B n S F L 15) = eT σ1 n p1 - sT σ1 n p1 := by rw [l15, cN, nI_clamp (n31 (by omega))]
    have s5 : sU (mUtS2 B n S F L) 5 (mU S) = nI (eT σ1 n p1 - sT σ1 n p1) := by
      show mUtS2 B n S F L (10 + 12 * mU S + 5) = _
      unfold mUtS2
      rw [mPutL_o _ (by omega), upd_at, l15]
    have s6 : ∀ i, i < eT σ1 n p1 - sT σ1 n p1 → sU (mUtS2 B n S F L) (6 + i) (mU S) = B (sT σ1 n p1 + i) := fun i hi => by
      show mUtS2 B n S F L (10 + 12 * mU S + (6 + i)) = _
      unfold mUtS2
      rw [mPutL_at _ (by rw [c15]; exact hi), eL, q6]
      unfold mCpL
      rw [if_pos hi]
    have s2l : ∀ v w, v < mU S → w < 5 → sU (mUtS2 B n S F L) w v = sU S w v := fun v w hv hw2 => mUtS2_o lt3 (by omega)
    clear hσ1 hp1
    rw [q1]
    dsimp only
    rw [if_neg q2]
    unfold rSubB rLine
    generalize hσ2 : fA σ1 n p1 = σ2 at h3 ⊢
    generalize hp2 : eT σ1 n p1 = p2 at *
    have el : σ2.1 (.inl (1, 0)) 4 = S 1 := h3.b.s.2.1
    have hhi : S 1 - 1 < 1000000 := by rw [hx.i.l]; exact hi_ok _ (by have := hx.i.l6; omega)
    rw [el]
    have e5 : mUt5 B n S F L = mNbF B n (mUt4 B n S F L) 0 (S 1 - 1) := rfl
    have eX : mUtX B n S F L = mNbV (mUt4 B n S F L) 0 (S 1 - 1) := rfl
    rcases h3.num (lo := 0) (hi := S 1 - 1) hhi with ⟨li, r1, r2, r3, r4, r5⟩ | ⟨r1, r2⟩
    · have h4 := h3.adv
      rw [← r5, ← e5] at h4
      rw [← eX] at r4
      rw [r1]
      dsimp only
      rw [if_neg (ge0_m1 r2)]
      have hli : xok li (mL S) := by
        rw [hx.i.l] at r3
        exact rng_ok (by have := hx.i.l6; omega) r2 r3
      have e6 : mUt6 B n S F L = (mRh B (mUt5 B n S F L)).1 := if_pos h4.z
      have eY : mUtY B n S F L = (mRh B (mUt5 B n S F L)).2 := if_pos h4.z
      have e8 : mUt8 B n S F L = mGo B n (mAmb (mUtS2 B n S F L) li (mRh B (mUt5 B n S F L)).2 (mU S) 0 (mRh B (mUt5 B n S F L)).1) := by
        unfold mUt8 mUt7
        rw [r4, e6, eY]
      rw [eF]
      refine h4.userC (S2 := mUtS2 B n S F L) (fun v hv => s2l v 0 hv (by omega)) (fun v hv => s2l v 1 hv (by omega)) e8 (fun j j1 j2 j3 a20 a16 τ hτ => ?_)
      have zA : mUtA B n S F L 20 = 0 := by
        unfold mUtA
        rw [mGo_20]
        have e9 : mUt9 B n S F L = mNbF B n (mUt8 B n S F L) 0 9 := rfl
        rw [e9, if_pos a16, mWr_z]
        exact a20
      have eS : mUtS B n S F L = upd (mUtS4 B n S F L) 4 (nI (mU S + 1)) := by
        unfold mUtS
        rw [if_pos lt3, if_pos zA]
      rw [← eY] at j1
      have f : ∀ k, k ≠ 4 → mUtS B n S F L k = mUtS4 B n S F L k := fun k hk => by rw [eS, upd_ne hk]
      have g0 : sU (mUtS B n S F L) 0 (mU S) = li := by
        rw [sU, f _ (by omega)]
        unfold mUtS4
        rw [upd_ne (by omega), upd_ne (by omega), upd_ne (by omega), upd_at, r4]
      have g1 : sU (mUtS B n S F L) 1 (mU S) = nI j := by
        rw [sU, f _ (by omega)]
        unfold mUtS4
        rw [upd_ne (by omega), upd_ne (by omega), upd_at, j1]
      have g2 : sU (mUtS B n S F L) 2 (mU S) = mNbV (mUt8 B n S F L) 0 9 := by
        rw [sU, f _ (by omega)]
        unfold mUtS4
        rw [upd_ne (by omega), upd_at]
        rfl
      have g3 : sU (mUtS B n S F L) 3 (mU S) = 0 := by
        rw [sU, f _ (by omega)]
        unfold mUtS4
        rw [upd_ne (by omega), upd_ne (by omega), upd_ne (by omega), upd_ne (by omega), mUtS2_o lt3 (by omega)]
        exact hz.2 _ (Nat.le_refl _) hu
      have g4 : sU (mUtS B n S F L) 4 (mU S) = xbit (nI (mU S)) := by
        rw [sU, f _ (by omega)]
        unfold mUtS4
        rw [upd_at]
        unfold xbit
        rw [if_pos (nI_pos' (n31 (by omega)))]
      have g5 : ∀ w, 5 ≤ w → w < 12 → sU (mUtS B n S F L) w (mU S) = sU (mUtS2 B n S F L) w (mU S) := fun w w1 w2 => by
        rw [sU, f _ (by omega)]
        unfold mUtS4
        rw [upd_ne (by omega), upd_ne (by omega), upd_ne (by omega), upd_ne (by omega)]
      have g5n : cN (sU (mUtS B n S F L) 5 (mU S)) = p2 - sT σ1 n p1 := by rw [g5 5 (by omega) (by omega), s5, cN, nI_clamp (n31 (by omega))]
      refine hτ.sub hu hz.1 (fun k k4 hk => by rw [f k k4]; exact mUtS4_o lt3 hk) (by rw [eS, upd_at]) g0 g1 g2 g3 g4 ?_ ⟨?_, ?_, ?_, ?_⟩ ?_ (xok_nI j3)
      · rw [q3]
        unfold mName
        rw [g5n]
        refine xnm_cg (fun i hi => ?_)
        by_cases z : i < p2 - sT σ1 n p1
        · rw [if_pos z, if_pos z, g5 (6 + i) (by omega) (by omega), s6 i z]
        · rw [if_neg z, if_neg z]
      · rw [g0]
        have : mL (mUtS B n S F L) = mL S := by rw [mL, mL, f 1 (by decide), mUtS4_o lt3 (by omega)]
        rw [this]
        exact hli
      · rw [g1, cN, nI_clamp (n31 (by omega))]; exact j2
      · rw [g5n]; have := w.2; omega
      · intro i hi
        rw [g5n] at hi
        rw [g5 (6 + i) (by omega) (by omega), s6 i hi]
        exact w.1 i hi
      · rw [g5 5 (by omega) (by omega), s5]
        exact xok_nI (by omega)
    · rw [if_pos r1, eF]
      have he : ER (rNum σ2 n p2 0 (S 1 - 1)).2 (mUt5 B n S F L) := r2
      have a6 : mUt6 B n S F L = mUt5 B n S F L := if_neg he.d
      have a7 : mUt7 B n S F L = mUt5 B n S F L := by unfold mUt7; rw [a6, amb_dead he.d]
      have a8 : mUt8 B n S F L = mUt5 B n S F L := by unfold mUt8; rw [a7, mGo_dead he.d]
      have a9 : mUt9 B n S F L = mUt5 B n S F L := by unfold mUt9; rw [a8, nbF_dead he.d]
      have aA : mUtA B n S F L = mUt5 B n S F L := by unfold mUtA; rw [a9, mWr_dead he.d, mGo_dead he.d]
      rw [aA]
      exact OT.no he
  · rw [if_pos q1]
    have he : ER (rNew σ1 n p1 (mU S)).2 (mUt3 B n S F L) := by
      unfold mUt3
      rw [e2, eL]
      exact q2
    unfold mUtF
    rw [if_neg he.d]
    exact OT.no he
end LOADS

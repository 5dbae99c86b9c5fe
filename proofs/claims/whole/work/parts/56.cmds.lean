/-! THE TWO READERS: commands -/
theorem nbF_dead {B F : Nat → Int32} {n : Nat} {lo hi : Int32} (h : ¬ F 20 = 0) : mNbF B n F lo hi = F := by
  unfold mNbF mNb0
  rw [mWr_dead (F := F) h, mWr_dead h, mGo_dead h]
theorem en_dead {F : Nat → Int32} {b q : Int32} (h : ¬ F 20 = 0) : mEn F b q = F := by
  unfold mEn
  rw [mWr_dead (F := F) h, mWr_dead h]
theorem is_dead {B F : Nat → Int32} {q : Nat} (h : ¬ F 20 = 0) : mIs B F q = 0 := if_neg (fun z => h z.1)
theorem ur_dead {B F : Nat → Int32} {n : Nat} (h : ¬ F 20 = 0) : mUrF B n F = F := if_pos (is_dead h)
theorem ceR_dead {B S F L : Nat → Int32} {n : Nat} {x y t : Int32} (h : ¬ F 20 = 0) : mCeR B n S F L x y t = (S, F, L) := by
  unfold mCeR mCe
  rw [ur_dead h, en_dead h, if_neg h]
theorem nhF_dead {F : Nat → Int32} (h : ¬ F 20 = 0) : mNhF F = F := by
  have e : mNhW F = F := mWr_dead h
  unfold mNhF
  rw [e, if_neg h]
theorem uhF_dead {B S F L : Nat → Int32} {n : Nat} {x : Int32} (h : ¬ F 20 = 0) : mUhF B n S F L x = F := by
  unfold mUhF mUh0
  rw [nhF_dead h, mWr_dead h, mGo_dead h]
theorem rng_ok {v : Int32} {k : Nat} (hk : k ≤ 1000000) (h1 : 0 ≤ v) (h2 : v ≤ nI k - 1) : xok v k := by
  have := mIn_ok (x := v) hk
  unfold mIn at this
  rw [if_pos ⟨h1, h2⟩] at this
  exact Classical.byContradiction (fun q => by rw [if_neg q] at this; exact absurd this (by decide))
theorem hi_ok : ∀ k, k ≤ 40 → nI k - 1 < 1000000 := by decide +kernel
theorem xmin_hi {y : Int32} : xmin 9999 y < 1000000 := by
  unfold xmin
  by_cases g : y < 9999
  · rw [if_pos g]; exact Int32.lt_trans g (by decide)
  · rw [if_neg g]; decide
theorem ge0_m1 {v : Int32} (h : 0 ≤ v) : ¬ v = -1 := fun q => by rw [q] at h; exact absurd h (by decide)
theorem ge1_m1 {v : Int32} (h : 1 ≤ v) : ¬ v = -1 := fun q => by rw [q] at h; exact absurd h (by decide)
/-- the outcomes of the two readers -/
def OT (n : Nat) (B : Nat → Int32) (r : RR) (S F : Nat → Int32) : Prop := (¬ r.1 = 0 ∧ RT r.2.1 n r.2.2 B S F) ∨ (r.1 = 0 ∧ ER r.2.1 F)
theorem OT.no {n p : Nat} {B S F : Nat → Int32} {τ : XS} (h : ER τ F) : OT n B (0, τ, p) S F := Or.inr ⟨rfl, h⟩
theorem OT.ye {n p : Nat} {B S F : Nat → Int32} {τ : XS} (h : RT τ n p B S F) : OT n B (1, τ, p) S F := Or.inl ⟨show ¬ (1 : Int32) = 0 by decide, h⟩
section CMDS
variable {σ : XS} {n p : Nat} {B S F L : Nat → Int32}
/-- a command's end: the board changes, on to the next token -/
theorem RT.step (h : RT σ n p B S F) {τ : XS} {S1 G : Nat → Int32} (hf : Fr 1 σ τ) (h1 : τ.1 (.inr 1) = σ.1 (.inr 1)) (h2 : τ.1 (.inr 2) = σ.1 (.inr 2)) (hb : RB τ 1 S1) (hG : G = F ∨ ∃ v, G = upd F 21 v) : RT (fA τ n p) n (eT σ n p) B S1 (mGo B n G) := by
  have h3 : τ.1 (.inr 3) = σ.1 (.inr 3) := hf.1 _ (by simp) (by simp) (by simp)
  have hb1 := h.bd hf h1 h2 hb
  have e : eT τ n p = eT σ n p := by unfold eT; rw [h3]
  rw [← e]
  rcases hG with rfl | ⟨v, rfl⟩
  · rw [hb1.kz]; exact hb1.adv
  · have := hb1.u21 (v := v)
    rw [this.kz]; exact this.adv
theorem RT.ce1 (h : RT σ n p B S F) {x y t u : Int32} (hx1 : xok x (mU S)) (hyt : (t = -1 ∧ xok y (mU S)) ∨ (y = -1 ∧ xok t (mT S))) (hu : u = 0 ∨ u = 1) {L : Nat → Int32} {r : MR} (hr : r = if mEn F (if S 5 < 40 then 1 else 0) 6 20 = 0 then (mReq S x y t u, upd (mEn F (if S 5 < 40 then 1 else 0) 6) 21 (nI (mK S)), L) else (S, mEn F (if S 5 < 40 then 1 else 0) 6, L)) : OT n B (rReq1 σ n p x y t u) r.1 (mGo B n r.2.1) := by
  have hx := h.b.x
  have hk : S 5 < 40 ↔ mK S < 40 := by
    rw [hx.i.k, show (40 : Int32) = nI 40 from rfl]
    exact nI_ltI (n31 (by have := hx.i.k40; omega)) (n31 (by decide))
  unfold rReq1
  rw [h.b.nc, h.b.nu]
  by_cases g : kT σ n p = 3
  · rw [if_pos g]
    by_cases g2 : mK S < 40
    · rw [if_pos (hk.mpr g2), h.en1 g (by decide), if_pos h.z] at hr
      rw [if_pos g2, hr]
      have hq := h.b.req g2 hx1 hyt hu
      exact OT.ye (h.step (Fr.req hu) uReq_in uReq_in hq (Or.inr ⟨_, rfl⟩))
    · have he := h.err 6
      rw [if_neg (fun q => g2 (hk.mp q)), h.en0 g, if_neg he.d] at hr
      rw [if_neg g2, hr]
      refine OT.no ?_
      rw [mGo_dead he.d]
      exact he
  · have he := h.err 1
    rw [h.enE g, if_neg he.d] at hr
    rw [if_neg g, hr]
    refine OT.no ?_
    rw [mGo_dead he.d]
    exact he
theorem RT.ce (h : RT σ n p B S F) {x y t : Int32} (hx1 : xok x (mU S)) (hyt : (t = -1 ∧ xok y (mU S)) ∨ (y = -1 ∧ xok t (mT S))) (L : Nat → Int32) : OT n B (rReq σ n p x y t) (mCeR B n S F L x y t).1 (mGo B n (mCeR B n S F L x y t).2.1) := by
  have hw := h.is (q := 7) (by decide)
  unfold rReq rUrg
  unfold mCeR mCe mUrF mUrV
  rw [hw]
  by_cases g : mIs B F 7 = 0
  · rw [if_pos g, if_pos g, if_pos g, g]
    exact h.ce1 hx1 hyt (Or.inl rfl) rfl
  · rw [if_neg g, if_neg g, if_neg g]
    have e1 : mIs B F 7 = 1 := by
      have := rIsW_01 σ n p 7
      rw [hw] at this
      exact this.resolve_left g
    rw [e1, h.kz]
    exact h.adv.ce1 hx1 hyt (Or.inr rfl) rfl
theorem RT.call (h : RT σ n p B S (mGo B n F)) (L : Nat → Int32) : OT n B (rCall1 σ n p) (mCa B n S F L).1 (mGo B n (mCa B n S F L).2.1) := by
  unfold rCall1
  rw [h.b.nu]
  have e1 : mCa1 B n S F L = mUhF B n S (mGo B n F) L (-1) := rfl
  have eX : mCaX B n S F L = mUhV B S (mGo B n F) L := rfl
  rcases h.known L (-1) with ⟨v, q1, q2, -, q4, q5, q6, q7⟩ | ⟨q1, q2⟩
  · have h2 := (h.u15 (v := nI (eT σ n p - sT σ n p))).adv
    rw [← q6] at h2
    unfold mCa
    rw [eX, e1, if_pos q7, q5, q1]
    dsimp only
    rw [if_neg q2]
    rcases h2.known (mCaL B n F L) v with ⟨w, r1, r2, r3, r4, r5, r6, r7⟩ | ⟨r1, r2⟩
    · have h3 := (h2.u15 (v := nI (eT (fA σ n p) n (eT σ n p) - sT (fA σ n p) n (eT σ n p)))).adv
      rw [← r6] at h3
      rw [r1, r5]
      dsimp only
      rw [if_neg r2]
      exact h3.ce q4 (Or.inl ⟨rfl, r4⟩) _
    · rw [if_pos r1, ceR_dead r2.d]
      refine OT.no ?_
      rw [mGo_dead r2.d]
      exact r2
  · unfold mCa
    rw [if_pos q1, e1, if_neg q2.d, ceR_dead q2.d]
    refine OT.no ?_
    rw [mGo_dead q2.d]
    exact q2
theorem RT.trk (h : RT σ n p B S (mGo B n F)) (L : Nat → Int32) : OT n B (rTrk1 σ n p) (mTr B n S F L).1 (mGo B n (mTr B n S F L).2.1) := by
  unfold rTrk1
  rw [h.b.nu]
  have hx := h.b.x
  have t4 := hx.i.t4
  have e1 : mCa1 B n S F L = mUhF B n S (mGo B n F) L (-1) := rfl
  have eX : mCaX B n S F L = mUhV B S (mGo B n F) L := rfl
  have e3 : σ.1 (.inl (1, 0)) 6 = S 3 := h.b.s.2.2.2.1
  have hhi : S 3 - 1 < 1000000 := by rw [hx.i.t]; exact hi_ok _ (by omega)
  unfold mTr
  rw [eX, e1, e3]
  rcases h.known L (-1) with ⟨v, q1, q2, -, q4, q5, q6, q7⟩ | ⟨q1, q2⟩
  · have h2 := (h.u15 (v := nI (eT σ n p - sT σ n p))).adv
    rw [← q6] at h2
    rw [q5, q1]
    dsimp only
    rw [if_neg q2]
    rcases h2.num (lo := 0) (hi := S 3 - 1) hhi with ⟨w, r1, r2, r3, r4, r5⟩ | ⟨r1, r2⟩
    · have h3 := h2.adv
      rw [← r5] at h3
      rw [r1, r4]
      dsimp only
      rw [if_neg (ge0_m1 r2)]
      refine h3.ce q4 (Or.inr ⟨rfl, ?_⟩) _
      rw [hx.i.t] at r3
      exact rng_ok (by omega) r2 r3
    · rw [if_pos r1, ceR_dead r2.d]
      refine OT.no ?_
      rw [mGo_dead r2.d]
      exact r2
  · rw [if_pos q1, nbF_dead q2.d, ceR_dead q2.d]
    refine OT.no ?_
    rw [mGo_dead q2.d]
    exact q2
theorem RT.end_ (h : RT σ n p B S (mGo B n F)) (L : Nat → Int32) : OT n B (rEnd1 σ n p) (mEd B n S F L).1 (mGo B n (mEd B n S F L).2.1) := by
  have hx := h.b.x
  have k40 := hx.i.k40
  have ek : cN (nI (mK S)) = mK S := nI_clamp (n31 (by omega))
  have e3 : σ.1 (.inl (1, 8)) 10 = S 5 := h.b.s.2.2.2.2.2
  have hhi : S 5 - 1 < 1000000 := by rw [hx.i.k]; exact hi_ok _ (by omega)
  unfold rEnd1 rEndN mEd
  rw [e3]
  have e1 : mEd1 B n S F = mNbF B n (mGo B n F) 0 (S 5 - 1) := rfl
  have eC : mEdC B n S F = mNbV (mGo B n F) 0 (S 5 - 1) := rfl
  unfold mEd2
  rw [e1, eC]
  rcases h.num (lo := 0) (hi := S 5 - 1) hhi with ⟨w, r1, r2, r3, r4, r5⟩ | ⟨r1, r2⟩
  · have h3 := h.adv
    rw [← r5] at h3
    rw [r1, r4]
    dsimp only
    rw [if_neg (ge0_m1 r2)]
    have hw : xok w (mK S) := by
      rw [hx.i.k] at r3
      exact rng_ok (by omega) r2 r3
    have hwc := xok_c hw (by omega)
    have hj : cN w < mK S := hwc.1
    have hs := (h3.b.c hj).1
    have hX := (hx.c hj).1
    unfold rEnd2
    rw [h3.b.nu, h3.b.nc, h3.b.nt, hs]
    by_cases g : kT (fA σ n p) n (eT σ n p) = 3
    · rw [if_pos g]
      by_cases g2 : sC S 4 (cN w) = 2 ∨ sC S 4 (cN w) = 3
      · have g3 : 2 ≤ sC S 4 (cN w) := by rcases g2 with e | e <;> rw [e] <;> decide
        have he := h3.err 7
        rw [if_pos g2, if_pos (c := mNbF B n (mGo B n F) 0 (S 5 - 1) 20 = 0 ∧ 2 ≤ sC S 4 (cN w)) ⟨h3.z, g3⟩, h3.en0 g, if_neg he.d]
        refine OT.no ?_
        rw [mGo_dead he.d]
        exact he
      · have g3 : ¬ 2 ≤ sC S 4 (cN w) := by
          rcases hX with e | e | e | e
          · rw [e]; decide
          · rw [e]; decide
          · exact absurd (Or.inl e) g2
          · exact absurd (Or.inr e) g2
        have g4 : sC S 4 (cN w) = 0 ∨ sC S 4 (cN w) = 1 := by
          rcases hX with e | e | e | e
          · exact Or.inl e
          · exact Or.inr e
          · exact absurd (Or.inl e) g2
          · exact absurd (Or.inr e) g2
        rw [if_neg g2, if_neg (c := mNbF B n (mGo B n F) 0 (S 5 - 1) 20 = 0 ∧ 2 ≤ sC S 4 (cN w)) (fun q => g3 q.2), h3.en1 g (by decide), if_pos h3.z]
        have hq := h3.b.fin hj g4
        exact OT.ye (h3.step Fr.finB (uFinB_o (by simp) (by simp) (by simp) (by simp) (by simp) (by simp)) (uFinB_o (by simp) (by simp) (by simp) (by simp) (by simp) (by simp)) hq.1 (Or.inr ⟨_, rfl⟩))
    · have he := h3.err 1
      rw [if_neg g, h3.enE g, if_neg he.d]
      refine OT.no ?_
      rw [mGo_dead he.d]
      exact he
  · rw [if_pos r1, en_dead r2.d, if_neg r2.d]
    refine OT.no ?_
    rw [mGo_dead r2.d]
    exact r2
theorem RT.sem (h : RT σ n p B S F) {τ : XS} {S1 L : Nat → Int32} {r : MR} (hf : Fr 1 σ τ) (h1 : τ.1 (.inr 1) = σ.1 (.inr 1)) (h2 : τ.1 (.inr 2) = σ.1 (.inr 2)) (hb : RB τ 1 S1) {v : Int32} (hr : r = if mEn F 1 1 20 = 0 then (S1, upd (mEn F 1 1) 21 v, L) else (S, mEn F 1 1, L)) : OT n B (rSem σ n p τ) r.1 (mGo B n r.2.1) := by
  unfold rSem
  by_cases g : kT σ n p = 3
  · rw [h.en1 g (by decide), if_pos h.z] at hr
    rw [if_pos g, hr]
    exact OT.ye (h.step hf h1 h2 hb (Or.inr ⟨_, rfl⟩))
  · have he := h.err 1
    rw [h.enE g, if_neg he.d] at hr
    rw [if_neg g, hr]
    refine OT.no ?_
    rw [mGo_dead he.d]
    exact he
theorem RT.wait_ (h : RT σ n p B S (mGo B n F)) (L : Nat → Int32) : OT n B (rWait1 σ n p) (mWa B n S F L).1 (mGo B n (mWa B n S F L).2.1) := by
  have e3 : σ.1 (.inl (1, 0)) 3 = S 0 := h.b.s.1
  have e1 : mWa1 B n S F = mEn (mNbF B n (mGo B n F) 1 (xmin 9999 (999999 - S 0))) 1 1 := rfl
  have eV : mWaV B n S F = mNbV (mGo B n F) 1 (xmin 9999 (999999 - S 0)) := rfl
  unfold rWait1 rWaitN
  rw [e3]
  rcases h.num (lo := 1) (hi := xmin 9999 (999999 - S 0)) xmin_hi with ⟨w, r1, r2, r3, r4, r5⟩ | ⟨r1, r2⟩
  · have h3 := h.adv
    rw [← r5] at h3
    rw [r1]
    dsimp only
    rw [if_neg (ge1_m1 r2)]
    refine h3.sem (v := S 0 + w) (L := L) (Fr.xu (k := 0) (by decide) (by decide)) (xu_ne _ _ _ (by simp)) (xu_ne _ _ _ (by simp)) h3.b.clk ?_
    unfold mWa
    rw [e1, eV, r4]
  · unfold mWa
    rw [if_pos r1, e1, en_dead r2.d, if_neg r2.d]
    refine OT.no ?_
    rw [mGo_dead r2.d]
    exact r2
theorem RT.mood_ (h : RT σ n p B S (mMo1 B n F)) (L : Nat → Int32) : OT n B (rMood1 σ n p) (mMo B n S F L).1 (mGo B n (mMo B n S F L).2.1) := by
  have e2 : mMo2 B n S F L = mUhF B n S (mMo1 B n F) L (-1) := if_pos h.z
  have eX : mMoX B n S F L = mUhV B S (mMo1 B n F) L := if_pos h.z
  have eV : mMoV B n S F L = mNbV (mMo2 B n S F L) 0 9 := rfl
  have e3 : mMo3 B n S F L = mEn (mNbF B n (mMo2 B n S F L) 0 9) 1 1 := rfl
  unfold rMood1
  rw [h.b.nu]
  rcases h.known L (-1) with ⟨v, q1, q2, -, q4, q5, q6, q7⟩ | ⟨q1, q2⟩
  · have h2 := (h.u15 (v := nI (eT σ n p - sT σ n p))).adv
    rw [← q6, ← e2] at h2
    rw [q5] at eX
    rw [q1]
    dsimp only
    rw [if_neg q2]
    rcases h2.num (lo := 0) (hi := 9) (by decide) with ⟨w, r1, r2, r3, r4, r5⟩ | ⟨r1, r2⟩
    · have h3 := h2.adv
      rw [← r5] at h3
      rw [r1]
      dsimp only
      rw [if_neg (ge0_m1 r2)]
      refine h3.sem (v := sU S 2 (cN v)) (L := mMoL B n F L) (Fr.xu (k := 5) (by decide) (by decide)) (xu_ne _ _ _ (by simp)) (xu_ne _ _ _ (by simp)) (h3.b.mood (u := cN v) (v := w) (xok_c q4 (by have := h.b.x.i.u15; omega)).1) ?_
      unfold mMo
      rw [e3, eX, eV, r4]
    · unfold mMo
      rw [if_pos r1, e3, en_dead r2.d, if_neg r2.d]
      refine OT.no ?_
      rw [mGo_dead r2.d]
      exact r2
  · unfold mMo
    rw [← e2] at q2
    rw [if_pos q1, e3, nbF_dead q2.d, en_dead q2.d, if_neg q2.d]
    refine OT.no ?_
    rw [mGo_dead q2.d]
    exact q2
/-- a command -/
theorem RT.cmd (h : RT σ n p B S F) (L : Nat → Int32) : OT n B (rCmd σ n p) (mCm B n (S, F, L)).1 (mCm B n (S, F, L)).2.1 := by
  show OT n B (rCmd σ n p) (mCm0 B n S F L).1 (mGo B n (mCm0 B n S F L).2.1)
  have ha : RT (fA σ n p) n (eT σ n p) B S (mGo B n F) := by rw [h.kz]; exact h.adv
  unfold rCmd mCm0
  rw [h.is (q := 3) (by decide), h.is (q := 1) (by decide), h.is (q := 4) (by decide), h.is (q := 5) (by decide), h.is (q := 6) (by decide)]
  by_cases g3 : mIs B F 3 = 0
  · rw [if_pos g3, if_pos g3]
    by_cases g1 : mIs B F 1 = 0
    · rw [if_pos g1, if_pos g1]
      by_cases g4 : mIs B F 4 = 0
      · rw [if_pos g4, if_pos g4]
        by_cases g5 : mIs B F 5 = 0
        · rw [if_pos g5, if_pos g5]
          by_cases g6 : mIs B F 6 = 0
          · have he := h.err 1
            have e1 : mMo1 B n F = mWr F 1 1 := by
              unfold mMo1
              rw [if_pos g6, mGo_dead he.d]
            have e2 : mMo2 B n S F L = mWr F 1 1 := by
              unfold mMo2
              rw [e1, if_neg he.d]
            have e3 : mMo3 B n S F L = mWr F 1 1 := by
              unfold mMo3
              rw [e2, nbF_dead he.d, en_dead he.d]
            unfold mMo
            rw [if_pos g6, e3, if_neg he.d]
            refine OT.no ?_
            rw [mGo_dead he.d]
            exact he
          · rw [if_neg g6]
            refine RT.mood_ ?_ L
            unfold mMo1
            rw [if_neg g6, mWr_z]
            exact ha
        · rw [if_neg g5, if_neg g5]
          exact ha.wait_ L
      · rw [if_neg g4, if_neg g4]
        exact ha.end_ L
    · rw [if_neg g1, if_neg g1]
      exact ha.trk L
  · rw [if_neg g3, if_neg g3]
    exact ha.call L
/-- the commands to the text's end -/
theorem RT.cmds : ∀ (k : Nat) (σ : XS) (p c : Nat) (r : MR), RT σ n p B r.1 r.2.1 → ((rCmds n k σ p c).1 = nI (mCs B n k r c).2 ∧ (mCs B n k r c).2 ≤ c + k ∧ (mCs B n k r c).1.2.1 20 = 0 ∧ RB (rCmds n k σ p c).2 1 (mCs B n k r c).1.1 ∧ (mCs B n k r c).1.2.1 12 = (rCmds n k σ p c).2.1 (.inr 1) 2 ∧ (mCs B n k r c).1.2.1 13 = (rCmds n k σ p c).2.1 (.inr 1) 3) ∨ ((rCmds n k σ p c).1 = -1 ∧ ER (rCmds n k σ p c).2 (mCs B n k r c).1.2.1)
  | 0, σ, p, c, r, h => Or.inl ⟨rfl, Nat.le_refl _, h.z, h.b, h.f.2.2.2.2.2.2.1, h.f.2.2.2.2.2.2.2⟩
  | k + 1, σ, p, c, r, h => by
    unfold rCmds
    by_cases g : kT σ n p = 0
    · rw [if_pos g, mCs_n (fun q => q.2 (by rw [h.k]; exact g))]
      exact Or.inl ⟨rfl, Nat.le_add_right _ _, h.z, h.b, h.f.2.2.2.2.2.2.1, h.f.2.2.2.2.2.2.2⟩
    · rw [if_neg g, mCs_y h.z (by rw [h.k]; exact g)]
      rcases h.cmd r.2.2 with ⟨q1, q2⟩ | ⟨q1, q2⟩
      · rw [if_neg q1]
        have ih := RT.cmds k (rCmd σ n p).2.1 (rCmd σ n p).2.2 (c + 1) (mCm B n r) q2
        rcases ih with ⟨a, b, d⟩ | ih
        · exact Or.inl ⟨a, by omega, d⟩
        · exact Or.inr ih
      · have q3 : ER (rCmd σ n p).2.1 (mCm B n r).2.1 := q2
        rw [if_pos q1, mCs_n (fun q => q3.d q.1)]
        exact Or.inr ⟨rfl, q3⟩
end CMDS

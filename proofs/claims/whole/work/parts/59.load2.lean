/-! THE TWO READERS: load and play -/
theorem mTs_dead {B S F : Nat → Int32} {n : Nat} (h : ¬ F 20 = 0) : ∀ k, mTs B n k S F = (S, F)
  | 0 => rfl
  | k + 1 => if_pos (is_dead h)
theorem mUs_dead {B : Nat → Int32} {n : Nat} {r : MR} (h : ¬ r.2.1 20 = 0) : ∀ k, mUs B n k r = r
  | 0 => rfl
  | k + 1 => if_pos (is_dead h)
theorem mReq_4 {S : Nat → Int32} {x y t u : Int32} : mReq S x y t u 4 = S 4 := by
  unfold mReq
  split
  · rw [mStart_o (fun j => by omega) (by omega) (by omega) (by omega) (by omega), mReq0_o (by decide) (by omega)]
  · rw [mReq0_o (by decide) (by omega)]
theorem mWait_4 {S : Nat → Int32} {u : Int32} : ∀ k, (mWait S u k).1 4 = S 4
  | 0 => rfl
  | k + 1 => by
    unfold mWait
    split
    · show mStart _ k 4 = _
      rw [mStart_o (fun j => by omega) (by omega) (by omega) (by omega) (by omega), mWait_4 k]
    · exact mWait_4 k
theorem mFin_4 {S : Nat → Int32} {c : Nat} : (mFin S c).1 4 = S 4 := by
  unfold mFin mWaits
  dsimp only
  rw [mWait_4, mWait_4, mFin0_o (by omega) (by omega) (by omega)]
theorem mCeR_4 {B S F L : Nat → Int32} {n : Nat} {x y t : Int32} : (mCeR B n S F L x y t).1 4 = S 4 := by
  unfold mCeR
  by_cases g : mCe B n S F 20 = 0
  · rw [if_pos g]
    dsimp only
    exact mReq_4
  · rw [if_neg g]
theorem mEd_4 {B S F L : Nat → Int32} {n : Nat} : (mEd B n S F L).1 4 = S 4 := by
  unfold mEd
  by_cases g : mEd2 B n S F 20 = 0
  · rw [if_pos g]
    dsimp only
    exact mFin_4
  · rw [if_neg g]
theorem mWa_4 {B S F L : Nat → Int32} {n : Nat} : (mWa B n S F L).1 4 = S 4 := by
  unfold mWa
  by_cases g : mWa1 B n S F 20 = 0
  · rw [if_pos g]
    dsimp only
    rw [upd_ne (by decide)]
  · rw [if_neg g]
theorem mMo_4 {B S F L : Nat → Int32} {n : Nat} : (mMo B n S F L).1 4 = S 4 := by
  unfold mMo
  by_cases g : mMo3 B n S F L 20 = 0
  · rw [if_pos g]
    dsimp only
    rw [upd_ne (by omega)]
  · rw [if_neg g]
theorem mCa_4 {B S F L : Nat → Int32} {n : Nat} : (mCa B n S F L).1 4 = S 4 := by
  unfold mCa
  by_cases g : mCa1 B n S F L 20 = 0
  · rw [if_pos g]; exact mCeR_4
  · rw [if_neg g]; exact mCeR_4
theorem mCm0_4 {B S F L : Nat → Int32} {n : Nat} : (mCm0 B n S F L).1 4 = S 4 := by
  unfold mCm0
  by_cases g3 : mIs B F 3 = 0
  · rw [if_pos g3]
    by_cases g1 : mIs B F 1 = 0
    · rw [if_pos g1]
      by_cases g4 : mIs B F 4 = 0
      · rw [if_pos g4]
        by_cases g5 : mIs B F 5 = 0
        · rw [if_pos g5]; exact mMo_4
        · rw [if_neg g5]; exact mWa_4
      · rw [if_neg g4]; exact mEd_4
    · rw [if_neg g1]
      unfold mTr
      exact mCeR_4
  · rw [if_neg g3]; exact mCa_4
theorem mCs_4 {B : Nat → Int32} {n : Nat} : ∀ (k : Nat) (r : MR) (c : Nat), (mCs B n k r c).1.1 4 = r.1 4
  | 0, r, c => rfl
  | k + 1, r, c => by
    by_cases g : r.2.1 20 = 0 ∧ ¬ r.2.1 16 = 0
    · rw [mCs_y g.1 g.2, mCs_4 k]
      unfold mCm
      dsimp only
      exact mCm0_4
    · rw [mCs_n g]
section LOAD2
variable {σ : XS} {n p : Nat} {B S F L : Nat → Int32}
theorem ZB.trk (hz : ZB S) (ht : mT S < 4) {v w : Int32} : ZB (upd (upd S (6 + mT S) v) 3 w) := by
  have e : ∀ k, k ≠ 3 → k ≠ 6 + mT S → upd (upd S (6 + mT S) v) 3 w k = S k := fun k h1 h2 => by rw [upd_ne h1, upd_ne h2]
  refine ⟨by rw [mK, e 5 (by decide) (by omega)]; exact hz.1, fun u h1 h2 => ?_⟩
  rw [mU, e 4 (by decide) (by omega)] at h1
  rw [sU, e _ (by omega) (by omega)]
  exact hz.2 u h1 h2
theorem n3_4 (hM : MI S) : S 3 = 4 ↔ mT S = 4 := by
  have h := hM.t
  have h4 := hM.t4
  constructor
  · intro q
    rw [h, show (4 : Int32) = nI 4 from rfl] at q
    exact neq q
  · intro q
    rw [h, q]
    rfl
/-- a trunk -/
theorem RT.tol (h : RT σ n p B S F) (hz : ZB S) (ht : mT S < 4) : OT n B (rTol σ n p (mT S)) (mTtS B n S F) (mTtF B n S F) ∧ (¬ (rTol σ n p (mT S)).1 = 0 → ZB (mTtS B n S F) ∧ mT (mTtS B n S F) = mT S + 1 ∧ mU (mTtS B n S F) = mU S) := by
  have hx := h.b.x
  have e1 : mTt1 B n S F = mNx1 B n F := by
    unfold mTt1
    rw [if_neg (fun q => by have := (n3_4 hx.i).mp q; omega), mWr_z, h.kz]
  have h1 := h.adv
  rw [← e1] at h1
  unfold rTol rTol1
  generalize hσ1 : fA σ n p = σ1 at h1 ⊢
  generalize hp1 : eT σ n p = p1 at h1 ⊢
  rcases h1.num (lo := 1) (hi := 99) (by decide) with ⟨v, t1, t2, t3, t4, t5⟩ | ⟨t1, t2⟩
  · have h2 := h1.adv
    rw [← t5] at h2
    rw [t1]
    dsimp only
    rw [if_neg (ge1_m1 t2)]
    unfold rSem
    by_cases g : kT (fA σ1 n p1) n (eT σ1 n p1) = 3
    · have eF : mTtF B n S F = mGo B n (mNbF B n (mTt1 B n S F) 1 99) := by
        unfold mTtF
        rw [h2.semi g, mWr_z]
      have z : mTtF B n S F 20 = 0 := by rw [eF, mGo_20]; exact h2.z
      have eS : mTtS B n S F = upd (upd S (6 + mT S) v) 3 (nI (mT S + 1)) := by
        unfold mTtS
        rw [if_pos z, t4]
      rw [if_pos g, eF, eS]
      have hb := h2.b.trk ht hz.1 (v := v)
      refine ⟨OT.ye (h2.step Fr.trunk ?_ ?_ hb (Or.inl rfl)), fun _ => ⟨hz.trk ht, ?_, ?_⟩⟩
      · unfold uTrunk
        rw [xu_ne _ _ _ (by simp), xu_ne _ _ _ (by simp)]
      · unfold uTrunk
        rw [xu_ne _ _ _ (by simp), xu_ne _ _ _ (by simp)]
      · rw [mT, upd_at, cN, nI_clamp (n31 (by omega))]
      · rw [mU, mU, upd_ne (by decide), upd_ne (by omega)]
    · have he := h2.err 1
      have eF : mTtF B n S F = mWr (mNbF B n (mTt1 B n S F) 1 99) 1 1 := by
        unfold mTtF
        rw [h2.semiE g, mGo_dead he.d]
      rw [if_neg g, eF]
      exact ⟨OT.no he, fun q => absurd rfl q⟩
  · have eF : mTtF B n S F = mNbF B n (mTt1 B n S F) 1 99 := by
      unfold mTtF
      rw [mWr_dead t2.d, mGo_dead t2.d]
    rw [if_pos t1, eF]
    exact ⟨OT.no t2, fun q => absurd rfl q⟩
theorem mTs_s {B S F : Nat → Int32} {n k : Nat} : mTs B n (k + 1) S F = if mIs B F 1 = 0 then (S, F) else mTs B n k (mTtS B n S F) (mTtF B n S F) := rfl
theorem rTols_s {σ : XS} {n k p i : Nat} : rTols n (k + 1) σ p i = if rIsW σ n p 1 = 0 then (1, σ, p) else if i = 4 then (0, fF σ n p 6, p) else if (rTol σ n p i).1 = 0 then (0, (rTol σ n p i).2.1, (rTol σ n p i).2.2) else rTols n k (rTol σ n p i).2.1 (rTol σ n p i).2.2 (i + 1) := rfl
theorem RT.tols (k : Nat) : ∀ (i : Nat) (σ : XS) (p : Nat) (S F : Nat → Int32), RT σ n p B S F → ZB S → mT S = i → i + k = 5 → OT n B (rTols n k σ p i) (mTs B n k S F).1 (mTs B n k S F).2 ∧ (¬ (rTols n k σ p i).1 = 0 → ZB (mTs B n k S F).1 ∧ mU (mTs B n k S F).1 = mU S) := by
  induction k with
  | zero => exact fun i σ p S F h hz hi hk => ⟨OT.ye h, fun _ => ⟨hz, rfl⟩⟩
  | succ k ih =>
    intro i σ p S F h hz hi hk
    rw [rTols_s, mTs_s, h.is (q := 1) (by decide)]
    by_cases g : mIs B F 1 = 0
    · rw [if_pos g, if_pos g]
      exact ⟨OT.ye h, fun _ => ⟨hz, rfl⟩⟩
    · rw [if_neg g, if_neg g]
      by_cases g4 : i = 4
      · rw [if_pos g4]
        have he := h.err 6
        have e1 : mTt1 B n S F = mWr F 1 6 := by
          unfold mTt1
          rw [if_pos ((n3_4 h.b.x.i).mpr (hi.trans g4)), mGo_dead he.d]
        have eF : mTtF B n S F = mWr F 1 6 := by
          unfold mTtF
          rw [e1, nbF_dead he.d, mWr_dead he.d, mGo_dead he.d]
        rw [eF, mTs_dead he.d]
        exact ⟨OT.no he, fun q => absurd rfl q⟩
      · rw [if_neg g4]
        have t4 := h.b.x.i.t4
        have ht : mT S < 4 := by omega
        have ha := h.tol hz ht
        rw [hi] at ha
        generalize rTol σ n p i = r at ha ⊢
        generalize mTtS B n S F = S1 at ha ⊢
        generalize mTtF B n S F = F1 at ha ⊢
        obtain ⟨a1, a2⟩ := ha
        rcases a1 with ⟨q1, q2⟩ | ⟨q1, q2⟩
        · rw [if_neg q1]
          obtain ⟨b1, b2, b3⟩ := a2 q1
          have ih := ih (i + 1) r.2.1 r.2.2 S1 F1 q2 b1 b2 (by omega)
          exact ⟨ih.1, fun q => ⟨(ih.2 q).1, (ih.2 q).2.trans b3⟩⟩
        · rw [if_pos q1, mTs_dead q2.d]
          exact ⟨OT.no q2, fun q => absurd rfl q⟩
theorem mUt_wrong (hF : F 20 = 0) {c : Int32} (h : mUt1 B n S F = mWr F 1 c) : mUtF B n S F L = mWr F 1 c := by
  have d : ¬ mWr F 1 c 20 = 0 := fun q => by
    rw [mWr_1 hF, upd_ne (by decide), upd_ne (by decide), upd_at] at q
    exact absurd q (by decide)
  have e2 : mUt2 B n S F = mWr F 1 c := by
    unfold mUt2
    rw [h, nhF_dead d]
  have e3 : mUt3 B n S F L = mWr F 1 c := by
    unfold mUt3
    rw [e2, mWr_dead d]
  unfold mUtF
  rw [e3, if_neg d]
theorem RT.userZ (h : RT σ n p B S F) (hz : ZB S) (hlive : mUtF B n S F L 20 = 0) : ZB (mUtS B n S F L) ∧ mU (mUtS B n S F L) = mU S + 1 := by
  have eU := mUtS_U h.b.x.i hlive
  have lt3 : mUt3 B n S F L 20 = 0 := by
    unfold mUtF at hlive
    by_cases g : mUt3 B n S F L 20 = 0
    · exact g
    · rw [if_neg g] at hlive; exact absurd hlive g
  have zA : mUtA B n S F L 20 = 0 := by
    unfold mUtF at hlive
    rw [if_pos lt3] at hlive
    exact hlive
  have eS : mUtS B n S F L = upd (mUtS4 B n S F L) 4 (nI (mU S + 1)) := by
    unfold mUtS
    rw [if_pos lt3, if_pos zA]
  have hu := mUt_lt h.b.x.i lt3
  refine ⟨⟨?_, fun u h1 h2 => ?_⟩, eU⟩
  · rw [mK, eS, upd_ne (by decide), mUtS4_o lt3 (by omega)]
    exact hz.1
  · rw [eU] at h1
    rw [sU, eS, upd_ne (by omega), mUtS4_o lt3 (by omega)]
    exact hz.2 u (by omega) h2
theorem mUs_s {B S F L : Nat → Int32} {n k : Nat} : mUs B n (k + 1) (S, F, L) = if mIs B F 2 = 0 then (S, F, L) else mUs B n k (mUtS B n S F L, mUtF B n S F L, mUtL B n S F L) := rfl
theorem rSubs_s {σ : XS} {n k p i : Nat} : rSubs n (k + 1) σ p i = if rIsW σ n p 2 = 0 then (1, σ, p) else if i = 15 then (0, fF σ n p 6, p) else if (rSub σ n p i).1 = 0 then (0, (rSub σ n p i).2.1, (rSub σ n p i).2.2) else rSubs n k (rSub σ n p i).2.1 (rSub σ n p i).2.2 (i + 1) := rfl
theorem mUs_deadT {B S F L : Nat → Int32} {n : Nat} (h : ¬ F 20 = 0) (k : Nat) : mUs B n k (S, F, L) = (S, F, L) := mUs_dead (r := (S, F, L)) h k
theorem RT.users (k : Nat) : ∀ (i : Nat) (σ : XS) (p : Nat) (S F L : Nat → Int32), RT σ n p B S F → ZB S → mU S = i → i + k = 16 → OT n B (rSubs n k σ p i) (mUs B n k (S, F, L)).1 (mUs B n k (S, F, L)).2.1 ∧ (¬ (rSubs n k σ p i).1 = 0 → i ≤ mU (mUs B n k (S, F, L)).1) := by
  induction k with
  | zero => exact fun i σ p S F L h hz hi hk => ⟨OT.ye h, fun _ => Nat.le_of_eq hi.symm⟩
  | succ k ih =>
    intro i σ p S F L h hz hi hk
    rw [rSubs_s, mUs_s, h.is (q := 2) (by decide)]
    by_cases g : mIs B F 2 = 0
    · rw [if_pos g, if_pos g]
      exact ⟨OT.ye h, fun _ => Nat.le_of_eq hi.symm⟩
    · rw [if_neg g, if_neg g]
      by_cases g15 : i = 15
      · rw [if_pos g15]
        have he := h.err 6
        have e4 : S 4 = 15 := by
          have := h.b.x.i.u
          rw [this, hi.trans g15]
          rfl
        have e1 : mUt1 B n S F = mWr F 1 6 := by
          unfold mUt1
          rw [if_neg g, mWr_z, if_pos e4, mGo_dead he.d]
        have eF := mUt_wrong (L := L) h.z e1
        rw [eF, mUs_deadT he.d]
        exact ⟨OT.no he, fun q => absurd rfl q⟩
      · rw [if_neg g15]
        have u15 := h.b.x.i.u15
        have hu : mU S < 15 := by omega
        have hs := h.user hz g hu L
        have hq := h.userZ (L := L) hz
        rw [hi] at hs
        generalize rSub σ n p i = r at hs ⊢
        generalize mUtS B n S F L = S1 at hs hq ⊢
        generalize mUtF B n S F L = F1 at hs hq ⊢
        generalize mUtL B n S F L = L1 at ⊢
        rcases hs with ⟨q1, q2⟩ | ⟨q1, q2⟩
        · rw [if_neg q1]
          obtain ⟨b1, b2⟩ := hq q2.z
          have ih := ih (i + 1) r.2.1 r.2.2 S1 F1 L1 q2 b1 (by rw [b2, hi]) (by omega)
          exact ⟨ih.1, fun q => by have := ih.2 q; omega⟩
        · rw [if_pos q1, mUs_deadT q2.d]
          exact ⟨OT.no q2, fun q => absurd rfl q⟩
/-- all subscribers -/
theorem RT.all (h : RT σ n p B S F) (hz : ZB S) (h0 : mU S = 0) (L : Nat → Int32) : OT n B (rUsers σ n p) (mUs B n 15 (mU1 B n (S, F, L))).1 (mUs B n 15 (mU1 B n (S, F, L))).2.1 ∧ (¬ (rUsers σ n p).1 = 0 → 1 ≤ mU (mUs B n 15 (mU1 B n (S, F, L))).1) := by
  have e1 : mU1 B n (S, F, L) = (mUtS B n S F L, mUtF B n S F L, mUtL B n S F L) := if_pos h.z
  have hw := h.is (q := 2) (by decide)
  have er : rUsers σ n p = if mIs B F 2 = 0 then (0, fF σ n p 1, p) else rSubs n 16 σ p 0 := by
    unfold rUsers
    rw [hw]
  rw [er, e1]
  by_cases g : mIs B F 2 = 0
  · rw [if_pos g]
    have he := h.err 1
    have e2 : mUt1 B n S F = mWr F 1 1 := by
      unfold mUt1
      rw [if_pos g, mWr_dead he.d, mGo_dead he.d]
    have eF := mUt_wrong (L := L) h.z e2
    rw [eF, mUs_deadT he.d]
    exact ⟨OT.no he, fun q => absurd rfl q⟩
  · rw [if_neg g, show (16 : Nat) = 15 + 1 from rfl, rSubs_s, hw, if_neg g, if_neg (by decide)]
    have hs := h.user hz g (by omega) L
    have hq := h.userZ (L := L) hz
    rw [h0] at hs
    generalize rSub σ n p 0 = r at hs ⊢
    generalize mUtS B n S F L = S1 at hs hq ⊢
    generalize mUtF B n S F L = F1 at hs hq ⊢
    generalize mUtL B n S F L = L1 at ⊢
    rcases hs with ⟨q1, q2⟩ | ⟨q1, q2⟩
    · rw [if_neg q1]
      obtain ⟨b1, b2⟩ := hq q2.z
      have ih := RT.users 15 1 r.2.1 r.2.2 S1 F1 L1 q2 b1 (by rw [b2, h0]) (by omega)
      exact ih
    · rw [if_pos q1, mUs_deadT q2.d]
      exact ⟨OT.no q2, fun q => absurd rfl q⟩
end LOAD2

/-! BOTH SIDES: sums, the list of calls -/
theorem shared_bt {st us : Nat → Int32} {i : Nat} : ∀ n, (bt (cShared st us n) i = true ↔ 1 < cCnt (fun c => st c = 1 ∧ bt (us c) i = true) n)
  | 0 => ⟨fun h => absurd h zb_0, fun h => absurd h (by rw [cCnt]; decide)⟩
  | n + 1 => by
    have ih := shared_bt (st := st) (us := us) (i := i) n
    have hb : bt (cBusy st us n) i = true ↔ 0 < cCnt (fun c => st c = 1 ∧ bt (us c) i = true) n := by rw [zc_busy, zc_pos]
    unfold cShared
    by_cases g : st n = 1
    · rw [if_pos g, zb_orT, zb_andT, ih, hb]
      by_cases g2 : bt (us n) i = true
      · rw [cCnt_y (q := fun c => st c = 1 ∧ bt (us c) i = true) ⟨g, g2⟩]
        exact ⟨fun q => q.elim (fun z => by omega) (fun z => by have := z.1; omega), fun q => Or.inr ⟨by omega, g2⟩⟩
      · rw [cCnt_n (q := fun c => st c = 1 ∧ bt (us c) i = true) (fun q => g2 q.2)]
        exact ⟨fun q => q.elim id (fun z => absurd z.2 g2), Or.inl⟩
    · rw [if_neg g, ih, cCnt_n (q := fun c => st c = 1 ∧ bt (us c) i = true) (fun q => g q.1)]
def bC (f : Nat → Bool) : Nat → Nat
  | 0 => 0
  | n + 1 => bC f n + (if f n = true then 1 else 0)
theorem bC_cnt {q : Nat → Prop} {f : Nat → Bool} : ∀ n, (∀ i, i < n → (f i = true ↔ q i)) → bC f n = cCnt q n
  | 0, _ => rfl
  | n + 1, h => by
    rw [bC, bC_cnt n (fun i hi => h i (by omega))]
    by_cases g : q n
    · rw [if_pos ((h n (by omega)).mpr g), cCnt_y g]
    · rw [if_neg (fun z => g ((h n (by omega)).mp z)), cCnt_n g, Nat.add_zero]
theorem bC_10 (f : Nat → Bool) : bC f 10 = bC f 6 + bC (fun t => f (6 + t)) 4 := by
  simp only [bC, show 6 + 0 = 6 from rfl, show 6 + 1 = 7 from rfl, show 6 + 2 = 8 from rfl, show 6 + 3 = 9 from rfl]
  omega
theorem bC_x : ∀ m, m < 1024 → xbc (nI m) = nI (bC (fun i => m.testBit i) 10) := by decide +kernel
theorem zc_ext {q : Nat → Prop} {a : Nat} : ∀ n, a ≤ n → (∀ i, a ≤ i → i < n → ¬ q i) → cCnt q n = cCnt q a
  | 0, h, _ => by rw [show a = 0 by omega]
  | n + 1, h, hq => by
    by_cases e : a = n + 1
    · rw [e]
    · rw [cCnt_n (hq n (by omega) (by omega))]
      exact zc_ext n (by omega) (fun i h1 h2 => hq i h1 (by omega))
section SUMS
variable {σ : XS} {b : Nat} {S : Nat → Int32}
theorem RB.shl (h : RB σ b S) {i : Nat} (hi : i < 6) : cCnt (fun c => σ.1 (.inl (b, 9)) c = 1 ∧ bt (σ.1 (.inl (b, 14)) c) i = true) (mK S) = mLine S (nI i) (mK S) := zc_cg (fun c hc => by rw [(h.c hc).1, (h.c hc).2.2.2.2.2.1, mMask_line h.x hc hi])
theorem RB.sht (h : RB σ b S) {t : Nat} (ht : t < 4) : cCnt (fun c => σ.1 (.inl (b, 9)) c = 1 ∧ bt (σ.1 (.inl (b, 14)) c) (6 + t) = true) (mK S) = mTrk S (nI t) (mK S) := zc_cg (fun c hc => by rw [(h.c hc).1, (h.c hc).2.2.2.2.2.1, mMask_trk h.x hc ht])
theorem line_far (hx : MX S) {c : Nat} (hc : c < mK S) {i : Nat} (h1 : mL S ≤ i) (h2 : i < 6) : ¬ mUses S c (nI i) := by
  have hC := hx.i.c hc
  have u15 := hx.i.u15
  have far : ∀ u, u < mU S → ¬ sU S 0 u = nI i := fun u hu q => by
    obtain ⟨a, ha, e⟩ := xok_of (hx.u hu).1 (by have := hx.i.l6; omega)
    rw [e] at q
    have := neq q
    omega
  rintro (q | ⟨q1, q⟩)
  · exact far _ (hC.cu u15) q
  · rcases hC.two u15 hx.i.t4 with ⟨-, -, -, z⟩ | ⟨-, z, -, -⟩
    · exact far _ z q
    · exact z q1
theorem trk_far (hx : MX S) {c : Nat} (hc : c < mK S) {t : Nat} (h1 : mT S ≤ t) (h2 : t < 4) : ¬ sC S 2 c = nI t := fun q => by
  have hC := hx.i.c hc
  rcases hC.two hx.i.u15 hx.i.t4 with ⟨z, -, -, -⟩ | ⟨-, -, z, e⟩
  · rw [z] at q
    exact xok_m1 (n := 4) (q ▸ xok_nI h2)
  · rw [e] at q
    have := neq q (by have := hx.i.t4; omega)
    omega
theorem q_shared (h : RB σ b S) : xbc (cShared (σ.1 (.inl (b, 9))) (σ.1 (.inl (b, 14))) (mK S)) = nI (cCnt (fun i => 1 < mLine S (nI i) (mK S)) (mL S) + cCnt (fun i => 1 < mTrk S (nI i) (mK S)) (mT S)) := by
  have hx := h.x
  have l6 := hx.i.l6
  have t4 := hx.i.t4
  have sb : ∀ i, bt (cShared (σ.1 (.inl (b, 9))) (σ.1 (.inl (b, 14))) (mK S)) i = true ↔ 1 < cCnt (fun c => σ.1 (.inl (b, 9)) c = 1 ∧ bt (σ.1 (.inl (b, 14)) c) i = true) (mK S) := fun i => shared_bt (mK S)
  have small : ∀ i, i < 32 → bt (cShared (σ.1 (.inl (b, 9))) (σ.1 (.inl (b, 14))) (mK S)) i = true → i < 10 := fun i hi q => by
    have q2 := (sb i).mp q
    obtain ⟨c, hc, -, q3⟩ := zc_pos.mp (Nat.lt_trans Nat.zero_lt_one q2)
    rw [(h.c hc).2.2.2.2.2.1] at q3
    rcases (mMask_bt hx hc hi).mp q3 with z | z | z
    · obtain ⟨a, ha, e⟩ := hx.ln ((hx.i.c hc).cu hx.i.u15)
      rw [e] at z
      have := neq z
      omega
    · rcases (hx.i.c hc).two hx.i.u15 t4 with ⟨-, -, -, w⟩ | ⟨-, w, -, -⟩
      · obtain ⟨a, ha, e⟩ := hx.ln w
        rw [e] at z
        have := neq z.2
        omega
      · exact absurd z.1 w
    · rcases (hx.i.c hc).two hx.i.u15 t4 with ⟨w, -, -, -⟩ | ⟨-, -, w, -⟩
      · exact absurd w z.1
      · omega
  generalize cShared (σ.1 (.inl (b, 9))) (σ.1 (.inl (b, 14))) (mK S) = x at sb small ⊢
  obtain ⟨m, hm, rfl⟩ := set_num (x := x) (fun i hi q => by have := small i hi q; omega)
  have m10 : m < 1024 := Nat.lt_pow_two_of_testBit (n := 10) _ (fun i hi => by
    by_cases g : i < 32
    · cases hb : m.testBit i with
      | false => rfl
      | true => exact absurd (small i g (by rw [bt_nI, hb, decide_eq_true g]; rfl)) (by omega)
    · exact Nat.testBit_lt_two_pow (Nat.lt_of_lt_of_le hm (Nat.le_trans (by decide : 32768 ≤ 2 ^ 32) (Nat.pow_le_pow_right (by decide) (by omega)))))
  have tb : ∀ i, i < 10 → (m.testBit i = true ↔ 1 < cCnt (fun c => σ.1 (.inl (b, 9)) c = 1 ∧ bt (σ.1 (.inl (b, 14)) c) i = true) (mK S)) := fun i hi => by
    rw [← sb i, bt_nI, decide_eq_true (show i < 32 by omega), Bool.true_and]
  rw [bC_x m m10, bC_10, bC_cnt (q := fun i => 1 < mLine S (nI i) (mK S)) 6 (fun i hi => by rw [tb i (by omega), h.shl hi]), bC_cnt (q := fun i => 1 < mTrk S (nI i) (mK S)) 4 (fun i hi => by rw [tb (6 + i) (by omega), h.sht hi])]
  rw [zc_ext (a := mL S) 6 l6 (fun i h1 h2 q => by
    obtain ⟨c, hc, -, q2⟩ := zc_pos.mp (Nat.lt_trans Nat.zero_lt_one q)
    exact line_far hx hc h1 h2 q2), zc_ext (a := mT S) 4 t4 (fun i h1 h2 q => by
    obtain ⟨c, hc, -, q2⟩ := zc_pos.mp (Nat.lt_trans Nat.zero_lt_one q)
    exact trk_far hx hc h1 h2 q2)]
theorem q_less (h : RB σ b S) (s : Int32) : ∀ n, n ≤ mK S → cLess σ b (mT S) s n = mLess S s n
  | 0, _ => rfl
  | n + 1, hn => by
    rw [cLess, mLess, (h.c (c := n) (by omega)).1, h.chg (j := n) (by omega), q_less h s n (by omega)]
theorem q_inc (h : RB σ b S) : xbc (cShared (σ.1 (.inl (b, 9))) (σ.1 (.inl (b, 14))) (mK S)) + xabs (σ.1 (.inl (b, 0)) 5 - (σ.1 (.inl (b, 0)) 5 - nI (cCords (σ.1 (.inl (b, 9))) (σ.1 (.inl (b, 15))) (mK S))) - nI (cCords (σ.1 (.inl (b, 9))) (σ.1 (.inl (b, 15))) (mK S))) + xabs (cLess σ b (mT S) (cSum (σ.1 (.inl (b, 6))) (mU S)) (mK S)) = nI ((cCnt (fun i => 1 < mLine S (nI i) (mK S)) (mL S)) + (cCnt (fun i => 1 < mTrk S (nI i) (mK S)) (mT S))) + xabs (S 2 - (S 2 - nI (mCords S (mK S))) - nI (mCords S (mK S))) + xabs (mLess S (cSum (fun u => sU S 3 u) (mU S)) (mK S)) := by
  rw [q_shared h, h.cords, h.s.2.2.1, zc_sum (f := σ.1 (.inl (b, 6))) (g := fun u => sU S 3 u) (fun c hc => (h.u hc).2.2.2.1), q_less h _ _ (Nat.le_refl _)]
theorem q_gos (h : RB σ b S) : cSum (fun k => xbc ((σ.1 (.inl (b, 7))) k)) (mU S) = cSum (fun u => xbc (sU S 4 u)) (mU S) := zc_sum (fun c hc => by rw [(h.u hc).2.2.2.2.1])
end SUMS

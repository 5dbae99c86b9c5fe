/-! THE TWO READERS: setups -/
/-- a trunk more, while there is no call -/
theorem RB.trk {σ : XS} {b : Nat} {S : Nat → Int32} (h : RB σ b S) (ht : mT S < 4) (hk : mK S = 0) {v : Int32} : RB (uTrunk σ b (mT S) v) b (upd (upd S (6 + mT S) v) 3 (nI (mT S + 1))) := by
  have hx := h.x
  have u15 := hx.i.u15
  have e : ∀ k, k ≠ 3 → k ≠ 6 + mT S → upd (upd S (6 + mT S) v) 3 (nI (mT S + 1)) k = S k := fun k h1 h2 => by rw [upd_ne h1, upd_ne h2]
  have e3 : upd (upd S (6 + mT S) v) 3 (nI (mT S + 1)) 3 = nI (mT S + 1) := upd_at
  have eU : mU (upd (upd S (6 + mT S) v) 3 (nI (mT S + 1))) = mU S := by rw [mU, mU, e 4 (by decide) (by omega)]
  have eK : mK (upd (upd S (6 + mT S) v) 3 (nI (mT S + 1))) = 0 := by rw [mK, e 5 (by decide) (by omega)]; exact hk
  have eL : mL (upd (upd S (6 + mT S) v) 3 (nI (mT S + 1))) = mL S := by rw [mL, mL, e 1 (by decide) (by omega)]
  have eT : mT (upd (upd S (6 + mT S) v) 3 (nI (mT S + 1))) = mT S + 1 := by rw [mT, e3, cN, nI_clamp (n31 (by omega))]
  have uo : ∀ u w, sU (upd (upd S (6 + mT S) v) 3 (nI (mT S + 1))) w u = sU S w u := fun u w => e _ (by omega) (by omega)
  have so : ∀ k, k ≠ 0 → k ≠ 19 → (uTrunk σ b (mT S) v).1 (.inl (b, k)) = σ.1 (.inl (b, k)) := fun k h1 h2 => by
    unfold uTrunk
    rw [xu_ne _ _ _ (by simpa using h1), xu_ne _ _ _ (by simpa using h2)]
  refine ⟨?_, ?_, ?_, ?_, ⟨⟨?_, ?_, ?_⟩, ?_, ⟨?_, ?_, ?_⟩, ?_, ?_⟩⟩
  · unfold RBs
    rw [so 1 (by decide) (by decide), so 8 (by decide) (by decide), e 0 (by decide) (by omega), e 1 (by decide) (by omega), e 2 (by decide) (by omega), e3, e 4 (by decide) (by omega), e 5 (by decide) (by omega)]
    have hs := h.s
    unfold uTrunk
    simp only [xu_ap, Sum.inl.injEq, Prod.mk.injEq, true_and]
    simp
    exact ⟨hs.1, hs.2.1, hs.2.2.1, hs.2.2.2.2.1, hs.2.2.2.2.2⟩
  · intro i hi
    rw [eT] at hi
    unfold uTrunk
    simp only [xu_ap, Sum.inl.injEq, Prod.mk.injEq, true_and]
    by_cases g : i = mT S
    · subst g
      rw [upd_ne (by omega), upd_at]
      simp
    · rw [e _ (by omega) (by omega)]
      simp [g]
      exact h.to (by omega)
  · intro u hu
    rw [eU] at hu
    unfold RBu
    rw [so 3 (by decide) (by decide), so 4 (by decide) (by decide), so 5 (by decide) (by decide), so 6 (by decide) (by decide), so 7 (by decide) (by decide), show (uTrunk σ b (mT S) v).2 = σ.2 from rfl, uo u 0, uo u 1, uo u 2, uo u 3, uo u 4, mName_cg (uo u 5) (fun i => uo u (6 + i))]
    exact h.u hu
  · intro c hc
    rw [eK] at hc
    exact absurd hc (Nat.not_lt_zero _)
  · unfold MI
    rw [eU, eK, eL, eT, e 1 (by decide) (by omega), e3, e 4 (by decide) (by omega), e 5 (by decide) (by omega)]
    refine ⟨hx.i.l, hx.i.l6, rfl, by omega, hx.i.u, u15, ?_, by decide, fun c hc => absurd hc (Nat.not_lt_zero _)⟩
    have := hx.i.k
    rw [hk] at this
    exact this
  · intro u hu
    rw [eU] at hu
    rw [uo u 5]
    exact hx.n u hu
  · intro u hu
    rw [eU] at hu
    rw [uo u 1]
    exact hx.co u hu
  · rw [eL]; exact hx.l1
  · rw [e 2 (by decide) (by omega)]; exact hx.c2
  · rw [e 2 (by decide) (by omega)]; exact hx.c6
  · rw [eK]; exact Nat.zero_le _
  · intro u hu
    rw [eU] at hu
    exact (hx.u hu).cg eL (uo u 0) (uo u 1) (uo u 5) (hx.n6 hu) (fun i hi => uo u (6 + i))
  · intro c hc
    rw [eK] at hc
    exact absurd hc (Nat.not_lt_zero _)
/-- a subscriber more, while there is no call -/
theorem RB.sub {σ : XS} {b : Nat} {S S1 : Nat → Int32} (h : RB σ b S) (hu : mU S < 15) (hk : mK S = 0) {nm : Int64} {li co cu : Int32} (o : ∀ k, k ≠ 4 → k < 10 + 12 * mU S ∨ 10 + 12 * mU S + 12 ≤ k → S1 k = S k) (e4 : S1 4 = nI (mU S + 1)) (f0 : sU S1 0 (mU S) = li) (f1 : sU S1 1 (mU S) = co) (f2 : sU S1 2 (mU S) = cu) (f3 : sU S1 3 (mU S) = 0) (f4 : sU S1 4 (mU S) = xbit (nI (mU S))) (fn : nm = mName S1 (mU S)) (hx1 : MXu S1 (mU S)) (h5 : xok (sU S1 5 (mU S)) 7) (h1 : xok co 64) : RB (uSub σ b (mU S) nm li co cu) b S1 := by
  have hx := h.x
  have t4 := hx.i.t4
  have eU : mU S1 = mU S + 1 := by rw [mU, e4, cN, nI_clamp (n31 (by omega))]
  have eK : mK S1 = 0 := by rw [mK, o 5 (by decide) (by omega)]; exact hk
  have eL : mL S1 = mL S := by rw [mL, mL, o 1 (by decide) (by omega)]
  have eT : mT S1 = mT S := by rw [mT, mT, o 3 (by decide) (by omega)]
  have uo : ∀ u, u < mU S → ∀ w, w < 12 → sU S1 w u = sU S w u := fun u hu w hw => o _ (by omega) (by omega)
  have so : ∀ k, k = 0 ∨ k = 8 ∨ k = 19 → (uSub σ b (mU S) nm li co cu).1 (.inl (b, k)) = σ.1 (.inl (b, k)) := fun k h1 => by
    unfold uSub
    rw [xu_ne _ _ _ (by simp; omega), xu_ne _ _ _ (by simp; omega), xu_ne _ _ _ (by simp; omega), xu_ne _ _ _ (by simp; omega), xu_ne _ _ _ (by simp; omega), xu_ne _ _ _ (by simp; omega)]
    rfl
  have su : ∀ u, (uSub σ b (mU S) nm li co cu).1 (.inl (b, 3)) u = (if u = mU S then li else σ.1 (.inl (b, 3)) u) ∧ (uSub σ b (mU S) nm li co cu).1 (.inl (b, 4)) u = (if u = mU S then co else σ.1 (.inl (b, 4)) u) ∧ (uSub σ b (mU S) nm li co cu).1 (.inl (b, 5)) u = (if u = mU S then cu else σ.1 (.inl (b, 5)) u) ∧ (uSub σ b (mU S) nm li co cu).1 (.inl (b, 6)) u = (if u = mU S then 0 else σ.1 (.inl (b, 6)) u) ∧ (uSub σ b (mU S) nm li co cu).1 (.inl (b, 7)) u = (if u = mU S then xbit (nI (mU S)) else σ.1 (.inl (b, 7)) u) ∧ (uSub σ b (mU S) nm li co cu).2 (.inl (b, 2)) u = (if u = mU S then nm else σ.2 (.inl (b, 2)) u) := fun u => by
    unfold uSub
    simp only [xu_ap, xu_l, xL_ap, xL_i, vp_updL, Sum.inl.injEq, Prod.mk.injEq, true_and]
    simp
  refine ⟨?_, ?_, ?_, ?_, ⟨⟨?_, ?_, ?_⟩, ?_, ⟨?_, ?_, ?_⟩, ?_, ?_⟩⟩
  · unfold RBs
    rw [so 0 (by decide), so 8 (by decide), o 0 (by decide) (by omega), o 1 (by decide) (by omega), o 2 (by decide) (by omega), o 3 (by decide) (by omega), e4, o 5 (by decide) (by omega)]
    have hs := h.s
    refine ⟨hs.1, hs.2.1, hs.2.2.1, hs.2.2.2.1, ?_, hs.2.2.2.2.2⟩
    unfold uSub
    exact xu_self _ _ _ _
  · intro i hi
    rw [eT] at hi
    rw [so 19 (by decide), o _ (by omega) (by omega)]
    exact h.to hi
  · intro u hu2
    rw [eU] at hu2
    obtain ⟨a3, a4, a5, a6, a7, a2⟩ := su u
    unfold RBu
    rw [a3, a4, a5, a6, a7, a2]
    by_cases g : u = mU S
    · subst g
      rw [if_pos rfl, if_pos rfl, if_pos rfl, if_pos rfl, if_pos rfl, if_pos rfl, f0, f1, f2, f3, f4]
      exact ⟨rfl, rfl, rfl, rfl, rfl, fn⟩
    · have hu3 : u < mU S := by omega
      rw [if_neg g, if_neg g, if_neg g, if_neg g, if_neg g, if_neg g, uo u hu3 0 (by omega), uo u hu3 1 (by omega), uo u hu3 2 (by omega), uo u hu3 3 (by omega), uo u hu3 4 (by omega), mName_cg6 (uo u hu3 5 (by omega)) (fun i hi => uo u hu3 (6 + i) (by omega))]
      exact h.u hu3
  · intro c hc
    rw [eK] at hc
    exact absurd hc (Nat.not_lt_zero _)
  · unfold MI
    rw [eU, eK, eL, eT, o 1 (by decide) (by omega), o 3 (by decide) (by omega), e4, o 5 (by decide) (by omega)]
    refine ⟨hx.i.l, hx.i.l6, hx.i.t, t4, rfl, by omega, ?_, by decide, fun c hc => absurd hc (Nat.not_lt_zero _)⟩
    have := hx.i.k
    rw [hk] at this
    exact this
  · intro u hu2
    rw [eU] at hu2
    by_cases g : u = mU S
    · rw [g]; exact h5
    · rw [uo u (by omega) 5 (by omega)]
      exact hx.n u (by omega)
  · intro u hu2
    rw [eU] at hu2
    by_cases g : u = mU S
    · rw [g, f1]; exact h1
    · rw [uo u (by omega) 1 (by omega)]
      exact hx.co u (by omega)
  · rw [eL]; exact hx.l1
  · rw [o 2 (by decide) (by omega)]; exact hx.c2
  · rw [o 2 (by decide) (by omega)]; exact hx.c6
  · rw [eK]; exact Nat.zero_le _
  · intro u hu2
    rw [eU] at hu2
    by_cases g : u = mU S
    · rw [g]; exact hx1
    · have hu3 : u < mU S := by omega
      exact (hx.u hu3).cg eL (uo u hu3 0 (by omega)) (uo u hu3 1 (by omega)) (uo u hu3 5 (by omega)) (hx.n6 hu3) (fun i hi => uo u hu3 (6 + i) (by omega))
  · intro c hc
    rw [eK] at hc
    exact absurd hc (Nat.not_lt_zero _)
/-! codes -/
theorem cd_r : ∀ i, i < 64 → 1 ≤ i → 31 - xnz (nI i) = nI (mRg 6 i) := by decide +kernel
def cdA (i j : Nat) : Prop := nI i >>> ((nI (mRg 6 i) - xmin (nI (mRg 6 i)) (nI (mRg 6 j))) &&& 31) = nI j >>> ((nI (mRg 6 j) - xmin (nI (mRg 6 i)) (nI (mRg 6 j))) &&& 31)
def cdB (i j : Nat) : Prop := 0 ≤ nI (mRg 6 j) - nI (mRg 6 i) ∧ nI j >>> ((nI (mRg 6 j) - nI (mRg 6 i)) &&& 31) = nI i
def cdT (i j : Nat) : Bool := (nI i >>> ((nI (mRg 6 i) - xmin (nI (mRg 6 i)) (nI (mRg 6 j))) &&& 31) == nI j >>> ((nI (mRg 6 j) - xmin (nI (mRg 6 i)) (nI (mRg 6 j))) &&& 31)) == ((decide (0 ≤ nI (mRg 6 j) - nI (mRg 6 i)) && (nI j >>> ((nI (mRg 6 j) - nI (mRg 6 i)) &&& 31) == nI i)) || (decide (0 ≤ nI (mRg 6 i) - nI (mRg 6 j)) && (nI i >>> ((nI (mRg 6 i) - nI (mRg 6 j)) &&& 31) == nI j)))
theorem cd_t : ∀ i, i < 63 → ∀ j, j < 63 → cdT (i + 1) (j + 1) = true := by decide +kernel
theorem cd_b {i j : Nat} (hi : i < 64) (h1 : 1 ≤ i) (hj : j < 64) (h2 : 1 ≤ j) : cdA i j ↔ (cdB i j ∨ cdB j i) := by
  have := cd_t (i - 1) (by omega) (j - 1) (by omega)
  rw [show i - 1 + 1 = i by omega, show j - 1 + 1 = j by omega] at this
  unfold cdT at this
  rw [beq_iff_eq, Bool.eq_iff_iff, beq_iff_eq, Bool.or_eq_true, Bool.and_eq_true, Bool.and_eq_true, beq_iff_eq, beq_iff_eq, decide_eq_true_iff, decide_eq_true_iff] at this
  exact this
theorem beg_eq {x y : Int32} (hx : xok x 64) (hy : xok y 64) (h1 : 1 ≤ cN x) (h2 : 1 ≤ cN y) : xbeg x y ↔ (mBeg x y ∨ mBeg y x) := by
  obtain ⟨i, hi, rfl⟩ := xok_of hx
  obtain ⟨j, hj, rfl⟩ := xok_of hy
  have ei : cN (nI i) = i := nI_clamp (n31 (by omega))
  have ej : cN (nI j) = j := nI_clamp (n31 (by omega))
  rw [ei] at h1
  rw [ej] at h2
  unfold xbeg mBeg
  rw [ei, ej, cd_r i hi h1, cd_r j hj h2]
  exact cd_b hi h1 hj h2
theorem cFirstB_y {q : Nat → Bool} : ∀ {k i : Nat}, (∃ j, i ≤ j ∧ j < i + k ∧ q j = true) → cFirstB q k i = 1
  | 0, i, ⟨j, a, b, _⟩ => by omega
  | k + 1, i, ⟨j, a, b, c⟩ => by
    unfold cFirstB
    by_cases g : q i = true
    · rw [if_pos g]
    · rw [if_neg g]
      exact cFirstB_y ⟨j, by
        rcases Nat.lt_or_ge i j with z | z
        · exact z
        · exact absurd ((show i = j by omega) ▸ c) g, by omega, c⟩
theorem cFirstB_n {q : Nat → Bool} : ∀ {k i : Nat}, (∀ j, i ≤ j → j < i + k → ¬ q j = true) → cFirstB q k i = 0
  | 0, _, _ => rfl
  | k + 1, i, h => by
    unfold cFirstB
    rw [if_neg (h i (Nat.le_refl _) (by omega))]
    exact cFirstB_n (fun j a b => h j (by omega) (by omega))
theorem amb_dead {S F : Nat → Int32} {x y : Int32} (h : ¬ F 20 = 0) : ∀ {k v : Nat}, mAmb S x y k v F = F
  | 0, _ => rfl
  | k + 1, v => by rw [mAmb, mWr_dead h]; exact amb_dead h
theorem amb_n {S F : Nat → Int32} {x y : Int32} : ∀ {k v : Nat}, (∀ j, v ≤ j → j < v + k → ¬ mAmbQ S x y j) → mAmb S x y k v F = F
  | 0, _, _ => rfl
  | k + 1, v, h => by
    rw [mAmb, mAmbI, if_neg (fun q => h v (Nat.le_refl _) (by omega) q.2), mWr_z]
    exact amb_n (fun j a b => h j (by omega) (by omega))
theorem amb_y {S F : Nat → Int32} {x y : Int32} (hF : F 20 = 0) : ∀ {k v : Nat}, (∃ j, v ≤ j ∧ j < v + k ∧ mAmbQ S x y j) → mAmb S x y k v F = mWr F 1 5
  | 0, v, ⟨j, a, b, _⟩ => by omega
  | k + 1, v, ⟨j, a, b, c⟩ => by
    rw [mAmb]
    by_cases g : mAmbQ S x y v
    · rw [mAmbI, if_pos ⟨hF, g⟩]
      refine amb_dead (fun q => ?_)
      rw [mWr_1 hF, upd_ne (by decide), upd_ne (by decide), upd_at] at q
      exact absurd q (by decide)
    · rw [mAmbI, if_neg (fun q => g q.2), mWr_z]
      exact amb_y hF ⟨j, by
        rcases Nat.lt_or_ge v j with z | z
        · exact z
        · exact absurd ((show v = j by omega) ▸ c) g, by omega, c⟩
theorem rings_rel {f B F : Nat → Int32} {s : Nat} (hF : F 20 = 0) : ∀ {k i j : Nat}, (∀ q, i ≤ q → q < i + k → f q = B (s + q)) → (∃ j1, xcod f k i (nI j) = nI j1 ∧ mRhL B k (s + i) F (nI j) = (F, nI j1) ∧ j ≤ j1 ∧ (1 ≤ k → 2 * j ≤ j1) ∧ j1 + 1 ≤ (j + 1) * 2 ^ k) ∨ (xcod f k i (nI j) = -1 ∧ (mRhL B k (s + i) F (nI j)).1 = mWr F 1 1)
  | 0, i, j, _ => Or.inl ⟨j, rfl, rfl, Nat.le_refl _, fun h => by omega, by omega⟩
  | k + 1, i, j, hf => by
    unfold xcod mRhL
    rw [if_pos hF, hf i (Nat.le_refl _) (by omega)]
    by_cases g : B (s + i) = 115 ∨ B (s + i) = 108
    · rw [if_pos g, if_pos g, mWr_z, show s + i + 1 = s + (i + 1) by omega]
      have e : (2 : Int32) * nI j + (if B (s + i) = 108 then 1 else 0) = nI (if B (s + i) = 108 then 2 * j + 1 else 2 * j) := by
        by_cases g2 : B (s + i) = 108
        · rw [if_pos g2, if_pos g2, show (2 : Int32) = nI 2 from rfl, nI_m, nI_1]
        · rw [if_neg g2, if_neg g2, show (2 : Int32) = nI 2 from rfl, nI_m, Int32.add_zero]
      rw [e]
      have hb : 2 * j ≤ (if B (s + i) = 108 then 2 * j + 1 else 2 * j) := by split <;> omega
      rcases rings_rel (f := f) (B := B) (s := s) hF (k := k) (i := i + 1) (j := if B (s + i) = 108 then 2 * j + 1 else 2 * j) (fun q a b => hf q (by omega) (by omega)) with ⟨j1, a, b, c, d, e9⟩ | ⟨a, b⟩
      · refine Or.inl ⟨j1, a, b, by omega, fun _ => by omega, Nat.le_trans e9 ?_⟩
        rw [Nat.pow_succ, Nat.mul_comm (2 ^ k) 2, ← Nat.mul_assoc]
        refine Nat.mul_le_mul_right _ ?_
        split <;> omega
      · exact Or.inr ⟨a, b⟩
    · rw [if_neg g, if_neg g]
      refine Or.inr ⟨rfl, ?_⟩
      cases k with
      | zero => rfl
      | succ k2 =>
        rw [mRhL, if_neg (fun q => by
          rw [mWr_1 hF, upd_ne (by decide), upd_ne (by decide), upd_at] at q
          exact absurd q (by decide))]

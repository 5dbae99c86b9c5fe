/-! .. KEPT BY EVERY CHANGE -/
section PV68
variable {σ : XS} {b : Nat} {S : Nat → Int32} {j T : Nat}
theorem wait_fx (hM : MI S) {u : Int32} {k : Nat} (hk : k ≤ mK S) {c w : Nat} (hw : w < 4) : sC (mWait S u k).1 w c = sC S w c := mWait_fx hM k hk _ (Or.inr ⟨by omega, by omega⟩)
theorem PW (h : RB σ b S) (hp : PS S T) (u : Int32) : ∀ k, k ≤ mK S → PS (mWait S u k).1 T ∧
    (∀ c, c < mK S → ¬ sC (mWait S u k).1 4 c = sC S 4 c → sC S 4 c = 0 ∧ sC (mWait S u k).1 4 c = 1) ∧
    (∀ c, c < k → sC (mWait S u k).1 4 c = 0 → sC S 3 c = u → ¬ mWhy (mWait S u k).1 c = 0) ∧
    (∀ c, c < mK S → ¬ mWhy S c = 0 → ¬ mWhy (mWait S u k).1 c = 0) ∧
    cCnt (fun c => sC (mWait S u k).1 4 c = 1) (mK S) = cCnt (fun c => sC S 4 c = 1) (mK S) + (mWait S u k).2 ∧
    (∀ c, sC (mWait S u k).1 6 c = sC S 6 c)
  | 0, _ => ⟨hp, fun c _ q => absurd rfl q, fun c q => absurd q (Nat.not_lt_zero _), fun c _ q => q, rfl, fun _ => rfl⟩
  | k + 1, hk => by
    obtain ⟨i1, i2, i3, i4, i5, i6⟩ := PW h hp u k (by omega)
    have rx := ((h.wait u k (by omega)).1).x
    have rx1 := ((h.wait u (k + 1) hk).1).x
    obtain ⟨-, eK, -⟩ := RB.kw (σ := σ) (b := b) (u := u) h.x.i (k := k) (by omega)
    have hkR : k < mK (mWait S u k).1 := by omega
    by_cases g : sC (mWait S u k).1 4 k = 0 ∧ sC (mWait S u k).1 3 k = u ∧ mWhy (mWait S u k).1 k = 0
    · have e9 := mWait_y g
      rw [e9] at rx1 ⊢
      dsimp only at rx1 ⊢
      have k0 : sC S 4 k = 0 := Classical.byContradiction (fun q => by
        have := i2 k (by omega) (fun z => q (z.symm.trans g.1))
        exact q this.1)
      refine ⟨i1.start rx hkR g.2.2 g.1, fun c hc q => ?_, fun c hc q q3 => ?_, fun c hc q => ?_, ?_, fun c => ?_⟩
      · by_cases e : c = k
        · subst e; exact ⟨k0, mS_4⟩
        · rw [mS_cn rx.i hkR e (by decide)] at q ⊢
          exact i2 c hc q
      · have e : ¬ c = k := fun e => by
          subst e
          rw [mS_4] at q
          exact absurd q (by decide)
        rw [mS_cn rx.i hkR e (by decide)] at q
        exact why_start rx rx1 hkR (by omega) (i3 c (by omega) q q3)
      · exact why_start rx rx1 hkR (by omega) (i4 c hc q)
      · rw [zc_flip (p := fun c => sC (mWait S u k).1 4 c = 1) (q := fun c => sC (mStart (mWait S u k).1 k) 4 c = 1) (j := k) (fun q => absurd (g.1.symm.trans q) (by decide)) mS_4 (by omega) (fun c hc e => by rw [mS_cn rx.i hkR e (by decide)]), i5]
        omega
      · rw [mS_6 rx.i hkR, i6]
    · have e9 := mWait_n g
      rw [e9]
      refine ⟨i1, i2, fun c hc q q3 => ?_, i4, i5, i6⟩
      by_cases e : c = k
      · subst e
        exact fun z => g ⟨q, (wait_fx h.x.i (by omega) (by decide)).trans q3, z⟩
      · exact i3 c (by omega) q q3
theorem i32_cancel {a b c : Int32} (h : a + b = c + b) : a = c := by
  have h2 := congrArg (fun z => z - b) h
  simpa [Int32.add_sub_cancel] using h2
/-! a call ends -/
theorem fin0_4 (hM : MI S) (hj : j < mK S) : sC (mFin0 S j) 4 j = if sC S 4 j = 1 then 2 else 3 := by
  show mFin0 S j (190 + 9 * j + 4) = _
  unfold mFin0
  rw [upd_ne (by omega), upd_at]
theorem fin0_6 : sC (mFin0 S j) 6 j = S 0 := by
  show mFin0 S j (190 + 9 * j + 6) = _
  unfold mFin0
  rw [upd_at]
theorem fin0_3 (hM : MI S) (hj : j < mK S) : sU (mFin0 S j) 3 (cN (sC S 0 j)) = sU S 3 (cN (sC S 0 j)) + mCost S j := by
  have h1 := (hM.ca hj).1
  show mFin0 S j (10 + 12 * cN (sC S 0 j) + 3) = _
  unfold mFin0
  rw [upd_ne (by omega), upd_ne (by omega), upd_at]
theorem fin0_cn (hM : MI S) (hj : j < mK S) {c w : Nat} (hw : w < 9) (h : ¬ c = j ∨ (¬ w = 4 ∧ ¬ w = 6)) : sC (mFin0 S j) w c = sC S w c := by
  have h1 := (hM.ca hj).1
  refine mFin0_o (by omega) ?_ ?_
  · rcases h with h | h <;> omega
  · rcases h with h | h <;> omega
theorem fin0_u (hM : MI S) {u w : Nat} (hu : u < 15) (hw : w < 12) (h : ¬ u = cN (sC S 0 j) ∨ ¬ w = 3) : sU (mFin0 S j) w u = sU S w u := by
  refine mFin0_o ?_ (by omega) (by omega)
  rcases h with h | h <;> omega
theorem PS.fin0 (hx : MX S) (hj : j < mK S) (ho : sC S 4 j = 0 ∨ sC S 4 j = 1) (h : PS S T) : PS (mFin0 S j) T := by
  have hM := hx.i
  have u15 := hM.u15
  have t9 := h.t9
  have hF := mFin0_fx hM hj
  have eK : mK (mFin0 S j) = mK S := by rw [mK, mK, hF 5 (Or.inl (by decide))]
  have eU : mU (mFin0 S j) = mU S := by rw [mU, mU, hF 4 (Or.inl (by decide))]
  have e0 : mFin0 S j 0 = S 0 := hF 0 (Or.inl (by decide))
  have f4 := fin0_4 hM hj
  have co : ∀ c w, w < 4 → sC (mFin0 S j) w c = sC S w c := fun c w hw => hF _ (Or.inr ⟨by omega, by omega⟩)
  have us : ∀ c, c < mK S → ∀ x, mUses (mFin0 S j) c x ↔ mUses S c x := fun c h9 x => by
    unfold mUses
    rw [co c 0 (by decide), co c 1 (by decide), co c 2 (by decide), fin0_u hM (hM.ca h9).1 (by decide) (Or.inr (by decide)), fin0_u hM (hM.o15 h9) (by decide) (Or.inr (by decide))]
  have tk : ∀ c, c < mK S → sC (mFin0 S j) 4 c = 1 → sC S 4 c = 1 := fun c hc q => by
    by_cases e : c = j
    · subst e
      rw [f4] at q
      split at q <;> exact absurd q (by decide)
    · rw [fin0_cn hM hj (by decide) (Or.inl e)] at q
      exact q
  refine ⟨e0.trans h.t, t9, fun c hc => ?_, fun a ha => ?_, fun t ht => ?_, ?_, fun u hu => ?_⟩
  · rw [eK] at hc
    have hC := h.c hc
    by_cases e : c = j
    · subst e
      unfold PC
      rw [f4, fin0_6, fin0_cn hM hj (w := 5) (by decide) (Or.inr ⟨by decide, by decide⟩), fin0_cn hM hj (w := 7) (by decide) (Or.inr ⟨by decide, by decide⟩), h.t]
      have hn := not_m1 (a := T) (by omega)
      rcases ho with g | g
      · rw [if_neg (by rw [g]; decide)]
        refine ⟨⟨fun _ => Or.inr rfl, fun _ => hC.1.mpr (Or.inl g)⟩, ⟨fun q => absurd q hn, fun q => by rcases q with q | q <;> exact absurd q (by decide)⟩, fun _ => hC.2.2.1 (Or.inl g), hC.2.2.2.1, fun q => by rcases q with q | q <;> exact absurd q (by decide)⟩
      · rw [if_pos g]
        obtain ⟨a, ea, la, -⟩ := hC.2.2.2.2 (Or.inl g)
        refine ⟨⟨fun q => absurd q (by rw [ea]; exact not_m1 (by omega)), fun q => by rcases q with q | q <;> exact absurd q (by decide)⟩, ⟨fun q => absurd q hn, fun q => by rcases q with q | q <;> exact absurd q (by decide)⟩, fun q => by rcases q with q | q <;> exact absurd q (by decide), hC.2.2.2.1, fun _ => ⟨a, ea, la, fun _ => ⟨T, rfl, la, Nat.le_refl _⟩⟩⟩
    · unfold PC
      rw [fin0_cn hM hj (w := 4) (by decide) (Or.inl e), fin0_cn hM hj (w := 5) (by decide) (Or.inl e), fin0_cn hM hj (w := 6) (by decide) (Or.inl e), fin0_cn hM hj (w := 7) (by decide) (Or.inl e)]
      exact hC
  · rw [eK]
    exact Nat.le_trans (zc_mono (fun c hc q => ⟨tk c hc q.1, (us c hc _).mp q.2⟩)) (h.l ha)
  · rw [eK]
    exact Nat.le_trans (zc_mono (fun c hc q => ⟨tk c hc q.1, by rw [← co c 2 (by decide)]; exact q.2⟩)) (h.k ht)
  · rw [eK, eU]
    have s1 := zs_flip (f := fun u => sU S 3 u) (g := fun u => sU (mFin0 S j) 3 u) (j := cN (sC S 0 j)) (n := mU S) (hM.cU hj) (fun u hu e => (fin0_u hM (by omega) (by decide) (Or.inl e)).symm)
    rw [fin0_3 hM hj] at s1
    have s2 := zs_flip (f := mDue S) (g := mDue (mFin0 S j)) (j := j) (n := mK S) hj (fun c hc e => (mDue_cg hM hc (co c 2 (by decide)) (fin0_cn hM hj (by decide) (Or.inl e)) (fin0_cn hM hj (by decide) (Or.inl e)) (fin0_cn hM hj (by decide) (Or.inl e)) (fun t ht => hF _ (Or.inl (by omega)))).symm)
    have d0 : mDue S j = 0 := by
      unfold mDue
      rw [if_neg (by rcases ho with q | q <;> rw [q] <;> decide)]
    have d1 : mDue (mFin0 S j) j = mCost S j := by
      unfold mDue mCost
      rw [f4, fin0_6, co j 2 (by decide), fin0_cn hM hj (w := 5) (by decide) (Or.inr ⟨by decide, by decide⟩), hF (6 + cN (sC S 2 j)) (Or.inl (by have := hM.t4c hj; omega))]
      rcases ho with g | g
      · rw [g]; rfl
      · rw [g]; rfl
    rw [d0, d1, Int32.add_zero] at s2
    rw [s2, ← h.b]
    have s3 : cSum (fun u => sU (mFin0 S j) 3 u) (mU S) + sU S 3 (cN (sC S 0 j)) = cSum (fun u => sU S 3 u) (mU S) + mCost S j + sU S 3 (cN (sC S 0 j)) := by
      rw [s1, Int32.add_assoc, Int32.add_comm (mCost S j)]
    exact i32_cancel s3
  · rw [eU] at hu
    rw [fin0_u hM (by omega) (by decide) (Or.inr (by decide))]
    exact h.s hu
/-- what end does, told of the row alone -/
theorem PFin (h : RB σ b S) (hp : PS S T) (hb : PB S) (hj : j < mK S) (ho : sC S 4 j = 0 ∨ sC S 4 j = 1) : PS (mFin S j).1 T ∧ PB (mFin S j).1 ∧ sC (mFin S j).1 4 j = (if sC S 4 j = 1 then 2 else 3) ∧ sC (mFin S j).1 6 j = S 0 ∧
    cCnt (fun c => sC (mFin S j).1 4 c = 1) (mK S) + (if sC S 4 j = 1 then 1 else 0) = cCnt (fun c => sC S 4 c = 1) (mK S) + (mFin S j).2 := by
  have hM := h.x.i
  have h0 := h.fin0 hj ho
  have p0 := hp.fin0 h.x hj ho
  have hF := mFin0_fx hM hj
  have eK : mK (mFin0 S j) = mK S := by rw [mK, mK, hF 5 (Or.inl (by decide))]
  have f4 := fin0_4 hM hj
  obtain ⟨a1, a2, a3, a4, a5, a6⟩ := PW h0 p0 1 (mK (mFin0 S j)) (Nat.le_refl _)
  have r1 := (h0.wait 1 (mK (mFin0 S j)) (Nat.le_refl _)).1
  obtain ⟨-, eK1, -⟩ := RB.kw (σ := σ) (b := b) (u := 1) h0.x.i (k := mK (mFin0 S j)) (Nat.le_refl _)
  obtain ⟨b1, b2, b3, b4, b5, b6⟩ := PW r1 a1 0 (mK (mFin0 S j)) (by omega)
  have s3 : ∀ c, sC (mWait (mFin0 S j) 1 (mK (mFin0 S j))).1 3 c = sC S 3 c := fun c => (wait_fx h0.x.i (Nat.le_refl _) (by decide)).trans (hF _ (Or.inr ⟨by omega, by omega⟩))
  have e0 : sC (mFin0 S j) 3 = sC S 3 := funext (fun c => hF _ (Or.inr ⟨by omega, by omega⟩))
  unfold mFin mWaits
  dsimp only
  rw [eK] at a1 a2 a3 a4 a5 a6 b1 b2 b3 b4 b5 b6 eK1 r1 s3
  rw [eK]
  rw [eK1] at b2 b4 b5
  have j4 : ∀ v, sC (mFin0 S j) 4 j = v → (v = 2 ∨ v = 3) → sC (mWait (mWait (mFin0 S j) 1 (mK S)).1 0 (mK S)).1 4 j = v := fun v hv hv2 => by
    have hv0 : ¬ v = 0 := by rcases hv2 with q | q <;> rw [q] <;> decide
    have q1 : sC (mWait (mFin0 S j) 1 (mK S)).1 4 j = v := Classical.byContradiction (fun q => by
      have := a2 j hj (fun z => q (z.trans hv))
      exact hv0 (hv.symm.trans this.1))
    exact Classical.byContradiction (fun q => by
      have := b2 j hj (fun z => q (z.trans q1))
      exact hv0 (q1.symm.trans this.1))
  refine ⟨b1, fun c hc q4 => ?_, ?_, ?_, ?_⟩
  · obtain ⟨-, eK2, -⟩ := RB.kw (σ := σ) (b := b) (u := 0) r1.x.i (k := mK S) (by omega)
    have hc' : c < mK S := by omega
    have u01 := (h.x.c hc').2.1
    have q1 : sC (mWait (mFin0 S j) 1 (mK S)).1 4 c = 0 := Classical.byContradiction (fun q => by
      have := b2 c hc' (fun z => q (z.symm.trans q4))
      exact q this.1)
    rcases u01 with g | g
    · exact b3 c hc' q4 ((s3 c).trans g)
    · exact b4 c hc' (a3 c hc' q1 ((congrFun e0 c).trans g))
  · refine (j4 _ f4 ?_)
    by_cases g : sC S 4 j = 1
    · rw [if_pos g]; exact Or.inl rfl
    · rw [if_neg g]; exact Or.inr rfl
  · rw [b6, a6, fin0_6]
  · rw [b5, a5]
    have z : cCnt (fun c => sC (mFin0 S j) 4 c = 1) (mK S) + (if sC S 4 j = 1 then 1 else 0) = cCnt (fun c => sC S 4 c = 1) (mK S) := by
      by_cases g : sC S 4 j = 1
      · rw [if_pos g]
        exact (zc_flip (p := fun c => sC (mFin0 S j) 4 c = 1) (q := fun c => sC S 4 c = 1) (j := j) (by rw [f4, if_pos g]; decide) g hj (fun c hc e => by rw [fin0_cn hM hj (by decide) (Or.inl e)])).symm
      · rw [if_neg g, Nat.add_zero]
        exact zc_cg (fun c hc => by
          by_cases e : c = j
          · subst e
            rw [f4, if_neg g]
            exact ⟨fun q => absurd q (by decide), fun q => absurd q g⟩
          · rw [fin0_cn hM hj (by decide) (Or.inl e)])
    omega
end PV68

/-! THE TWO BOARDS: calls start, end, are asked for -/
theorem mStart_o {S : Nat → Int32} {c n : Nat} (h1 : ∀ j, n ≠ 14 + 12 * j) (h4 : n ≠ 190 + 9 * c + 4) (h5 : n ≠ 190 + 9 * c + 5) (h7 : n ≠ 190 + 9 * c + 7) (h8 : n ≠ 190 + 9 * c + 8) : mStart S c n = S n := by
  unfold mStart mStart0
  rw [upd_ne h8, upd_ne h7, upd_ne h5, upd_ne h4, mHear_o _ (fun j _ => h1 j), mTell_o h1]
theorem mStart_c {S : Nat → Int32} (hM : MI S) {j : Nat} (hj : j < mK S) (n : Nat) (h : 190 ≤ n) (h4 : n ≠ 190 + 9 * j + 4) (h5 : n ≠ 190 + 9 * j + 5) (h7 : n ≠ 190 + 9 * j + 7) (h8 : n ≠ 190 + 9 * j + 8) : mStart S j n = S n := by
  unfold mStart
  rw [upd_ne h8, upd_ne h7, upd_ne h5, upd_ne h4, mStart0_fx hM hj (Or.inr h)]
theorem mTell_at {S : Nat → Int32} {x y : Int32} {u : Nat} : mTell S x y (10 + 12 * u + 4) = if ¬ y = -1 ∧ (u = cN x ∨ u = cN y) then mTold S x y else sU S 4 u := by
  unfold mTell
  by_cases g : y = -1
  · rw [if_pos g, if_neg (fun q => q.1 g)]
  · rw [if_neg g]
    by_cases h1 : u = cN y
    · rw [h1, upd_at, if_pos ⟨g, Or.inr rfl⟩]
    · rw [upd_ne (by omega)]
      by_cases h2 : u = cN x
      · rw [h2, upd_at, if_pos ⟨g, Or.inl rfl⟩]
      · rw [upd_ne (by omega), if_neg (fun q => q.2.elim h2 h1)]
/-- user u's secrets behind a start -/
theorem RB.sec {σ : XS} {b : Nat} {S : Nat → Int32} (h : RB σ b S) {j : Nat} (hj : j < mK S) {u : Nat} (hu : u < mU S) : (uStart σ b (mU S) j).1 (.inl (b, 7)) u = sU (mStart S j) 4 u := by
  have hx := h.x
  have hC := hx.i.c hj
  have u15 := hx.i.u15
  have k40 := hx.i.k40
  have hc := h.c hj
  have e7 : ∀ w, (uStart0 σ b (mU S) j).1 (.inl (b, 7)) w = σ.1 (.inl (b, 7)) w := fun w => by
    unfold uStart0
    rw [xu_ne _ _ _ (by simp), xu_ne _ _ _ (by simp), xu_ne _ _ _ (by simp)]
  have eT : cTold ((uStart0 σ b (mU S) j).1 (.inl (b, 7))) (xtalk σ b j) (mU S) = mTold S (sC S 0 j) (sC S 1 j) := by
    unfold xtalk
    rw [hc.2.1, hc.2.2.1]
    exact told_eq hx (fun w hw => by rw [e7]; exact (h.u hw).2.2.2.2.1) hC.1 hC.oy
  have em : sU (mStart S j) 4 u = mHear (mTell S (sC S 0 j) (sC S 1 j)) (mEars S (sC S 0 j) (sC S 1 j)) (mTold S (sC S 0 j) (sC S 1 j)) (mU S) (10 + 12 * u + 4) := by
    show mStart S j (10 + 12 * u + 4) = _
    unfold mStart mStart0
    rw [upd_ne (by omega), upd_ne (by omega), upd_ne (by omega), upd_ne (by omega)]
  rw [em, mHear_at (by omega), mTell_at]
  unfold uStart
  rw [uTell_at (by omega), eT, h.heard hj, e7, (h.u hu).2.2.2.2.1]
  have hb : bt (xtalk σ b j ||| mEars S (sC S 0 j) (sC S 1 j)) u = true ↔ ((nI u = sC S 0 j ∨ nI u = sC S 1 j) ∨ bt (mEars S (sC S 0 j) (sC S 1 j)) u = true) := by
    rw [zb_orT]
    unfold xtalk
    rw [hc.2.1, hc.2.2.1, talk_bt hx hC.1 hC.oy (by omega)]
  have hE : bt (mEars S (sC S 0 j) (sC S 1 j)) u = true → ¬ nI u = sC S 0 j ∧ ¬ nI u = sC S 1 j := fun q => by
    unfold mEars at q
    have := (zb_set (by omega) (by omega)).mp q
    exact ⟨this.2.1, this.2.2.1⟩
  have hxc := xok_c hC.1 (by omega)
  have ex : nI u = sC S 0 j ↔ u = cN (sC S 0 j) := ⟨fun q => neq (q.trans hxc.2), fun q => by rw [q]; exact hxc.2.symm⟩
  rcases hC.two u15 hx.i.t4 with ⟨h1, h2, h3, h4⟩ | ⟨h1, h2, h3, h4⟩
  · have hyc := xok_c h3 (by omega)
    have ey : nI u = sC S 1 j ↔ u = cN (sC S 1 j) := ⟨fun q => neq (q.trans hyc.2), fun q => by rw [q]; exact hyc.2.symm⟩
    by_cases g : u = cN (sC S 0 j) ∨ u = cN (sC S 1 j)
    · have g2 : nI u = sC S 0 j ∨ nI u = sC S 1 j := g.imp ex.mpr ey.mpr
      rw [if_pos ⟨hu, hb.mpr (Or.inl g2)⟩, if_neg (fun q => by have := hE q.2; exact g2.elim this.1 this.2), if_pos ⟨h2, g⟩]
      have et : mTold S (sC S 0 j) (sC S 1 j) = sU S 4 (cN (sC S 0 j)) ||| sU S 4 (cN (sC S 1 j)) := if_neg h2
      rw [et]
      refine zb_eq (fun i hi => ?_)
      rw [zb_orT, zb_orT]
      rcases g with e | e
      · rw [e]; exact ⟨fun q => q.elim Or.inl id, Or.inr⟩
      · rw [e]; exact ⟨fun q => q.elim Or.inr id, Or.inr⟩
    · rw [if_neg (c := ¬ sC S 1 j = -1 ∧ (u = cN (sC S 0 j) ∨ u = cN (sC S 1 j))) (fun q => g q.2)]
      by_cases z : bt (mEars S (sC S 0 j) (sC S 1 j)) u = true
      · rw [if_pos ⟨hu, hb.mpr (Or.inr z)⟩, if_pos ⟨hu, z⟩]
      · rw [if_neg (fun q => (hb.mp q.2).elim (fun w => g (w.imp ex.mp ey.mp)) z), if_neg (fun q => z q.2)]
  · have ny : ¬ nI u = sC S 1 j := fun q => by
      rw [h1] at q
      exact xok_m1 (n := 32) (q ▸ xok_nI (by omega))
    rw [if_neg (c := ¬ sC S 1 j = -1 ∧ _) (fun q => q.1 h1)]
    by_cases g : u = cN (sC S 0 j)
    · rw [if_pos ⟨hu, hb.mpr (Or.inl (Or.inl (ex.mpr g)))⟩, if_neg (fun q => (hE q.2).1 (ex.mpr g))]
      have et : mTold S (sC S 0 j) (sC S 1 j) = sU S 4 (cN (sC S 0 j)) := if_pos h1
      rw [et, g]
      exact zb_eq (fun i hi => by rw [zb_orT]; exact ⟨fun q => q.elim id id, Or.inl⟩)
    · by_cases z : bt (mEars S (sC S 0 j) (sC S 1 j)) u = true
      · rw [if_pos ⟨hu, hb.mpr (Or.inr z)⟩, if_pos ⟨hu, z⟩]
      · rw [if_neg (fun q => (hb.mp q.2).elim (fun w => w.elim (fun a => g (ex.mp a)) ny) z), if_neg (fun q => z q.2)]
/-- masks and names hang on the fixed places alone -/
theorem mMask_cg {S S1 : Nat → Int32} {c : Nat} (hu : mU S ≤ 15) (e : mU S1 = mU S) (hl : ∀ u, u < mU S → sU S1 0 u = sU S 0 u) (h0 : sC S1 0 c = sC S 0 c) (h1 : sC S1 1 c = sC S 1 c) (h2 : sC S1 2 c = sC S 2 c) : mMask S1 c = mMask S c := by
  unfold mMask
  rw [e, h0, h1, h2, xline_cg (by omega) hl, xline_cg (by omega) hl]
theorem mName_cg {S S1 : Nat → Int32} {u : Nat} (h5 : sU S1 5 u = sU S 5 u) (h6 : ∀ i, sU S1 (6 + i) u = sU S (6 + i) u) : mName S1 u = mName S u := by
  unfold mName
  rw [h5]
  exact congrArg (fun f => xnm f 6) (funext fun i => by rw [h6])
theorem xnm_cg {f g : Nat → Int32} : ∀ {n : Nat}, (∀ i, i < n → f i = g i) → xnm f n = xnm g n
  | 0, _ => rfl
  | n + 1, h => by rw [xnm, xnm, xnm_cg (n := n) (fun i hi => h i (by omega)), h n (by omega)]
theorem mName_cg6 {S S1 : Nat → Int32} {u : Nat} (h5 : sU S1 5 u = sU S 5 u) (h6 : ∀ i, i < 6 → sU S1 (6 + i) u = sU S (6 + i) u) : mName S1 u = mName S u := by
  unfold mName
  rw [h5]
  exact xnm_cg (fun i hi => by rw [h6 i hi])
theorem MXu.cg {S S1 : Nat → Int32} {u : Nat} (h : MXu S u) (el : mL S1 = mL S) (h0 : sU S1 0 u = sU S 0 u) (h1 : sU S1 1 u = sU S 1 u) (h5 : sU S1 5 u = sU S 5 u) (hn : cN (sU S 5 u) ≤ 6) (h6 : ∀ i, i < 6 → sU S1 (6 + i) u = sU S (6 + i) u) : MXu S1 u := by
  unfold MXu at *
  rw [el, h0, h1, h5]
  exact ⟨h.1, h.2.1, h.2.2.1, fun i hi => by rw [h6 i (by omega)]; exact h.2.2.2 i hi⟩
theorem MX.n6 {S : Nat → Int32} (h : MX S) {u : Nat} (hu : u < mU S) : cN (sU S 5 u) ≤ 6 := by
  have := (xok_c (h.n u hu) (by omega)).1
  omega
theorem mOwn_cg {S S1 : Nat → Int32} {c : Nat} (h0 : sC S1 0 c = sC S 0 c) (h1 : sC S1 1 c = sC S 1 c) (h2 : sC S1 2 c = sC S 2 c) (ha : sU S1 0 (cN (sC S 0 c)) = sU S 0 (cN (sC S 0 c))) (hb : sC S 2 c = -1 → sU S1 0 (cN (sC S 1 c)) = sU S 0 (cN (sC S 1 c))) : mOwn S1 c ↔ mOwn S c := by
  unfold mOwn
  rw [h0, h1, h2, ha]
  exact ⟨fun q => ⟨q.1, by rw [← hb q.1]; exact q.2⟩, fun q => ⟨q.1, by rw [hb q.1]; exact q.2⟩⟩
/-- a start -/
theorem RB.start {σ : XS} {b : Nat} {S : Nat → Int32} (h : RB σ b S) {j : Nat} (hj : j < mK S) (hw : mWhy S j = 0) (h4 : sC S 4 j = 0) : RB (uStart σ b (mU S) j) b (mStart S j) := by
  have hx := h.x
  have u15 := hx.i.u15
  have k40 := hx.i.k40
  have l6 := hx.i.l6
  have t4 := hx.i.t4
  have hF := mStart_fx hx.i hj
  have eU : mU (mStart S j) = mU S := by rw [mU, mU, hF 4 (Or.inl (by decide))]
  have eK : mK (mStart S j) = mK S := by rw [mK, mK, hF 5 (Or.inl (by decide))]
  have eL : mL (mStart S j) = mL S := by rw [mL, mL, hF 1 (Or.inl (by decide))]
  have eT : mT (mStart S j) = mT S := by rw [mT, mT, hF 3 (Or.inl (by decide))]
  have uo : ∀ u, u < 15 → ∀ w, w < 12 → ¬ w = 4 → sU (mStart S j) w u = sU S w u := fun u hu w hw2 hne => mStart_o (fun q => by omega) (by omega) (by omega) (by omega) (by omega)
  have co : ∀ c w, w < 4 → sC (mStart S j) w c = sC S w c := fun c w hw2 => hF _ (Or.inr ⟨by omega, by omega⟩)
  have cn : ∀ c, ¬ c = j → ∀ w, w < 9 → sC (mStart S j) w c = sC S w c := fun c hc w hw2 => mStart_c hx.i hj _ (by omega) (by omega) (by omega) (by omega) (by omega)
  have mo : ∀ c, mMask (mStart S j) c = mMask S c := fun c => mMask_cg u15 eU (fun u hu => uo u (by omega) 0 (by omega) (by omega)) (co c 0 (by omega)) (co c 1 (by omega)) (co c 2 (by omega))
  have j4 : sC (mStart S j) 4 j = 1 := by
    show mStart S j (190 + 9 * j + 4) = 1
    unfold mStart
    rw [upd_ne (by omega), upd_ne (by omega), upd_ne (by omega), upd_at]
  have j5 : sC (mStart S j) 5 j = S 0 := by
    show mStart S j (190 + 9 * j + 5) = S 0
    unfold mStart
    rw [upd_ne (by omega), upd_ne (by omega), upd_at]
  have j6 : sC (mStart S j) 6 j = sC S 6 j := mStart_c hx.i hj _ (by omega) (by omega) (by omega) (by omega) (by omega)
  have j7 : sC (mStart S j) 7 j = mEars S (sC S 0 j) (sC S 1 j) := by
    show mStart S j (190 + 9 * j + 7) = _
    unfold mStart
    rw [upd_ne (by omega), upd_at]
  have j8 : sC (mStart S j) 8 j = xvolW (mEars S (sC S 0 j) (sC S 1 j)) := by
    show mStart S j (190 + 9 * j + 8) = _
    unfold mStart
    rw [upd_at]
  have so : ∀ k, k ≠ 7 → k ≠ 9 → k ≠ 16 → k ≠ 18 → (uStart σ b (mU S) j).1 (.inl (b, k)) = σ.1 (.inl (b, k)) := fun k a1 a2 a3 a4 => uStart_o _ _ _ _ (by simpa using a1) (by simpa using a2) (by simpa using a3) (by simpa using a4)
  have st : ∀ k c, k ≠ 7 → (uStart σ b (mU S) j).1 (.inl (b, k)) c = (uStart0 σ b (mU S) j).1 (.inl (b, k)) c := fun k c a1 => by
    unfold uStart
    rw [uTell_o _ _ _ _ (by simpa using a1)]
  have own : ∀ c, c < mK S → (mOwn (mStart S j) c ↔ mOwn S c) := fun c hc => by
    have hC := hx.i.c hc
    refine mOwn_cg (co c 0 (by omega)) (co c 1 (by omega)) (co c 2 (by omega)) (uo _ (by have := hC.cu u15; omega) 0 (by omega) (by omega)) (fun q => ?_)
    rcases hC.two u15 t4 with ⟨-, -, -, z⟩ | ⟨-, z, -, -⟩
    · exact uo _ (by omega) 0 (by omega) (by omega)
    · exact absurd q z
  refine ⟨?_, ?_, ?_, ?_, ?_⟩
  · unfold RBs
    rw [so 0 (by decide) (by decide) (by decide) (by decide), so 1 (by decide) (by decide) (by decide) (by decide), so 8 (by decide) (by decide) (by decide) (by decide), hF 0 (Or.inl (by decide)), hF 1 (Or.inl (by decide)), hF 2 (Or.inl (by decide)), hF 3 (Or.inl (by decide)), hF 4 (Or.inl (by decide)), hF 5 (Or.inl (by decide))]
    exact h.s
  · intro i hi
    rw [eT] at hi
    rw [so 19 (by decide) (by decide) (by decide) (by decide), hF _ (Or.inl (by omega))]
    exact h.to hi
  · intro u hu
    rw [eU] at hu
    have := h.u hu
    unfold RBu
    rw [so 3 (by decide) (by decide) (by decide) (by decide), so 4 (by decide) (by decide) (by decide) (by decide), so 5 (by decide) (by decide) (by decide) (by decide), so 6 (by decide) (by decide) (by decide) (by decide), uStart_l, uo u (by omega) 0 (by omega) (by omega), uo u (by omega) 1 (by omega) (by omega), uo u (by omega) 2 (by omega) (by omega), uo u (by omega) 3 (by omega) (by omega), mName_cg6 (uo u (by omega) 5 (by omega) (by omega)) (fun i hi => uo u (by omega) (6 + i) (by omega) (by omega))]
    exact ⟨this.1, this.2.1, this.2.2.1, this.2.2.2.1, h.sec hj hu, this.2.2.2.2.2⟩
  · intro c hc
    rw [eK] at hc
    have := h.c hc
    unfold RBc
    rw [so 10 (by decide) (by decide) (by decide) (by decide), so 11 (by decide) (by decide) (by decide) (by decide), so 12 (by decide) (by decide) (by decide) (by decide), so 13 (by decide) (by decide) (by decide) (by decide), so 14 (by decide) (by decide) (by decide) (by decide), so 15 (by decide) (by decide) (by decide) (by decide), so 17 (by decide) (by decide) (by decide) (by decide), co c 0 (by omega), co c 1 (by omega), co c 2 (by omega), co c 3 (by omega), mo c, st 9 c (by decide), st 16 c (by decide), st 18 c (by decide)]
    unfold uStart0
    simp only [xu_ap, Sum.inl.injEq, Prod.mk.injEq, true_and]
    rw [h.heard hj, h.s.1]
    by_cases e : c = j
    · subst e
      rw [j4, j5, j6, j7]
      simp
      exact ⟨this.2.1, this.2.2.1, this.2.2.2.1, this.2.2.2.2.1, this.2.2.2.2.2.1, this.2.2.2.2.2.2.1, this.2.2.2.2.2.2.2.2.1⟩
    · rw [cn c e 4 (by omega), cn c e 5 (by omega), cn c e 6 (by omega), cn c e 7 (by omega)]
      simp [e]
      exact this
  · have hcl : mCords (mStart S j) (mK S) ≤ cN (S 2) := by
      unfold mWhy at hw
      by_cases g1 : 0 < mLine S (sU S 0 (cN (sC S 0 j))) (mK S)
      · rw [if_pos g1] at hw; exact absurd hw (by decide)
      · rw [if_neg g1] at hw
        split at hw
        · exact absurd hw (by decide)
        · by_cases g3 : ¬ mOwn S j ∧ nI (mCords S (mK S)) = S 2
          · rw [if_pos g3] at hw; exact absurd hw (by decide)
          · have h1 : mCords (mStart S j) (mK S) ≤ mCords S (mK S) + 1 := zc_one (j := j) (fun c hc he q => ⟨cn c he 4 (by omega) ▸ q.1, fun z => q.2 ((own c hc).mpr z)⟩)
            by_cases g4 : mOwn S j
            · have h2 : mCords (mStart S j) (mK S) ≤ mCords S (mK S) := zc_mono (fun c hc q => by
                by_cases he : c = j
                · exact absurd ((own c hc).mpr (he ▸ g4)) q.2
                · exact ⟨cn c he 4 (by omega) ▸ q.1, fun z => q.2 ((own c hc).mpr z)⟩)
              have := hx.cs
              omega
            · have := hx.cs
              have h3 : ¬ mCords S (mK S) = cN (S 2) := fun q => g3 ⟨g4, by rw [q]; exact hx.c2.symm⟩
              omega
    refine ⟨⟨hx.i.start hj, ?_, ?_⟩, ?_, ⟨?_, ?_, ?_⟩, ?_, ?_⟩
    · intro u hu
      rw [eU] at hu
      rw [uo u (by omega) 5 (by omega) (by omega)]
      exact hx.n u hu
    · intro u hu
      rw [eU] at hu
      rw [uo u (by omega) 1 (by omega) (by omega)]
      exact hx.co u hu
    · rw [eL]; exact hx.l1
    · rw [hF 2 (Or.inl (by decide))]; exact hx.c2
    · rw [hF 2 (Or.inl (by decide))]; exact hx.c6
    · rw [eK, hF 2 (Or.inl (by decide))]; exact hcl
    · intro u hu
      rw [eU] at hu
      exact (hx.u hu).cg eL (uo u (by omega) 0 (by omega) (by omega)) (uo u (by omega) 1 (by omega) (by omega)) (uo u (by omega) 5 (by omega) (by omega)) (hx.n6 hu) (fun i hi => uo u (by omega) (6 + i) (by omega) (by omega))
    · intro c hc
      rw [eK] at hc
      have := hx.c hc
      unfold MXc
      rw [co c 3 (by omega)]
      by_cases e : c = j
      · subst e
        rw [j4, j7, j8]
        exact ⟨Or.inr (Or.inl rfl), this.2.1, rfl⟩
      · rw [cn c e 4 (by omega), cn c e 7 (by omega), cn c e 8 (by omega)]
        exact this
theorem RB.kw {σ : XS} {b : Nat} {S : Nat → Int32} {u : Int32} (hM : MI S) {k : Nat} (hk : k ≤ mK S) : mU (mWait S u k).1 = mU S ∧ mK (mWait S u k).1 = mK S ∧ mT (mWait S u k).1 = mT S := by
  have h := mWait_fx (u := u) hM k hk
  exact ⟨by rw [mU, mU, h 4 (Or.inl (by decide))], by rw [mK, mK, h 5 (Or.inl (by decide))], by rw [mT, mT, h 3 (Or.inl (by decide))]⟩
/-- the waiting calls are looked at -/
theorem RB.wait {σ : XS} {b : Nat} {S : Nat → Int32} (h : RB σ b S) (u : Int32) : ∀ k, k ≤ mK S → RB (uWait σ b (mU S) (mK S) u k).1 b (mWait S u k).1 ∧ (uWait σ b (mU S) (mK S) u k).2 = (mWait S u k).2
  | 0, _ => ⟨h, rfl⟩
  | k + 1, hk => by
    have ih := RB.wait h u k (by omega)
    obtain ⟨eU, eK, -⟩ := RB.kw (σ := σ) (b := b) (u := u) h.x.i (k := k) (by omega)
    have hc := ih.1.c (c := k) (by rw [eK]; omega)
    have hb := ih.1.blk (j := k) (by rw [eK]; omega)
    rw [eU, eK] at hb
    unfold uWait mWait
    rw [hc.1, hc.2.2.2.2.1, hb]
    by_cases g : sC (mWait S u k).1 4 k = 0 ∧ sC (mWait S u k).1 3 k = u ∧ mWhy (mWait S u k).1 k = 0
    · rw [if_pos g, if_pos g]
      have := ih.1.start (j := k) (by rw [eK]; omega) g.2.2 g.1
      rw [eU] at this
      exact ⟨this, by show _ + 1 = _ + 1; rw [ih.2]⟩
    · rw [if_neg g, if_neg g]
      exact ih
theorem RB.chg {σ : XS} {b : Nat} {S : Nat → Int32} (h : RB σ b S) {j : Nat} (hj : j < mK S) : xchg σ b (mT S) j = mCost S j := by
  have hx := h.x
  have hC := hx.i.c hj
  have hc := h.c hj
  have hX := hx.c hj
  have t4 := hx.i.t4
  unfold xchg mCost
  rw [hc.1, hc.2.2.2.1, hc.2.2.2.2.2.2.2.1, hc.2.2.2.2.2.2.2.2.1, h.s.1]
  rcases hX.1 with e | e | e | e
  · rw [e]; rfl
  · rw [e, if_neg (by decide), if_neg (by decide), if_pos (Or.inl rfl), if_pos rfl]
    rcases hC.two hx.i.u15 t4 with ⟨h1, h2, h3, h4⟩ | ⟨h1, h2, h3, h4⟩
    · rw [h1, if_neg xok_m1, if_pos rfl]
    · rw [if_neg h2, if_pos (by rw [h4]; exact xok_nI h3), h.to h3, Int32.mul_comm]
  · rw [e, if_neg (by decide), if_neg (by decide), if_pos (Or.inr rfl), if_neg (c := (2 : Int32) = 1) (by decide)]
    rcases hC.two hx.i.u15 t4 with ⟨h1, h2, h3, h4⟩ | ⟨h1, h2, h3, h4⟩
    · rw [h1, if_neg xok_m1, if_pos rfl]
    · rw [if_neg h2, if_pos (by rw [h4]; exact xok_nI h3), h.to h3, Int32.mul_comm]
  · rw [e]; rfl
theorem mFin0_o {S : Nat → Int32} {j n : Nat} (h1 : n ≠ 10 + 12 * cN (sC S 0 j) + 3) (h2 : n ≠ 190 + 9 * j + 4) (h3 : n ≠ 190 + 9 * j + 6) : mFin0 S j n = S n := by
  unfold mFin0
  rw [upd_ne h3, upd_ne h2, upd_ne h1]
/-- call j ends, before the waiting calls are looked at -/
theorem RB.fin0 {σ : XS} {b : Nat} {S : Nat → Int32} (h : RB σ b S) {j : Nat} (hj : j < mK S) (ho : sC S 4 j = 0 ∨ sC S 4 j = 1) : RB (uFin σ b (mU S) (mT S) j) b (mFin0 S j) := by
  have hx := h.x
  have u15 := hx.i.u15
  have k40 := hx.i.k40
  have t4 := hx.i.t4
  have hC := hx.i.c hj
  have ca := hC.cu u15
  have hc := h.c hj
  have hF := mFin0_fx hx.i hj
  have eU : mU (mFin0 S j) = mU S := by rw [mU, mU, hF 4 (Or.inl (by decide))]
  have eK : mK (mFin0 S j) = mK S := by rw [mK, mK, hF 5 (Or.inl (by decide))]
  have eL : mL (mFin0 S j) = mL S := by rw [mL, mL, hF 1 (Or.inl (by decide))]
  have eT : mT (mFin0 S j) = mT S := by rw [mT, mT, hF 3 (Or.inl (by decide))]
  have uo : ∀ u, u < 15 → ∀ w, w < 12 → ¬ w = 3 → sU (mFin0 S j) w u = sU S w u := fun u hu w hw2 hne => mFin0_o (by omega) (by omega) (by omega)
  have co : ∀ c w, w < 4 → sC (mFin0 S j) w c = sC S w c := fun c w hw2 => hF _ (Or.inr ⟨by omega, by omega⟩)
  have cw : ∀ c w, w < 9 → ¬ w = 4 → ¬ w = 6 → sC (mFin0 S j) w c = sC S w c := fun c w hw2 n4 n6 => mFin0_o (by omega) (by omega) (by omega)
  have cn : ∀ c, ¬ c = j → ∀ w, w < 9 → sC (mFin0 S j) w c = sC S w c := fun c hc w hw2 => mFin0_o (by omega) (by omega) (by omega)
  have mo : ∀ c, mMask (mFin0 S j) c = mMask S c := fun c => mMask_cg u15 eU (fun u hu => uo u (by omega) 0 (by omega) (by omega)) (co c 0 (by omega)) (co c 1 (by omega)) (co c 2 (by omega))
  have j4 : sC (mFin0 S j) 4 j = if sC S 4 j = 1 then 2 else 3 := by
    show mFin0 S j (190 + 9 * j + 4) = _
    unfold mFin0
    rw [upd_ne (by omega), upd_at]
  have j6 : sC (mFin0 S j) 6 j = S 0 := by
    show mFin0 S j (190 + 9 * j + 6) = _
    unfold mFin0
    rw [upd_at]
  have bi : ∀ u, u < 15 → sU (mFin0 S j) 3 u = if u = cN (sC S 0 j) then sU S 3 u + mCost S j else sU S 3 u := fun u hu => by
    show mFin0 S j (10 + 12 * u + 3) = _
    unfold mFin0
    rw [upd_ne (by omega), upd_ne (by omega)]
    by_cases e : u = cN (sC S 0 j)
    · rw [if_pos e, e, upd_at]
    · rw [if_neg e, upd_ne (by omega)]
  -- the class's side
  have xe : xchg (uFin1 σ b j 2) b (mT S) j = if sC S 4 j = 1 then mCost S j else xchg (uFin1 σ b j 2) b (mT S) j := by
    by_cases g : sC S 4 j = 1
    · rw [if_pos g, ← h.chg hj]
      unfold xchg uFin1
      simp only [xu_ap, Sum.inl.injEq, Prod.mk.injEq, true_and]
      rw [hc.1, g]
      simp
    · rw [if_neg g]
  have so : ∀ k, k ≠ 6 → k ≠ 9 → k ≠ 17 → (uFin σ b (mU S) (mT S) j).1 (.inl (b, k)) = σ.1 (.inl (b, k)) := fun k a1 a2 a3 => by
    unfold uFin uBill uFin1
    split
    · split
      · rw [xu_ne _ _ _ (by simpa using a1), xu_ne _ _ _ (by simpa using a3), xu_ne _ _ _ (by simpa using a2)]
      · rw [xu_ne _ _ _ (by simpa using a3), xu_ne _ _ _ (by simpa using a2)]
    · rw [xu_ne _ _ _ (by simpa using a3), xu_ne _ _ _ (by simpa using a2)]
  have sl : (uFin σ b (mU S) (mT S) j).2 = σ.2 := by
    unfold uFin uBill uFin1
    split
    · split <;> rfl
    · rfl
  have s9 : ∀ c, (uFin σ b (mU S) (mT S) j).1 (.inl (b, 9)) c = if c = j then (if sC S 4 j = 1 then 2 else 3) else σ.1 (.inl (b, 9)) c := fun c => by
    unfold uFin uBill uFin1
    rw [hc.1]
    split
    · split
      · simp only [xu_ap, Sum.inl.injEq, Prod.mk.injEq, true_and]; simp
      · simp only [xu_ap, Sum.inl.injEq, Prod.mk.injEq, true_and]; simp
    · simp only [xu_ap, Sum.inl.injEq, Prod.mk.injEq, true_and]; simp
  have s17 : ∀ c, (uFin σ b (mU S) (mT S) j).1 (.inl (b, 17)) c = if c = j then S 0 else σ.1 (.inl (b, 17)) c := fun c => by
    unfold uFin uBill uFin1
    rw [h.s.1]
    split
    · split
      · simp only [xu_ap, Sum.inl.injEq, Prod.mk.injEq, true_and]; simp
      · simp only [xu_ap, Sum.inl.injEq, Prod.mk.injEq, true_and]; simp
    · simp only [xu_ap, Sum.inl.injEq, Prod.mk.injEq, true_and]; simp
  have s6 : ∀ u, u < mU S → (uFin σ b (mU S) (mT S) j).1 (.inl (b, 6)) u = sU (mFin0 S j) 3 u := fun u hu => by
    rw [bi u (by omega)]
    have hu3 := (h.u hu).2.2.2.1
    unfold uFin
    rw [hc.1]
    by_cases g : sC S 4 j = 1
    · rw [if_pos g] at xe
      rw [if_pos g]
      unfold uBill
      rw [hc.2.1, if_pos hC.1, xe]
      by_cases e : u = cN (sC S 0 j)
      · rw [if_pos e, e, xu_self]
        rw [e] at hu3
        unfold uFin1
        rw [xu_ne _ _ _ (by simp), xu_ne _ _ _ (by simp), hu3]
      · rw [if_neg e, xu_nk _ _ _ e]
        unfold uFin1
        rw [xu_ne _ _ _ (by simp), xu_ne _ _ _ (by simp), hu3]
    · rw [if_neg g]
      have e0 : sC S 4 j = 0 := ho.resolve_right g
      have ec : mCost S j = 0 := by
        unfold mCost
        rw [e0]; rfl
      unfold uFin1
      rw [xu_ne _ _ _ (by simp), xu_ne _ _ _ (by simp), hu3, ec]
      split
      · rw [Int32.add_zero]
      · rfl
  have own : ∀ c, c < mK S → (mOwn (mFin0 S j) c ↔ mOwn S c) := fun c hc => by
    have hC := hx.i.c hc
    refine mOwn_cg (co c 0 (by omega)) (co c 1 (by omega)) (co c 2 (by omega)) (uo _ (by have := hC.cu u15; omega) 0 (by omega) (by omega)) (fun q => ?_)
    rcases hC.two u15 t4 with ⟨-, -, -, z⟩ | ⟨-, z, -, -⟩
    · exact uo _ (by omega) 0 (by omega) (by omega)
    · exact absurd q z
  refine ⟨?_, ?_, ?_, ?_, ?_⟩
  · unfold RBs
    rw [so 0 (by decide) (by decide) (by decide), so 1 (by decide) (by decide) (by decide), so 8 (by decide) (by decide) (by decide), hF 0 (Or.inl (by decide)), hF 1 (Or.inl (by decide)), hF 2 (Or.inl (by decide)), hF 3 (Or.inl (by decide)), hF 4 (Or.inl (by decide)), hF 5 (Or.inl (by decide))]
    exact h.s
  · intro i hi
    rw [eT] at hi
    rw [so 19 (by decide) (by decide) (by decide), hF _ (Or.inl (by omega))]
    exact h.to hi
  · intro u hu
    rw [eU] at hu
    have := h.u hu
    unfold RBu
    rw [so 3 (by decide) (by decide) (by decide), so 4 (by decide) (by decide) (by decide), so 5 (by decide) (by decide) (by decide), so 7 (by decide) (by decide) (by decide), sl, s6 u hu, uo u (by omega) 0 (by omega) (by omega), uo u (by omega) 1 (by omega) (by omega), uo u (by omega) 2 (by omega) (by omega), uo u (by omega) 4 (by omega) (by omega), mName_cg6 (uo u (by omega) 5 (by omega) (by omega)) (fun i hi => uo u (by omega) (6 + i) (by omega) (by omega))]
    exact ⟨this.1, this.2.1, this.2.2.1, rfl, this.2.2.2.2.1, this.2.2.2.2.2⟩
  · intro c hc
    rw [eK] at hc
    have := h.c hc
    unfold RBc
    rw [so 10 (by decide) (by decide) (by decide), so 11 (by decide) (by decide) (by decide), so 12 (by decide) (by decide) (by decide), so 13 (by decide) (by decide) (by decide), so 14 (by decide) (by decide) (by decide), so 15 (by decide) (by decide) (by decide), so 16 (by decide) (by decide) (by decide), so 18 (by decide) (by decide) (by decide), co c 0 (by omega), co c 1 (by omega), co c 2 (by omega), co c 3 (by omega), cw c 5 (by omega) (by omega) (by omega), cw c 7 (by omega) (by omega) (by omega), mo c, s9, s17]
    by_cases e : c = j
    · subst e
      rw [j4, j6, if_pos rfl, if_pos rfl]
      exact ⟨rfl, this.2.1, this.2.2.1, this.2.2.2.1, this.2.2.2.2.1, this.2.2.2.2.2.1, this.2.2.2.2.2.2.1, this.2.2.2.2.2.2.2.1, rfl, this.2.2.2.2.2.2.2.2.2⟩
    · rw [cn c e 4 (by omega), cn c e 6 (by omega), if_neg e, if_neg e]
      exact this
  · have hcl : mCords (mFin0 S j) (mK S) ≤ mCords S (mK S) := zc_mono (fun c hc q => by
      by_cases e : c = j
      · subst e
        have := q.1
        rw [j4] at this
        split at this <;> exact absurd this (by decide)
      · exact ⟨cn c e 4 (by omega) ▸ q.1, fun z => q.2 ((own c hc).mpr z)⟩)
    refine ⟨⟨hx.i.fx hF, ?_, ?_⟩, ?_, ⟨?_, ?_, ?_⟩, ?_, ?_⟩
    · intro u hu
      rw [eU] at hu
      rw [uo u (by omega) 5 (by omega) (by omega)]
      exact hx.n u hu
    · intro u hu
      rw [eU] at hu
      rw [uo u (by omega) 1 (by omega) (by omega)]
      exact hx.co u hu
    · rw [eL]; exact hx.l1
    · rw [hF 2 (Or.inl (by decide))]; exact hx.c2
    · rw [hF 2 (Or.inl (by decide))]; exact hx.c6
    · rw [eK, hF 2 (Or.inl (by decide))]
      have := hx.cs
      omega
    · intro u hu
      rw [eU] at hu
      exact (hx.u hu).cg eL (uo u (by omega) 0 (by omega) (by omega)) (uo u (by omega) 1 (by omega) (by omega)) (uo u (by omega) 5 (by omega) (by omega)) (hx.n6 hu) (fun i hi => uo u (by omega) (6 + i) (by omega) (by omega))
    · intro c hc
      rw [eK] at hc
      have := hx.c hc
      unfold MXc
      rw [co c 3 (by omega), cw c 7 (by omega) (by omega) (by omega), cw c 8 (by omega) (by omega) (by omega)]
      by_cases e : c = j
      · subst e
        rw [j4]
        refine ⟨?_, this.2.1, this.2.2⟩
        split
        · exact Or.inr (Or.inr (Or.inl rfl))
        · exact Or.inr (Or.inr (Or.inr rfl))
      · rw [cn c e 4 (by omega)]
        exact this
/-- .. and behind it -/
theorem RB.fin {σ : XS} {b : Nat} {S : Nat → Int32} (h : RB σ b S) {j : Nat} (hj : j < mK S) (ho : sC S 4 j = 0 ∨ sC S 4 j = 1) : RB (uFinB σ b (mU S) (mK S) (mT S) j).1 b (mFin S j).1 ∧ nI (uFinA σ b (mU S) (mK S) (mT S) j).2 + nI (uFinB σ b (mU S) (mK S) (mT S) j).2 = nI (mFin S j).2 := by
  have hM := h.x.i
  have h0 := h.fin0 hj ho
  have hF := mFin0_fx hM hj
  have eU : mU (mFin0 S j) = mU S := by rw [mU, mU, hF 4 (Or.inl (by decide))]
  have eK : mK (mFin0 S j) = mK S := by rw [mK, mK, hF 5 (Or.inl (by decide))]
  have h1 := h0.wait 1 (mK (mFin0 S j)) (Nat.le_refl _)
  obtain ⟨fU, fK, -⟩ := RB.kw (σ := σ) (b := b) (u := 1) h0.x.i (k := mK (mFin0 S j)) (Nat.le_refl _)
  have h2 := h1.1.wait 0 (mK (mFin0 S j)) (by rw [fK]; exact Nat.le_refl _)
  rw [fU, fK, eU, eK] at h2
  rw [eU, eK] at h1
  unfold uFinB uFinA mFin mWaits
  rw [eK]
  refine ⟨h2.1, ?_⟩
  show nI (uWait (uFin σ b (mU S) (mT S) j) b (mU S) (mK S) 1 (mK S)).2 + nI (uWait (uWait (uFin σ b (mU S) (mT S) j) b (mU S) (mK S) 1 (mK S)).1 b (mU S) (mK S) 0 (mK S)).2 = _
  rw [h1.2, h2.2, nI_add]
/-- a call more -/
theorem RB.req0 {σ : XS} {b : Nat} {S : Nat → Int32} (h : RB σ b S) (hk : mK S < 40) {x y t u : Int32} (hx1 : xok x (mU S)) (hyt : (t = -1 ∧ xok y (mU S)) ∨ (y = -1 ∧ xok t (mT S))) (hu : u = 0 ∨ u = 1) : RB (uReq0 σ b (mU S) (mK S) x y t u) b (mReq0 S x y t u) := by
  have hx := h.x
  have u15 := hx.i.u15
  have t4 := hx.i.t4
  have o : ∀ n, n ≠ 5 → n < 190 + 9 * mK S ∨ 199 + 9 * mK S ≤ n → mReq0 S x y t u n = S n := fun n h1 h2 => mReq0_o h1 h2
  have eK := mReq0_K (x := x) (y := y) (t := t) (u := u) hk
  have eU : mU (mReq0 S x y t u) = mU S := by rw [mU, mU, o 4 (by decide) (by omega)]
  have eL : mL (mReq0 S x y t u) = mL S := by rw [mL, mL, o 1 (by decide) (by omega)]
  have eT : mT (mReq0 S x y t u) = mT S := by rw [mT, mT, o 3 (by decide) (by omega)]
  have uo : ∀ v, v < 15 → ∀ w, w < 12 → sU (mReq0 S x y t u) w v = sU S w v := fun v hv w hw => o _ (by omega) (by omega)
  have cn : ∀ c, c < mK S → ∀ w, w < 9 → sC (mReq0 S x y t u) w c = sC S w c := fun c hc w hw => o _ (by omega) (by omega)
  obtain ⟨j0, j1, j2, j3, j4, j5, j6, j7, j8⟩ := mReq0_c (S := S) (x := x) (y := y) (t := t) (u := u)
  have eM : mMask (mReq0 S x y t u) (mK S) = xline (σ.1 (.inl (b, 3))) (mU S) x ||| xline (σ.1 (.inl (b, 3))) (mU S) y ||| xtb t := by
    unfold mMask
    rw [eU, j0, j1, j2, xline_cg (by omega) (fun v hv => (uo v (by omega) 0 (by omega)).trans (h.u hv).1.symm), xline_cg (by omega) (fun v hv => (uo v (by omega) 0 (by omega)).trans (h.u hv).1.symm)]
  have mo : ∀ c, c < mK S → mMask (mReq0 S x y t u) c = mMask S c := fun c hc => mMask_cg u15 eU (fun v hv => uo v (by omega) 0 (by omega)) (cn c hc 0 (by omega)) (cn c hc 1 (by omega)) (cn c hc 2 (by omega))
  have own : ∀ c, c < mK S → (mOwn (mReq0 S x y t u) c ↔ mOwn S c) := fun c hc => by
    have hC := hx.i.c hc
    refine mOwn_cg (cn c hc 0 (by omega)) (cn c hc 1 (by omega)) (cn c hc 2 (by omega)) (uo _ (by have := hC.cu u15; omega) 0 (by omega)) (fun q => ?_)
    rcases hC.two u15 t4 with ⟨-, -, -, z⟩ | ⟨-, z, -, -⟩
    · exact uo _ (by omega) 0 (by omega)
    · exact absurd q z
  have so : ∀ k, k ≠ 8 → k < 9 ∨ 18 < k → (uReq0 σ b (mU S) (mK S) x y t u).1 (.inl (b, k)) = σ.1 (.inl (b, k)) := fun k a1 a2 => by
    unfold uReq0 uCall
    rw [xu_ne _ _ _ (by simp; omega), xu_ne _ _ _ (by simp; omega), xu_ne _ _ _ (by simp; omega), xu_ne _ _ _ (by simp; omega), xu_ne _ _ _ (by simp; omega), xu_ne _ _ _ (by simp; omega), xu_ne _ _ _ (by simp; omega), xu_ne _ _ _ (by simp; omega), xu_ne _ _ _ (by simp; omega), xu_ne _ _ _ (by simp; omega), xu_ne _ _ _ (by simpa using a1)]
  have sl : (uReq0 σ b (mU S) (mK S) x y t u).2 = σ.2 := rfl
  refine ⟨?_, ?_, ?_, ?_, ?_⟩
  · unfold RBs
    rw [so 0 (by decide) (by omega), so 1 (by decide) (by omega), o 0 (by decide) (by omega), o 1 (by decide) (by omega), o 2 (by decide) (by omega), o 3 (by decide) (by omega), o 4 (by decide) (by omega), mReq0_5]
    refine ⟨h.s.1, h.s.2.1, h.s.2.2.1, h.s.2.2.2.1, h.s.2.2.2.2.1, ?_⟩
    unfold uReq0 uCall
    simp only [xu_ap, Sum.inl.injEq, Prod.mk.injEq, true_and]
    simp
  · intro i hi
    rw [eT] at hi
    rw [so 19 (by decide) (by omega), o _ (by omega) (by omega)]
    exact h.to hi
  · intro v hv
    rw [eU] at hv
    have := h.u hv
    unfold RBu
    rw [so 3 (by decide) (by omega), so 4 (by decide) (by omega), so 5 (by decide) (by omega), so 6 (by decide) (by omega), so 7 (by decide) (by omega), sl, uo v (by omega) 0 (by omega), uo v (by omega) 1 (by omega), uo v (by omega) 2 (by omega), uo v (by omega) 3 (by omega), uo v (by omega) 4 (by omega), mName_cg6 (uo v (by omega) 5 (by omega)) (fun i hi => uo v (by omega) (6 + i) (by omega))]
    exact this
  · intro c hc
    rw [eK] at hc
    unfold RBc
    by_cases e : c = mK S
    · rw [e, j0, j1, j2, j3, j4, j5, j6, j7, eM]
      unfold uReq0 uCall
      simp only [xu_ap, Sum.inl.injEq, Prod.mk.injEq, true_and]
      simp
    · have hc2 : c < mK S := by omega
      rw [cn c hc2 0 (by omega), cn c hc2 1 (by omega), cn c hc2 2 (by omega), cn c hc2 3 (by omega), cn c hc2 4 (by omega), cn c hc2 5 (by omega), cn c hc2 6 (by omega), cn c hc2 7 (by omega), mo c hc2]
      have := h.c hc2
      unfold uReq0 uCall
      simp only [xu_ap, Sum.inl.injEq, Prod.mk.injEq, true_and]
      simp [e]
      exact this
  · have hcl : mCords (mReq0 S x y t u) (mK S + 1) ≤ mCords S (mK S) := by
      unfold mCords
      rw [cCnt_n (fun q => by rw [j4] at q; exact absurd q.1 (by decide))]
      exact zc_mono (fun c hc q => ⟨cn c hc 4 (by omega) ▸ q.1, fun z => q.2 ((own c hc).mpr z)⟩)
    refine ⟨⟨hx.i.req hk hx1 hyt, ?_, ?_⟩, ?_, ⟨?_, ?_, ?_⟩, ?_, ?_⟩
    · intro v hv
      rw [eU] at hv
      rw [uo v (by omega) 5 (by omega)]
      exact hx.n v hv
    · intro v hv
      rw [eU] at hv
      rw [uo v (by omega) 1 (by omega)]
      exact hx.co v hv
    · rw [eL]; exact hx.l1
    · rw [o 2 (by decide) (by omega)]; exact hx.c2
    · rw [o 2 (by decide) (by omega)]; exact hx.c6
    · rw [eK, o 2 (by decide) (by omega)]
      have := hx.cs
      omega
    · intro v hv
      rw [eU] at hv
      exact (hx.u hv).cg eL (uo v (by omega) 0 (by omega)) (uo v (by omega) 1 (by omega)) (uo v (by omega) 5 (by omega)) (hx.n6 hv) (fun i hi => uo v (by omega) (6 + i) (by omega))
    · intro c hc
      rw [eK] at hc
      unfold MXc
      by_cases e : c = mK S
      · rw [e, j3, j4, j7, j8]
        exact ⟨Or.inl rfl, hu, by decide +kernel⟩
      · have hc2 : c < mK S := by omega
        rw [cn c hc2 3 (by omega), cn c hc2 4 (by omega), cn c hc2 7 (by omega), cn c hc2 8 (by omega)]
        exact hx.c hc2
theorem RB.req {σ : XS} {b : Nat} {S : Nat → Int32} (h : RB σ b S) (hk : mK S < 40) {x y t u : Int32} (hx1 : xok x (mU S)) (hyt : (t = -1 ∧ xok y (mU S)) ∨ (y = -1 ∧ xok t (mT S))) (hu : u = 0 ∨ u = 1) : RB (uReq σ b (mU S) (mK S) x y t u) b (mReq S x y t u) := by
  have h0 := h.req0 hk hx1 hyt hu
  have eK := mReq0_K (x := x) (y := y) (t := t) (u := u) hk
  have eU : mU (mReq0 S x y t u) = mU S := by rw [mU, mU, mReq0_o (by decide) (by omega)]
  have hb := h0.blk (j := mK S) (by omega)
  rw [eU, eK] at hb
  unfold uReq mReq
  rw [hb]
  by_cases g : mWhy (mReq0 S x y t u) (mK S) = 0
  · rw [if_pos g, if_pos g]
    have := h0.start (j := mK S) (by omega) g mReq0_c.2.2.2.2.1
    rw [eU] at this
    exact this
  · rw [if_neg g, if_neg g]
    exact h0

/-! THE TWO BOARDS: copies, frames, small changes -/
/-- another world with the same board -/
theorem RB.fr {σ τ : XS} {b : Nat} {S : Nat → Int32} (h : RB σ b S) (h1 : ∀ k, τ.1 (.inl (b, k)) = σ.1 (.inl (b, k))) (h2 : τ.2 (.inl (b, 2)) = σ.2 (.inl (b, 2))) : RB τ b S := by
  unfold RB RBs RBu RBc at *
  simp only [h1, h2]
  exact h
/-- another row with the same places -/
theorem MX.cg {S S1 : Nat → Int32} (hx : MX S) (e : ∀ k, k < 550 → S1 k = S k) : MX S1 := by
  have u15 := hx.i.u15
  have k40 := hx.i.k40
  have t4 := hx.i.t4
  have eU : mU S1 = mU S := by rw [mU, mU, e 4 (by decide)]
  have eK : mK S1 = mK S := by rw [mK, mK, e 5 (by decide)]
  have eL : mL S1 = mL S := by rw [mL, mL, e 1 (by decide)]
  have eT : mT S1 = mT S := by rw [mT, mT, e 3 (by decide)]
  have uo : ∀ u, u < 15 → ∀ w, w < 12 → sU S1 w u = sU S w u := fun u hu w hw => e _ (by omega)
  have co : ∀ c, c < 40 → ∀ w, w < 9 → sC S1 w c = sC S w c := fun c hc w hw => e _ (by omega)
  have own : ∀ c, c < mK S → (mOwn S1 c ↔ mOwn S c) := fun c hc => by
    have hC := hx.i.c hc
    refine mOwn_cg (co c (by omega) 0 (by omega)) (co c (by omega) 1 (by omega)) (co c (by omega) 2 (by omega)) (uo _ (by have := hC.cu u15; omega) 0 (by omega)) (fun q => ?_)
    rcases hC.two u15 t4 with ⟨-, -, -, z⟩ | ⟨-, z, -, -⟩
    · exact uo _ (by omega) 0 (by omega)
    · exact absurd q z
  refine ⟨⟨?_, ?_, ?_⟩, ?_, ⟨?_, ?_, ?_⟩, ?_, ?_⟩
  · unfold MI
    rw [eU, eK, eL, eT, e 1 (by decide), e 3 (by decide), e 4 (by decide), e 5 (by decide)]
    refine ⟨hx.i.l, hx.i.l6, hx.i.t, t4, hx.i.u, u15, hx.i.k, k40, fun c hc => ?_⟩
    have := hx.i.c hc
    unfold CR at this ⊢
    rw [co c (by omega) 0 (by omega), co c (by omega) 1 (by omega), co c (by omega) 2 (by omega)]
    exact this
  · intro u hu
    rw [eU] at hu
    rw [uo u (by omega) 5 (by omega)]
    exact hx.n u hu
  · intro u hu
    rw [eU] at hu
    rw [uo u (by omega) 1 (by omega)]
    exact hx.co u hu
  · rw [eL]; exact hx.l1
  · rw [e 2 (by decide)]; exact hx.c2
  · rw [e 2 (by decide)]; exact hx.c6
  · rw [eK, e 2 (by decide)]
    have h1 : mCords S1 (mK S) ≤ mCords S (mK S) := zc_mono (fun c hc q => ⟨co c (by omega) 4 (by omega) ▸ q.1, fun z => q.2 ((own c hc).mpr z)⟩)
    have := hx.cs
    omega
  · intro u hu
    rw [eU] at hu
    exact (hx.u hu).cg eL (uo u (by omega) 0 (by omega)) (uo u (by omega) 1 (by omega)) (uo u (by omega) 5 (by omega)) (hx.n6 hu) (fun i hi => uo u (by omega) (6 + i) (by omega))
  · intro c hc
    rw [eK] at hc
    unfold MXc
    rw [co c (by omega) 3 (by omega), co c (by omega) 4 (by omega), co c (by omega) 7 (by omega), co c (by omega) 8 (by omega)]
    exact hx.c hc
theorem RB.cgS {σ : XS} {b : Nat} {S S1 : Nat → Int32} (h : RB σ b S) (e : ∀ k, k < 550 → S1 k = S k) : RB σ b S1 := by
  have hx := h.x
  have u15 := hx.i.u15
  have k40 := hx.i.k40
  have t4 := hx.i.t4
  have eU : mU S1 = mU S := by rw [mU, mU, e 4 (by decide)]
  have eK : mK S1 = mK S := by rw [mK, mK, e 5 (by decide)]
  have eT : mT S1 = mT S := by rw [mT, mT, e 3 (by decide)]
  have uo : ∀ u, u < 15 → ∀ w, w < 12 → sU S1 w u = sU S w u := fun u hu w hw => e _ (by omega)
  have co : ∀ c, c < 40 → ∀ w, w < 9 → sC S1 w c = sC S w c := fun c hc w hw => e _ (by omega)
  refine ⟨?_, ?_, ?_, ?_, hx.cg e⟩
  · unfold RBs
    rw [e 0 (by decide), e 1 (by decide), e 2 (by decide), e 3 (by decide), e 4 (by decide), e 5 (by decide)]
    exact h.s
  · intro i hi
    rw [eT] at hi
    rw [e _ (by omega)]
    exact h.to hi
  · intro u hu
    rw [eU] at hu
    unfold RBu
    rw [uo u (by omega) 0 (by omega), uo u (by omega) 1 (by omega), uo u (by omega) 2 (by omega), uo u (by omega) 3 (by omega), uo u (by omega) 4 (by omega), mName_cg6 (uo u (by omega) 5 (by omega)) (fun i hi => uo u (by omega) (6 + i) (by omega))]
    exact h.u hu
  · intro c hc
    rw [eK] at hc
    unfold RBc
    rw [co c (by omega) 0 (by omega), co c (by omega) 1 (by omega), co c (by omega) 2 (by omega), co c (by omega) 3 (by omega), co c (by omega) 4 (by omega), co c (by omega) 5 (by omega), co c (by omega) 6 (by omega), co c (by omega) 7 (by omega), mMask_cg u15 eU (fun u hu => uo u (by omega) 0 (by omega)) (co c (by omega) 0 (by omega)) (co c (by omega) 1 (by omega)) (co c (by omega) 2 (by omega))]
    exact h.c hc
/-- board b shows what board f showed -/
def SB (σ τ : XS) (f b : Nat) : Prop := (τ.1 (.inl (b, 0)) 3 = σ.1 (.inl (f, 0)) 3 ∧ τ.1 (.inl (b, 0)) 4 = σ.1 (.inl (f, 0)) 4 ∧ τ.1 (.inl (b, 0)) 5 = σ.1 (.inl (f, 0)) 5 ∧ τ.1 (.inl (b, 0)) 6 = σ.1 (.inl (f, 0)) 6 ∧ τ.1 (.inl (b, 1)) 6 = σ.1 (.inl (f, 1)) 6 ∧ τ.1 (.inl (b, 8)) 10 = σ.1 (.inl (f, 8)) 10) ∧ (∀ k i, 3 ≤ k → k < 8 → i < 15 → τ.1 (.inl (b, k)) i = σ.1 (.inl (f, k)) i) ∧ (∀ i, i < 15 → τ.2 (.inl (b, 2)) i = σ.2 (.inl (f, 2)) i) ∧ (∀ k i, 9 ≤ k → k < 19 → i < 40 → τ.1 (.inl (b, k)) i = σ.1 (.inl (f, k)) i) ∧ (∀ i, i < 4 → τ.1 (.inl (b, 19)) i = σ.1 (.inl (f, 19)) i)
theorem RB.sb {σ τ : XS} {f b : Nat} {S : Nat → Int32} (h : RB σ f S) (q : SB σ τ f b) : RB τ b S := by
  have hx := h.x
  have u15 := hx.i.u15
  have k40 := hx.i.k40
  have t4 := hx.i.t4
  obtain ⟨⟨a0, a1, a2, a3, a4, a5⟩, au, al, ac, at_⟩ := q
  refine ⟨?_, ?_, ?_, ?_, hx⟩
  · unfold RBs
    rw [a0, a1, a2, a3, a4, a5]
    exact h.s
  · intro i hi
    rw [at_ i (by omega)]
    exact h.to hi
  · intro u hu
    unfold RBu
    rw [au 3 u (by omega) (by omega) (by omega), au 4 u (by omega) (by omega) (by omega), au 5 u (by omega) (by omega) (by omega), au 6 u (by omega) (by omega) (by omega), au 7 u (by omega) (by omega) (by omega), al u (by omega)]
    exact h.u hu
  · intro c hc
    unfold RBc
    rw [ac 9 c (by omega) (by omega) (by omega), ac 10 c (by omega) (by omega) (by omega), ac 11 c (by omega) (by omega) (by omega), ac 12 c (by omega) (by omega) (by omega), ac 13 c (by omega) (by omega) (by omega), ac 14 c (by omega) (by omega) (by omega), ac 15 c (by omega) (by omega) (by omega), ac 16 c (by omega) (by omega) (by omega), ac 17 c (by omega) (by omega) (by omega), ac 18 c (by omega) (by omega) (by omega)]
    exact h.c hc
theorem cpy0 {α : Type} {f g : Nat → α} {n i : Nat} (h : i < n) : va_cpy f g 0 0 n i = f i := by
  unfold va_cpy
  rw [if_pos ⟨by omega, by omega⟩]
  congr 1
  omega
theorem uCopyB_u {σ : XS} {b f : Nat} (hf : f ≠ b) : (∀ k i, 3 ≤ k → k < 8 → i < 15 → (uCopyB σ b f).1 (.inl (b, k)) i = σ.1 (.inl (f, k)) i) ∧ (∀ i, i < 15 → (uCopyB σ b f).2 (.inl (b, 2)) i = σ.2 (.inl (f, 2)) i) := by
  constructor
  · intro k i h1 h2 hi
    obtain rfl | rfl | rfl | rfl | rfl : k = 3 ∨ k = 4 ∨ k = 5 ∨ k = 6 ∨ k = 7 := by omega
    all_goals
      simp [uCopyB, uCopyC, uCopyK, uCopyS, xu_ap, xA_ap, xL_i, hf]
      rw [cpy0 hi]
      try simp [xu_ap, xA_ap, xL_i, hf]
  · intro i hi
    simp [uCopyB, uCopyC, uCopyK, uCopyS, xu_l, xA_l, xL_ap]
    exact cpy0 hi
theorem uCopyB_c {σ : XS} {b f : Nat} (hf : f ≠ b) : (∀ k i, 9 ≤ k → k < 19 → i < 40 → (uCopyB σ b f).1 (.inl (b, k)) i = σ.1 (.inl (f, k)) i) ∧ (∀ i, i < 4 → (uCopyB σ b f).1 (.inl (b, 19)) i = σ.1 (.inl (f, 19)) i) := by
  constructor
  · intro k i h1 h2 hi
    obtain rfl | rfl | rfl | rfl | rfl | rfl | rfl | rfl | rfl | rfl : k = 9 ∨ k = 10 ∨ k = 11 ∨ k = 12 ∨ k = 13 ∨ k = 14 ∨ k = 15 ∨ k = 16 ∨ k = 17 ∨ k = 18 := by omega
    all_goals
      simp [uCopyB, uCopyC, uCopyK, uCopyS, xu_ap, xA_ap, xL_i, hf]
      rw [cpy0 hi]
      try simp [xu_ap, xA_ap, xL_i, hf]
  · intro i hi
    simp [uCopyB, uCopyC, uCopyK, uCopyS, xu_ap, xA_ap, xL_i, hf]
    rw [cpy0 hi]
    try simp [xu_ap, xA_ap, xL_i, hf]
theorem uCopyB_sb {σ : XS} {b f : Nat} (hf : f ≠ b) : SB σ (uCopyB σ b f) f b := by
  have h1 := (uCopyB_1 (σ := σ) (b := b) (f := f) (k := 0))
  have h2 := (uCopyB_1 (σ := σ) (b := b) (f := f) (k := 1))
  have h3 := (uCopyB_1 (σ := σ) (b := b) (f := f) (k := 2))
  have h4 := (uCopyB_1 (σ := σ) (b := b) (f := f) (k := 3))
  exact ⟨⟨h1.2.2 (by decide), h2.2.2 (by decide), h3.2.2 (by decide), h4.2.2 (by decide), h1.1, h1.2.1⟩, (uCopyB_u hf).1, (uCopyB_u hf).2, (uCopyB_c hf).1, (uCopyB_c hf).2⟩
theorem RB.copy {σ : XS} {b f : Nat} {S : Nat → Int32} (h : RB σ f S) (hf : f ≠ b) : RB (uCopyB σ b f) b S := h.sb (uCopyB_sb hf)
/-- the clock goes on -/
theorem MX.up {S : Nat → Int32} (hx : MX S) {n : Nat} {v : Int32} (h : n = 0 ∨ ∃ u, u < 15 ∧ n = 10 + 12 * u + 2) : MX (upd S n v) := by
  have u15 := hx.i.u15
  have k40 := hx.i.k40
  have t4 := hx.i.t4
  have e : ∀ k, k ≠ n → upd S n v k = S k := fun k hk => upd_ne hk
  have sm : ∀ k, 0 < k → k < 6 → upd S n v k = S k := fun k h1 h2 => e k (by rcases h with h | ⟨u, hu, h⟩ <;> omega)
  have eU : mU (upd S n v) = mU S := by rw [mU, mU, sm 4 (by decide) (by decide)]
  have eK : mK (upd S n v) = mK S := by rw [mK, mK, sm 5 (by decide) (by decide)]
  have eL : mL (upd S n v) = mL S := by rw [mL, mL, sm 1 (by decide) (by decide)]
  have eT : mT (upd S n v) = mT S := by rw [mT, mT, sm 3 (by decide) (by decide)]
  have uo : ∀ u, u < 15 → ∀ w, w < 12 → ¬ w = 2 → sU (upd S n v) w u = sU S w u := fun u hu w hw h2 => e _ (by rcases h with h | ⟨u, hu, h⟩ <;> omega)
  have co : ∀ c w, sC (upd S n v) w c = sC S w c := fun c w => e _ (by rcases h with h | ⟨u, hu, h⟩ <;> omega)
  have own : ∀ c, c < mK S → (mOwn (upd S n v) c ↔ mOwn S c) := fun c hc => by
    have hC := hx.i.c hc
    refine mOwn_cg (co c 0) (co c 1) (co c 2) (uo _ (by have := hC.cu u15; omega) 0 (by omega) (by omega)) (fun q => ?_)
    rcases hC.two u15 t4 with ⟨-, -, -, z⟩ | ⟨-, z, -, -⟩
    · exact uo _ (by omega) 0 (by omega) (by omega)
    · exact absurd q z
  refine ⟨⟨?_, ?_, ?_⟩, ?_, ⟨?_, ?_, ?_⟩, ?_, ?_⟩
  · unfold MI
    rw [eU, eK, eL, eT, sm 1 (by decide) (by decide), sm 3 (by decide) (by decide), sm 4 (by decide) (by decide), sm 5 (by decide) (by decide)]
    refine ⟨hx.i.l, hx.i.l6, hx.i.t, t4, hx.i.u, u15, hx.i.k, k40, fun c hc => ?_⟩
    have := hx.i.c hc
    unfold CR at this ⊢
    rw [co c 0, co c 1, co c 2]
    exact this
  · intro u hu
    rw [eU] at hu
    rw [uo u (by omega) 5 (by omega) (by omega)]
    exact hx.n u hu
  · intro u hu
    rw [eU] at hu
    rw [uo u (by omega) 1 (by omega) (by omega)]
    exact hx.co u hu
  · rw [eL]; exact hx.l1
  · rw [sm 2 (by decide) (by decide)]; exact hx.c2
  · rw [sm 2 (by decide) (by decide)]; exact hx.c6
  · rw [eK, sm 2 (by decide) (by decide)]
    have h1 : mCords (upd S n v) (mK S) ≤ mCords S (mK S) := zc_mono (fun c hc q => ⟨co c 4 ▸ q.1, fun z => q.2 ((own c hc).mpr z)⟩)
    have := hx.cs
    omega
  · intro u hu
    rw [eU] at hu
    exact (hx.u hu).cg eL (uo u (by omega) 0 (by omega) (by omega)) (uo u (by omega) 1 (by omega) (by omega)) (uo u (by omega) 5 (by omega) (by omega)) (hx.n6 hu) (fun i hi => uo u (by omega) (6 + i) (by omega) (by omega))
  · intro c hc
    rw [eK] at hc
    unfold MXc
    rw [co c 3, co c 4, co c 7, co c 8]
    exact hx.c hc
theorem RB.clk {σ : XS} {b : Nat} {S : Nat → Int32} (h : RB σ b S) {v : Int32} : RB (uClock σ b v) b (upd S 0 (S 0 + v)) := by
  have hx := h.x
  have u15 := hx.i.u15
  have e : ∀ k, k ≠ 0 → upd S 0 (S 0 + v) k = S k := fun k hk => upd_ne hk
  have so : ∀ k, k ≠ 0 → (uClock σ b v).1 (.inl (b, k)) = σ.1 (.inl (b, k)) := fun k hk => xu_ne _ _ _ (by simpa using hk)
  have s0 : ∀ j, ¬ j = 3 → (uClock σ b v).1 (.inl (b, 0)) j = σ.1 (.inl (b, 0)) j := fun j hj => xu_nk _ _ _ hj
  have s3 : (uClock σ b v).1 (.inl (b, 0)) 3 = σ.1 (.inl (b, 0)) 3 + v := xu_self _ _ _ _
  have sl : (uClock σ b v).2 = σ.2 := rfl
  refine ⟨?_, ?_, ?_, ?_, hx.up (Or.inl rfl)⟩
  · unfold RBs
    rw [s3, s0 4 (by decide), s0 5 (by decide), s0 6 (by decide), so 1 (by decide), so 8 (by decide), upd_at, e 1 (by decide), e 2 (by decide), e 3 (by decide), e 4 (by decide), e 5 (by decide), h.s.1]
    exact ⟨rfl, h.s.2⟩
  · intro i hi
    rw [mT, e 3 (by decide)] at hi
    rw [so 19 (by decide), e _ (by omega)]
    exact h.to hi
  · intro u hu
    rw [mU, e 4 (by decide)] at hu
    unfold RBu
    rw [so 3 (by decide), so 4 (by decide), so 5 (by decide), so 6 (by decide), so 7 (by decide), sl, sU, sU, sU, sU, sU, e _ (by omega), e _ (by omega), e _ (by omega), e _ (by omega), e _ (by omega), mName_cg (e _ (by omega)) (fun i => e _ (by omega))]
    exact h.u hu
  · intro c hc
    rw [mK, e 5 (by decide)] at hc
    unfold RBc
    rw [so 9 (by decide), so 10 (by decide), so 11 (by decide), so 12 (by decide), so 13 (by decide), so 14 (by decide), so 15 (by decide), so 16 (by decide), so 17 (by decide), so 18 (by decide), mMask_cg (S := S) u15 (by rw [mU, mU, e 4 (by decide)]) (fun u hu => e _ (by omega)) (e _ (by omega)) (e _ (by omega)) (e _ (by omega)), sC, sC, sC, sC, sC, sC, sC, sC, e _ (by omega), e _ (by omega), e _ (by omega), e _ (by omega), e _ (by omega), e _ (by omega), e _ (by omega), e _ (by omega)]
    exact h.c hc
theorem RB.mood {σ : XS} {b : Nat} {S : Nat → Int32} (h : RB σ b S) {u : Nat} {v : Int32} (hu : u < mU S) : RB (xu σ (.inl (b, 5)) u v) b (upd S (10 + 12 * u + 2) v) := by
  have hx := h.x
  have u15 := hx.i.u15
  have k40 := hx.i.k40
  have t4 := hx.i.t4
  have e : ∀ k, k ≠ 10 + 12 * u + 2 → upd S (10 + 12 * u + 2) v k = S k := fun k hk => upd_ne hk
  have so : ∀ k, k ≠ 5 → (xu σ (.inl (b, 5)) u v).1 (.inl (b, k)) = σ.1 (.inl (b, k)) := fun k hk => xu_ne _ _ _ (by simpa using hk)
  refine ⟨?_, ?_, ?_, ?_, hx.up (Or.inr ⟨u, by omega, rfl⟩)⟩
  · unfold RBs
    rw [so 0 (by decide), so 1 (by decide), so 8 (by decide), e 0 (by omega), e 1 (by omega), e 2 (by omega), e 3 (by omega), e 4 (by omega), e 5 (by omega)]
    exact h.s
  · intro i hi
    have hi2 : i < mT S := by rw [mT, e 3 (by omega)] at hi; exact hi
    rw [so 19 (by decide), e _ (by omega)]
    exact h.to hi2
  · intro w hw
    rw [mU, e 4 (by omega)] at hw
    have hq := h.u hw
    unfold RBu
    rw [so 3 (by decide), so 4 (by decide), so 6 (by decide), so 7 (by decide), xu_l, show sU (upd S (10 + 12 * u + 2) v) 0 w = sU S 0 w from e _ (by omega), show sU (upd S (10 + 12 * u + 2) v) 1 w = sU S 1 w from e _ (by omega), show sU (upd S (10 + 12 * u + 2) v) 3 w = sU S 3 w from e _ (by omega), show sU (upd S (10 + 12 * u + 2) v) 4 w = sU S 4 w from e _ (by omega), mName_cg6 (S := S) (e _ (by omega)) (fun i hi => e _ (by omega))]
    refine ⟨hq.1, hq.2.1, ?_, hq.2.2.2⟩
    by_cases g : w = u
    · subst g
      rw [xu_self]
      exact upd_at.symm
    · rw [xu_nk _ _ _ g]
      exact hq.2.2.1.trans (e _ (by omega)).symm
  · intro c hc
    rw [mK, e 5 (by omega)] at hc
    have co : ∀ w, sC (upd S (10 + 12 * u + 2) v) w c = sC S w c := fun w => e _ (by omega)
    unfold RBc
    rw [so 9 (by decide), so 10 (by decide), so 11 (by decide), so 12 (by decide), so 13 (by decide), so 14 (by decide), so 15 (by decide), so 16 (by decide), so 17 (by decide), so 18 (by decide), mMask_cg (S := S) u15 (by rw [mU, mU, e 4 (by omega)]) (fun u2 hu2 => e _ (by omega)) (co 0) (co 1) (co 2), co 0, co 1, co 2, co 3, co 4, co 5, co 6, co 7]
    exact h.c hc

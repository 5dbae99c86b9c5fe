/-! BOTH SIDES: the same answers -/
theorem okL {S : Nat → Int32} (hM : MI S) {x : Int32} : (¬ x < 0 ∧ x < S 1) ↔ xok x (mL S) := by
  have h6 := hM.l6
  rw [hM.l]
  constructor
  · rintro ⟨h1, h2⟩
    exact xok_yes h1 (fun q => absurd h2 (Int32.not_lt.mpr q))
  · intro h
    obtain ⟨j, hj, rfl⟩ := xok_of h (by omega)
    exact ⟨nI_pos (n31 (by omega)), (nI_ltI (n31 (by omega)) (n31 (by omega))).mpr hj⟩
section ASK
variable {σ : XS} {b : Nat} {S : Nat → Int32}
theorem q_count (h : RB σ b S) (v : Int32) : cCount (σ.1 (.inl (b, 9))) v (mK S) = cCount (fun c => sC S 4 c) v (mK S) := zc_countc (fun c hc => (h.c hc).1)
theorem q_line (h : RB σ b S) {x : Int32} (hx : xok x (mL S)) : (if xBz σ b (mK S) &&& xbit x = 0 then (0 : Int32) else 1) = if xok x (mL S) ∧ 0 < mLine S x (mK S) then 1 else 0 := by
  have h6 := h.x.i.l6
  obtain ⟨j, hj, rfl⟩ := xok_of hx (by omega)
  by_cases g : 0 < mLine S (nI j) (mK S)
  · rw [if_neg (fun q => (zb_bitT (by omega)).mp q ((h.bl (by omega)).mpr g)), if_pos ⟨hx, g⟩]
  · rw [if_pos ((zb_bitT (by omega)).mpr (fun q => g ((h.bl (by omega)).mp q))), if_neg (fun q => g q.2)]
theorem q_trk (h : RB σ b S) {x : Int32} (hx : xok x (mT S)) : (if xBz σ b (mK S) &&& xtb x = 0 then (0 : Int32) else 1) = if xok x (mT S) ∧ 0 < mTrk S x (mK S) then 1 else 0 := by
  have h4 := h.x.i.t4
  obtain ⟨j, hj, rfl⟩ := xok_of hx (by omega)
  rw [zb_tbE j (by omega)]
  by_cases g : 0 < mTrk S (nI j) (mK S)
  · rw [if_neg (fun q => (zb_tst (by omega)).mp q ((h.bk (by omega)).mpr g)), if_pos ⟨hx, g⟩]
  · rw [if_pos ((zb_tst (by omega)).mpr (fun q => g ((h.bk (by omega)).mp q))), if_neg (fun q => g q.2)]
theorem q_toll (h : RB σ b S) {x : Int32} (hx : xok x (mT S)) : σ.1 (.inl (b, 19)) (cN x) = S (6 + cN x) := h.to (xok_c hx (by have := h.x.i.t4; omega)).1
theorem q_user (h : RB σ b S) {x : Int32} (hx : xok x (mU S)) : RBu σ b S (cN x) := h.u (xok_c hx (by have := h.x.i.u15; omega)).1
theorem q_call (h : RB σ b S) {x : Int32} (hx : xok x (mK S)) : RBc σ b S (cN x) := h.c (xok_c hx (by have := h.x.i.k40; omega)).1
theorem know_sum {se : Nat → Int32} {j : Nat} (hj : j < 32) : ∀ n, nI (cKnow se (xbit (nI j)) n) = cSum (fun u => se u >>> (nI j &&& 31) &&& 1) n
  | 0 => rfl
  | n + 1 => by
    unfold cKnow cSum
    rw [zb_shr0 hj, ← know_sum hj n]
    by_cases g : bt (se n) j = true
    · rw [if_pos (fun q => (zb_bitT hj).mp q g), if_pos g, nI_1]
    · rw [if_neg (fun q => q ((zb_bitT hj).mpr g)), if_neg g, Int32.add_zero]
theorem q_know (h : RB σ b S) {x : Int32} (hx : xok x (mU S)) : nI (cKnow (σ.1 (.inl (b, 7))) (xbit x) (mU S)) = cSum (fun u => sU S 4 u >>> (x &&& 31) &&& 1) (mU S) := by
  have u15 := h.x.i.u15
  obtain ⟨j, hj, rfl⟩ := xok_of hx (by omega)
  rw [know_sum (by omega)]
  exact zc_sum (fun c hc => by rw [(h.u hc).2.2.2.2.1])
theorem best_eq {f : Nat → Int32} (hf : ∀ k, 0 ≤ f k) : ∀ n, (cBest f (n + 1)).1 = nI (mBest f (n + 1)) ∧ (cBest f (n + 1)).2 = f (mBest f (n + 1))
  | 0 => by
    rw [mBest_1]
    unfold cBest cBest
    dsimp only
    by_cases g : 0 < f 0
    · rw [if_pos g]; exact ⟨rfl, rfl⟩
    · rw [if_neg g]
      exact ⟨rfl, Int32.le_antisymm (hf 0) (Int32.not_lt.mp g)⟩
  | n + 1 => by
    have ih := best_eq hf n
    rw [cBest, mBest, ih.2]
    by_cases g : f (mBest f (n + 1)) < f (n + 1)
    · rw [if_pos g, if_pos g]; exact ⟨rfl, rfl⟩
    · rw [if_neg g, if_neg g]; exact ih
theorem cBest_cg {f g : Nat → Int32} : ∀ {n : Nat}, (∀ c, c < n → f c = g c) → cBest f n = cBest g n
  | 0, _ => rfl
  | n + 1, h => by rw [cBest, cBest, cBest_cg (n := n) (fun c hc => h c (by omega)), h n (by omega)]
theorem q_best (h : RB σ b S) (h1 : 1 ≤ mU S) : (cBest (fun k => xbc (σ.1 (.inl (b, 7)) k)) (mU S)).1 = nI (mBest (fun u => xbc (sU S 4 u)) (mU S)) := by
  rw [cBest_cg (g := fun u => xbc (sU S 4 u)) (fun c hc => by rw [(h.u hc).2.2.2.2.1])]
  obtain ⟨n, e⟩ : ∃ n, mU S = n + 1 := ⟨mU S - 1, by omega⟩
  rw [e]
  exact (best_eq (fun k => xbc_0 _) n).1
theorem q_betw (h : RB σ b S) {x y : Int32} (hx : xok x (mU S)) (hy : xok y (mU S)) : xbetw (σ.1 (.inl (b, 3))) (σ.1 (.inl (b, 5))) (mU S) x y = mEars S x y := by
  have u15 := h.x.i.u15
  have l6 := h.x.i.l6
  have cx := (xok_c hx (by omega)).1
  have cy := (xok_c hy (by omega)).1
  unfold xbetw
  refine ears_eq h.x (fun u hu => (h.u hu).1) (fun u hu => (h.u hu).2.2.1) (fun a ha => ?_) (fun u hu => talk_bt h.x hx (Or.inr hy) (by omega))
  rw [zb_orT, xline_y hx, xline_y hy, (h.u cx).1, (h.u cy).1, zl_bt (h.x.u cx).1 l6 (by omega), zl_bt (h.x.u cy).1 l6 (by omega)]
  have ny : ¬ y = -1 := fun q => xok_m1 (q ▸ hy)
  exact ⟨fun q => q.imp id (fun z => ⟨ny, z⟩), fun q => q.imp id (fun z => z.2)⟩
theorem q_vol (h : RB σ b S) {x : Int32} (hx : xok x (mK S)) : xvolW (σ.1 (.inl (b, 18)) (cN x)) = sC S 8 (cN x) := by
  have hc := (xok_c hx (by have := h.x.i.k40; omega)).1
  rw [(h.c hc).2.2.2.2.2.2.2.2.2]
  exact (h.x.c hc).2.2.symm
theorem q_place (h : RB σ b S) {x : Int32} (hx : xok x (mK S)) : cPlace (σ.1 (.inl (b, 9))) (σ.1 (.inl (b, 13))) (cN x) (mK S) = cCnt (mAh S (sC S 3 (cN x)) x) (mK S) := by
  have k40 := h.x.i.k40
  have hc := xok_c hx (by omega)
  have key : ∀ n, n ≤ mK S → cPlace (σ.1 (.inl (b, 9))) (σ.1 (.inl (b, 13))) (cN x) n = cCnt (mAh S (sC S 3 (cN x)) x) n := by
    intro n
    induction n with
    | zero => exact fun _ => rfl
    | succ n ih =>
      intro hn
      have hcn := h.c (c := n) (by omega)
      have u1 := (h.x.c (c := n) (by omega)).2.1
      have u2 := (h.x.c hc.1).2.1
      have ec : (σ.1 (.inl (b, 9)) n = 0 ∧ (if σ.1 (.inl (b, 13)) n = σ.1 (.inl (b, 13)) (cN x) then n < cN x else ¬ σ.1 (.inl (b, 13)) n = 0)) ↔ mAh S (sC S 3 (cN x)) x n := by
        unfold mAh
        rw [hcn.1, hcn.2.2.2.2.1, (h.c hc.1).2.2.2.2.1]
        have lt : nI n < x ↔ n < cN x := by
          conv => lhs; rw [hc.2]
          exact nI_ltI (n31 (by omega)) (n31 (by omega))
        rw [lt]
        rcases u1 with e1 | e1 <;> rcases u2 with e2 | e2 <;> rw [e1, e2] <;> simp
      unfold cPlace
      by_cases g : mAh S (sC S 3 (cN x)) x n
      · rw [if_pos (ec.mpr g), cCnt_y g, ih (by omega)]
      · rw [if_neg (fun q => g (ec.mp q)), cCnt_n g, ih (by omega)]
  exact key _ (Nat.le_refl _)
end ASK

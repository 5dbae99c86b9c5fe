/-! BOTH SIDES: changes keep the relation -/
/-- the number of what is thrown, among those that are caught -/
def kOf : List String → XO → Int32
  | [a], o => match o with
    | .inl _ => 0
    | .inr E => if E = a then 1 else 9
  | [a, b], o => match o with
    | .inl _ => 0
    | .inr E => if E = a then 1 else if E = b then 2 else 9
  | [a, b, c], o => match o with
    | .inl _ => 0
    | .inr E => if E = a then 1 else if E = b then 2 else if E = c then 3 else 9
  | _, _ => 9
section CHG
variable {σ τ : XS} {S F : Nat → Int32} {o ch n w : Nat} {x y u : Int32}
theorem RVX.call (h : RVX σ S F o ch n w) (hx : xok x (mU S)) (hy : xok y (mU S)) (hk : mK S < 40) (hu : u = 0 ∨ u = 1) : RVX (mRw (uReq (uPush σ o ch) 0 (mU S) (mK S) x y (-1) u) S ch) (mReq S x y (-1) u) (upd (upd F 7 0) 6 (nI (mNx ch))) (oNx o ch) (mNx ch) n w :=
  h.chg (FS.of (Fr.req hu) uReq_in uReq_in) ⟨h.gp.1.req hk hx (Or.inl ⟨rfl, hy⟩) hu, by rw [mU, mReq_4]; exact h.g.2⟩
theorem RVX.callT (h : RVX σ S F o ch n w) (hx : xok x (mU S)) (hy : xok y (mT S)) (hk : mK S < 40) (hu : u = 0 ∨ u = 1) : RVX (mRw (uReq (uPush σ o ch) 0 (mU S) (mK S) x (-1) y u) S ch) (mReq S x (-1) y u) (upd (upd F 7 0) 6 (nI (mNx ch))) (oNx o ch) (mNx ch) n w :=
  h.chg (FS.of (Fr.req hu) uReq_in uReq_in) ⟨h.gp.1.req hk hx (Or.inr ⟨rfl, hy⟩) hu, by rw [mU, mReq_4]; exact h.g.2⟩
theorem RVX.end_ (h : RVX σ S F o ch n w) {j : Nat} (hj : j < mK S) (ho : ¬ 2 ≤ sC S 4 j) : RVX (mRw (uFinB (uPush σ o ch) 0 (mU S) (mK S) (mT S) j).1 S ch) (mFin S j).1 (upd (upd F 7 0) 6 (nI (mNx ch))) (oNx o ch) (mNx ch) n w ∧ nI (uFinA (uPush σ o ch) 0 (mU S) (mK S) (mT S) j).2 + nI (uFinB (uPush σ o ch) 0 (mU S) (mK S) (mT S) j).2 = nI (mFin S j).2 := by
  have g4 : sC S 4 j = 0 ∨ sC S 4 j = 1 := by
    rcases (h.b.x.c hj).1 with e | e | e | e
    · exact Or.inl e
    · exact Or.inr e
    · exact absurd (by rw [e]; decide) ho
    · exact absurd (by rw [e]; decide) ho
  have hf := h.gp.1.fin hj g4
  exact ⟨h.chg (FS.of Fr.finB (uFinB_o (by simp) (by simp) (by simp) (by simp) (by simp) (by simp)) (uFinB_o (by simp) (by simp) (by simp) (by simp) (by simp) (by simp))) ⟨hf.1, by rw [mU, mFin_4]; exact h.g.2⟩, hf.2⟩
theorem RVX.wait (h : RVX σ S F o ch n w) : RVX (mRw (uClock (uPush σ o ch) 0 x) S ch) (upd S 0 (S 0 + x)) (upd (upd F 7 0) 6 (nI (mNx ch))) (oNx o ch) (mNx ch) n w :=
  h.chg (FS.xu (k := 0) (by decide) (by decide)) ⟨h.gp.1.clk, by rw [mU, upd_ne (by decide)]; exact h.g.2⟩
theorem RVX.mood (h : RVX σ S F o ch n w) (hx : xok x (mU S)) : RVX (mRw (xu (uPush σ o ch) (.inl (0, 5)) (cN x) y) S ch) (upd S (10 + 12 * cN x + 2) y) (upd (upd F 7 0) 6 (nI (mNx ch))) (oNx o ch) (mNx ch) n w :=
  h.chg (FS.xu (k := 5) (by decide) (by decide)) ⟨h.gp.1.mood (xok_c hx (by have := h.b.x.i.u15; omega)).1, by rw [mU, upd_ne (by omega)]; exact h.g.2⟩
theorem RVX.undo (h : RVX σ S F o ch n w) (hp : 0 < ch) : RVX (uPop σ o ch) (va_cpy (σ.1 (.inr 12)) S ((ch - 1) * 550) 0 550) (upd (upd F 7 0) 6 (nI (ch - 1))) o (ch - 1) n w := by
  have hH := h.hi
  have c8 := h.c8
  have ei : ∀ i, i ≠ .inr 4 → (xu σ (.inr 4) 2 (nI (ch - 1))).1 i = σ.1 i := fun i hi => xu_ne _ _ _ hi
  have gg : ∀ b S1, RG σ b S1 → RG (xu σ (.inr 4) 2 (nI (ch - 1))) b S1 := fun b S1 hg => hg.fr (fun k => ei _ (by simp)) rfl
  have h1 : RVX (xu σ (.inr 4) 2 (nI (ch - 1))) S (upd (upd F 7 0) 6 (nI (ch - 1))) o (ch - 1) n w := by
    refine ⟨fun b hb => xZ_o (h.z b hb) (ei _ (by simp)) (ei _ (by simp)), gg 0 S h.g, ?_, ?_, ?_, ?_, ?_⟩
    · unfold RVh Hi
      rw [xu_self, xu_nk _ _ _ (by decide), ei (.inr 12) (by simp), upd_at]
      exact ⟨⟨hH.1, hH.2.1, rfl, by omega⟩, rfl, fun j hj => gg _ _ (h.h.2.2 j (by omega))⟩
    · intro s hs
      rw [ei _ (by simp), ei _ (by simp), ei _ (by simp)]
      exact ⟨(h.s s hs).1, (h.s s hs).2.1, fun q => gg _ _ ((h.s s hs).2.2 q)⟩
    · unfold RVe
      rw [ei _ (by simp), upd_ne (by decide), upd_ne (by decide), upd_ne (by decide), upd_ne (by decide)]
      exact h.e
    · unfold RVt Tx
      rw [ei _ (by simp), ei _ (by simp), ei _ (by simp), upd_ne (by decide), upd_ne (by decide)]
      exact h.t
    · unfold RVo
      rw [ei _ (by simp), ei _ (by simp), ei _ (by simp), upd_ne (by decide), upd_ne (by decide)]
      exact h.ou
  unfold uPop
  refine h1.b0 (FS.copy (by omega) (h1.z _ (by omega))) ?_
  have hg := (gg _ _ (h.h.2.2 (ch - 1) (by omega))).copy (b := 0) (by omega)
  refine hg.cgS (fun k hk => ?_)
  rw [show va_cpy (σ.1 (.inr 12)) S ((ch - 1) * 550) 0 550 k = va_cpy (σ.1 (.inr 12)) S ((ch - 1) * 550) 0 550 (0 + k) by rw [Nat.zero_add], cpy_in hk]
  unfold kR
  rw [show (ch - 1) * 550 + k = 550 * (ch - 1) + k by omega]
theorem RVX.restore (h : RVX σ S F o ch n w) {s : Nat} (hs : s < 2) (hq : ¬ σ.1 (.inr 7) s = 0) : RVX (mRw (uCopyB (uPush σ o ch) 0 (10 + s)) S ch) (va_cpy (σ.1 (.inr 13)) S (s * 550) 0 550) (upd (upd F 7 0) 6 (nI (mNx ch))) (oNx o ch) (mNx ch) n w := by
  have hg := (h.s s hs).2.2 hq
  have hp : RG (uPush σ o ch) (10 + s) (kR (σ.1 (.inr 13)) s) := hg.fr (fun k => (uPush_b (Or.inr (by omega))).1) (uPush_b (k := 2) (Or.inr (by omega))).2
  refine h.chg (FS.copy (by omega) (xZ_push (h.z _ (by omega)) (Or.inr (by omega)))) ((hp.copy (b := 0) (by omega)).cgS (fun k hk => ?_))
  rw [show va_cpy (σ.1 (.inr 13)) S (s * 550) 0 550 k = va_cpy (σ.1 (.inr 13)) S (s * 550) 0 550 (0 + k) by rw [Nat.zero_add], cpy_in hk]
  unfold kR
  rw [show s * 550 + k = 550 * s + k by omega]
theorem RVX.save (h : RVX σ S F o ch n w) {s : Nat} (hs : s < 2) {T : XS} (hT : T = xu (uCopyB σ (10 + s) 0) (.inr 7) s 1) : RVX (xu (xA T (.inr 13) (va_cpy S (T.1 (.inr 13)) 0 (s * 550) 550)) (.inr 15) s 1) S (upd F 7 0) o ch n w := by
  subst hT
  have hf : FS (10 + s) σ (uCopyB σ (10 + s) 0) := FS.copy (by omega) (h.z 0 (by decide))
  generalize hU : xu (xA (xu (uCopyB σ (10 + s) 0) (.inr 7) s 1) (.inr 13) (va_cpy S ((xu (uCopyB σ (10 + s) 0) (.inr 7) s 1).1 (.inr 13)) 0 (s * 550) 550)) (.inr 15) s 1 = U
  have ui : ∀ i, i ≠ .inr 7 → i ≠ .inr 13 → i ≠ .inr 15 → U.1 i = (uCopyB σ (10 + s) 0).1 i := fun i a b c => by rw [← hU, xu_ne _ _ _ c, xA_ne _ _ b, xu_ne _ _ _ a]
  have ul : U.2 = (uCopyB σ (10 + s) 0).2 := by rw [← hU]; rfl
  have u7 : ∀ j, U.1 (.inr 7) j = if j = s then 1 else σ.1 (.inr 7) j := fun j => by
    rw [← hU, xu_ne _ _ _ (by simp), xA_ne _ _ (by simp), xu_ap]
    simp [hf.inr]
  have u15 : ∀ j, U.1 (.inr 15) j = if j = s then 1 else σ.1 (.inr 15) j := fun j => by
    rw [← hU, xu_ap, xA_ne _ _ (by simp), xu_ne _ _ _ (by simp)]
    simp [hf.inr]
  have u13 : U.1 (.inr 13) = va_cpy S (σ.1 (.inr 13)) 0 (s * 550) 550 := by
    rw [← hU, xu_ne _ _ _ (by simp), xA_self, xu_ne _ _ _ (by simp), hf.inr]
  have gg : ∀ b, b ≠ 10 + s → ∀ S1, RG σ b S1 → RG U b S1 := fun b hb S1 hg => hg.fr (fun k => by rw [ui _ (by simp) (by simp) (by simp)]; exact hf.inl hb k) (by rw [ul]; exact hf.2.1 _ (fun j => inl_ne hb))
  have ue : ∀ k, k ≠ 7 → k ≠ 13 → k ≠ 15 → U.1 (.inr k) = σ.1 (.inr k) := fun k a b c => by rw [ui _ (by simpa using a) (by simpa using b) (by simpa using c)]; exact hf.inr k
  refine ⟨fun b hb => ?_, gg 0 (by omega) S h.g, ?_, ?_, ?_, ?_, ?_⟩
  · exact xZ_o (hf.z (h.z b hb)) (ui _ (by simp) (by simp) (by simp)) (ui _ (by simp) (by simp) (by simp))
  · unfold RVh Hi
    rw [ue 4 (by decide) (by decide) (by decide), ue 12 (by decide) (by decide) (by decide), upd_ne (by decide)]
    exact ⟨h.h.1, h.h.2.1, fun j hj => gg _ (by omega) _ (h.h.2.2 j hj)⟩
  · intro j hj
    rw [u7, u15, u13]
    by_cases g : j = s
    · subst g
      rw [if_pos rfl, if_pos rfl]
      refine ⟨rfl, Or.inr rfl, fun _ => ?_⟩
      have hg : RG (uCopyB σ (10 + j) 0) (10 + j) S := h.g.copy (by omega)
      refine (hg.fr (τ := U) (fun k => ui _ (by simp) (by simp) (by simp)) (by rw [ul])).cgS (fun k hk => ?_)
      unfold kR
      rw [show 550 * j + k = j * 550 + k by omega, cpy_in hk, Nat.zero_add]
    · rw [if_neg g, if_neg g]
      refine ⟨(h.s j hj).1, (h.s j hj).2.1, fun q => (gg _ (by omega) _ ((h.s j hj).2.2 q)).cgS (fun k hk => ?_)⟩
      unfold kR
      rw [cpy_out (by omega)]
  · unfold RVe
    rw [ue 1 (by decide) (by decide) (by decide), upd_ne (by decide), upd_ne (by decide)]
    exact h.e
  · unfold RVt Tx
    rw [ue 2 (by decide) (by decide) (by decide), ue 3 (by decide) (by decide) (by decide), ue 16 (by decide) (by decide) (by decide), upd_ne (by decide)]
    exact h.t
  · unfold RVo
    rw [ue 0 (by decide) (by decide) (by decide), ue 8 (by decide) (by decide) (by decide), ue 17 (by decide) (by decide) (by decide), upd_ne (by decide)]
    exact h.ou
/-- starts foretold -/
theorem RVX.fore (h : RVX σ S F o ch n w) {j : Nat} (hj : j < mK S) (ho : ¬ 2 ≤ sC S 4 j) : FS 1 σ (uFinB (uCopyB σ 1 0) 1 (mU S) (mK S) (mT S) j).1 ∧ nI (uFinA (uCopyB σ 1 0) 1 (mU S) (mK S) (mT S) j).2 + nI (uFinB (uCopyB σ 1 0) 1 (mU S) (mK S) (mT S) j).2 = nI (mFin S j).2 := by
  have g4 : sC S 4 j = 0 ∨ sC S 4 j = 1 := by
    rcases (h.b.x.c hj).1 with e | e | e | e
    · exact Or.inl e
    · exact Or.inr e
    · exact absurd (by rw [e]; decide) ho
    · exact absurd (by rw [e]; decide) ho
  have hf := (h.b.copy (b := 1) (by decide)).fin hj g4
  exact ⟨(FS.copy (by decide) (h.z 0 (by decide))).tr (FS.of Fr.finB (uFinB_o (by simp) (by simp) (by simp) (by simp) (by simp) (by simp)) (uFinB_o (by simp) (by simp) (by simp) (by simp) (by simp) (by simp))), hf.2⟩
theorem RVX.rowB (h : RVX σ S F o ch n w) {S1 : Nat → Int32} (e : ∀ k, k < 550 → S1 k = S k) : RVX σ S1 F o ch n w := ⟨h.z, h.g.cgS e, h.2.2⟩
/-- a cell of the reference alone changes -/
theorem RVX.cell (h : RVX σ S F o ch n w) {k : Nat} (hk : k = 11 ∨ k = 14) {f : Nat → Int32} : RVX (xA σ (.inr k) f) S F o ch n w := by
  have ei : ∀ i, i ≠ .inr k → (xA σ (.inr k) f).1 i = σ.1 i := fun i hi => xA_ne _ _ hi
  have ek : ∀ j, ¬ (j = 11 ∨ j = 14) → (xA σ (.inr k) f).1 (.inr j) = σ.1 (.inr j) := fun j hj => ei _ (fun q => hj (by cases q; exact hk))
  have gg : ∀ b S1, RG σ b S1 → RG (xA σ (.inr k) f) b S1 := fun b S1 hg => hg.fr (fun j => ei _ (by simp)) rfl
  refine ⟨fun b hb => xZ_o (h.z b hb) (ei _ (by simp)) (ei _ (by simp)), gg 0 S h.g, ?_, ?_, ?_, ?_, ?_⟩
  · unfold RVh Hi
    rw [ek 4 (by decide), ek 12 (by decide)]
    exact ⟨h.h.1, h.h.2.1, fun j hj => gg _ _ (h.h.2.2 j hj)⟩
  · intro s hs
    rw [ek 7 (by decide), ek 15 (by decide), ek 13 (by decide)]
    exact ⟨(h.s s hs).1, (h.s s hs).2.1, fun q => gg _ _ ((h.s s hs).2.2 q)⟩
  · unfold RVe
    rw [ek 1 (by decide)]
    exact h.e
  · unfold RVt Tx
    rw [ek 2 (by decide), ek 3 (by decide), ek 16 (by decide)]
    exact h.t
  · unfold RVo
    rw [ek 0 (by decide), ek 8 (by decide), ek 17 (by decide)]
    exact h.ou
/-- the text's cells change -/
theorem RVX.text (h : RVX σ S F o ch n w) {G : Nat → Int32} {n1 : Nat} (ho : ∀ i, i ≠ .inr 2 → i ≠ .inr 3 → i ≠ .inr 16 → τ.1 i = σ.1 i) (hl : τ.2 = σ.2) (e6 : G 6 = F 6) (e11 : G 11 = F 11) (e12 : G 12 = F 12) (e13 : G 13 = F 13) (ht : RVt τ G n1) : RVX τ S G o ch n1 w := by
  have gg : ∀ b S1, RG σ b S1 → RG τ b S1 := fun b S1 hg => hg.fr (fun j => ho _ (by simp) (by simp) (by simp)) (by rw [hl])
  refine ⟨fun b hb => xZ_o (h.z b hb) (ho _ (by simp) (by simp) (by simp)) (ho _ (by simp) (by simp) (by simp)), gg 0 S h.g, ?_, ?_, ?_, ht, ?_⟩
  · unfold RVh Hi
    rw [ho (.inr 4) (by simp) (by simp) (by simp), ho (.inr 12) (by simp) (by simp) (by simp), e6]
    exact ⟨h.h.1, h.h.2.1, fun j hj => gg _ _ (h.h.2.2 j hj)⟩
  · intro s hs
    rw [ho (.inr 7) (by simp) (by simp) (by simp), ho (.inr 15) (by simp) (by simp) (by simp), ho (.inr 13) (by simp) (by simp) (by simp)]
    exact ⟨(h.s s hs).1, (h.s s hs).2.1, fun q => gg _ _ ((h.s s hs).2.2 q)⟩
  · unfold RVe
    rw [ho (.inr 1) (by simp) (by simp) (by simp), e12, e13]
    exact h.e
  · unfold RVo
    rw [ho (.inr 0) (by simp) (by simp) (by simp), ho (.inr 8) (by simp) (by simp) (by simp), ho (.inr 17) (by simp) (by simp) (by simp), e11]
    exact h.ou
theorem and255 (v : Int32) : ¬ v &&& 255 = -1 := fun q => by
  have h1 : bt (v &&& 255) 31 = true := by rw [q]; exact b_m1 31 (by decide)
  rw [b_and, Bool.and_eq_true] at h1
  exact absurd h1.2 (by decide +kernel)
theorem uFour_at {v : Int32} {i m : Nat} : (uFour σ m v).1 (.inr 3) i = if i = m + 3 then v &&& 255 else if i = m + 2 then v >>> ((8 : Int32) &&& 31) &&& 255 else if i = m + 1 then v >>> ((16 : Int32) &&& 31) &&& 255 else if i = m then v >>> ((24 : Int32) &&& 31) &&& 255 else σ.1 (.inr 3) i := by
  unfold uFour uByte
  simp only [xu_ap, Sum.inr.injEq, true_and]
  simp
theorem sh0 (v : Int32) : v >>> ((0 : Int32) &&& 31) = v := by
  refine b_ext (fun i hi => ?_)
  have := b_sshr 0 (by decide) v hi
  rw [show nI 0 = (0 : Int32) from rfl] at this
  rw [this, if_pos (by omega), Nat.zero_add]
theorem mPut4_at {v : Int32} {i m : Nat} : (mPut4 σ m v).1 (.inr 16) i = if i = m + 3 then v &&& 255 else if i = m + 2 then v >>> ((8 : Int32) &&& 31) &&& 255 else if i = m + 1 then v >>> ((16 : Int32) &&& 31) &&& 255 else if i = m then v >>> ((24 : Int32) &&& 31) &&& 255 else σ.1 (.inr 16) i := by
  unfold mPut4
  simp only [xu_ap, Sum.inr.injEq, true_and]
  rw [sh0]
theorem uFour_o {v : Int32} {m : Nat} {i : XI} (h2 : i ≠ .inr 2) (h3 : i ≠ .inr 3) : (uFour σ m v).1 i = σ.1 i := by
  unfold uFour uByte
  rw [xu_ne _ _ _ h2, xu_ne _ _ _ h3, xu_ne _ _ _ h2, xu_ne _ _ _ h3, xu_ne _ _ _ h2, xu_ne _ _ _ h3, xu_ne _ _ _ h2, xu_ne _ _ _ h3]
theorem mPut4_o {v : Int32} {m : Nat} {i : XI} (h : i ≠ .inr 16) : (mPut4 σ m v).1 i = σ.1 i := by
  unfold mPut4
  rw [xu_ne _ _ _ h, xu_ne _ _ _ h, xu_ne _ _ _ h, xu_ne _ _ _ h]
/-- texts agree in the first m bytes -/
def TA (a c : Nat → Int32) (m : Nat) : Prop := ∀ i, i < m → a i = c i ∧ ¬ a i = -1
theorem TA.four {v : Int32} {m : Nat} (h : TA (σ.1 (.inr 3)) (τ.1 (.inr 16)) m) : TA ((uFour σ m v).1 (.inr 3)) ((mPut4 τ m v).1 (.inr 16)) (m + 4) := by
  intro i hi
  rw [uFour_at, mPut4_at]
  by_cases g3 : i = m + 3
  · rw [if_pos g3, if_pos g3]; exact ⟨rfl, and255 _⟩
  · rw [if_neg g3, if_neg g3]
    by_cases g2 : i = m + 2
    · rw [if_pos g2, if_pos g2]; exact ⟨rfl, and255 _⟩
    · rw [if_neg g2, if_neg g2]
      by_cases g1 : i = m + 1
      · rw [if_pos g1, if_pos g1]; exact ⟨rfl, and255 _⟩
      · rw [if_neg g1, if_neg g1]
        by_cases g0 : i = m
        · rw [if_pos g0, if_pos g0]; exact ⟨rfl, and255 _⟩
        · rw [if_neg g0, if_neg g0]
          exact h i (by omega)
theorem RVX.app (h : RVX σ S F o ch n w) (hn : n + 20 ≤ 700) (a b c d e : Int32) : RVX (mPut4 (mPut4 (mPut4 (mPut4 (mPut4 (uFour (uFour (uFour (uFour (uFour σ n a) (n + 4) b) (n + 8) c) (n + 12) d) (n + 16) e) n a) (n + 4) b) (n + 8) c) (n + 12) d) (n + 16) e) S (upd (upd F 7 0) 10 (nI (n + 20))) o ch (n + 20) w := by
  have t0 : TA (σ.1 (.inr 3)) ((uFour (uFour (uFour (uFour (uFour σ n a) (n + 4) b) (n + 8) c) (n + 12) d) (n + 16) e).1 (.inr 16)) n := by
    rw [uFour_o (by simp) (by simp), uFour_o (by simp) (by simp), uFour_o (by simp) (by simp), uFour_o (by simp) (by simp), uFour_o (by simp) (by simp)]
    exact fun i hi => ⟨h.t.2.2 i hi, h.t.1.2.2 i hi⟩
  have t1 := t0.four (v := a) (σ := σ)
  have t2 : TA _ _ (n + 8) := t1.four (v := b)
  have t3 : TA _ _ (n + 12) := t2.four (v := c)
  have t4 : TA _ _ (n + 16) := t3.four (v := d)
  have t5 : TA _ _ (n + 20) := t4.four (v := e)
  refine h.text (fun i a2 a3 a16 => ?_) rfl ?_ ?_ ?_ ?_ ⟨⟨?_, hn, fun i hi => ?_⟩, upd_at, fun i hi => ?_⟩
  · rw [mPut4_o a16, mPut4_o a16, mPut4_o a16, mPut4_o a16, mPut4_o a16, uFour_o a2 a3, uFour_o a2 a3, uFour_o a2 a3, uFour_o a2 a3, uFour_o a2 a3]
  · rw [upd_ne (by decide), upd_ne (by decide)]
  · rw [upd_ne (by decide), upd_ne (by decide)]
  · rw [upd_ne (by decide), upd_ne (by decide)]
  · rw [upd_ne (by decide), upd_ne (by decide)]
  · rw [mPut4_o (by simp), mPut4_o (by simp), mPut4_o (by simp), mPut4_o (by simp), mPut4_o (by simp)]
    unfold uFour uByte
    exact xu_self _ _ _ _
  · rw [mPut4_o (by simp), mPut4_o (by simp), mPut4_o (by simp), mPut4_o (by simp), mPut4_o (by simp)]
    exact (t5 i hi).2
  · rw [mPut4_o (i := .inr 3) (by simp), mPut4_o (i := .inr 3) (by simp), mPut4_o (i := .inr 3) (by simp), mPut4_o (i := .inr 3) (by simp), mPut4_o (i := .inr 3) (by simp)]
    exact (t5 i hi).1
theorem RVX.cut (h : RVX σ S F o ch n w) {G : Nat → Int32} {m : Nat} (hm : m ≤ n) (e6 : G 6 = F 6) (e11 : G 11 = F 11) (e12 : G 12 = F 12) (e13 : G 13 = F 13) (e10 : G 10 = nI m) : RVX (xu σ (.inr 2) 1 (nI m)) S G o ch m w := by
  refine h.text (fun i a2 a3 a16 => xu_ne _ _ _ a2) rfl e6 e11 e12 e13 ⟨⟨xu_self _ _ _ _, by have := h.t.1.2.1; omega, fun i hi => ?_⟩, e10, fun i hi => ?_⟩
  · rw [xu_ne _ _ _ (by simp)]
    exact h.t.1.2.2 i (by omega)
  · rw [xu_ne _ _ _ (by simp), xu_ne _ _ _ (by simp)]
    exact h.t.2.2 i (by omega)
end CHG

/-! BOTH SIDES: load, play, the list of calls keep the relation -/
theorem thn_fr {σ : XS} {r : RR} {f : XS → Nat → Int32 × XS} (h : Fr 1 σ r.2.1) (hf : ∀ s q, Fr 1 s (f s q).2) : Fr 1 σ (thn r f).2 := by
  unfold thn
  by_cases g : r.1 = 0
  · rw [if_pos g]; exact h
  · rw [if_neg g]; exact h.trans (hf _ _)
theorem rLoad_fr {σ : XS} {n : Nat} : Fr 1 σ (rLoad σ n).2 := by
  unfold rLoad
  refine thn_fr (uText_fr.trans rBrd_fr) (fun s1 p1 => thn_fr (rTols_fr _ _ _ _) (fun s2 p2 => thn_fr rUsers_fr (fun s3 p3 => ?_)))
  by_cases g : (rCmds n 700 s3 p3 0).1 = -1
  · rw [if_pos g]; exact rCmds_fr _ _ _ _
  · rw [if_neg g]; exact rCmds_fr _ _ _ _
theorem mRem_cg {K f g : Nat → Int32} {ch : Nat} (h : ∀ k, k < 550 → f k = g k) : mRem K f ch = mRem K g ch := by
  funext k
  unfold mRem
  by_cases c : ch = 8
  · rw [if_pos c, if_pos c]
    unfold va_cpy
    by_cases q : 3850 ≤ k ∧ k < 3850 + 550
    · rw [if_pos q, if_pos q, h _ (by omega)]
    · rw [if_neg q, if_neg q]
  · rw [if_neg c, if_neg c]
    unfold va_cpy
    by_cases q : ch * 550 ≤ k ∧ k < ch * 550 + 550
    · rw [if_pos q, if_pos q, h _ (by omega)]
    · rw [if_neg q, if_neg q]
section FIN
variable {σ τ X : XS} {S F L : Nat → Int32} {o ch n w : Nat} {q : MR × Nat}
theorem RVX.read (h : RVX σ S F o ch n w) (hX : Fr 1 σ X) {G : Nat → Int32} (e6 : G 6 = F 6) (e11 : G 11 = F 11) (e12 : G 12 = X.1 (.inr 1) 2) (e13 : G 13 = X.1 (.inr 1) 3) (e10 : G 10 = 0) : RVX (uShort X) S G o ch 0 w := by
  have si : ∀ i, i ≠ .inr 2 → (uShort X).1 i = X.1 i := fun i hi => xu_ne _ _ _ hi
  have ei : ∀ k, k ≠ 1 → k ≠ 2 → (uShort X).1 (.inr k) = σ.1 (.inr k) := fun k a b => by
    rw [si _ (by simpa using b)]
    exact hX.1 _ (by simp) (by simpa using a) (by simpa using b)
  have gg : ∀ b, b ≠ 1 → ∀ S1, RG σ b S1 → RG (uShort X) b S1 := fun b hb S1 hg => hg.fr (fun k => by
    rw [si _ (by simp)]
    exact hX.1 _ (fun j => inl_ne hb) (by simp) (by simp)) (hX.2.1 _ (fun j => inl_ne hb))
  refine ⟨fun b hb => ?_, gg 0 (by decide) S h.g, ?_, ?_, ?_, ?_, ?_⟩
  · by_cases g : b = 1
    · subst g
      exact xZ_o (hX.2.2 (h.z 1 hb)) (si _ (by simp)) (si _ (by simp))
    · exact xZ_o (hX.z g (h.z b hb)) (si _ (by simp)) (si _ (by simp))
  · unfold RVh Hi
    rw [ei 4 (by decide) (by decide), ei 12 (by decide) (by decide), e6]
    exact ⟨h.h.1, h.h.2.1, fun j hj => gg _ (by omega) _ (h.h.2.2 j hj)⟩
  · intro s hs
    rw [ei 7 (by decide) (by decide), ei 15 (by decide) (by decide), ei 13 (by decide) (by decide)]
    exact ⟨(h.s s hs).1, (h.s s hs).2.1, fun z => gg _ (by omega) _ ((h.s s hs).2.2 z)⟩
  · unfold RVe
    rw [si _ (by simp), e12, e13]
    exact ⟨rfl, rfl⟩
  · exact ⟨⟨xu_self _ _ _ _, Nat.zero_le _, fun i hi => absurd hi (Nat.not_lt_zero _)⟩, e10, fun i hi => absurd hi (Nat.not_lt_zero _)⟩
  · unfold RVo
    rw [ei 0 (by decide) (by decide), ei 8 (by decide) (by decide), ei 17 (by decide) (by decide), e11]
    exact h.ou
theorem mBgT_14 {k : Nat} (hk : k < 550) : (mBgT τ S).1 (.inr 14) k = S k := by
  unfold mBgT
  rw [xA_self]
  exact cpy0 hk
theorem mRw_bg {f : Nat → Int32} : mRw (mBgT τ S) f ch = mBgT (mRw τ f ch) S := by
  refine mW_ext (fun i => ?_) rfl
  unfold mRw mBgT
  by_cases g : i = .inr 12
  · subst g
    rw [xA_self, xA_ne _ _ (by simp), xA_ne _ _ (by simp), xA_self]
  · rw [xA_ne _ _ g]
    by_cases g2 : i = .inr 14
    · subst g2
      rw [xA_self, xA_self, xA_ne _ _ (by simp)]
    · rw [xA_ne _ _ g2, xA_ne _ _ g2, xA_ne _ _ g]
theorem RVX.endY (h : RVX σ S F o ch n w) (hX : Fr 1 σ X) (p6 : q.1.2.1 6 = F 6) (p11 : q.1.2.1 11 = F 11) (z : q.1.2.1 20 = 0) (hg : RG X 1 q.1.1) (e12 : q.1.2.1 12 = X.1 (.inr 1) 2) (e13 : q.1.2.1 13 = X.1 (.inr 1) 3) : RVX (mEndT (mBgT (uTake (uShort X) o ch) S) q ch) (mEndS (mBgT (uTake (uShort X) o ch) S) q) (mEndF q ch) (oNx o ch) (mNx ch) 0 w := by
  have h1 : RVX (uShort X) S (upd q.1.2.1 10 0) o ch 0 w := h.read hX ((upd_ne (by decide)).trans p6) ((upd_ne (by decide)).trans p11) ((upd_ne (by decide)).trans e12) ((upd_ne (by decide)).trans e13) upd_at
  have g1 : RG (uShort X) 1 q.1.1 := hg.fr (fun k => xu_ne _ _ _ (by simp)) rfl
  have g2 : RG (uPush (uShort X) o ch) 1 q.1.1 := g1.fr (fun k => (uPush_b (Or.inl (by decide))).1) (uPush_b (k := 2) (Or.inl (by decide))).2
  have g3 : RG (uTake (uShort X) o ch) 0 q.1.1 := g2.copy (by decide)
  have h2 := h1.chg (τ := uTake (uShort X) o ch) (FS.copy (by decide) (xZ_push (h1.z 1 (by decide)) (Or.inl (by decide)))) g3
  have eS : mEndS (mBgT (uTake (uShort X) o ch) S) q = q.1.1 := if_pos z
  have eF : mEndF q ch = upd (upd q.1.2.1 10 0) 6 (nI (mNx ch)) := if_pos z
  have eT : mEndT (mBgT (uTake (uShort X) o ch) S) q ch = mBgT (mRw (uTake (uShort X) o ch) S ch) S := by
    unfold mEndT
    rw [if_pos z, ← mRw_bg]
    unfold mRw
    rw [mRem_cg (fun k hk => mBgT_14 hk)]
  rw [eS, eF, eT]
  exact (h2.cell (Or.inr rfl)).f (by simp [upd]) (by simp [upd]) (by simp [upd]) (by simp [upd]) (by simp [upd])
theorem RVX.endN (h : RVX σ S F o ch n w) (hX : Fr 1 σ X) (p6 : q.1.2.1 6 = F 6) (p11 : q.1.2.1 11 = F 11) (he : ER X q.1.2.1) : RVX (mEndT (mBgT (uShort X) S) q ch) (mEndS (mBgT (uShort X) S) q) (mEndF q ch) o ch 0 w := by
  have h1 : RVX (uShort X) S (upd q.1.2.1 10 0) o ch 0 w := h.read hX ((upd_ne (by decide)).trans p6) ((upd_ne (by decide)).trans p11) ((upd_ne (by decide)).trans he.2.1) ((upd_ne (by decide)).trans he.2.2) upd_at
  have eS : mEndS (mBgT (uShort X) S) q = va_cpy ((mBgT (uShort X) S).1 (.inr 14)) q.1.1 0 0 550 := if_neg he.d
  have eF : mEndF q ch = upd q.1.2.1 10 0 := if_neg he.d
  have eT : mEndT (mBgT (uShort X) S) q ch = mBgT (uShort X) S := if_neg he.d
  rw [eS, eF, eT]
  exact (h1.cell (k := 14) (Or.inr rfl)).rowB (fun k hk => by rw [cpy0 hk]; exact mBgT_14 hk)
theorem mBg_11 {B : Nat → Int32} : mBg B n F 11 = F 11 := by rw [mBg_k (by decide) (by decide) (by decide) (by decide), mBgF, upd_ne (by decide), upd_ne (by decide), upd_ne (by decide), upd_ne (by decide), upd_ne (by decide)]
/-- play: the same answer, and the relation holds -/
theorem RVX.play (h : RVX σ S F o ch n w) {T : XS} (hT : T = if (rPlay σ n).1 = -1 then uShort (rPlay σ n).2 else uTake (uShort (rPlay σ n).2) o ch) : (rPlay σ n).1 = mEndV (mCs (σ.1 (.inr 16)) n 700 (S, mBg (σ.1 (.inr 16)) n F, L) 0) ∧ ∃ o1 ch1, RVX (mEndT (mBgT T S) (mCs (σ.1 (.inr 16)) n 700 (S, mBg (σ.1 (.inr 16)) n F, L) 0) ch) (mEndS (mBgT T S) (mCs (σ.1 (.inr 16)) n 700 (S, mBg (σ.1 (.inr 16)) n F, L) 0)) (mEndF (mCs (σ.1 (.inr 16)) n 700 (S, mBg (σ.1 (.inr 16)) n F, L) 0) ch) o1 ch1 0 w := by
  have ht := h.t
  have hTx : Tx (uCopyB σ 1 0) n := by
    unfold Tx
    rw [(uCopyB_ne (fun k => by simp)).1, (uCopyB_ne (fun k => by simp)).1]
    exact ht.1
  have h0 : RT0 (uText (uCopyB σ 1 0) n) n 0 (σ.1 (.inr 16)) (mBg (σ.1 (.inr 16)) n F) := RT0.text hTx (fun i hi => by rw [(uCopyB_ne (fun k => by simp)).1]; exact ht.2.2 i hi) ht.2.1
  have hb : RB (uText (uCopyB σ 1 0) n) 1 S := (h.b.copy (b := 1) (by decide)).fr (fun k => uText_b) rfl
  have hX : Fr 1 σ (rPlay σ n).2 := ((Fr.of (fun i hi => (uCopyB_ne hi).1) (fun i hi => (uCopyB_ne hi).2) (fun _ => (FS.copy (b := 1) (f := 0) (by decide) (h.z 0 (by decide))).2.2 (h.z 1 (by decide)))).trans uText_fr).trans (rCmds_fr _ _ _ _)
  have hp := RT.play_ (L := L) ⟨h0, hb⟩
  have hPG : PG (mBg (σ.1 (.inr 16)) n F) (mCs (σ.1 (.inr 16)) n 700 (S, mBg (σ.1 (.inr 16)) n F, L) 0).1.2.1 := (mCs_ok (B := σ.1 (.inr 16)) (n := n) 700 (S, mBg (σ.1 (.inr 16)) n F, L) 0 h.b.x.s (mBg_TK ht.1.2.1 ht.2.1)).2.2
  have p6 := hPG.2.1.trans mBg_6
  have p11 := hPG.2.2.2.trans mBg_11
  generalize mCs (σ.1 (.inr 16)) n 700 (S, mBg (σ.1 (.inr 16)) n F, L) 0 = q at hp p6 p11 ⊢
  generalize rPlay σ n = x at hp hX hT ⊢
  rcases hp with ⟨a1, a2, a3, a4, a5, a6, a7⟩ | ⟨a1, a2⟩
  · rw [if_neg (by rw [a1]; exact cm1 (by omega))] at hT
    subst hT
    refine ⟨by unfold mEndV; rw [if_pos a3]; exact a1, _, _, h.endY hX p6 p11 a3 ⟨a4, by rw [a5]; exact h.g.2⟩ a6 a7⟩
  · rw [if_pos a1] at hT
    subst hT
    refine ⟨by unfold mEndV; rw [if_neg a2.d]; exact a1, _, _, h.endN hX p6 p11 a2⟩
theorem RVX.load (h : RVX σ S F o ch n w) {T : XS} (hT : T = if (rLoad σ n).1 = 0 then uShort (rLoad σ n).2 else uTake (uShort (rLoad σ n).2) o ch) : (if (rLoad σ n).1 = 0 then -1 else (rLoad σ n).2.1 (.inl (1, 1)) 6) = mLdV (mCs (σ.1 (.inr 16)) n 700 (mLdB (σ.1 (.inr 16)) n S (mBg (σ.1 (.inr 16)) n F) L) 0) ∧ ∃ o1 ch1, RVX (mEndT (mBgT T S) (mCs (σ.1 (.inr 16)) n 700 (mLdB (σ.1 (.inr 16)) n S (mBg (σ.1 (.inr 16)) n F) L) 0) ch) (mEndS (mBgT T S) (mCs (σ.1 (.inr 16)) n 700 (mLdB (σ.1 (.inr 16)) n S (mBg (σ.1 (.inr 16)) n F) L) 0)) (mEndF (mCs (σ.1 (.inr 16)) n 700 (mLdB (σ.1 (.inr 16)) n S (mBg (σ.1 (.inr 16)) n F) L) 0) ch) o1 ch1 0 w := by
  have ht := h.t
  have h0 : RT0 (uText σ n) n 0 (σ.1 (.inr 16)) (mBg (σ.1 (.inr 16)) n F) := RT0.text ht.1 ht.2.2 ht.2.1
  have hX : Fr 1 σ (rLoad σ n).2 := rLoad_fr
  have hp := load_rel (S := S) (L := L) h0
  have hT0 := mBg_TK (B := σ.1 (.inr 16)) ht.1.2.1 ht.2.1
  have hB := mLdB_ok (B := σ.1 (.inr 16)) (S := S) (L := L) hT0
  have hPG := hB.2.2.tr (mCs_ok (B := σ.1 (.inr 16)) (n := n) 700 (mLdB (σ.1 (.inr 16)) n S (mBg (σ.1 (.inr 16)) n F) L) 0 hB.1 hB.2.1).2.2
  have p6 := hPG.2.1.trans mBg_6
  have p11 := hPG.2.2.2.trans mBg_11
  generalize mCs (σ.1 (.inr 16)) n 700 (mLdB (σ.1 (.inr 16)) n S (mBg (σ.1 (.inr 16)) n F) L) 0 = q at hp p6 p11 ⊢
  generalize rLoad σ n = x at hp hX hT ⊢
  rcases hp with ⟨a1, a3, a4, a5, a6, a7⟩ | ⟨a1, a2⟩
  · rw [if_neg a1] at hT
    subst hT
    refine ⟨by unfold mLdV; rw [if_pos a3, if_neg a1]; exact a4.s.2.2.2.2.1, _, _, h.endY hX p6 p11 a3 ⟨a4, a5⟩ a6 a7⟩
  · rw [if_pos a1] at hT
    subst hT
    refine ⟨by unfold mLdV; rw [if_neg a2.d, if_pos a1], _, _, h.endN hX p6 p11 a2⟩
/-- what is written -/
theorem uPut_at : ∀ (A : List Int32) (σ : XS) (w k : Nat), (uPut σ w A).1 (.inr 8) k = if w ≤ k ∧ k < w + A.length then A.getD (k - w) 0 else σ.1 (.inr 8) k
  | [], σ, w, k => by rw [uPut, if_neg (by simp only [List.length_nil]; omega)]
  | v :: A, σ, w, k => by
    have e : ∀ j, (uOut σ w v).1 (.inr 8) j = if j = w then v else σ.1 (.inr 8) j := fun j => by
      unfold uOut
      rw [xu_ne _ _ _ (by simp), xu_ap]
      simp
    rw [uPut, uPut_at A, e, List.length_cons]
    by_cases g : k = w
    · rw [if_neg (by omega), if_pos g, if_pos (by omega), g, Nat.sub_self, List.getD_cons_zero]
    · by_cases g2 : w + 1 ≤ k ∧ k < w + 1 + A.length
      · rw [if_pos g2, if_pos (by omega), show k - w = (k - (w + 1)) + 1 by omega, List.getD_cons_succ]
      · rw [if_neg g2, if_neg g, if_neg (by omega)]
theorem mOut_at : ∀ (A : List Int32) (τ : XS) (w k : Nat), (mOut τ w A).1 (.inr 17) k = if w ≤ k ∧ k < w + A.length then A.getD (k - w) 0 else τ.1 (.inr 17) k
  | [], τ, w, k => by rw [mOut, if_neg (by simp only [List.length_nil]; omega)]
  | v :: A, τ, w, k => by
    have e : ∀ j, (xu τ (.inr 17) w v).1 (.inr 17) j = if j = w then v else τ.1 (.inr 17) j := fun j => by
      rw [xu_ap]
      simp
    rw [mOut, mOut_at A, e, List.length_cons]
    by_cases g : k = w
    · rw [if_neg (by omega), if_pos g, if_pos (by omega), g, Nat.sub_self, List.getD_cons_zero]
    · by_cases g2 : w + 1 ≤ k ∧ k < w + 1 + A.length
      · rw [if_pos g2, if_pos (by omega), show k - w = (k - (w + 1)) + 1 by omega, List.getD_cons_succ]
      · rw [if_neg g2, if_neg g, if_neg (by omega)]
theorem uPut_o : ∀ (A : List Int32) (σ : XS) (w : Nat) (i : XI), i ≠ .inr 8 → i ≠ .inr 0 → (uPut σ w A).1 i = σ.1 i
  | [], _, _, _, _, _ => rfl
  | v :: A, σ, w, i, h8, h0 => by rw [uPut, uPut_o A _ _ _ h8 h0, uOut_o h8 h0]
theorem uPut_l : ∀ (A : List Int32) (σ : XS) (w : Nat), (uPut σ w A).2 = σ.2
  | [], _, _ => rfl
  | v :: A, σ, w => by rw [uPut, uPut_l A]; rfl
theorem mOut_o : ∀ (A : List Int32) (σ : XS) (w : Nat) (i : XI), i ≠ .inr 17 → (mOut σ w A).1 i = σ.1 i
  | [], _, _, _, _ => rfl
  | v :: A, σ, w, i, h => by rw [mOut, mOut_o A _ _ _ h, xu_ne _ _ _ h]
theorem mOut_l : ∀ (A : List Int32) (σ : XS) (w : Nat), (mOut σ w A).2 = σ.2
  | [], _, _ => rfl
  | v :: A, σ, w => by rw [mOut, mOut_l A]; rfl
theorem mwL_le (hM : MI S) (hN : MN S) : ∀ k j w, j + k = mK S → (mwL S k j w).length ≤ 14 * k
  | 0, _, _, _ => Nat.le_refl _
  | k + 1, j, w, hk => by
    have h1 := mwL_le hM hN k (j + 1)
    rw [mwL]
    by_cases g : 2 ≤ sC S 4 j
    · rw [if_pos g]
      have := h1 w (by omega)
      omega
    · rw [if_neg g, List.length_append]
      have h2 := mcL_le (w := w) hM hN (c := j) (by omega)
      have := h1 (w + (mcL S j w).length) (by omega)
      omega
theorem RVX.write (h : RVX σ S F o ch n w) : RVX (mOut (uPut (xu σ (.inr 0) 6 0) 0 (mwL S (mK S) 0 0)) 0 (mwL S (mK S) 0 0)) S (upd (upd F 7 0) 11 (nI (mwL S (mK S) 0 0).length)) o ch n (mwL S (mK S) 0 0).length := by
  have hl := mwL_le h.b.x.i h.b.x.n (mK S) 0 0 (by omega)
  have k40 := h.b.x.i.k40
  generalize mwL S (mK S) 0 0 = A at hl ⊢
  have ei : ∀ i, i ≠ .inr 0 → i ≠ .inr 8 → i ≠ .inr 17 → (mOut (uPut (xu σ (.inr 0) 6 0) 0 A) 0 A).1 i = σ.1 i := fun i a b c => by rw [mOut_o _ _ _ _ c, uPut_o _ _ _ _ b a, xu_ne _ _ _ a]
  have el : (mOut (uPut (xu σ (.inr 0) 6 0) 0 A) 0 A).2 = σ.2 := by rw [mOut_l, uPut_l]; rfl
  have gg : ∀ b S1, RG σ b S1 → RG (mOut (uPut (xu σ (.inr 0) 6 0) 0 A) 0 A) b S1 := fun b S1 hg => hg.fr (fun k => ei _ (by simp) (by simp) (by simp)) (by rw [el])
  refine ⟨fun b hb => xZ_o (h.z b hb) (ei _ (by simp) (by simp) (by simp)) (ei _ (by simp) (by simp) (by simp)), gg 0 S h.g, ?_, ?_, ?_, ?_, ?_⟩
  · unfold RVh Hi
    rw [ei (.inr 4) (by simp) (by simp) (by simp), ei (.inr 12) (by simp) (by simp) (by simp), upd_ne (by decide), upd_ne (by decide)]
    exact ⟨h.h.1, h.h.2.1, fun j hj => gg _ _ (h.h.2.2 j hj)⟩
  · intro s hs
    rw [ei (.inr 7) (by simp) (by simp) (by simp), ei (.inr 15) (by simp) (by simp) (by simp), ei (.inr 13) (by simp) (by simp) (by simp)]
    exact ⟨(h.s s hs).1, (h.s s hs).2.1, fun z => gg _ _ ((h.s s hs).2.2 z)⟩
  · unfold RVe
    rw [ei (.inr 1) (by simp) (by simp) (by simp), upd_ne (by decide), upd_ne (by decide), upd_ne (by decide), upd_ne (by decide)]
    exact h.e
  · unfold RVt Tx
    rw [ei (.inr 2) (by simp) (by simp) (by simp), ei (.inr 3) (by simp) (by simp) (by simp), ei (.inr 16) (by simp) (by simp) (by simp), upd_ne (by decide), upd_ne (by decide)]
    exact h.t
  · refine ⟨by omega, ?_, upd_at, fun i hi => ?_⟩
    · rw [mOut_o _ _ _ _ (by simp)]
      have := uPut_w A (xu σ (.inr 0) 6 0) 0 (xu_self _ _ _ _)
      rw [Nat.zero_add] at this
      exact this
    · rw [mOut_o _ _ _ _ (by simp), uPut_at, mOut_at, if_pos (by omega), if_pos (by omega)]
end FIN

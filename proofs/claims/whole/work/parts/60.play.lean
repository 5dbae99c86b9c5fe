/-! THE TWO READERS: whole texts -/
section PLAYS
variable {σ : XS} {n p : Nat} {B S F L : Nat → Int32}
theorem RT0.bd (h : RT0 σ n p B F) {τ : XS} {S1 : Nat → Int32} (hf : Fr 1 σ τ) (h1 : τ.1 (.inr 1) = σ.1 (.inr 1)) (h2 : τ.1 (.inr 2) = σ.1 (.inr 2)) (hb : RB τ 1 S1) : RT τ n p B S1 F := by
  have h3 : τ.1 (.inr 3) = σ.1 (.inr 3) := hf.1 _ (by simp) (by simp) (by simp)
  refine ⟨⟨h.at.o h2 h3, ?_, ?_⟩, hb⟩
  · unfold AB
    rw [h3]
    exact h.ab
  · have hF := h.f
    unfold RF kT sT eT vT at *
    rw [h3, h1]
    exact hF
theorem RT0.step (h : RT0 σ n p B F) {τ : XS} {S1 : Nat → Int32} (hf : Fr 1 σ τ) (h1 : τ.1 (.inr 1) = σ.1 (.inr 1)) (h2 : τ.1 (.inr 2) = σ.1 (.inr 2)) (hb : RB τ 1 S1) : RT (fA τ n p) n (eT σ n p) B S1 (mGo B n F) := by
  have h3 : τ.1 (.inr 3) = σ.1 (.inr 3) := hf.1 _ (by simp) (by simp) (by simp)
  have hb1 := h.bd hf h1 h2 hb
  have e : eT τ n p = eT σ n p := by unfold eT; rw [h3]
  rw [← e, hb1.kz]
  exact hb1.adv
theorem RT0.text (hT : Tx σ n) (hab : ∀ i, i < n → σ.1 (.inr 3) i = B i) (h10 : F 10 = nI n) : RT0 (uText σ n) n 0 B (mBg B n F) := by
  have e3 : (uText σ n).1 (.inr 3) = σ.1 (.inr 3) := (uText_fr (b := 1)).1 _ (by simp) (by simp) (by simp)
  have cS := tkS_cg (B := σ.1 (.inr 3)) (D := B) hab (Nat.zero_le n)
  have cK := tkK_cg (B := σ.1 (.inr 3)) (D := B) hab (Nat.zero_le n)
  have cE := tkE_cg (B := σ.1 (.inr 3)) (D := B) hab (Nat.zero_le n)
  have hs := tkS_in B (Nat.zero_le n)
  refine ⟨At_text hT, fun i hi => by rw [e3]; exact hab i hi, ?_⟩
  unfold RF kT sT eT vT
  rw [e3, cS, cK, cE]
  refine ⟨mBg_20, ?_, ?_, ?_, ?_, fun hk => ?_, ?_, ?_⟩
  · rw [mBg_k (by decide) (by decide) (by decide) (by decide), mBgF, upd_ne (by decide), upd_ne (by decide), upd_ne (by decide), upd_ne (by decide), upd_ne (by decide)]
    exact h10
  · rw [mBg, mNextF, upd_ne (by decide), upd_at]
  · rw [mBg, mNextF, upd_ne (by decide), upd_ne (by decide), upd_at]
  · rw [mBg, mNextF, upd_ne (by decide), upd_ne (by decide), upd_ne (by decide), upd_at]
  · rw [mBg, mNextF, upd_at, if_pos hk, cNum_cg (D := B) (fun j a b => hab j (by omega))]
    exact num_rel (x := 0) (y := 0) (Or.inl ⟨rfl, by decide⟩)
  · rw [mBg_k (by decide) (by decide) (by decide) (by decide), mBgF, upd_ne (by decide), upd_at, uText, uAdv, uTok_o _ _ _ _ _ (by simp)]
    simp [uText0, xu_ap]
  · rw [mBg_k (by decide) (by decide) (by decide) (by decide), mBgF, upd_at, uText, uAdv, uTok_o _ _ _ _ _ (by simp)]
    simp [uText0, xu_ap]
/-- an empty board -/
theorem RB.empty {τ : XS} {li co : Int32} (h1 : 1 ≤ li) (h2 : li ≤ 6) (h3 : 1 ≤ co) (h4 : co ≤ 6) (e1 : S 1 = li) (e2 : S 2 = co) (e0 : ∀ k, k ≠ 1 → k ≠ 2 → k < 550 → S k = 0) (hM : MS S) : RB (uReset τ 1 li co) 1 S := by
  have r : ∀ v : Int32, 1 ≤ v → v ≤ 6 → v = nI (cN v) ∧ 1 ≤ cN v ∧ cN v ≤ 6 := fun v a b => by
    have a := Int32.le_iff_toInt_le.mp a
    have b := Int32.le_iff_toInt_le.mp b
    rw [show (1 : Int32).toInt = 1 from by decide] at a
    rw [show (6 : Int32).toInt = 6 from by decide] at b
    have hv := xok_c (x := v) (n := 7) ⟨by omega, by omega⟩ (by decide)
    have := hv.2
    refine ⟨this, ?_, by omega⟩
    rw [this, nI_toInt (by omega)] at a
    omega
  have z0 : cN (0 : Int32) = 0 := by decide
  have eU : mU S = 0 := by rw [mU, e0 4 (by decide) (by decide) (by decide)]; exact z0
  have eK : mK S = 0 := by rw [mK, e0 5 (by decide) (by decide) (by decide)]; exact z0
  have eT : mT S = 0 := by rw [mT, e0 3 (by decide) (by decide) (by decide)]; exact z0
  refine ⟨?_, ?_, ?_, ?_, ⟨hM, ?_, ⟨?_, ?_, ?_⟩, ?_, ?_⟩⟩
  · unfold RBs
    rw [e1, e2, e0 0 (by decide) (by decide) (by decide), e0 3 (by decide) (by decide) (by decide), e0 4 (by decide) (by decide) (by decide), e0 5 (by decide) (by decide) (by decide)]
    unfold uReset
    simp only [xu_ap, Sum.inl.injEq, Prod.mk.injEq, true_and]
    simp
  · intro i hi
    rw [eT] at hi
    exact absurd hi (Nat.not_lt_zero _)
  · intro u hu
    rw [eU] at hu
    exact absurd hu (Nat.not_lt_zero _)
  · intro u hu
    rw [eK] at hu
    exact absurd hu (Nat.not_lt_zero _)
  · rw [mL, e1]; exact (r li h1 h2).2.1
  · rw [e2]; exact (r co h3 h4).1
  · rw [e2]; exact (r co h3 h4).2.2
  · rw [eK]; exact Nat.zero_le _
  · intro u hu
    rw [eU] at hu
    exact absurd hu (Nat.not_lt_zero _)
  · intro u hu
    rw [eK] at hu
    exact absurd hu (Nat.not_lt_zero _)
theorem RT0.brd (h : RT0 σ n p B F) (S : Nat → Int32) : OT n B (rBrd σ n p) (mLdS B n S F) (mLd4 B n F) := by
  have hw := h.is (q := 0) (by decide)
  have e2 : mLd2 B n F = mNbF B n (mLd1 B n F) 1 6 := rfl
  have e3 : mLd3 B n F = mNbF B n (mLd2 B n F) 1 6 := rfl
  unfold rBrd
  rw [hw]
  by_cases g : mIs B F 0 = 0
  · have he := h.err 1
    have d1 : mLd1 B n F = mWr F 1 1 := by
      unfold mLd1
      rw [if_pos g, mGo_dead he.d]
    have d4 : mLd4 B n F = mWr F 1 1 := by
      unfold mLd4
      rw [e3, e2, d1, nbF_dead he.d, nbF_dead he.d, mWr_dead he.d, mGo_dead he.d]
    rw [if_pos g, d4]
    exact OT.no he
  · rw [if_neg g]
    have e1 : mLd1 B n F = mNx1 B n F := by
      unfold mLd1
      rw [if_neg g, mWr_z, h.kz]
    have h1 := h.adv
    rw [← e1] at h1
    unfold rBrd1
    generalize hσ1 : fA σ n p = σ1 at h1 ⊢
    generalize hp1 : eT σ n p = p1 at h1 ⊢
    rcases h1.num (lo := 1) (hi := 6) (by decide) with ⟨li, r1, r2, r3, r4, r5⟩ | ⟨r1, r2⟩
    · have h2 := h1.adv
      rw [← r5, ← e2] at h2
      rw [r1]
      dsimp only
      rw [if_neg (ge1_m1 r2)]
      unfold rBrd2
      generalize hσ2 : fA σ1 n p1 = σ2 at h2 ⊢
      generalize hp2 : eT σ1 n p1 = p2 at h2 ⊢
      rcases h2.num (lo := 1) (hi := 6) (by decide) with ⟨co, s1, s2, s3, s4, s5⟩ | ⟨s1, s2⟩
      · have h3 := h2.adv
        rw [← s5, ← e3] at h3
        rw [s1]
        dsimp only
        rw [if_neg (ge1_m1 s2)]
        unfold rSem
        by_cases g2 : kT (fA σ2 n p2) n (eT σ2 n p2) = 3
        · have e4 : mLd4 B n F = mGo B n (mLd3 B n F) := by
            unfold mLd4
            rw [h3.semi g2, mWr_z]
          have eS : mLdS B n S F = upd (upd (mZ S 550) 1 li) 2 co := by
            unfold mLdS
            rw [r4, s4]
          rw [if_pos g2, e4]
          refine OT.ye (h3.step Fr.reset ?_ ?_ ?_)
          · unfold uReset
            rw [xu_ne _ _ _ (by simp), xu_ne _ _ _ (by simp), xu_ne _ _ _ (by simp), xu_ne _ _ _ (by simp), xu_ne _ _ _ (by simp), xu_ne _ _ _ (by simp)]
          · unfold uReset
            rw [xu_ne _ _ _ (by simp), xu_ne _ _ _ (by simp), xu_ne _ _ _ (by simp), xu_ne _ _ _ (by simp), xu_ne _ _ _ (by simp), xu_ne _ _ _ (by simp)]
          · refine RB.empty r2 r3 s2 s3 ?_ ?_ (fun k a b c => mLdS_k a b c) mLdS_ok.1
            · rw [eS, upd_ne (by decide), upd_at]
            · rw [eS, upd_at]
        · have he := h3.err 1
          have d4 : mLd4 B n F = mWr (mLd3 B n F) 1 1 := by
            unfold mLd4
            rw [h3.semiE g2, mGo_dead he.d]
          rw [if_neg g2, d4]
          exact OT.no he
      · have d4 : mLd4 B n F = mLd3 B n F := by
          unfold mLd4
          rw [e3, mWr_dead s2.d, mGo_dead s2.d]
        rw [if_pos s1, d4, e3]
        exact OT.no s2
    · have d3 : mLd3 B n F = mNbF B n (mLd1 B n F) 1 6 := by rw [e3, e2, nbF_dead r2.d]
      have d4 : mLd4 B n F = mNbF B n (mLd1 B n F) 1 6 := by
        unfold mLd4
        rw [d3, mWr_dead r2.d, mGo_dead r2.d]
      rw [if_pos r1, d4]
      exact OT.no r2
theorem ZB.ld : ZB (mLdS B n S F) := ⟨mLdS_ok.2.2.2, fun u _ hu => mLdS_k (by omega) (by omega) (by omega)⟩
theorem mU1_dead {r : MR} (h : ¬ r.2.1 20 = 0) : mU1 B n r = r := if_neg h
theorem mCs_dead {r : MR} (h : ¬ r.2.1 20 = 0) (k : Nat) : mCs B n k r 0 = (r, 0) := mCs_n (fun q => h q.1) k
/-- what both say of a text: both read it, or both have the same error -/
def RQ (x : Int32 × XS) (q : MR × Nat) : Prop := (¬ x.1 = 0 ∧ q.1.2.1 20 = 0 ∧ RB x.2 1 q.1.1 ∧ 1 ≤ mU q.1.1 ∧ q.1.2.1 12 = x.2.1 (.inr 1) 2 ∧ q.1.2.1 13 = x.2.1 (.inr 1) 3) ∨ (x.1 = 0 ∧ ER x.2 q.1.2.1)
theorem thn_n {r : RR} {f : XS → Nat → Int32 × XS} (h : r.1 = 0) : thn r f = (0, r.2.1) := if_pos h
theorem thn_y {r : RR} {f : XS → Nat → Int32 × XS} (h : ¬ r.1 = 0) : thn r f = f r.2.1 r.2.2 := if_neg h
theorem cm1 {k : Nat} (h : k ≤ 1000000) : ¬ nI k = -1 := fun q => by
  have : 0 ≤ nI k := nI_pos' (n31 h)
  rw [q] at this
  exact absurd this (by decide)
theorem RT.fin_ {r : MR} (h : RT σ n p B r.1 r.2.1) (hu : 1 ≤ mU r.1) : RQ (if (rCmds n 700 σ p 0).1 = -1 then (0, (rCmds n 700 σ p 0).2) else (1, (rCmds n 700 σ p 0).2)) (mCs B n 700 r 0) := by
  have h4 := mCs_4 (B := B) (n := n) 700 r 0
  have hc := RT.cmds 700 σ p 0 r h
  have eu : mU (mCs B n 700 r 0).1.1 = mU r.1 := by rw [mU, mU, h4]
  generalize rCmds n 700 σ p 0 = x at hc ⊢
  generalize mCs B n 700 r 0 = q at hc eu ⊢
  rcases hc with ⟨a, b, c, d, e, f⟩ | ⟨a, b⟩
  · rw [if_neg (by rw [a]; exact cm1 (by omega))]
    exact Or.inl ⟨show ¬ (1 : Int32) = 0 by decide, c, d, by omega, e, f⟩
  · rw [if_pos a]
    exact Or.inr ⟨rfl, b⟩
theorem load_rel (h : RT0 (uText σ n) n 0 B F) : RQ (rLoad σ n) (mCs B n 700 (mLdB B n S F L) 0) := by
  have h1 := h.brd S
  have hz : ZB (mLdS B n S F) := ZB.ld
  have h0 := (mLdS_ok (B := B) (S := S) (F := F) (n := n)).2
  have eB : mLdB B n S F L = mUs B n 15 (mU1 B n ((mTs B n 5 (mLdS B n S F) (mLd4 B n F)).1, (mTs B n 5 (mLdS B n S F) (mLd4 B n F)).2, L)) := rfl
  rw [eB]
  unfold rLoad
  generalize rBrd (uText σ n) n 0 = r1 at h1 ⊢
  generalize mLdS B n S F = S1 at *
  generalize mLd4 B n F = F1 at *
  rcases h1 with ⟨q1, q2⟩ | ⟨q1, q2⟩
  · rw [thn_y q1]
    have h2 := RT.tols 5 0 r1.2.1 r1.2.2 S1 F1 q2 hz h0.2.1 (by omega)
    generalize rTols n 5 r1.2.1 r1.2.2 0 = r2 at h2 ⊢
    generalize mTs B n 5 S1 F1 = m2 at h2 ⊢
    obtain ⟨h2, h2b⟩ := h2
    rcases h2 with ⟨s1, s2⟩ | ⟨s1, s2⟩
    · rw [thn_y s1]
      have h3 := s2.all (h2b s1).1 ((h2b s1).2.trans h0.1) L
      generalize rUsers r2.2.1 n r2.2.2 = r3 at h3 ⊢
      generalize mUs B n 15 (mU1 B n (m2.1, m2.2, L)) = m3 at h3 ⊢
      obtain ⟨h3, h3b⟩ := h3
      rcases h3 with ⟨t1, t2⟩ | ⟨t1, t2⟩
      · rw [thn_y t1]
        exact t2.fin_ (h3b t1)
      · rw [thn_n t1, mCs_dead t2.d]
        exact Or.inr ⟨rfl, t2⟩
    · have d : ¬ ((m2.1, m2.2, L) : MR).2.1 20 = 0 := s2.d
      rw [thn_n s1, mU1_dead d, mUs_dead d, mCs_dead d]
      exact Or.inr ⟨rfl, s2⟩
  · rw [thn_n q1, mTs_dead q2.d]
    have d : ¬ ((S1, F1, L) : MR).2.1 20 = 0 := q2.d
    rw [mU1_dead d, mUs_dead d, mCs_dead d]
    exact Or.inr ⟨rfl, q2⟩
end PLAYS

/-! BOTH SIDES: what holds between calls -/
theorem RT.play_ {σ : XS} {n : Nat} {B S F L : Nat → Int32} (h : RT (uText (uCopyB σ 1 0) n) n 0 B S F) : ((rPlay σ n).1 = nI (mCs B n 700 (S, F, L) 0).2 ∧ (mCs B n 700 (S, F, L) 0).2 ≤ 700 ∧ (mCs B n 700 (S, F, L) 0).1.2.1 20 = 0 ∧ RB (rPlay σ n).2 1 (mCs B n 700 (S, F, L) 0).1.1 ∧ mU (mCs B n 700 (S, F, L) 0).1.1 = mU S ∧ (mCs B n 700 (S, F, L) 0).1.2.1 12 = (rPlay σ n).2.1 (.inr 1) 2 ∧ (mCs B n 700 (S, F, L) 0).1.2.1 13 = (rPlay σ n).2.1 (.inr 1) 3) ∨ ((rPlay σ n).1 = -1 ∧ ER (rPlay σ n).2 (mCs B n 700 (S, F, L) 0).1.2.1) := by
  have h4 := mCs_4 (B := B) (n := n) 700 (S, F, L) 0
  have hc := RT.cmds 700 _ 0 0 (S, F, L) h
  have eu : mU (mCs B n 700 (S, F, L) 0).1.1 = mU S := by rw [mU, mU, h4]
  unfold rPlay
  generalize rCmds n 700 (uText (uCopyB σ 1 0) n) 0 0 = x at hc ⊢
  generalize mCs B n 700 (S, F, L) 0 = q at hc eu ⊢
  rcases hc with ⟨a, b, c, d, e, f⟩ | hc
  · exact Or.inl ⟨a, by omega, c, d, eu, e, f⟩
  · exact Or.inr hc
def RG (σ : XS) (b : Nat) (S : Nat → Int32) : Prop := RB σ b S ∧ 1 ≤ mU S
theorem RG.fr {σ τ : XS} {b : Nat} {S : Nat → Int32} (h : RG σ b S) (h1 : ∀ k, τ.1 (.inl (b, k)) = σ.1 (.inl (b, k))) (h2 : τ.2 (.inl (b, 2)) = σ.2 (.inl (b, 2))) : RG τ b S := ⟨h.1.fr h1 h2, h.2⟩
theorem RG.cgS {σ : XS} {b : Nat} {S S1 : Nat → Int32} (h : RG σ b S) (e : ∀ k, k < 550 → S1 k = S k) : RG σ b S1 := ⟨h.1.cgS e, by rw [mU, e 4 (by decide)]; exact h.2⟩
theorem RG.copy {σ : XS} {b f : Nat} {S : Nat → Int32} (h : RG σ f S) (hf : f ≠ b) : RG (uCopyB σ b f) b S := ⟨h.1.copy hf, h.2⟩
/-- row j of the kept ones -/
def kR (K : Nat → Int32) (j : Nat) : Nat → Int32 := fun k => K (550 * j + k)
theorem cpy_in {α : Type} {f g : Nat → α} {sp dp n k : Nat} (h : k < n) : va_cpy f g sp dp n (dp + k) = f (sp + k) := by
  unfold va_cpy
  rw [if_pos ⟨by omega, by omega⟩]
  congr 1
  omega
theorem cpy_out {α : Type} {f g : Nat → α} {sp dp n k : Nat} (h : k < dp ∨ dp + n ≤ k) : va_cpy f g sp dp n k = g k := by
  unfold va_cpy
  exact if_neg (by omega)
/-- from σ to τ only board b changes; booleans stay booleans -/
def FS (b : Nat) (σ τ : XS) : Prop := (∀ i : XI, (∀ k, i ≠ .inl (b, k)) → τ.1 i = σ.1 i) ∧ (∀ i : XI, (∀ k, i ≠ .inl (b, k)) → τ.2 i = σ.2 i) ∧ (xZ σ b → xZ τ b)
theorem FS.of {b : Nat} {σ τ : XS} (h : Fr b σ τ) (h1 : τ.1 (.inr 1) = σ.1 (.inr 1)) (h2 : τ.1 (.inr 2) = σ.1 (.inr 2)) : FS b σ τ := ⟨fun i hi => by
  by_cases g1 : i = .inr 1
  · rw [g1, h1]
  · by_cases g2 : i = .inr 2
    · rw [g2, h2]
    · exact h.1 i hi g1 g2, h.2.1, h.2.2⟩
theorem FS.inr {b : Nat} {σ τ : XS} (h : FS b σ τ) (k : Nat) : τ.1 (.inr k) = σ.1 (.inr k) := h.1 _ (by simp)
theorem FS.inl {b c : Nat} {σ τ : XS} (h : FS b σ τ) (hc : c ≠ b) (k : Nat) : τ.1 (.inl (c, k)) = σ.1 (.inl (c, k)) := h.1 _ (fun j => inl_ne hc)
theorem FS.g {b c : Nat} {σ τ : XS} {S : Nat → Int32} (h : FS b σ τ) (hc : c ≠ b) (hg : RG σ c S) : RG τ c S := hg.fr (fun k => h.inl hc k) (h.2.1 _ (fun j => inl_ne hc))
theorem FS.z {b c : Nat} {σ τ : XS} (h : FS b σ τ) (hz : xZ σ c) : xZ τ c := by
  by_cases g : c = b
  · subst g; exact h.2.2 hz
  · exact xZ_o hz (h.inl g 13) (h.inl g 15)
theorem FS.rfl_ {b : Nat} {σ : XS} : FS b σ σ := ⟨fun _ _ => rfl, fun _ _ => rfl, fun h => h⟩
theorem FS.tr {b : Nat} {σ τ υ : XS} (h : FS b σ τ) (k : FS b τ υ) : FS b σ υ := ⟨fun i a => (k.1 i a).trans (h.1 i a), fun i a => (k.2.1 i a).trans (h.2.1 i a), fun z => k.2.2 (h.2.2 z)⟩
theorem FS.xu {b : Nat} {σ : XS} {k j : Nat} {v : Int32} (h13 : k ≠ 13) (h15 : k ≠ 15) : FS b σ (xu σ (.inl (b, k)) j v) := FS.of (Fr.xu h13 h15) (xu_ne _ _ _ (by simp)) (xu_ne _ _ _ (by simp))
theorem FS.copy {b f : Nat} {σ : XS} (hf : f ≠ b) (hz : xZ σ f) : FS b σ (uCopyB σ b f) := ⟨fun i h => (uCopyB_ne h).1, fun i h => (uCopyB_ne h).2, fun _ k hk => by
  rw [(uCopyB_c hf).1 13 k (by omega) (by omega) hk, (uCopyB_c hf).1 15 k (by omega) (by omega) hk]
  exact hz k hk⟩
/-! the parts of the relation -/
def RVh (σ : XS) (F : Nat → Int32) (o ch : Nat) : Prop := Hi σ o ch ∧ F 6 = nI ch ∧ ∀ j, j < ch → RG σ (2 + (o + j) % 8) (kR (σ.1 (.inr 12)) j)
def RVs (σ : XS) : Prop := ∀ s, s < 2 → σ.1 (.inr 7) s = σ.1 (.inr 15) s ∧ (σ.1 (.inr 7) s = 0 ∨ σ.1 (.inr 7) s = 1) ∧ (¬ σ.1 (.inr 7) s = 0 → RG σ (10 + s) (kR (σ.1 (.inr 13)) s))
def RVe (σ : XS) (F : Nat → Int32) : Prop := F 12 = σ.1 (.inr 1) 2 ∧ F 13 = σ.1 (.inr 1) 3
def RVt (σ : XS) (F : Nat → Int32) (n : Nat) : Prop := Tx σ n ∧ F 10 = nI n ∧ ∀ i, i < n → σ.1 (.inr 3) i = σ.1 (.inr 16) i
def RVo (σ : XS) (F : Nat → Int32) (w : Nat) : Prop := w ≤ 560 ∧ σ.1 (.inr 0) 6 = nI w ∧ F 11 = nI w ∧ ∀ i, i < w → σ.1 (.inr 8) i = σ.1 (.inr 17) i
def RVX (σ : XS) (S F : Nat → Int32) (o ch n w : Nat) : Prop := (∀ b, b < 12 → xZ σ b) ∧ RG σ 0 S ∧ RVh σ F o ch ∧ RVs σ ∧ RVe σ F ∧ RVt σ F n ∧ RVo σ F w
section RVS
variable {σ τ : XS} {S F : Nat → Int32} {o ch n w : Nat}
theorem RVX.z (h : RVX σ S F o ch n w) : ∀ b, b < 12 → xZ σ b := h.1
theorem RVX.g (h : RVX σ S F o ch n w) : RG σ 0 S := h.2.1
theorem RVX.b (h : RVX σ S F o ch n w) : RB σ 0 S := h.2.1.1
theorem RVX.h (h : RVX σ S F o ch n w) : RVh σ F o ch := h.2.2.1
theorem RVX.s (h : RVX σ S F o ch n w) : RVs σ := h.2.2.2.1
theorem RVX.e (h : RVX σ S F o ch n w) : RVe σ F := h.2.2.2.2.1
theorem RVX.t (h : RVX σ S F o ch n w) : RVt σ F n := h.2.2.2.2.2.1
theorem RVX.ou (h : RVX σ S F o ch n w) : RVo σ F w := h.2.2.2.2.2.2
theorem RVX.bd (h : RVX σ S F o ch n w) : Bd σ 0 := h.b.bd
theorem RVX.hi (h : RVX σ S F o ch n w) : Hi σ o ch := h.h.1
theorem RVX.c8 (h : RVX σ S F o ch n w) : ch ≤ 8 := h.hi.2.2.2
/-- the other fields may change -/
theorem RVX.f (h : RVX σ S F o ch n w) {G : Nat → Int32} (e6 : G 6 = F 6) (e10 : G 10 = F 10) (e11 : G 11 = F 11) (e12 : G 12 = F 12) (e13 : G 13 = F 13) : RVX σ S G o ch n w := by
  unfold RVX RVh RVe RVt RVo at *
  rw [e6, e10, e11, e12, e13]
  exact h
theorem RVX.f7 (h : RVX σ S F o ch n w) (v : Int32) : RVX σ S (upd F 7 v) o ch n w := h.f (upd_ne (by decide)) (upd_ne (by decide)) (upd_ne (by decide)) (upd_ne (by decide)) (upd_ne (by decide))
theorem RVX.f6 (h : RVX σ S F o ch n w) (v : Int32) : RVe σ (upd F 6 v) ∧ RVt σ (upd F 6 v) n ∧ RVo σ (upd F 6 v) w := by
  unfold RVe RVt RVo
  rw [upd_ne (by decide), upd_ne (by decide), upd_ne (by decide), upd_ne (by decide)]
  exact ⟨h.e, h.t, h.ou⟩
/-- the present board changes -/
theorem RVX.b0 (h : RVX σ S F o ch n w) {S1 : Nat → Int32} (hf : FS 0 σ τ) (hb : RG τ 0 S1) : RVX τ S1 F o ch n w := by
  refine ⟨fun b hb => hf.z (h.z b hb), hb, ?_, ?_, ?_, ?_, ?_⟩
  · unfold RVh Hi
    rw [hf.inr, hf.inr]
    refine ⟨h.h.1, h.h.2.1, fun j hj => hf.g (by omega) (h.h.2.2 j hj)⟩
  · intro s hs
    rw [hf.inr, hf.inr, hf.inr]
    exact ⟨(h.s s hs).1, (h.s s hs).2.1, fun q => hf.g (by omega) ((h.s s hs).2.2 q)⟩
  · unfold RVe
    rw [hf.inr]
    exact h.e
  · unfold RVt Tx
    rw [hf.inr, hf.inr, hf.inr]
    exact h.t
  · unfold RVo
    rw [hf.inr, hf.inr, hf.inr]
    exact h.ou
/-- the trial board changes -/
theorem RVX.b1 (h : RVX σ S F o ch n w) (hf : FS 1 σ τ) : RVX τ S F o ch n w := by
  refine ⟨fun b hb => hf.z (h.z b hb), hf.g (by decide) h.g, ?_, ?_, ?_, ?_, ?_⟩
  · unfold RVh Hi
    rw [hf.inr, hf.inr]
    refine ⟨h.h.1, h.h.2.1, fun j hj => hf.g (by omega) (h.h.2.2 j hj)⟩
  · intro s hs
    rw [hf.inr, hf.inr, hf.inr]
    exact ⟨(h.s s hs).1, (h.s s hs).2.1, fun q => hf.g (by omega) ((h.s s hs).2.2 q)⟩
  · unfold RVe
    rw [hf.inr]
    exact h.e
  · unfold RVt Tx
    rw [hf.inr, hf.inr, hf.inr]
    exact h.t
  · unfold RVo
    rw [hf.inr, hf.inr, hf.inr]
    exact h.ou
/-- a change is remembered -/
def oNx (o ch : Nat) : Nat := if ch < 8 then o else (o + 1) % 8
theorem mRw_i {f : Nat → Int32} {i : XI} (h : i ≠ .inr 12) : (mRw τ f ch).1 i = τ.1 i := xA_ne _ _ h
theorem mRw_l {f : Nat → Int32} : (mRw τ f ch).2 = τ.2 := rfl
theorem mRw_12 {f : Nat → Int32} : (mRw τ f ch).1 (.inr 12) = mRem (τ.1 (.inr 12)) f ch := xA_self _ _ _
theorem FS.mRw {b : Nat} (h : FS b σ τ) {f : Nat → Int32} : FS b (mRw σ f ch) (mRw τ f ch) := by
  refine ⟨fun i hi => ?_, fun i hi => h.2.1 i hi, fun z => ?_⟩
  · by_cases g : i = .inr 12
    · subst g
      rw [mRw_12, mRw_12, h.inr]
    · rw [mRw_i g, mRw_i g]
      exact h.1 i hi
  · exact xZ_o (h.2.2 (xZ_o z (mRw_i (by simp)).symm (mRw_i (by simp)).symm)) (mRw_i (by simp)) (mRw_i (by simp))
theorem mRem_old {K f : Nat → Int32} (hc : ch < 8) {j k : Nat} (hj : j < ch) (hk : k < 550) : kR (mRem K f ch) j k = kR K j k := by
  unfold kR mRem
  rw [if_neg (by omega), cpy_out (by omega)]
theorem mRem_new {K f : Nat → Int32} (hc : ch < 8) {k : Nat} (hk : k < 550) : kR (mRem K f ch) ch k = f k := by
  unfold kR mRem
  rw [if_neg (by omega), show 550 * ch + k = ch * 550 + k by omega, cpy_in hk, Nat.zero_add]
theorem mRem_old8 {K f : Nat → Int32} {j k : Nat} (hj : j < 7) (hk : k < 550) : kR (mRem K f 8) j k = kR K (j + 1) k := by
  unfold kR mRem
  rw [if_pos rfl, cpy_out (by omega), show 550 * j + k = 0 + (550 * j + k) by omega, cpy_in (by omega)]
  congr 1
  omega
theorem mRem_new8 {K f : Nat → Int32} {k : Nat} (hk : k < 550) : kR (mRem K f 8) 7 k = f k := by
  unfold kR mRem
  rw [if_pos rfl, show 550 * 7 + k = 3850 + k by omega, cpy_in hk, Nat.zero_add]
theorem uPush_4 (h8 : ch ≤ 8) (h4 : σ.1 (.inr 4) 1 = nI o ∧ σ.1 (.inr 4) 2 = nI ch) : (uPush σ o ch).1 (.inr 4) 1 = nI (oNx o ch) ∧ (uPush σ o ch).1 (.inr 4) 2 = nI (mNx ch) := by
  have e : (uCopyB σ (2 + (o + ch) % 8) 0).1 (.inr 4) = σ.1 (.inr 4) := (uCopyB_ne (fun k => by simp)).1
  unfold uPush oNx mNx
  by_cases g : ch < 8
  · rw [if_pos g, if_pos g, if_neg (by omega)]
    simp only [xu_ap, true_and]
    simp [e, h4.1]
  · obtain rfl : ch = 8 := by omega
    rw [if_neg g, if_neg g, if_pos rfl]
    generalize 2 + (o + 8) % 8 = q at e ⊢
    simp only [xu_ap, true_and]
    simp [e, h4.2]
theorem RVX.push (h : RVX σ S F o ch n w) : RVX (mRw (uPush σ o ch) S ch) S (upd (upd F 7 0) 6 (nI (mNx ch))) (oNx o ch) (mNx ch) n w := by
  have h8 := h.c8
  have hH := h.hi
  have o8 := hH.2.1
  have pi : ∀ k, k ≠ 4 → k ≠ 12 → (mRw (uPush σ o ch) S ch).1 (.inr k) = σ.1 (.inr k) := fun k a b => by
    rw [mRw_i (by simpa using b)]
    exact (uPush_ne (fun j => by simp) (by simpa using a)).1
  have pb : ∀ b, b ≠ 2 + (o + ch) % 8 → ∀ k, (mRw (uPush σ o ch) S ch).1 (.inl (b, k)) = σ.1 (.inl (b, k)) := fun b hb k => by
    rw [mRw_i (by simp)]
    exact (uPush_ne (fun j => inl_ne hb) (by simp)).1
  have pl : ∀ b, b ≠ 2 + (o + ch) % 8 → (mRw (uPush σ o ch) S ch).2 (.inl (b, 2)) = σ.2 (.inl (b, 2)) := fun b hb => (uPush_ne (fun j => inl_ne hb) (by simp)).2
  have pg : ∀ b, b ≠ 2 + (o + ch) % 8 → ∀ S1, RG σ b S1 → RG (mRw (uPush σ o ch) S ch) b S1 := fun b hb S1 hg => hg.fr (pb b hb) (pl b hb)
  have pn : RG (mRw (uPush σ o ch) S ch) (2 + (o + ch) % 8) S := by
    have h1 : RG (uCopyB σ (2 + (o + ch) % 8) 0) (2 + (o + ch) % 8) S := h.g.copy (by omega)
    refine h1.fr (fun k => ?_) ?_
    · rw [mRw_i (by simp)]
      unfold uPush
      split
      · exact xu_ne _ _ _ (by simp)
      · exact xu_ne _ _ _ (by simp)
    · show (uPush σ o ch).2 _ = _
      unfold uPush
      split <;> rfl
  have p4 := uPush_4 (σ := σ) (o := o) h8 ⟨hH.1, hH.2.2.1⟩
  have e4 : (mRw (uPush σ o ch) S ch).1 (.inr 4) = (uPush σ o ch).1 (.inr 4) := mRw_i (by simp)
  have e12 : (mRw (uPush σ o ch) S ch).1 (.inr 12) = mRem (σ.1 (.inr 12)) S ch := by
    rw [mRw_12, (uPush_ne (fun j => by simp) (by simp)).1]
  refine ⟨fun b hb => ?_, pg 0 (by omega) S h.g, ?_, ?_, ?_, ?_, ?_⟩
  · by_cases g : b = 2 + (o + ch) % 8
    · subst g
      intro k hk
      have z0 := h.z 0 (by decide) k hk
      have a1 : ∀ j, j = 13 ∨ j = 15 → (mRw (uPush σ o ch) S ch).1 (.inl (2 + (o + ch) % 8, j)) k = σ.1 (.inl (0, j)) k := fun j hj => by
        rw [mRw_i (by simp)]
        have e : (uPush σ o ch).1 (.inl (2 + (o + ch) % 8, j)) = (uCopyB σ (2 + (o + ch) % 8) 0).1 (.inl (2 + (o + ch) % 8, j)) := by
          unfold uPush
          split
          · exact xu_ne _ _ _ (by simp)
          · exact xu_ne _ _ _ (by simp)
        rw [e]
        exact (uCopyB_c (by omega)).1 j k (by omega) (by omega) hk
      rw [a1 13 (Or.inl rfl), a1 15 (Or.inr rfl)]
      exact z0
    · exact xZ_o (h.z b hb) (pb b g 13) (pb b g 15)
  · unfold RVh Hi
    rw [e4, e12, p4.1, p4.2, upd_at]
    refine ⟨⟨rfl, ?_, rfl, ?_⟩, rfl, fun j hj => ?_⟩
    · unfold oNx; split <;> omega
    · unfold mNx; split <;> omega
    · unfold mNx at hj
      by_cases g : ch = 8
      · rw [if_pos g] at hj
        subst g
        have eo : oNx o 8 = (o + 1) % 8 := if_neg (by decide)
        rw [eo]
        by_cases g7 : j = 7
        · subst g7
          rw [show ((o + 1) % 8 + 7) % 8 = (o + 8) % 8 by omega]
          exact pn.cgS (fun k hk => mRem_new8 hk)
        · rw [show ((o + 1) % 8 + j) % 8 = (o + (j + 1)) % 8 by omega]
          exact (pg _ (by omega) _ (h.h.2.2 (j + 1) (by omega))).cgS (fun k hk => mRem_old8 (by omega) hk)
      · rw [if_neg g] at hj
        have eo : oNx o ch = o := if_pos (by omega)
        rw [eo]
        by_cases gj : j = ch
        · rw [gj]
          exact pn.cgS (fun k hk => mRem_new (by omega) hk)
        · exact (pg _ (by omega) _ (h.h.2.2 j (by omega))).cgS (fun k hk => mRem_old (by omega) (by omega) hk)
  · intro s hs
    rw [pi 7 (by decide) (by decide), pi 15 (by decide) (by decide), pi 13 (by decide) (by decide)]
    exact ⟨(h.s s hs).1, (h.s s hs).2.1, fun q => pg _ (by omega) _ ((h.s s hs).2.2 q)⟩
  · unfold RVe
    rw [pi 1 (by decide) (by decide), upd_ne (by decide), upd_ne (by decide), upd_ne (by decide), upd_ne (by decide)]
    exact h.e
  · unfold RVt Tx
    rw [pi 2 (by decide) (by decide), pi 3 (by decide) (by decide), pi 16 (by decide) (by decide), upd_ne (by decide), upd_ne (by decide)]
    exact h.t
  · unfold RVo
    rw [pi 0 (by decide) (by decide), pi 8 (by decide) (by decide), pi 17 (by decide) (by decide), upd_ne (by decide), upd_ne (by decide)]
    exact h.ou
/-- a change: what was is remembered, the present board changes -/
theorem RVX.chg (h : RVX σ S F o ch n w) {S1 : Nat → Int32} (hf : FS 0 (uPush σ o ch) τ) (hb : RG τ 0 S1) : RVX (mRw τ S ch) S1 (upd (upd F 7 0) 6 (nI (mNx ch))) (oNx o ch) (mNx ch) n w :=
  h.push.b0 hf.mRw (hb.fr (fun k => mRw_i (by simp)) rfl)
theorem RVX.gp (h : RVX σ S F o ch n w) : RG (uPush σ o ch) 0 S := h.g.fr (fun k => (uPush_b (Or.inl (by decide))).1) (uPush_b (k := 2) (Or.inl (by decide))).2
end RVS

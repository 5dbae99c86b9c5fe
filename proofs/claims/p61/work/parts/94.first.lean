/-! THE FIRST TEXT: the class reads it, and the relation holds behind it -/
theorem cFirst_cg_F {q r : Nat → Bool} : ∀ {k i : Nat}, (∀ j, i ≤ j → j < i + k → q j = r j) → cFirst q k i = cFirst r k i
  | 0, _, _ => rfl
  | k + 1, i, h => by
    unfold cFirst
    rw [h i (Nat.le_refl _) (by omega), cFirst_cg_F (k := k) (i := i + 1) (fun j a b => h j (by omega) (by omega))]
theorem cFirstB_cg {q r : Nat → Bool} : ∀ {k i : Nat}, (∀ j, i ≤ j → j < i + k → q j = r j) → cFirstB q k i = cFirstB r k i
  | 0, _, _ => rfl
  | k + 1, i, h => by
    unfold cFirstB
    rw [h i (Nat.le_refl _) (by omega), cFirstB_cg (k := k) (i := i + 1) (fun j a b => h j (by omega) (by omega))]
/-- whether two codes begin alike, by counting -/
def xambD (li co : Nat → Int32) (x y : Int32) (k : Nat) : Bool := decide (li k = x) && decide (co k >>> (((31 - xnz (co k)) - xmin (31 - xnz (co k)) (31 - xnz y)) &&& 31) = y >>> (((31 - xnz y) - xmin (31 - xnz (co k)) (31 - xnz y)) &&& 31))
theorem xamb_D_F {li co : Nat → Int32} {x y : Int32} {k : Nat} : xamb li co x y k = xambD li co x y k := by
  unfold xambD
  by_cases h : li k = x ∧ xbeg (co k) y
  · rw [xamb_y h.1 h.2, decide_eq_true h.1, decide_eq_true (show _ = _ from h.2)]
    rfl
  · rw [Bool.eq_false_iff.mpr (xamb_n h)]
    by_cases h1 : li k = x
    · rw [decide_eq_true h1, decide_eq_false (p := _ = _) (fun z => h ⟨h1, z⟩)]
      rfl
    · rw [decide_eq_false h1]
      rfl
/-- the first text's bytes -/
def fB : Nat → Int32 := fun i => if i < 121 then xch 8 i &&& 255 else 0
theorem uFill_3 {σ : XS} (h : σ.1 (.inr 3) = fun _ => 0) : ∀ k, (uFill σ 8 k).1 (.inr 3) = fun i => if i < k then xch 8 i &&& 255 else 0
  | 0 => by
    funext i
    rw [if_neg (Nat.not_lt_zero _)]
    exact congrFun h i
  | k + 1 => by
    funext i
    show (uByte (uFill σ 8 k) k (xch 8 k)).1 (.inr 3) i = _
    unfold uByte
    rw [xu_ne _ _ _ (by simp), xu_ap, uFill_3 h k]
    by_cases g : i = k
    · subst g
      rw [if_pos ⟨rfl, rfl⟩, if_pos (Nat.lt_succ_self _)]
    · rw [if_neg (fun z => g z.2)]
      show (if i < k then xch 8 i &&& 255 else 0) = _
      by_cases g2 : i < k
      · rw [if_pos g2, if_pos (by omega)]
      · rw [if_neg g2, if_neg (by omega)]
theorem uFill_o {σ : XS} {i : XI} (h2 : i ≠ .inr 2) (h3 : i ≠ .inr 3) : ∀ k, (uFill σ 8 k).1 i = σ.1 i
  | 0 => rfl
  | k + 1 => by
    show (uByte (uFill σ 8 k) k (xch 8 k)).1 i = _
    unfold uByte
    rw [xu_ne _ _ _ h2, xu_ne _ _ _ h3, uFill_o h2 h3 k]
theorem uFill_l {σ : XS} : ∀ k, (uFill σ 8 k).2 = σ.2
  | 0 => rfl
  | k + 1 => uFill_l k
section FIRST
variable {σ τ : XS} {p p1 p2 p3 p4 p5 p6 q nu : Nat} {lo hi v li co cu : Int32} {nm : Int64}
theorem fA_oo_F {n : Nat} {i : XI} (h : i ≠ .inr 2) : (fA σ n p).1 i = σ.1 i := uTok_o _ _ _ _ _ h
theorem fA_ll_F {n : Nat} : (fA σ n p).2 = σ.2 := rfl
theorem fA_B_F (hB : σ.1 (.inr 3) = fB) : (fA σ 121 p).1 (.inr 3) = fB := (fA_oo_F (by simp)).trans hB
theorem e_num_F (hB : σ.1 (.inr 3) = fB) (hk : tkK fB 121 p = 2) (hv : cNum fB (121 - tkS fB 121 p) (tkS fB 121 p) 0 = v) (h1 : ¬ v < lo) (h2 : v ≤ hi) : rNum σ 121 p lo hi = (v, fA σ 121 p) := by
  unfold rNum kT vT
  rw [hB, if_pos hk, hv, if_neg h1, if_pos h2]
theorem e_sem_F (hB : σ.1 (.inr 3) = fB) (hk : tkK fB 121 p = 3) : rSem σ 121 p τ = (1, fA τ 121 p, tkE fB 121 p) := by
  unfold rSem kT eT
  rw [hB, if_pos hk]
def isB (p q : Nat) : Int32 := xisW (wC fB (tkK fB 121 p) (tkS fB 121 p) (tkE fB 121 p)) (wL (tkK fB 121 p) (tkS fB 121 p) (tkE fB 121 p)) q
theorem e_is_F (hB : σ.1 (.inr 3) = fB) : rIsW σ 121 p q = isB p q := by
  unfold rIsW bT kT sT eT
  rw [hB]
  rfl
theorem e_eT_F (hB : σ.1 (.inr 3) = fB) : eT σ 121 p = tkE fB 121 p := by
  unfold eT
  rw [hB]
def nmB_F (p : Nat) : Int64 := xnm (wC fB (tkK fB 121 p) (tkS fB 121 p) (tkE fB 121 p)) 6
def codB (p : Nat) : Int32 := xcode (wC fB (tkK fB 121 p) (tkS fB 121 p) (tkE fB 121 p)) (tkK fB 121 p) (tkE fB 121 p - tkS fB 121 p)
def nuB (p : Nat) : Int32 := cNum fB (121 - tkS fB 121 p) (tkS fB 121 p) 0
theorem e_nm (hB : σ.1 (.inr 3) = fB) : rNm σ 121 p = nmB_F p := by
  unfold rNm bT kT sT eT
  rw [hB]
  rfl
theorem e_cd (hB : σ.1 (.inr 3) = fB) : rCd σ 121 p = codB p := by
  unfold rCd bT kT sT eT
  rw [hB]
  rfl
theorem e_new_F (hB : σ.1 (.inr 3) = fB) (h1 : tkK fB 121 p = 1) (h2 : tkE fB 121 p - tkS fB 121 p ≤ 6) (hf : cFirst (fun k => σ.2 (.inl (1, 2)) k == nmB_F p) nu 0 = -1) : rNew σ 121 p nu = (nmB_F p, fA σ 121 p) := by
  have hn : rIsN σ 121 p := by
    unfold rIsN kT sT eT
    rw [hB]
    exact ⟨h1, h2⟩
  have h3 : rFind σ 121 p nu = -1 := by
    unfold rFind
    rw [e_nm hB]
    exact hf
  unfold rNew
  rw [if_pos hn, if_pos h3, e_nm hB]
theorem e_code_F (hB : σ.1 (.inr 3) = fB) (h1 : ¬ codB p = -1) (ha : rAmb σ nu li (codB p) = 0) : rCode σ 121 p nu li = (codB p, fA σ 121 p) := by
  unfold rCode
  rw [e_cd hB, if_neg h1, if_pos ha]
/-- a subscriber is read -/
theorem e_sub (hB : σ.1 (.inr 3) = fB) (h4 : σ.1 (.inl (1, 0)) 4 = 3)
    (f : tkE fB 121 p = p1 ∧ tkK fB 121 p1 = 1 ∧ tkE fB 121 p1 - tkS fB 121 p1 ≤ 6 ∧ ¬ nmB_F p1 = 0 ∧ tkE fB 121 p1 = p2 ∧ tkK fB 121 p2 = 2 ∧ ¬ nuB p2 < 0 ∧ nuB p2 ≤ 3 - 1 ∧ ¬ nuB p2 = -1 ∧ tkE fB 121 p2 = p3 ∧ ¬ codB p3 = -1 ∧ tkE fB 121 p3 = p4 ∧ tkK fB 121 p4 = 2 ∧ ¬ nuB p4 < 0 ∧ nuB p4 ≤ 9 ∧ ¬ nuB p4 = -1 ∧ tkE fB 121 p4 = p5 ∧ tkK fB 121 p5 = 3 ∧ tkE fB 121 p5 = p6)
    (hf : cFirst (fun k => σ.2 (.inl (1, 2)) k == nmB_F p1) nu 0 = -1) (ha : cFirstB (xamb (σ.1 (.inl (1, 3))) (σ.1 (.inl (1, 4))) (nuB p2) (codB p3)) nu 0 = 0) : rSub σ 121 p nu = (1, fA (uSub (fA (fA (fA (fA (fA σ 121 p) 121 p1) 121 p2) 121 p3) 121 p4) 1 nu (nmB_F p1) (nuB p2) (codB p3) (nuB p4)) 121 p5, p6) := by
  obtain ⟨a1, a2, a3, a4, a5, a6, a7, a8, a9, b1, b2, b3, b4, b5, b6, b7, b8, b9, b0⟩ := f
  have hB1 := fA_B_F (p := p) hB
  have hB2 := fA_B_F (p := p1) hB1
  have hB3 := fA_B_F (p := p2) hB2
  have hB4 := fA_B_F (p := p3) hB3
  have hB5 := fA_B_F (p := p4) hB4
  have n1 := e_new_F (nu := nu) hB1 a2 a3 hf
  have h42 : (fA (fA σ 121 p) 121 p1).1 (.inl (1, 0)) 4 = 3 := by rw [fA_oo_F (by simp), fA_oo_F (by simp)]; exact h4
  have n2 : rLine (fA (fA σ 121 p) 121 p1) 121 p2 = (nuB p2, fA (fA (fA σ 121 p) 121 p1) 121 p2) := by
    unfold rLine
    rw [h42]
    exact e_num_F hB2 a6 rfl a7 a8
  have n3 : rCode (fA (fA (fA σ 121 p) 121 p1) 121 p2) 121 p3 nu (nuB p2) = (codB p3, fA (fA (fA (fA σ 121 p) 121 p1) 121 p2) 121 p3) := by
    refine e_code_F hB3 b2 ?_
    unfold rAmb
    rw [fA_oo_F (by simp), fA_oo_F (by simp), fA_oo_F (by simp), fA_oo_F (by simp), fA_oo_F (by simp), fA_oo_F (by simp)]
    exact ha
  have n4 : rNum (fA (fA (fA (fA σ 121 p) 121 p1) 121 p2) 121 p3) 121 p4 0 9 = (nuB p4, fA (fA (fA (fA (fA σ 121 p) 121 p1) 121 p2) 121 p3) 121 p4) := e_num_F hB4 b4 rfl b5 b6
  unfold rSub rSubA
  rw [e_eT_F hB, a1, n1]
  dsimp only
  rw [if_neg a4, e_eT_F hB1, a5]
  unfold rSubB
  rw [n2]
  dsimp only
  rw [if_neg a9, e_eT_F hB2, b1]
  unfold rSubC
  rw [n3]
  dsimp only
  rw [if_neg b2, e_eT_F hB3, b3]
  unfold rSubD
  rw [n4]
  dsimp only
  rw [if_neg b7, e_eT_F hB4, b8, e_sem_F hB5 b9, b0]
/-- where the tokens of the subscribers' statements end -/
def pTL : List (List Nat) := [[20, 25, 29, 31, 34, 36, 37], [37, 42, 46, 48, 51, 53, 54], [54, 59, 63, 65, 67, 69, 70], [70, 75, 79, 81, 83, 85, 86], [86, 91, 95, 97, 100, 102, 103], [103, 108, 112, 114, 118, 120, 121], [121]]
def pT (k j : Nat) : Nat := (pTL.getD k []).getD j 0
def nmT (k : Nat) : Int64 := nmB_F (pT k 1)
def liT (k : Nat) : Int32 := nuB (pT k 2)
def coT (k : Nat) : Int32 := codB (pT k 3)
set_option maxRecDepth 100000 in
theorem pT_ok : ∀ k, k < 6 → tkE fB 121 (pT k 0) = pT k 1 ∧ tkK fB 121 (pT k 1) = 1 ∧ tkE fB 121 (pT k 1) - tkS fB 121 (pT k 1) ≤ 6 ∧ ¬ nmB_F (pT k 1) = 0 ∧ tkE fB 121 (pT k 1) = pT k 2 ∧ tkK fB 121 (pT k 2) = 2 ∧ ¬ nuB (pT k 2) < 0 ∧ nuB (pT k 2) ≤ 3 - 1 ∧ ¬ nuB (pT k 2) = -1 ∧ tkE fB 121 (pT k 2) = pT k 3 ∧ ¬ codB (pT k 3) = -1 ∧ tkE fB 121 (pT k 3) = pT k 4 ∧ tkK fB 121 (pT k 4) = 2 ∧ ¬ nuB (pT k 4) < 0 ∧ nuB (pT k 4) ≤ 9 ∧ ¬ nuB (pT k 4) = -1 ∧ tkE fB 121 (pT k 4) = pT k 5 ∧ tkK fB 121 (pT k 5) = 3 ∧ tkE fB 121 (pT k 5) = pT (k + 1) 0 := by decide +kernel
set_option maxRecDepth 100000 in
theorem pT_new : ∀ k, k < 6 → cFirst (fun j => nmT j == nmT k) k 0 = -1 ∧ cFirstB (xambD liT coT (liT k) (coT k)) k 0 = 0 ∧ ¬ isB (pT k 0) 2 = 0 := by decide +kernel
/-- the first k subscribers of the text stand in board 1 -/
def SP (σ : XS) (nu : Nat) : Prop := σ.1 (.inr 3) = fB ∧ σ.1 (.inl (1, 0)) 4 = 3 ∧ ∀ k, k < nu → σ.2 (.inl (1, 2)) k = nmT k ∧ σ.1 (.inl (1, 3)) k = liT k ∧ σ.1 (.inl (1, 4)) k = coT k
set_option maxRecDepth 100000 in
theorem SP.sub {k : Nat} (h : SP σ k) (hk : k < 6) : ∃ τ : XS, rSub σ 121 (pT k 0) k = (1, τ, pT (k + 1) 0) ∧ SP τ (k + 1) := by
  have g := pT_new k hk
  refine ⟨_, e_sub h.1 h.2.1 (pT_ok k hk) ?_ ?_, ?_, ?_, ?_⟩
  · refine (cFirst_cg_F (fun j _ hj => ?_)).trans g.1
    show (σ.2 (.inl (1, 2)) j == nmB_F (pT k 1)) = (nmT j == nmT k)
    rw [(h.2.2 j (by omega)).1]
    rfl
  · refine (cFirstB_cg (fun j _ hj => ?_)).trans g.2.1
    show xamb (σ.1 (.inl (1, 3))) (σ.1 (.inl (1, 4))) (nuB (pT k 2)) (codB (pT k 3)) j = xambD liT coT (liT k) (coT k) j
    rw [xamb_D_F]
    unfold xambD
    rw [(h.2.2 j (by omega)).2.1, (h.2.2 j (by omega)).2.2]
    rfl
  · refine fA_B_F ?_
    unfold uSub
    rw [xu_ne _ _ _ (by simp), xu_ne _ _ _ (by simp), xu_ne _ _ _ (by simp), xu_ne _ _ _ (by simp), xu_ne _ _ _ (by simp), xu_ne _ _ _ (by simp), xL_i]
    exact fA_B_F (p := pT k 4) (fA_B_F (p := pT k 3) (fA_B_F (p := pT k 2) (fA_B_F (p := pT k 1) (fA_B_F (p := pT k 0) h.1))))
  · rw [fA_oo_F (by simp)]
    unfold uSub
    rw [xu_ne _ _ _ (by simp), xu_ne _ _ _ (by simp), xu_ne _ _ _ (by simp), xu_ne _ _ _ (by simp), xu_ne _ _ _ (by simp), xu_ne _ _ _ (by simp), xL_i, fA_oo_F (by simp), fA_oo_F (by simp), fA_oo_F (by simp), fA_oo_F (by simp), fA_oo_F (by simp)]
    exact h.2.1
  · intro j hj
    have e2 : ∀ j, (fA (uSub (fA (fA (fA (fA (fA σ 121 (pT k 0)) 121 (pT k 1)) 121 (pT k 2)) 121 (pT k 3)) 121 (pT k 4)) 1 k (nmB_F (pT k 1)) (nuB (pT k 2)) (codB (pT k 3)) (nuB (pT k 4))) 121 (pT k 5)).2 (.inl (1, 2)) j = if j = k then nmT k else σ.2 (.inl (1, 2)) j := fun j => by
      rw [fA_ll_F]
      unfold uSub
      rw [xu_l, xu_l, xu_l, xu_l, xu_l, xu_l, xL_self, fA_ll_F, fA_ll_F, fA_ll_F, fA_ll_F, fA_ll_F]
      unfold nmT vp_updL
      rfl
    have e3 : ∀ j, (fA (uSub (fA (fA (fA (fA (fA σ 121 (pT k 0)) 121 (pT k 1)) 121 (pT k 2)) 121 (pT k 3)) 121 (pT k 4)) 1 k (nmB_F (pT k 1)) (nuB (pT k 2)) (codB (pT k 3)) (nuB (pT k 4))) 121 (pT k 5)).1 (.inl (1, 3)) j = if j = k then liT k else σ.1 (.inl (1, 3)) j := fun j => by
      rw [fA_oo_F (by simp)]
      unfold uSub
      rw [xu_ne _ _ _ (by simp), xu_ne _ _ _ (by simp), xu_ne _ _ _ (by simp), xu_ne _ _ _ (by simp), xu_ne _ _ _ (by simp), xu_ap, xL_i, fA_oo_F (by simp), fA_oo_F (by simp), fA_oo_F (by simp), fA_oo_F (by simp), fA_oo_F (by simp)]
      unfold liT
      by_cases g : j = k
      · rw [if_pos ⟨rfl, g⟩, if_pos g]
      · rw [if_neg (fun z => g z.2), if_neg g]
    have e4 : ∀ j, (fA (uSub (fA (fA (fA (fA (fA σ 121 (pT k 0)) 121 (pT k 1)) 121 (pT k 2)) 121 (pT k 3)) 121 (pT k 4)) 1 k (nmB_F (pT k 1)) (nuB (pT k 2)) (codB (pT k 3)) (nuB (pT k 4))) 121 (pT k 5)).1 (.inl (1, 4)) j = if j = k then coT k else σ.1 (.inl (1, 4)) j := fun j => by
      rw [fA_oo_F (by simp)]
      unfold uSub
      rw [xu_ne _ _ _ (by simp), xu_ne _ _ _ (by simp), xu_ne _ _ _ (by simp), xu_ne _ _ _ (by simp), xu_ap, xu_ne _ _ _ (by simp), xL_i, fA_oo_F (by simp), fA_oo_F (by simp), fA_oo_F (by simp), fA_oo_F (by simp), fA_oo_F (by simp)]
      unfold coT
      by_cases g : j = k
      · rw [if_pos ⟨rfl, g⟩, if_pos g]
      · rw [if_neg (fun z => g z.2), if_neg g]
    rw [e2, e3, e4]
    by_cases g : j = k
    · subst g
      rw [if_pos rfl, if_pos rfl, if_pos rfl]
      exact ⟨rfl, rfl, rfl⟩
    · rw [if_neg g, if_neg g, if_neg g]
      exact h.2.2 j (by omega)
theorem SP.subs : ∀ (fu k : Nat) (σ : XS), k + fu = 6 → SP σ k → ∃ τ : XS, rSubs 121 (10 + fu) σ (pT k 0) k = (1, τ, 121) ∧ τ.1 (.inr 3) = fB
  | 0, k, σ, hk, h => by
    obtain rfl : k = 6 := by omega
    refine ⟨σ, ?_, h.1⟩
    rw [show 10 + 0 = 9 + 1 from rfl, rSubs_s, e_is_F h.1, if_pos (by decide +kernel)]
    rfl
  | fu + 1, k, σ, hk, h => by
    obtain ⟨τ, e, h1⟩ := h.sub (k := k) (by omega)
    obtain ⟨υ, e2, h2⟩ := SP.subs fu (k + 1) τ (by omega) h1
    refine ⟨υ, ?_, h2⟩
    rw [show 10 + (fu + 1) = (10 + fu) + 1 from rfl, rSubs_s, e_is_F h.1, if_neg (pT_new k (by omega)).2.2, if_neg (by omega), e]
    dsimp only
    rw [if_neg (by decide)]
    exact e2
set_option maxRecDepth 100000 in
theorem pB_ok : ¬ isB 0 0 = 0 ∧ tkE fB 121 0 = 5 ∧ tkK fB 121 5 = 2 ∧ nuB 5 = 3 ∧ tkE fB 121 5 = 7 ∧ tkK fB 121 7 = 2 ∧ nuB 7 = 2 ∧ tkE fB 121 7 = 9 ∧ tkK fB 121 9 = 3 ∧ tkE fB 121 9 = 10 := by decide +kernel
set_option maxRecDepth 100000 in
theorem pK_ok : ¬ isB 10 1 = 0 ∧ tkE fB 121 10 = 16 ∧ tkK fB 121 16 = 2 ∧ nuB 16 = 20 ∧ tkE fB 121 16 = 19 ∧ tkK fB 121 19 = 3 ∧ tkE fB 121 19 = 20 ∧ isB 20 1 = 0 ∧ tkK fB 121 121 = 0 := by decide +kernel
/-- the board's statement -/
theorem e_brd (hB : σ.1 (.inr 3) = fB) : ∃ τ : XS, rBrd σ 121 0 = (1, τ, 10) ∧ τ.1 (.inr 3) = fB ∧ τ.1 (.inl (1, 0)) 4 = 3 := by
  obtain ⟨a1, a2, a3, a4, a5, a6, a7, a8, a9, b1⟩ := pB_ok
  have hB1 := fA_B_F (p := 0) hB
  have hB2 := fA_B_F (p := 5) hB1
  have hB3 := fA_B_F (p := 7) hB2
  have n1 : rNum (fA σ 121 0) 121 5 1 6 = (3, fA (fA σ 121 0) 121 5) := e_num_F hB1 a3 a4 (by decide) (by decide)
  have n2 : rNum (fA (fA σ 121 0) 121 5) 121 7 1 6 = (2, fA (fA (fA σ 121 0) 121 5) 121 7) := e_num_F hB2 a6 a7 (by decide) (by decide)
  refine ⟨fA (uReset (fA (fA (fA σ 121 0) 121 5) 121 7) 1 3 2) 121 9, ?_, ?_, ?_⟩
  · unfold rBrd
    rw [e_is_F hB, if_neg a1, e_eT_F hB, a2]
    unfold rBrd1
    rw [n1]
    dsimp only
    rw [if_neg (by decide), e_eT_F hB1, a5]
    unfold rBrd2
    rw [n2]
    dsimp only
    rw [if_neg (by decide), e_eT_F hB2, a8, e_sem_F hB3 a9, b1]
  · refine fA_B_F ?_
    unfold uReset
    rw [xu_ne _ _ _ (by simp), xu_ne _ _ _ (by simp), xu_ne _ _ _ (by simp), xu_ne _ _ _ (by simp), xu_ne _ _ _ (by simp), xu_ne _ _ _ (by simp)]
    exact hB3
  · rw [fA_oo_F (by simp)]
    unfold uReset
    rw [xu_nk _ _ _ (by decide), xu_nk _ _ _ (by decide), xu_self]
/-- the trunk's -/
theorem e_tol (hB : σ.1 (.inr 3) = fB) (h4 : σ.1 (.inl (1, 0)) 4 = 3) : ∃ τ : XS, rTols 121 5 σ 10 0 = (1, τ, 20) ∧ τ.1 (.inr 3) = fB ∧ τ.1 (.inl (1, 0)) 4 = 3 := by
  obtain ⟨a1, a2, a3, a4, a5, a6, a7, a8, -⟩ := pK_ok
  have hB1 := fA_B_F (p := 10) hB
  have hB2 := fA_B_F (p := 16) hB1
  have n1 : rNum (fA σ 121 10) 121 16 1 99 = (20, fA (fA σ 121 10) 121 16) := e_num_F hB1 a3 a4 (by decide) (by decide)
  have hB3 : (fA (uTrunk (fA (fA σ 121 10) 121 16) 1 0 20) 121 19).1 (.inr 3) = fB := by
    refine fA_B_F ?_
    unfold uTrunk
    rw [xu_ne _ _ _ (by simp), xu_ne _ _ _ (by simp)]
    exact hB2
  have n2 : rTol σ 121 10 0 = (1, fA (uTrunk (fA (fA σ 121 10) 121 16) 1 0 20) 121 19, 20) := by
    unfold rTol
    rw [e_eT_F hB, a2]
    unfold rTol1
    rw [n1]
    dsimp only
    rw [if_neg (by decide), e_eT_F hB1, a5, e_sem_F hB2 a6, a7]
  refine ⟨fA (uTrunk (fA (fA σ 121 10) 121 16) 1 0 20) 121 19, ?_, hB3, ?_⟩
  · rw [rTols_s, e_is_F hB, if_neg a1, if_neg (by decide), n2]
    dsimp only
    rw [if_neg (by decide), rTols_s, e_is_F hB3, if_pos a8]
  · rw [fA_oo_F (by simp)]
    unfold uTrunk
    rw [xu_nk _ _ _ (by decide), xu_ne _ _ _ (by simp), fA_oo_F (by simp), fA_oo_F (by simp)]
    exact h4
/-- the worlds on the way -/
def w1 : XS := uText (uFill s0 8 121) 121
def g1 : RR := rBrd w1 121 0
def g2 : RR := rTols 121 5 g1.2.1 g1.2.2 0
noncomputable def g3 : RR := rUsers g2.2.1 121 g2.2.2
theorem w1_B : w1.1 (.inr 3) = fB := by
  unfold w1 uText uAdv
  rw [uTok_o _ _ _ _ _ (by simp)]
  unfold uText0
  rw [xu_ne _ _ _ (by simp), xu_ne _ _ _ (by simp), xu_ne _ _ _ (by simp)]
  exact uFill_3 rfl 121
theorem first_ok : (g1.1 = 1 ∧ g1.2.2 = 10) ∧ (g2.1 = 1 ∧ g2.2.2 = 20) ∧ g3.1 = 1 ∧ g3.2.2 = 121 ∧ g3.2.1.1 (.inr 3) = fB := by
  obtain ⟨τ1, e1, h1, k1⟩ := e_brd w1_B
  obtain ⟨τ2, e2, h2, k2⟩ := e_tol h1 k1
  obtain ⟨τ3, e3, h3⟩ := SP.subs 6 0 τ2 rfl ⟨h2, k2, fun k hk => absurd hk (Nat.not_lt_zero _)⟩
  have q1 : g1 = (1, τ1, 10) := e1
  have q2 : g2 = (1, τ2, 20) := by
    unfold g2
    rw [q1]
    exact e2
  have q3 : g3 = (1, τ3, 121) := by
    unfold g3
    rw [q2]
    unfold rUsers
    dsimp only
    rw [e_is_F h2, if_neg (show ¬ isB 20 2 = 0 from (pT_new 0 (by decide)).2.2)]
    exact e3
  rw [q1, q2, q3]
  exact ⟨⟨rfl, rfl⟩, ⟨rfl, rfl⟩, rfl, rfl, h3⟩
end FIRST
/-! .. and the relation -/
theorem fill_n : ∀ k, (uFill s0 8 k).1 (.inr 2) 1 = nI k := uFill_n rfl
theorem fB_ne : ∀ i, i < 121 → ¬ fB i = -1 := by decide +kernel
theorem fill_Tx : Tx (uFill s0 8 121) 121 := ⟨fill_n 121, by decide, fun i hi => by rw [uFill_3 rfl 121]; exact fB_ne i hi⟩

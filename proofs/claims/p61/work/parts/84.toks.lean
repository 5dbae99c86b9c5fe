/-! TOKENS OF A TEXT THAT IS TOLD BY ITS PIECES -/
theorem cSkip_eq {q : Nat → Bool} : ∀ (m k i : Nat), m ≤ k → (∀ j, j < m → q (i + j) = true) → (m = k ∨ ¬ q (i + m) = true) → cSkip q k i = i + m
  | 0, 0, i, _, _, _ => rfl
  | 0, k + 1, i, _, _, h => by
    unfold cSkip
    rcases h with h | h
    · exact absurd h (by omega)
    · rw [if_neg (show ¬ q i = true from h)]; rfl
  | m + 1, 0, i, h, _, _ => by omega
  | m + 1, k + 1, i, hk, hq, h => by
    unfold cSkip
    rw [if_pos (show q i = true from hq 0 (by omega)), cSkip_eq m k (i + 1) (by omega) (fun j hj => by rw [show i + 1 + j = i + (j + 1) by omega]; exact hq (j + 1) (by omega)) (by rw [show i + 1 + m = i + (m + 1) by omega]; exact h.imp (fun z => by omega) id)]
    omega
theorem gD_r {α : Type} {d : α} {L1 L2 : List α} (j : Nat) : (L1 ++ L2).getD (L1.length + j) d = L2.getD j d := by
  rw [List.getD_eq_getElem?_getD, List.getD_eq_getElem?_getD, List.getElem?_append_right (by omega), Nat.add_sub_cancel_left]
theorem gD_l {α : Type} {d : α} {L1 L2 : List α} {j : Nat} (h : j < L1.length) : (L1 ++ L2).getD j d = L1.getD j d := by
  rw [List.getD_eq_getElem?_getD, List.getD_eq_getElem?_getD, List.getElem?_append_left h]
theorem gD_mem {L : List Int32} {j : Nat} (h : j < L.length) : L.getD j 0 ∈ L := by
  rw [List.getD_eq_getElem?_getD, List.getElem?_eq_getElem h]
  exact List.getElem_mem h
/-- from place p on the text is L, and there it ends -/
def Sf (B : Nat → Int32) (n p : Nat) (L : List Int32) : Prop := p + L.length = n ∧ ∀ j, j < L.length → B (p + j) = L.getD j 0
section TK84
variable {B : Nat → Int32} {n p : Nat}
theorem Sf.app {L1 L2 : List Int32} (h : Sf B n p (L1 ++ L2)) : Sf B n (p + L1.length) L2 := by
  have h1 := h.1
  rw [List.length_append] at h1
  refine ⟨by omega, fun j hj => ?_⟩
  have := h.2 (L1.length + j) (by rw [List.length_append]; omega)
  rw [gD_r] at this
  rw [← this, Nat.add_assoc]
theorem Sf.get {L1 L2 : List Int32} (h : Sf B n p (L1 ++ L2)) {j : Nat} (hj : j < L1.length) : B (p + j) = L1.getD j 0 := by
  rw [h.2 j (by rw [List.length_append]; omega), gD_l hj]
theorem Sf.hd {c : Int32} {L : List Int32} (h : Sf B n p (c :: L)) : B p = c := h.2 0 (by show 0 < L.length + 1; omega)
def spc (sp : List Int32) : Prop := sp = [] ∨ sp = [32]
theorem n32L : ¬ isL (32 : Int32) := by decide
theorem n32D : ¬ isD (32 : Int32) := by decide
/-- blanks are passed -/
theorem tS {sp r : List Int32} {c : Int32} (h : Sf B n p (sp ++ c :: r)) (hsp : spc sp) (hc : ¬ c = 32) : tkS B n p = p + sp.length ∧ tkS B n p < n ∧ B (tkS B n p) = c := by
  have h1 := h.1
  rw [List.length_append] at h1
  have h2 : sp.length + (r.length + 1) + p = n := by have : (c :: r).length = r.length + 1 := rfl; omega
  have hB := h.app.hd
  have e : tkS B n p = p + sp.length := by
    unfold tkS
    refine cSkip_eq sp.length (n - p) p (by omega) (fun j hj => ?_) (Or.inr ?_)
    · rcases hsp with rfl | rfl
      · exact absurd hj (Nat.not_lt_zero _)
      · unfold qS
        rw [h.get hj]
        obtain rfl : j = 0 := by have : ([32] : List Int32).length = 1 := rfl; omega
        rfl
    · unfold qS
      rw [hB, beq_iff_eq]
      exact hc
  exact ⟨e, by omega, by rw [e]; exact hB⟩
theorem tok_w {sp w r : List Int32} {c : Int32} (h : Sf B n p (sp ++ (w ++ c :: r))) (hsp : spc sp) (hw : ∀ x ∈ w, isL x) (h0 : 0 < w.length) (hc : ¬ isL c) :
    tkK B n p = 1 ∧ tkE B n p - tkS B n p = w.length ∧ (∀ j, wC B 1 (tkS B n p) (tkE B n p) j = w.getD j 0) ∧ Sf B n (tkE B n p) (c :: r) := by
  cases w with
  | nil => exact absurd h0 (Nat.lt_irrefl 0)
  | cons a w =>
    have ha := hw a (List.mem_cons_self ..)
    obtain ⟨e1, e2, e3⟩ := tS (h := h) hsp (fun q => n32L (q ▸ ha))
    have hA := h.app
    rw [← e1] at hA
    have hl := hA.1
    rw [List.length_append] at hl
    have hl2 : (c :: r).length = r.length + 1 := rfl
    have eE : tkE B n p = tkS B n p + (a :: w).length := by
      unfold tkE
      rw [if_pos e2, e3, if_pos ha]
      refine cSkip_eq _ _ _ (by omega) (fun j hj => ?_) (Or.inr ?_)
      · unfold qL
        rw [hA.get hj, decide_eq_true_iff]
        exact hw _ (gD_mem hj)
      · unfold qL
        rw [hA.app.hd, decide_eq_true_iff]
        exact hc
    refine ⟨?_, by rw [eE]; omega, fun j => ?_, ?_⟩
    · unfold tkK
      rw [if_pos e2, e3, if_pos ha]
    · unfold wC wL
      rw [if_pos rfl, eE, Nat.add_sub_cancel_left]
      by_cases g : j < (a :: w).length
      · rw [if_pos g, hA.get g]
      · rw [if_neg g, List.getD_eq_getElem?_getD, List.getElem?_eq_none (by omega)]; rfl
    · rw [eE]; exact hA.app
theorem dg_ok : ∀ x, x < 100 → (∀ c ∈ dig x, isD c ∧ ¬ isL c ∧ ¬ c = 32) ∧ 0 < (dig x).length ∧ (dig x).length ≤ 2 := by decide +kernel
theorem dg_1 : ∀ x, x < 10 → (10 : Int32) * 0 + nI (48 + x) - 48 = nI x := by decide +kernel
theorem dg_2 : ∀ x, x < 100 → (10 : Int32) * (10 * 0 + nI (48 + x / 10) - 48) + nI (48 + x % 10) - 48 = nI x ∧ (10 * 0 + nI (48 + x / 10) - 48 < 1000000) := by decide +kernel
theorem cN_end {k i : Nat} {a : Int32} (h : k = 0 ∨ ¬ isD (B i)) : cNum B k i a = a := by
  cases k with
  | zero => rfl
  | succ k =>
    unfold cNum
    rw [if_neg (h.resolve_left (by omega))]
theorem tok_n {sp r : List Int32} {c : Int32} {x : Nat} (hx : x < 100) (h : Sf B n p (sp ++ (dig x ++ c :: r))) (hsp : spc sp) (hc : ¬ isD c) :
    tkK B n p = 2 ∧ cNum B (n - tkS B n p) (tkS B n p) 0 = nI x ∧ Sf B n (tkE B n p) (c :: r) := by
  obtain ⟨d1, d2, d3⟩ := dg_ok x hx
  have hA0 := h.app
  have hd0 := hA0.get d2
  have hm := d1 _ (gD_mem d2)
  obtain ⟨b, w, hbw⟩ : ∃ b w, dig x = b :: w := by
    cases hd : dig x with
    | nil => rw [hd] at d2; exact absurd d2 (Nat.lt_irrefl 0)
    | cons b w => exact ⟨b, w, rfl⟩
  have hb := d1 b (by rw [hbw]; exact List.mem_cons_self ..)
  obtain ⟨e1, e2, e3⟩ := tS (c := b) (r := w ++ c :: r) (h := by rw [hbw] at h; exact h) hsp hb.2.2
  have hA := hA0
  rw [← e1] at hA
  have hl := hA.1
  rw [List.length_append] at hl
  have hl2 : (c :: r).length = r.length + 1 := rfl
  have eE : tkE B n p = tkS B n p + (dig x).length := by
    unfold tkE
    rw [if_pos e2, e3, if_neg hb.2.1, if_pos hb.1]
    refine cSkip_eq _ _ _ (by omega) (fun j hj => ?_) (Or.inr ?_)
    · unfold qD
      rw [hA.get hj, decide_eq_true_iff]
      exact (d1 _ (gD_mem hj)).1
    · unfold qD
      rw [hA.app.hd, decide_eq_true_iff]
      exact hc
  refine ⟨?_, ?_, by rw [eE]; exact hA.app⟩
  · unfold tkK
    rw [if_pos e2, e3, if_neg hb.2.1, if_pos hb.1]
  · generalize tkS B n p = s at *
    have hc1 := hA.app.hd
    by_cases g : x < 10
    · have hd : dig x = [nI (48 + x)] := if_pos g
      rw [hd] at hA hl hc1
      have hl3 : ([nI (48 + x)] : List Int32).length = 1 := rfl
      obtain ⟨k, hk⟩ : ∃ k, n - s = k + 1 := ⟨n - s - 1, by omega⟩
      have h0 : B s = nI (48 + x) := hA.get (j := 0) (Nat.le_of_ble_eq_true rfl)
      have hd1 : isD (B s) := by rw [h0]; exact (d1 _ (by rw [hd]; exact List.mem_cons_self ..)).1
      rw [hk]
      unfold cNum
      rw [if_pos hd1, if_pos (by decide), cN_end (Or.inr (by rw [show s + 1 = s + [nI (48 + x)].length from rfl, hc1]; exact hc)), h0]
      exact dg_1 x g
    · have hd : dig x = [nI (48 + x / 10), nI (48 + x % 10)] := if_neg g
      rw [hd] at hA hl hc1
      have hl3 : ([nI (48 + x / 10), nI (48 + x % 10)] : List Int32).length = 2 := rfl
      obtain ⟨k, hk⟩ : ∃ k, n - s = k + 1 + 1 := ⟨n - s - 2, by omega⟩
      have h0 : B s = nI (48 + x / 10) := hA.get (j := 0) (Nat.le_of_ble_eq_true rfl)
      have h1 : B (s + 1) = nI (48 + x % 10) := hA.get (j := 1) (Nat.le_of_ble_eq_true rfl)
      have hd1 : isD (B s) := by rw [h0]; exact (d1 _ (by rw [hd]; exact List.mem_cons_self ..)).1
      have hd2 : isD (B (s + 1)) := by rw [h1]; exact (d1 _ (by rw [hd]; exact List.mem_cons_of_mem _ (List.mem_cons_self ..))).1
      rw [hk]
      unfold cNum
      rw [if_pos hd1, if_pos (by decide)]
      unfold cNum
      rw [if_pos hd2, cN_end (Or.inr (by rw [show s + 1 + 1 = s + [nI (48 + x / 10), nI (48 + x % 10)].length from rfl, hc1]; exact hc)), h0, h1, if_pos (dg_2 x hx).2]
      exact (dg_2 x hx).1
theorem tok_s {r : List Int32} (h : Sf B n p (59 :: r)) : tkK B n p = 3 ∧ Sf B n (tkE B n p) r := by
  obtain ⟨e1, e2, e3⟩ := tS (sp := []) (c := 59) (r := r) (h := h) (Or.inl rfl) (by decide)
  have hA := Sf.app (L1 := [59]) (L2 := r) h
  constructor
  · unfold tkK
    rw [if_pos e2, e3, if_neg (by decide), if_neg (by decide), if_pos rfl]
  · unfold tkE
    rw [if_pos e2, e3, if_neg (by decide), if_neg (by decide), e1]
    exact hA
theorem tok_0 (h : Sf B n p []) : tkK B n p = 0 := by
  have h1 : p + 0 = n := h.1
  unfold tkK tkS
  rw [show n - p = 0 by omega]
  show (if p < n then _ else _) = _
  rw [if_neg (by omega)]
end TK84
/-! the reader's steps, at a text B of n bytes -/
section RD84
variable {B : Nat → Int32} {σ τ : XS} {n p q nu : Nat} {lo hi v li : Int32}
theorem fA_oo {i : XI} (h : i ≠ .inr 2) : (fA σ n p).1 i = σ.1 i := uTok_o _ _ _ _ _ h
theorem fA_ll : (fA σ n p).2 = σ.2 := rfl
theorem fA_B (hB : σ.1 (.inr 3) = B) : (fA σ n p).1 (.inr 3) = B := (fA_oo (by simp)).trans hB
theorem e_num (hB : σ.1 (.inr 3) = B) (hk : tkK B n p = 2) (hv : cNum B (n - tkS B n p) (tkS B n p) 0 = v) (h1 : ¬ v < lo) (h2 : v ≤ hi) : rNum σ n p lo hi = (v, fA σ n p) := by
  unfold rNum kT vT
  rw [hB, if_pos hk, hv, if_neg h1, if_pos h2]
theorem e_sem (hB : σ.1 (.inr 3) = B) (hk : tkK B n p = 3) : rSem σ n p τ = (1, fA τ n p, tkE B n p) := by
  unfold rSem kT eT
  rw [hB, if_pos hk]
theorem e_eT (hB : σ.1 (.inr 3) = B) : eT σ n p = tkE B n p := by
  unfold eT
  rw [hB]
/-- is the word w text q? -/
def isW (w : List Int32) (q : Nat) : Int32 := xisW (fun j => w.getD j 0) w.length q
theorem e_is {w : List Int32} (hB : σ.1 (.inr 3) = B) (hk : tkK B n p = 1) (hl : tkE B n p - tkS B n p = w.length) (hw : ∀ j, wC B 1 (tkS B n p) (tkE B n p) j = w.getD j 0) : rIsW σ n p q = isW w q := by
  unfold rIsW bT kT sT eT isW
  rw [hB, hk, show wC B 1 (tkS B n p) (tkE B n p) = (fun j => w.getD j 0) from funext hw]
  unfold wL
  rw [if_pos rfl, hl]
theorem xln_p : ∀ q, q < 15 → ¬ 0 = xln q := by decide
theorem e_is0 (hB : σ.1 (.inr 3) = B) (hk : ¬ tkK B n p = 1) (hq : q < 15) : rIsW σ n p q = 0 := by
  unfold rIsW bT kT sT eT xisW wL
  rw [hB, if_neg hk, if_neg (xln_p q hq)]
def nmW (w : List Int32) : Int64 := xnm (fun j => w.getD j 0) 6
def cdW (w : List Int32) : Int32 := xcode (fun j => w.getD j 0) 1 w.length
theorem e_new {w : List Int32} (hB : σ.1 (.inr 3) = B) (hk : tkK B n p = 1) (hl : tkE B n p - tkS B n p = w.length) (hw : ∀ j, wC B 1 (tkS B n p) (tkE B n p) j = w.getD j 0) (h6 : w.length ≤ 6) (hf : cFirst (fun k => σ.2 (.inl (1, 2)) k == nmW w) nu 0 = -1) : rNew σ n p nu = (nmW w, fA σ n p) := by
  have e : rNm σ n p = nmW w := by
    unfold rNm bT kT sT eT nmW
    rw [hB, hk, show wC B 1 (tkS B n p) (tkE B n p) = (fun j => w.getD j 0) from funext hw]
  have hn : rIsN σ n p := by
    unfold rIsN kT sT eT
    rw [hB, hl]
    exact ⟨hk, h6⟩
  have h3 : rFind σ n p nu = -1 := by
    unfold rFind
    rw [e]
    exact hf
  unfold rNew
  rw [if_pos hn, if_pos h3, e]
theorem e_code {w : List Int32} (hB : σ.1 (.inr 3) = B) (hk : tkK B n p = 1) (hl : tkE B n p - tkS B n p = w.length) (hw : ∀ j, wC B 1 (tkS B n p) (tkE B n p) j = w.getD j 0) (h1 : ¬ cdW w = -1) (ha : rAmb σ nu li (cdW w) = 0) : rCode σ n p nu li = (cdW w, fA σ n p) := by
  have e : rCd σ n p = cdW w := by
    unfold rCd bT kT sT eT cdW
    rw [hB, hk, hl, show wC B 1 (tkS B n p) (tkE B n p) = (fun j => w.getD j 0) from funext hw]
  unfold rCode
  rw [e, if_neg h1, if_pos ha]
end RD84
theorem cFirst_cg {q r : Nat → Bool} : ∀ {k i : Nat}, (∀ j, i ≤ j → j < i + k → q j = r j) → cFirst q k i = cFirst r k i
  | 0, _, _ => rfl
  | k + 1, i, h => by
    unfold cFirst
    rw [h i (Nat.le_refl _) (by omega), cFirst_cg (k := k) (i := i + 1) (fun j a b => h j (by omega) (by omega))]
theorem cFirst_no {q : Nat → Bool} : ∀ {k i : Nat}, (∀ j, i ≤ j → j < i + k → ¬ q j = true) → cFirst q k i = -1
  | 0, _, _ => rfl
  | k + 1, i, h => by
    unfold cFirst
    rw [if_neg (h i (Nat.le_refl _) (by omega)), cFirst_no (k := k) (i := i + 1) (fun j a b => h j (by omega) (by omega))]
theorem cFirstB_no {q : Nat → Bool} : ∀ {k i : Nat}, (∀ j, i ≤ j → j < i + k → ¬ q j = true) → cFirstB q k i = 0
  | 0, _, _ => rfl
  | k + 1, i, h => by
    unfold cFirstB
    rw [if_neg (h i (Nat.le_refl _) (by omega)), cFirstB_no (k := k) (i := i + 1) (fun j a b => h j (by omega) (by omega))]
/-! the drawn text's pieces -/
def brdT (ln co : Nat) : List Int32 := tx 12 ++ (dig ln ++ ([32] ++ (dig co ++ [59])))
def trkT (x : Nat) : List Int32 := tx 13 ++ (dig x ++ [59])
def usrT (u cu : Nat) : List Int32 := tx 14 ++ ([nI (97 + u)] ++ ([32] ++ (dig (u / 3) ++ ([32] ++ (tx (9 + u % 3) ++ ([32] ++ (dig cu ++ [59])))))))
def tkT : List Nat → List Int32
  | [] => []
  | x :: tl => trkT x ++ tkT tl
def usT : List (Nat × Nat) → List Int32
  | [] => []
  | q :: us => usrT q.1 q.2 ++ usT us
abbrev nmU (u : Nat) : List Int32 := [117, nI (97 + u)]
abbrev coU (u : Nat) : Int32 := cdW (tx (9 + u % 3))
theorem u_L : ∀ u, u < 12 → (∀ x ∈ nmU u, isL x) ∧ isL (nI (97 + u)) := by decide +kernel
theorem u_C : ∀ u, u < 12 → (∀ x ∈ tx (9 + u % 3), isL x) ∧ 0 < (tx (9 + u % 3)).length ∧ ¬ cdW (tx (9 + u % 3)) = -1 := by decide +kernel
theorem u_N : ∀ u, u < 12 → ∀ w, w < 12 → ¬ u = w → ¬ nmW (nmU u) = nmW (nmU w) ∧ ¬ (nI (u / 3) = nI (w / 3) ∧ coU u >>> (((31 - xnz (coU u)) - xmin (31 - xnz (coU u)) (31 - xnz (coU w))) &&& 31) = coU w >>> (((31 - xnz (coU w)) - xmin (31 - xnz (coU u)) (31 - xnz (coU w))) &&& 31)) := by decide +kernel
theorem u_Z : ∀ u, u < 12 → ¬ nmW (nmU u) = 0 := by decide +kernel
theorem kw_ok : isW (tx 0) 0 = 1 ∧ isW (tx 1) 1 = 1 ∧ isW (tx 2) 1 = 0 ∧ isW (tx 2) 2 = 1 := by decide +kernel
theorem kw_L : (∀ x ∈ tx 0, isL x) ∧ (∀ x ∈ tx 1, isL x) ∧ (∀ x ∈ tx 2, isL x) := by decide +kernel
theorem tx12 : tx 12 = tx 0 ++ [32] := by decide +kernel
theorem tx13 : tx 13 = tx 1 ++ [32] := by decide +kernel
theorem tx14 : tx 14 = tx 2 ++ ([32] ++ [117]) := by decide +kernel


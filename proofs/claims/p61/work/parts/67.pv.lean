/-! WHAT HOLDS OF EVERY ROW S ALONG THE LAW: times, who listens, lines and trunks used once, bills, secrets (PS); waiting calls are blocked (PB) -/
theorem zc_flip {p q : Nat → Prop} {j : Nat} (hp : ¬ p j) (hq : q j) : ∀ {n : Nat}, j < n → (∀ c, c < n → ¬ c = j → (p c ↔ q c)) → cCnt q n = cCnt p n + 1
  | 0, hj, _ => absurd hj (Nat.not_lt_zero _)
  | n + 1, hj, h => by
    by_cases e : n = j
    · subst e
      rw [cCnt_y hq, cCnt_n hp, zc_cg (p := p) (q := q) (n := n) (fun c hc => h c (by omega) (by omega))]
    · have ih := zc_flip (p := p) (q := q) (j := j) hp hq (n := n) (by omega) (fun c hc => h c (by omega))
      have hn := h n (by omega) e
      by_cases g : p n
      · rw [cCnt_y g, cCnt_y (hn.mp g), ih]
      · rw [cCnt_n g, cCnt_n (fun z => g (hn.mpr z)), ih]
theorem zs_flip {f g : Nat → Int32} {j : Nat} : ∀ {n : Nat}, j < n → (∀ c, c < n → ¬ c = j → f c = g c) → cSum g n + f j = cSum f n + g j
  | 0, hj, _ => absurd hj (Nat.not_lt_zero _)
  | n + 1, hj, h => by
    show cSum g n + g n + f j = cSum f n + f n + g j
    by_cases e : n = j
    · subst e
      rw [zc_sum (f := g) (g := f) (n := n) (fun c hc => (h c (by omega) (by omega)).symm), Int32.add_assoc, Int32.add_assoc, Int32.add_comm (g n)]
    · have ih := zs_flip (f := f) (g := g) (j := j) (n := n) (by omega) (fun c hc => h c (by omega))
      rw [h n (by omega) e, Int32.add_assoc, Int32.add_comm (g n), ← Int32.add_assoc, ih, Int32.add_assoc, Int32.add_comm (g j), ← Int32.add_assoc]
/-! the fields of a started call's row -/
section PV67
variable {S : Nat → Int32} {j T : Nat}
theorem mS_n (hM : MI S) (hj : j < mK S) {n : Nat} (h : n < 10) : mStart S j n = S n := mStart_fx hM hj n (Or.inl h)
theorem mS_u (hM : MI S) (hj : j < mK S) {u w : Nat} (hu : u < 15) (hw : w < 12) (h : ¬ w = 4) : sU (mStart S j) w u = sU S w u := mStart_o (fun q => by omega) (by omega) (by omega) (by omega) (by omega)
theorem mS_co (hM : MI S) (hj : j < mK S) {c w : Nat} (hw : w < 4) : sC (mStart S j) w c = sC S w c := mStart_fx hM hj _ (Or.inr ⟨by omega, by omega⟩)
theorem mS_cn (hM : MI S) (hj : j < mK S) {c w : Nat} (hc : ¬ c = j) (hw : w < 9) : sC (mStart S j) w c = sC S w c := mStart_c hM hj _ (by omega) (by omega) (by omega) (by omega) (by omega)
theorem mS_6 (hM : MI S) (hj : j < mK S) {c : Nat} : sC (mStart S j) 6 c = sC S 6 c := by
  by_cases e : c = j
  · subst e; exact mStart_c hM hj _ (by omega) (by omega) (by omega) (by omega) (by omega)
  · exact mS_cn hM hj e (by omega)
theorem mS_4 : sC (mStart S j) 4 j = 1 := by
  show mStart S j (190 + 9 * j + 4) = 1
  unfold mStart
  rw [upd_ne (by omega), upd_ne (by omega), upd_ne (by omega), upd_at]
theorem mS_5 : sC (mStart S j) 5 j = S 0 := by
  show mStart S j (190 + 9 * j + 5) = S 0
  unfold mStart
  rw [upd_ne (by omega), upd_ne (by omega), upd_at]
theorem mS_7 : sC (mStart S j) 7 j = mEars S (sC S 0 j) (sC S 1 j) := by
  show mStart S j (190 + 9 * j + 7) = _
  unfold mStart
  rw [upd_ne (by omega), upd_at]
theorem mS_K (hM : MI S) (hj : j < mK S) : mK (mStart S j) = mK S := by rw [mK, mK, mS_n hM hj (by decide)]
theorem mS_U (hM : MI S) (hj : j < mK S) : mU (mStart S j) = mU S := by rw [mU, mU, mS_n hM hj (by decide)]
theorem mS_T (hM : MI S) (hj : j < mK S) : mT (mStart S j) = mT S := by rw [mT, mT, mS_n hM hj (by decide)]
/-- what user u knows when call j has started -/
theorem mS_sec (hx : MX S) (hj : j < mK S) {u : Nat} (hu : u < mU S) : sU (mStart S j) 4 u = if (u < mU S ∧ bt (mEars S (sC S 0 j) (sC S 1 j)) u = true) then mTell S (sC S 0 j) (sC S 1 j) (10 + 12 * u + 4) ||| mTold S (sC S 0 j) (sC S 1 j) else mTell S (sC S 0 j) (sC S 1 j) (10 + 12 * u + 4) := by
  have u15 := hx.i.u15
  show mStart S j (10 + 12 * u + 4) = _
  unfold mStart
  rw [upd_ne (by omega), upd_ne (by omega), upd_ne (by omega), upd_ne (by omega)]
  unfold mStart0
  exact mHear_at (by omega)
theorem mEars_bt (hx : MX S) {x y : Int32} {i : Nat} (hi : i < 32) : bt (mEars S x y) i = true ↔ i < mU S ∧ mEarQ S x y i := by
  have u15 := hx.i.u15
  exact zb_set (by omega) hi
/-- times and listeners of one call -/
def PC (S : Nat → Int32) (T c : Nat) : Prop :=
  (sC S 5 c = -1 ↔ (sC S 4 c = 0 ∨ sC S 4 c = 3)) ∧ (sC S 6 c = -1 ↔ (sC S 4 c = 0 ∨ sC S 4 c = 1)) ∧ ((sC S 4 c = 0 ∨ sC S 4 c = 3) → sC S 7 c = 0) ∧ (∀ i, 15 ≤ i → i < 32 → ¬ bt (sC S 7 c) i = true) ∧
  ((sC S 4 c = 1 ∨ sC S 4 c = 2) → ∃ a : Nat, sC S 5 c = nI a ∧ a ≤ T ∧ (sC S 4 c = 2 → ∃ b : Nat, sC S 6 c = nI b ∧ a ≤ b ∧ b ≤ T))
def mDue (S : Nat → Int32) (c : Nat) : Int32 := if sC S 4 c = 2 then mCost S c else 0
def PS (S : Nat → Int32) (T : Nat) : Prop :=
  S 0 = nI T ∧ T ≤ 900000 ∧ (∀ c, c < mK S → PC S T c) ∧ (∀ a, a < 6 → mLine S (nI a) (mK S) ≤ 1) ∧ (∀ t, t < 4 → mTrk S (nI t) (mK S) ≤ 1) ∧
  cSum (fun u => sU S 3 u) (mU S) = cSum (mDue S) (mK S) ∧ (∀ u, u < mU S → bt (sU S 4 u) u = true ∧ ∀ i, 15 ≤ i → i < 32 → ¬ bt (sU S 4 u) i = true)
def PB (S : Nat → Int32) : Prop := ∀ c, c < mK S → sC S 4 c = 0 → ¬ mWhy S c = 0
theorem PS.t (h : PS S T) : S 0 = nI T := h.1
theorem PS.t9 (h : PS S T) : T ≤ 900000 := h.2.1
theorem PS.c (h : PS S T) {c : Nat} (hc : c < mK S) : PC S T c := h.2.2.1 c hc
theorem PS.l (h : PS S T) {a : Nat} (ha : a < 6) : mLine S (nI a) (mK S) ≤ 1 := h.2.2.2.1 a ha
theorem PS.k (h : PS S T) {t : Nat} (ht : t < 4) : mTrk S (nI t) (mK S) ≤ 1 := h.2.2.2.2.1 t ht
theorem PS.b (h : PS S T) : cSum (fun u => sU S 3 u) (mU S) = cSum (mDue S) (mK S) := h.2.2.2.2.2.1
theorem PS.s (h : PS S T) {u : Nat} (hu : u < mU S) : bt (sU S 4 u) u = true ∧ ∀ i, 15 ≤ i → i < 32 → ¬ bt (sU S 4 u) i = true := h.2.2.2.2.2.2 u hu
theorem not_m1 {a : Nat} (h : a ≤ 999999) : ¬ nI a = -1 := fun q => xok_m1 (n := a + 1) (q ▸ xok_nI (Nat.lt_succ_self a))
/-- when nothing keeps a call -/
theorem why0 {c : Nat} : mWhy S c = 0 ↔ (mLine S (sU S 0 (cN (sC S 0 c))) (mK S) = 0 ∧ (sC S 2 c = -1 → mLine S (sU S 0 (cN (sC S 1 c))) (mK S) = 0) ∧ (¬ sC S 2 c = -1 → mTrk S (sC S 2 c) (mK S) = 0) ∧ ¬ (¬ mOwn S c ∧ nI (mCords S (mK S)) = S 2)) := by
  unfold mWhy
  by_cases g1 : 0 < mLine S (sU S 0 (cN (sC S 0 c))) (mK S)
  · rw [if_pos g1]
    exact ⟨fun q => absurd q (by decide), fun q => absurd q.1 (by omega)⟩
  · rw [if_neg g1]
    by_cases g2 : (sC S 2 c = -1 ∧ 0 < mLine S (sU S 0 (cN (sC S 1 c))) (mK S)) ∨ (¬ sC S 2 c = -1 ∧ 0 < mTrk S (sC S 2 c) (mK S))
    · rw [if_pos g2]
      refine ⟨fun q => absurd q (by decide), fun q => ?_⟩
      rcases g2 with ⟨z1, z2⟩ | ⟨z1, z2⟩
      · have := q.2.1 z1; omega
      · have := q.2.2.1 z1; omega
    · rw [if_neg g2]
      by_cases g3 : ¬ mOwn S c ∧ nI (mCords S (mK S)) = S 2
      · rw [if_pos g3]
        exact ⟨fun q => absurd q (by decide), fun q => absurd g3 q.2.2.2⟩
      · rw [if_neg g3]
        refine ⟨fun _ => ⟨by omega, fun z => ?_, fun z => ?_, g3⟩, fun _ => rfl⟩
        · exact Nat.eq_zero_of_not_pos (fun z2 => g2 (Or.inl ⟨z, z2⟩))
        · exact Nat.eq_zero_of_not_pos (fun z2 => g2 (Or.inr ⟨z, z2⟩))
theorem why_ge {c : Nat} : mWhy S c = 0 ∨ mWhy S c = 1 ∨ mWhy S c = 2 ∨ mWhy S c = 3 := by
  unfold mWhy
  split
  · exact Or.inr (Or.inl rfl)
  · split
    · exact Or.inr (Or.inr (Or.inl rfl))
    · split
      · exact Or.inr (Or.inr (Or.inr rfl))
      · exact Or.inl rfl
theorem cn1 : cN (-1) = 0 := by decide
theorem MI.o15 (hM : MI S) {c : Nat} (hc : c < mK S) : cN (sC S 1 c) < 15 := by
  rcases hM.oy hc with q | q
  · rw [q, cn1]; decide
  · exact (xok_c q).1
theorem MI.t4c (hM : MI S) {c : Nat} (hc : c < mK S) : cN (sC S 2 c) < 4 := by
  by_cases q : sC S 2 c = -1
  · rw [q, cn1]; decide
  · exact (hM.tr hc q).1
theorem zc_le {q : Nat → Prop} {n : Nat} : ∀ k, cCnt q n ≤ cCnt q (n + k)
  | 0 => Nat.le_refl _
  | k + 1 => by
    refine Nat.le_trans (zc_le k) ?_
    show cCnt q (n + k) ≤ cCnt q (n + k + 1)
    by_cases g : q (n + k)
    · rw [cCnt_y g]; omega
    · rw [cCnt_n g]; omega
/-- a row in which more is talking keeps calls at least as much -/
theorem why_mono (hM : MI S) {S1 : Nat → Int32} {c : Nat} (hcK : c < mK S) (hK : mK S ≤ mK S1) (h2 : S1 2 = S 2) (c2 : S 2 = nI (cN (S 2))) (c6 : cN (S 2) ≤ 6) (hu : ∀ n, n < 15 → sU S1 0 n = sU S 0 n) (hc : ∀ c, c < mK S → ∀ w, w < 4 → sC S1 w c = sC S w c) (ht : ∀ c, c < mK S → sC S 4 c = 1 → sC S1 4 c = 1) (hcs : mCords S1 (mK S1) ≤ cN (S1 2)) (h : mWhy S1 c = 0) : mWhy S c = 0 := by
  rw [why0] at h ⊢
  have k40 := hM.k40
  have eU : ∀ c, c < mK S → ∀ x, mUses S1 c x ↔ mUses S c x := fun c h9 x => by
    unfold mUses
    rw [hc c h9 0 (by omega), hc c h9 1 (by omega), hc c h9 2 (by omega), hu _ (hM.ca h9).1, hu _ (hM.o15 h9)]
  have eO : ∀ c, c < mK S → (mOwn S1 c ↔ mOwn S c) := fun c h9 => by
    unfold mOwn
    rw [hc c h9 0 (by omega), hc c h9 1 (by omega), hc c h9 2 (by omega), hu _ (hM.ca h9).1, hu _ (hM.o15 h9)]
  obtain ⟨d, hd⟩ := Nat.le.dest hK
  have eL : ∀ x, mLine S x (mK S) ≤ mLine S1 x (mK S1) := fun x => by
    rw [← hd]
    exact Nat.le_trans (zc_mono (fun c hc1 hq => ⟨ht c hc1 hq.1, (eU c hc1 x).mpr hq.2⟩)) (zc_le d)
  have eT : ∀ x, mTrk S x (mK S) ≤ mTrk S1 x (mK S1) := fun x => by
    rw [← hd]
    exact Nat.le_trans (zc_mono (fun c hc1 hq => ⟨ht c hc1 hq.1, by rw [hc c hc1 2 (by omega)]; exact hq.2⟩)) (zc_le d)
  have eC : mCords S (mK S) ≤ mCords S1 (mK S1) := by
    rw [← hd]
    exact Nat.le_trans (zc_mono (fun c hc1 hq => ⟨ht c hc1 hq.1, fun z => hq.2 ((eO c hc1).mp z)⟩)) (zc_le d)
  rw [hc c hcK 0 (by omega), hc c hcK 1 (by omega), hc c hcK 2 (by omega), hu _ (hM.ca hcK).1, hu _ (hM.o15 hcK), h2] at h
  obtain ⟨a1, a2, a3, a4⟩ := h
  refine ⟨by have := eL (sU S 0 (cN (sC S 0 c))); omega, fun z => by have := eL (sU S 0 (cN (sC S 1 c))); have := a2 z; omega, fun z => by have := eT (sC S 2 c); have := a3 z; omega, fun q => a4 ⟨fun z => q.1 ((eO c hcK).mp z), ?_⟩⟩
  have k1 : mCords S (mK S) ≤ mK S := cCnt_le _ _
  have e1 : mCords S (mK S) = cN (S 2) := neq (q.2.trans c2)
  rw [h2] at hcs
  rw [show mCords S1 (mK S1) = cN (S 2) by omega]
  exact c2.symm
theorem why_start (hx : MX S) (hx1 : MX (mStart S j)) (hj : j < mK S) {c : Nat} (hc : c < mK S) (h : ¬ mWhy S c = 0) : ¬ mWhy (mStart S j) c = 0 := by
  have eK := mS_K hx.i hj
  refine fun q => h (why_mono hx.i hc (by omega) (mS_n hx.i hj (by decide)) hx.c2 hx.c6 (fun n hn => mS_u hx.i hj hn (by decide) (by decide)) (fun c _ w hw => mS_co hx.i hj hw) (fun c hc q => ?_) hx1.cs q)
  by_cases e : c = j
  · subst e; exact mS_4
  · rw [mS_cn hx.i hj e (by decide)]; exact q
theorem mCost_cg (hM : MI S) {S1 : Nat → Int32} {c : Nat} (hc : c < mK S) (h2 : sC S1 2 c = sC S 2 c) (h4 : sC S1 4 c = sC S 4 c) (h5 : sC S1 5 c = sC S 5 c) (h6 : sC S1 6 c = sC S 6 c) (hn : ∀ t, t < 4 → S1 (6 + t) = S (6 + t)) (h0 : sC S 4 c = 1 → S1 0 = S 0) : mCost S1 c = mCost S c := by
  unfold mCost
  rw [h2, h4, h5, h6, hn _ (hM.t4c hc)]
  by_cases g : sC S 4 c = 1
  · rw [h0 g]
  · rw [if_neg g, if_neg g]
theorem mDue_cg (hM : MI S) {S1 : Nat → Int32} {c : Nat} (hc : c < mK S) (h2 : sC S1 2 c = sC S 2 c) (h4 : sC S1 4 c = sC S 4 c) (h5 : sC S1 5 c = sC S 5 c) (h6 : sC S1 6 c = sC S 6 c) (hn : ∀ t, t < 4 → S1 (6 + t) = S (6 + t)) : mDue S1 c = mDue S c := by
  unfold mDue
  rw [h4]
  by_cases g : sC S 4 c = 2
  · rw [if_pos g, if_pos g]
    exact mCost_cg hM hc h2 h4 h5 h6 hn (fun q => absurd (q.symm.trans g) (by decide))
  · rw [if_neg g, if_neg g]
theorem mTold_bt (hx : MX S) (hj : j < mK S) {i : Nat} : bt (mTold S (sC S 0 j) (sC S 1 j)) i = true ↔ (bt (sU S 4 (cN (sC S 0 j))) i = true ∨ (¬ sC S 1 j = -1 ∧ bt (sU S 4 (cN (sC S 1 j))) i = true)) := by
  unfold mTold
  by_cases g : sC S 1 j = -1
  · rw [if_pos g]
    exact ⟨Or.inl, fun q => q.elim id (fun z => absurd g z.1)⟩
  · rw [if_neg g, zb_orT]
    exact ⟨fun q => q.elim Or.inl (fun z => Or.inr ⟨g, z⟩), fun q => q.elim Or.inl (fun z => Or.inr z.2)⟩
theorem MI.cU (hM : MI S) (hj : j < mK S) : cN (sC S 0 j) < mU S := (hM.c hj).cu hM.u15
theorem MI.oU (hM : MI S) (hj : j < mK S) (h : ¬ sC S 1 j = -1) : cN (sC S 1 j) < mU S := by
  have u15 := hM.u15
  rcases (hM.c hj).2 with q | q
  · exact (xok_c q.2).1
  · exact absurd q.1 h
/-- what is known after a start: nothing is forgotten; the rest was told -/
theorem sec_ge (hx : MX S) (hj : j < mK S) {u : Nat} (hu : u < mU S) {i : Nat} (h : bt (sU S 4 u) i = true) : bt (sU (mStart S j) 4 u) i = true := by
  have e : bt (mTell S (sC S 0 j) (sC S 1 j) (10 + 12 * u + 4)) i = true := by
    rw [mTell_at]
    by_cases g : ¬ sC S 1 j = -1 ∧ (u = cN (sC S 0 j) ∨ u = cN (sC S 1 j))
    · rw [if_pos g, mTold_bt hx hj]
      rcases g.2 with z | z
      · exact Or.inl (z ▸ h)
      · exact Or.inr ⟨g.1, z ▸ h⟩
    · rw [if_neg g]; exact h
  rw [mS_sec hx hj hu]
  split
  · rw [zb_orT]; exact Or.inl e
  · exact e
theorem sec_le (hx : MX S) (hj : j < mK S) {u : Nat} (hu : u < mU S) {i : Nat} (h : bt (sU (mStart S j) 4 u) i = true) : bt (sU S 4 u) i = true ∨ bt (mTold S (sC S 0 j) (sC S 1 j)) i = true := by
  have e : bt (mTell S (sC S 0 j) (sC S 1 j) (10 + 12 * u + 4)) i = true → bt (sU S 4 u) i = true ∨ bt (mTold S (sC S 0 j) (sC S 1 j)) i = true := fun q => by
    rw [mTell_at] at q
    split at q
    · exact Or.inr q
    · exact Or.inl q
  rw [mS_sec hx hj hu] at h
  split at h
  · rcases zb_orT.mp h with z | z
    · exact e z
    · exact Or.inr z
  · exact e h
theorem PS.start (hx : MX S) (hj : j < mK S) (hw : mWhy S j = 0) (h4 : sC S 4 j = 0) (h : PS S T) : PS (mStart S j) T := by
  have hM := hx.i
  have u15 := hM.u15
  have t9 := h.t9
  have eK := mS_K hM hj
  have eU := mS_U hM hj
  obtain ⟨w1, w2, w3, -⟩ := why0.mp hw
  have us : ∀ c, c < mK S → ∀ x, mUses (mStart S j) c x ↔ mUses S c x := fun c h9 x => by
    unfold mUses
    rw [mS_co hM hj (by decide), mS_co hM hj (by decide), mS_co hM hj (by decide), mS_u hM hj (hM.ca h9).1 (by decide) (by decide), mS_u hM hj (hM.o15 h9) (by decide) (by decide)]
  refine ⟨(mS_n hM hj (by decide)).trans h.t, t9, fun c hc => ?_, fun a ha => ?_, fun t ht => ?_, ?_, fun u hu => ?_⟩
  · rw [eK] at hc
    have hC := h.c hc
    by_cases e : c = j
    · subst e
      refine ⟨?_, ?_, ?_, ?_, ?_⟩
      · rw [mS_4, mS_5, h.t]
        exact ⟨fun q => absurd q (not_m1 (by omega)), fun q => by rcases q with q | q <;> exact absurd q (by decide)⟩
      · rw [mS_4, mS_6 hM hj]
        exact ⟨fun _ => Or.inr rfl, fun _ => hC.2.1.mpr (Or.inl h4)⟩
      · rw [mS_4]
        intro q
        rcases q with q | q <;> exact absurd q (by decide)
      · rw [mS_7]
        intro i hi hi2 hb
        have := ((mEars_bt hx hi2).mp hb).1
        omega
      · rw [mS_4, mS_5]
        exact fun _ => ⟨T, h.t, Nat.le_refl _, fun q => absurd q (by decide)⟩
    · unfold PC
      rw [mS_cn hM hj e (w := 4) (by decide), mS_cn hM hj e (w := 5) (by decide), mS_cn hM hj e (w := 6) (by decide), mS_cn hM hj e (w := 7) (by decide)]
      exact hC
  · rw [eK]
    have hl := h.l ha
    by_cases g : mUses S j (nI a)
    · have z : mLine S (nI a) (mK S) = 0 := by
        rcases g with g | g
        · rw [← g]; exact w1
        · rw [← g.2]; exact w2 g.1
      have f : mLine (mStart S j) (nI a) (mK S) = mLine S (nI a) (mK S) + 1 := zc_flip (j := j) (fun q => absurd (h4.symm.trans q.1) (by decide)) ⟨mS_4, (us j hj _).mpr g⟩ hj (fun c hc e => by rw [mS_cn hM hj e (by decide), us c hc])
      omega
    · have f : mLine (mStart S j) (nI a) (mK S) = mLine S (nI a) (mK S) := zc_cg (fun c hc => by
        by_cases e : c = j
        · subst e
          rw [us c hc]
          exact ⟨fun q => absurd q.2 g, fun q => absurd q.2 g⟩
        · rw [mS_cn hM hj e (by decide), us c hc])
      omega
  · rw [eK]
    have hl := h.k ht
    have to : ∀ c, sC (mStart S j) 2 c = sC S 2 c := fun c => mS_co hM hj (by decide)
    by_cases g : sC S 2 j = nI t
    · have z : mTrk S (nI t) (mK S) = 0 := by
        rw [← g]
        exact w3 (by rw [g]; exact not_m1 (by omega))
      have f : mTrk (mStart S j) (nI t) (mK S) = mTrk S (nI t) (mK S) + 1 := zc_flip (j := j) (fun q => absurd (h4.symm.trans q.1) (by decide)) ⟨mS_4, (to j).trans g⟩ hj (fun c hc e => by rw [mS_cn hM hj e (by decide), to c])
      omega
    · have f : mTrk (mStart S j) (nI t) (mK S) = mTrk S (nI t) (mK S) := zc_cg (fun c hc => by
        by_cases e : c = j
        · subst e
          rw [to c]
          exact ⟨fun q => absurd q.2 g, fun q => absurd q.2 g⟩
        · rw [mS_cn hM hj e (by decide), to c])
      omega
  · rw [eK, eU, zc_sum (f := fun u => sU (mStart S j) 3 u) (g := fun u => sU S 3 u) (fun u hu => mS_u hM hj (by omega) (by decide) (by decide)), h.b]
    refine zc_sum (fun c hc => ?_)
    by_cases e : c = j
    · subst e
      unfold mDue
      rw [mS_4, h4, if_neg (by decide), if_neg (by decide)]
    · exact (mDue_cg hM hc (mS_cn hM hj e (by decide)) (mS_cn hM hj e (by decide)) (mS_cn hM hj e (by decide)) (mS_cn hM hj e (by decide)) (fun t ht => mS_n hM hj (by omega))).symm
  · rw [eU] at hu
    have hS := h.s hu
    refine ⟨sec_ge hx hj hu hS.1, fun i hi hi2 q => ?_⟩
    rcases sec_le hx hj hu q with z | z
    · exact hS.2 i hi hi2 z
    · rcases (mTold_bt hx hj).mp z with z | z
      · exact (h.s (hM.cU hj)).2 i hi hi2 z
      · exact (h.s (hM.oU hj z.1)).2 i hi hi2 z.2
end PV67

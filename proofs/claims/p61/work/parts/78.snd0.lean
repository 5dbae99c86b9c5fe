/-! WHAT isSound COUNTS, TOLD OF THE ROW -/
/-- when an abandoned call was given up -/
def PE (S : Nat → Int32) (T : Nat) : Prop := ∀ c, c < mK S → sC S 4 c = 3 → ∃ b : Nat, sC S 6 c = nI b ∧ b ≤ T
section PE78
variable {S : Nat → Int32} {j T : Nat}
theorem PE.start (hM : MI S) (hj : j < mK S) (h : PE S T) : PE (mStart S j) T := fun c hc h4 => by
  rw [mS_K hM hj] at hc
  by_cases g : c = j
  · subst g
    rw [mS_4] at h4
    exact absurd h4 (by decide)
  · rw [mS_cn hM hj g (by decide)] at h4
    rw [mS_6 hM hj]
    exact h c hc h4
theorem PE.wait (hM : MI S) (h : PE S T) (u : Int32) : ∀ k, k ≤ mK S → PE (mWait S u k).1 T
  | 0, _ => h
  | k + 1, hk => by
    have ih := PE.wait hM h u k (by omega)
    have hF := mWait_fx hM (u := u) k (by omega)
    by_cases g : sC (mWait S u k).1 4 k = 0 ∧ sC (mWait S u k).1 3 k = u ∧ mWhy (mWait S u k).1 k = 0
    · rw [mWait_y g]
      exact ih.start (hM.fx hF) (by rw [mK_fx hF]; omega)
    · rw [mWait_n g]
      exact ih
theorem PE.fin (hM : MI S) (hj : j < mK S) (hT : S 0 = nI T) (h : PE S T) : PE (mFin S j).1 T := by
  have hF := mFin0_fx hM hj
  have h0 : PE (mFin0 S j) T := fun c hc h4 => by
    rw [mK_fx hF] at hc
    by_cases g : c = j
    · subst g
      exact ⟨T, by rw [fin0_6]; exact hT, Nat.le_refl _⟩
    · rw [fin0_cn hM hj (by decide) (Or.inl g)] at h4
      rw [fin0_cn hM hj (by decide) (Or.inl g)]
      exact h c hc h4
  have m0 := hM.fx hF
  have h1 := h0.wait m0 1 _ (Nat.le_refl _)
  exact h1.wait (m0.fx (mWait_fx m0 _ (Nat.le_refl _))) 0 _ (by rw [mK_fx (mWait_fx m0 _ (Nat.le_refl _))]; exact Nat.le_refl _)
theorem PE.req {x y t u : Int32} (hM : MI S) (hk : mK S < 40) (hx : xok x (mU S)) (hyt : (t = -1 ∧ xok y (mU S)) ∨ (y = -1 ∧ xok t (mT S))) (h : PE S T) : PE (mReq S x y t u) T := by
  have eK := mReq0_K (x := x) (y := y) (t := t) (u := u) hk
  have h0 : PE (mReq0 S x y t u) T := fun c hc h4 => by
    by_cases g : c = mK S
    · subst g
      rw [mReq0_c.2.2.2.2.1] at h4
      exact absurd h4 (by decide)
    · rw [rq_c (by omega) (by decide)] at h4
      rw [rq_c (by omega) (by decide)]
      exact h c (by omega) h4
  unfold mReq
  split
  · exact h0.start (hM.req hk hx hyt) (by omega)
  · exact h0
theorem PE.up {T1 n : Nat} {v : Int32} (h : PE S T) (hT : T ≤ T1) (hn : ¬ n = 5) (h1 : n < 190) : PE (upd S n v) T1 := fun c hc h4 => by
  rw [mK, upd_ne (fun q => hn q.symm)] at hc
  rw [sC, upd_ne (by omega)] at h4
  obtain ⟨b, e, hb⟩ := h c hc h4
  exact ⟨b, by rw [sC, upd_ne (by omega)]; exact e, by omega⟩
end PE78
/-! numbers divided -/
theorem nI_div {a b : Nat} (ha : a < 2 ^ 31) (hb : b < 2 ^ 31) : nI a / nI b = nI (a / b) := by
  refine Int32.toInt_inj.mp ?_
  have h1 : a / b < 2 ^ 31 := Nat.lt_of_le_of_lt (Nat.div_le_self _ _) ha
  rw [Int32.toInt_div, nI_toInt ha, nI_toInt hb, nI_toInt h1]
  rw [show (a : Int).tdiv (b : Int) = ((a / b : Nat) : Int) by
    rw [Int.tdiv_eq_ediv_of_nonneg (by omega)]
    exact (Int.natCast_ediv a b).symm]
  generalize a / b = q at h1 ⊢
  exact Int.bmod_eq_of_le (by omega) (by omega)
theorem nI_rem {a b : Nat} (ha : a < 2 ^ 31) (hb : b < 2 ^ 31) : nI a - nI a / nI b * nI b = nI (a % b) := by
  rw [nI_div ha hb, nI_m]
  refine i32_cancel (b := nI (a / b * b)) ?_
  rw [Int32.sub_add_cancel, nI_add]
  congr 1
  have := Nat.mod_add_div a b
  rw [Nat.mul_comm (a / b) b]
  omega
theorem nI_sub {a b : Nat} (h : b ≤ a) : nI a - nI b = nI (a - b) := by
  rw [show nI a = nI (a - b) + nI b by rw [nI_add]; congr 1; omega, Int32.add_sub_cancel]
/-- minutes -/
def mins (d : Nat) : Nat := if 1 ≤ (d + 59) / 60 then (d + 59) / 60 else 1
theorem mins_max {d : Nat} (h : d ≤ 900001) : xmax 1 ((nI d + 59) / 60) = nI (mins d) := by
  rw [show (59 : Int32) = nI 59 from rfl, show (60 : Int32) = nI 60 from rfl, nI_add, nI_div (n31 (by omega)) (by decide)]
  unfold xmax mins
  rw [show (1 : Int32) = nI 1 from rfl]
  by_cases g : 1 ≤ (d + 59) / 60
  · rw [if_pos g]
    by_cases g1 : nI 1 < nI ((d + 59) / 60)
    · rw [if_pos g1]
    · rw [if_neg g1]
      have : ¬ 1 < (d + 59) / 60 := fun q => g1 ((nI_ltI (by decide) (n31 (by omega))).mpr q)
      congr 1
      omega
  · rw [if_neg g, if_neg (fun q => g (Nat.le_of_lt ((nI_ltI (by decide) (n31 (by omega))).mp q)))]
/-! one call -/
section S78
variable {S : Nat → Int32} {c T : Nat}
/-- how long it lasted, as isSound reckons -/
def secs (S : Nat → Int32) (c : Nat) : Int32 := (if sC S 4 c = 1 then S 0 else sC S 6 c) - sC S 5 c
theorem st_of (hx : MX S) (hc : c < mK S) : sC S 4 c = 0 ∨ sC S 4 c = 1 ∨ sC S 4 c = 2 ∨ sC S 4 c = 3 := (hx.c hc).1
theorem secs_ok (hx : MX S) (hp : PS S T) (he : PE S T) (hc : c < mK S) : ∃ d : Nat, d ≤ 900001 ∧ secs S c = nI d := by
  have hpc := hp.c hc
  have t9 := hp.t9
  unfold secs
  rcases st_of hx hc with h | h | h | h
  · rw [h, if_neg (by decide), hpc.1.mpr (Or.inl h), hpc.2.1.mpr (Or.inl h)]
    exact ⟨0, by omega, by decide⟩
  · obtain ⟨a, h1, h2, -⟩ := hpc.2.2.2.2 (Or.inl h)
    rw [h, if_pos rfl, hp.t, h1, nI_sub h2]
    exact ⟨_, by omega, rfl⟩
  · obtain ⟨a, h1, h2, h3⟩ := hpc.2.2.2.2 (Or.inr h)
    obtain ⟨b, h4, h5, h6⟩ := h3 h
    rw [h, if_neg (by decide), h4, h1, nI_sub h5]
    exact ⟨_, by omega, rfl⟩
  · obtain ⟨b, h4, h5⟩ := he c hc h
    rw [h, if_neg (by decide), h4, hpc.1.mpr (Or.inr h), Int32.sub_neg, nI_1]
    exact ⟨_, by omega, rfl⟩
theorem cost_of (hx : MX S) (hc : c < mK S) {d : Nat} (hd : d ≤ 900001) (hs : secs S c = nI d) : (if sC S 4 c = 0 ∨ sC S 4 c = 3 then 0 else if sC S 2 c = -1 then 5 else S (6 + cN (sC S 2 c)) * nI (mins d)) = mCost S c := by
  unfold mCost
  unfold secs at hs
  rcases st_of hx hc with h | h | h | h
  · rw [if_pos (Or.inl h), if_neg (by rw [h]; decide)]
  · rw [if_neg (by rw [h]; decide), if_pos (Or.inl h), hs, mins_max hd]
  · rw [if_neg (by rw [h]; decide), if_pos (Or.inr h), hs, mins_max hd]
  · rw [if_pos (Or.inr h), if_neg (by rw [h]; decide)]
/-- a waiting call's place -/
theorem zc_lt {p q : Nat → Prop} {j : Nat} (hp : ¬ p j) (hq : q j) (hpq : ∀ c, p c → q c) : ∀ n, j < n → cCnt p n < cCnt q n
  | n + 1, h => by
    by_cases g : j = n
    · subst g
      rw [cCnt_n hp, cCnt_y hq]
      exact Nat.lt_succ_of_le (zc_sub hpq j)
    · have ih := zc_lt hp hq hpq n (by omega)
      by_cases g1 : p n
      · rw [cCnt_y g1, cCnt_y (hpq n g1)]; omega
      · rw [cCnt_n g1]
        by_cases g2 : q n
        · rw [cCnt_y g2]; omega
        · rw [cCnt_n g2]; exact ih
where zc_sub {p q : Nat → Prop} (hpq : ∀ c, p c → q c) : ∀ n, cCnt p n ≤ cCnt q n
  | 0 => Nat.le_refl _
  | n + 1 => by
    have ih := zc_sub hpq n
    by_cases g1 : p n
    · rw [cCnt_y g1, cCnt_y (hpq n g1)]; omega
    · rw [cCnt_n g1]
      by_cases g2 : q n
      · rw [cCnt_y g2]; omega
      · rw [cCnt_n g2]; exact ih
theorem place_lt (hc : c < mK S) (h4 : sC S 4 c = 0) : cCnt (mAh S (sC S 3 c) (nI c)) (mK S) < cCnt (fun c => sC S 4 c = 0) (mK S) :=
  zc_lt (j := c) (fun q => q.2.elim Int32.lt_irrefl (fun z => Int32.lt_irrefl z.2)) h4 (fun _ q => q.1) _ hc
theorem why_b (hb : PB S) (hc : c < mK S) (h4 : sC S 4 c = 0) : mWhy S c = 1 ∨ mWhy S c = 2 ∨ mWhy S c = 3 := (why_ge (S := S) (c := c)).resolve_left (hb c hc h4)
theorem why_1 (h : mWhy S c = 1) : 0 < mLine S (sU S 0 (cN (sC S 0 c))) (mK S) := by
  refine Nat.pos_of_ne_zero (fun q => ?_)
  unfold mWhy at h
  rw [if_neg (by omega)] at h
  split at h
  · exact absurd h (by decide)
  · split at h
    · exact absurd h (by decide)
    · exact absurd h (by decide)
theorem why_3 (h : mWhy S c = 3) : S 2 - nI (mCords S (mK S)) = 0 := by
  unfold mWhy at h
  split at h
  · exact absurd h (by decide)
  · split at h
    · exact absurd h (by decide)
    · split at h
      · rename_i g
        rw [g.2, Int32.sub_self]
      · exact absurd h (by decide)
/-- lines, trunks and cords in one step -/
theorem lin_y (h4 : sC S 4 c = 1) (x : Int32) : mLine S x (c + 1) = mLine S x c + (if mUses S c x then 1 else 0) := by
  unfold mLine
  by_cases g : mUses S c x
  · rw [cCnt_y ⟨h4, g⟩, if_pos g]
  · rw [cCnt_n (fun q => g q.2), if_neg g, Nat.add_zero]
theorem lin_n (h4 : ¬ sC S 4 c = 1) (x : Int32) : mLine S x (c + 1) = mLine S x c := cCnt_n (fun q => h4 q.1)
theorem trk_y (h4 : sC S 4 c = 1) (x : Int32) : mTrk S x (c + 1) = mTrk S x c + (if sC S 2 c = x then 1 else 0) := by
  unfold mTrk
  by_cases g : sC S 2 c = x
  · rw [cCnt_y ⟨h4, g⟩, if_pos g]
  · rw [cCnt_n (fun q => g q.2), if_neg g, Nat.add_zero]
theorem trk_n (h4 : ¬ sC S 4 c = 1) (x : Int32) : mTrk S x (c + 1) = mTrk S x c := cCnt_n (fun q => h4 q.1)
theorem crd_y (h4 : sC S 4 c = 1) : mCords S (c + 1) = mCords S c + (if mOwn S c then 0 else 1) := by
  unfold mCords
  by_cases g : mOwn S c
  · rw [cCnt_n (fun q => q.2 g), if_pos g, Nat.add_zero]
  · rw [cCnt_y ⟨h4, g⟩, if_neg g]
theorem crd_n (h4 : ¬ sC S 4 c = 1) : mCords S (c + 1) = mCords S c := cCnt_n (fun q => h4 q.1)
/-- who knows most -/
theorem best_max {f : Nat → Int32} : ∀ n, 0 < n → ∀ k, k < n → f k ≤ f (mBest f n)
  | n + 1, _, k, hk => by
    unfold mBest
    by_cases g : f (mBest f n) < f n
    · rw [if_pos g]
      by_cases g1 : k = n
      · subst g1; exact Int32.le_refl _
      · exact Int32.le_trans (best_max n (by omega) k (by omega)) (Int32.le_of_lt g)
    · rw [if_neg g]
      by_cases g1 : k = n
      · subst g1; exact Int32.not_lt.mp g
      · exact best_max n (by omega) k (by omega)
theorem know_pos {u : Nat} (hu : u < mU S) (h : bt (sU S 4 u) u = true) : 0 < cCnt (fun w => bt (sU S 4 w) u = true) (mU S) := by
  have : ∀ n, u < n → 0 < cCnt (fun w => bt (sU S 4 w) u = true) n := by
    intro n
    induction n with
    | zero => intro q; omega
    | succ n ih =>
      intro q
      by_cases g : bt (sU S 4 n) u = true
      · rw [cCnt_y (q := fun w => bt (sU S 4 w) u = true) g]; omega
      · rw [cCnt_n (q := fun w => bt (sU S 4 w) u = true) g]
        refine ih ?_
        by_cases g1 : u = n
        · subst g1; exact absurd h g
        · omega
  exact this _ hu
end S78


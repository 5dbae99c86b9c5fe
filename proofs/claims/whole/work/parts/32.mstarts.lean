/-! THE REFERENCE: calls start and end -/
theorem sC_upd {S : Nat → Int32} {k w c : Nat} {v : Int32} (h : 190 + 9 * c + w ≠ k) : sC (upd S k v) w c = sC S w c := upd_ne h
/-- the row in which call c has been asked for -/
def mReq0 (S : Nat → Int32) (x y t u : Int32) : Nat → Int32 :=
  upd (upd (upd (upd (upd (upd (upd (upd (upd (upd S 5 (nI (mK S + 1))) (190 + 9 * mK S + 0) x) (190 + 9 * mK S + 1) y) (190 + 9 * mK S + 2) t) (190 + 9 * mK S + 3) u) (190 + 9 * mK S + 4) 0) (190 + 9 * mK S + 5) (-1)) (190 + 9 * mK S + 6) (-1)) (190 + 9 * mK S + 7) 0) (190 + 9 * mK S + 8) 100
theorem mReq0_o {S : Nat → Int32} {x y t u : Int32} {n : Nat} (h : n ≠ 5) (h2 : n < 190 + 9 * mK S ∨ 199 + 9 * mK S ≤ n) : mReq0 S x y t u n = S n := by
  unfold mReq0
  rw [upd_ne (by omega), upd_ne (by omega), upd_ne (by omega), upd_ne (by omega), upd_ne (by omega), upd_ne (by omega), upd_ne (by omega), upd_ne (by omega), upd_ne (by omega), upd_ne (by omega)]
theorem mReq0_5 {S : Nat → Int32} {x y t u : Int32} : mReq0 S x y t u 5 = nI (mK S + 1) := by
  unfold mReq0
  rw [upd_ne (by omega), upd_ne (by omega), upd_ne (by omega), upd_ne (by omega), upd_ne (by omega), upd_ne (by omega), upd_ne (by omega), upd_ne (by omega), upd_ne (by omega), upd_at]
theorem mReq0_c {S : Nat → Int32} {x y t u : Int32} : sC (mReq0 S x y t u) 0 (mK S) = x ∧ sC (mReq0 S x y t u) 1 (mK S) = y ∧ sC (mReq0 S x y t u) 2 (mK S) = t ∧ sC (mReq0 S x y t u) 3 (mK S) = u ∧ sC (mReq0 S x y t u) 4 (mK S) = 0 ∧ sC (mReq0 S x y t u) 5 (mK S) = -1 ∧ sC (mReq0 S x y t u) 6 (mK S) = -1 ∧ sC (mReq0 S x y t u) 7 (mK S) = 0 ∧ sC (mReq0 S x y t u) 8 (mK S) = 100 := by
  unfold mReq0 sC
  refine ⟨?_, ?_, ?_, ?_, ?_, ?_, ?_, ?_, ?_⟩ <;> simp [upd]
theorem mReq0_K {S : Nat → Int32} {x y t u : Int32} (hk : mK S < 40) : mK (mReq0 S x y t u) = mK S + 1 := by
  rw [mK, mReq0_5, cN, nI_clamp (n31 (by omega))]
theorem MI.req {S : Nat → Int32} {x y t u : Int32} (h : MI S) (hk : mK S < 40) (hx : xok x (mU S)) (hyt : (t = -1 ∧ xok y (mU S)) ∨ (y = -1 ∧ xok t (mT S))) : MI (mReq0 S x y t u) := by
  have e5 := mReq0_K (x := x) (y := y) (t := t) (u := u) hk
  have o : ∀ n, n ≠ 5 → n < 190 + 9 * mK S ∨ 199 + 9 * mK S ≤ n → mReq0 S x y t u n = S n := fun n h1 h2 => mReq0_o h1 h2
  have eu : mU (mReq0 S x y t u) = mU S := by rw [mU, mU, o 4 (by decide) (by omega)]
  have et : mT (mReq0 S x y t u) = mT S := by rw [mT, mT, o 3 (by decide) (by omega)]
  have el : mL (mReq0 S x y t u) = mL S := by rw [mL, mL, o 1 (by decide) (by omega)]
  refine ⟨?_, ?_, ?_, ?_, ?_, ?_, ?_, ?_, ?_⟩
  · rw [el, o 1 (by decide) (by omega)]; exact h.l
  · rw [el]; exact h.l6
  · rw [et, o 3 (by decide) (by omega)]; exact h.t
  · rw [et]; exact h.t4
  · rw [eu, o 4 (by decide) (by omega)]; exact h.u
  · rw [eu]; exact h.u15
  · rw [e5, mReq0_5]
  · rw [e5]; omega
  · intro c hc
    rw [e5] at hc
    rw [eu, et]
    by_cases g : c = mK S
    · subst g
      obtain ⟨q0, q1, q2, -⟩ := mReq0_c (S := S) (x := x) (y := y) (t := t) (u := u)
      unfold CR
      rw [q0, q1, q2]
      exact ⟨hx, hyt⟩
    · have e : ∀ w, w < 3 → sC (mReq0 S x y t u) w c = sC S w c := fun w hw => o _ (by omega) (by omega)
      have := h.c (c := c) (by omega)
      unfold CR at this ⊢
      rw [e 0 (by decide), e 1 (by decide), e 2 (by decide)]
      exact this
noncomputable def mReq (S : Nat → Int32) (x y t u : Int32) : Nat → Int32 := if mWhy (mReq0 S x y t u) (mK S) = 0 then mStart (mReq0 S x y t u) (mK S) else mReq0 S x y t u
theorem MI.req1 {S : Nat → Int32} {x y t u : Int32} (h : MI S) (hk : mK S < 40) (hx : xok x (mU S)) (hyt : (t = -1 ∧ xok y (mU S)) ∨ (y = -1 ∧ xok t (mT S))) : MI (mReq S x y t u) := by
  unfold mReq
  split
  · exact (h.req hk hx hyt).start (by rw [mReq0_K hk]; omega)
  · exact h.req hk hx hyt
/-- the first waiting calls of urgency u start -/
noncomputable def mWait (S : Nat → Int32) (u : Int32) : Nat → (Nat → Int32) × Nat
  | 0 => (S, 0)
  | k + 1 => if sC (mWait S u k).1 4 k = 0 ∧ sC (mWait S u k).1 3 k = u ∧ mWhy (mWait S u k).1 k = 0 then (mStart (mWait S u k).1 k, (mWait S u k).2 + 1) else mWait S u k
theorem mWait_y {S : Nat → Int32} {u : Int32} {k : Nat} (h : sC (mWait S u k).1 4 k = 0 ∧ sC (mWait S u k).1 3 k = u ∧ mWhy (mWait S u k).1 k = 0) : mWait S u (k + 1) = (mStart (mWait S u k).1 k, (mWait S u k).2 + 1) := if_pos h
theorem mWait_n {S : Nat → Int32} {u : Int32} {k : Nat} (h : ¬ (sC (mWait S u k).1 4 k = 0 ∧ sC (mWait S u k).1 3 k = u ∧ mWhy (mWait S u k).1 k = 0)) : mWait S u (k + 1) = mWait S u k := if_neg h
theorem mK_fx {S S1 : Nat → Int32} (h : ∀ n, fx n → S1 n = S n) : mK S1 = mK S := by rw [mK, mK, h 5 (Or.inl (by decide))]
theorem mWait_fx {S : Nat → Int32} {u : Int32} (hM : MI S) : ∀ k, k ≤ mK S → ∀ n, fx n → (mWait S u k).1 n = S n
  | 0, _, n, _ => rfl
  | k + 1, hk, n, hn => by
    have ih := mWait_fx (u := u) hM k (by omega)
    by_cases g : sC (mWait S u k).1 4 k = 0 ∧ sC (mWait S u k).1 3 k = u ∧ mWhy (mWait S u k).1 k = 0
    · rw [mWait_y g]
      show mStart (mWait S u k).1 k n = S n
      rw [mStart_fx (hM.fx ih) (by rw [mK_fx ih]; omega) n hn, ih n hn]
    · rw [mWait_n g]
      exact ih n hn
theorem mWait_le (S : Nat → Int32) (u : Int32) : ∀ k, (mWait S u k).2 ≤ k
  | 0 => Nat.le_refl _
  | k + 1 => by
    have ih := mWait_le S u k
    by_cases g : sC (mWait S u k).1 4 k = 0 ∧ sC (mWait S u k).1 3 k = u ∧ mWhy (mWait S u k).1 k = 0
    · rw [mWait_y g]; show (mWait S u k).2 + 1 ≤ k + 1; omega
    · rw [mWait_n g]; omega
noncomputable def mWaits (S : Nat → Int32) : (Nat → Int32) × Nat := ((mWait (mWait S 1 (mK S)).1 0 (mK S)).1, (mWait S 1 (mK S)).2 + (mWait (mWait S 1 (mK S)).1 0 (mK S)).2)
def mFin0 (S : Nat → Int32) (c : Nat) : Nat → Int32 := upd (upd (upd S (10 + 12 * cN (sC S 0 c) + 3) (sU S 3 (cN (sC S 0 c)) + mCost S c)) (190 + 9 * c + 4) (if sC S 4 c = 1 then 2 else 3)) (190 + 9 * c + 6) (S 0)
theorem mFin0_fx {S : Nat → Int32} {c : Nat} (hM : MI S) (hc : c < mK S) : ∀ n, fx n → mFin0 S c n = S n := fun n hn => by
  have h1 := (hM.ca hc).1
  have hk := hM.k40
  unfold mFin0
  rcases hn with h | ⟨h, h2⟩
  · rw [upd_ne (by omega), upd_ne (by omega), upd_ne (by omega)]
  · rw [upd_ne (by omega), upd_ne (by omega), upd_ne (by omega)]
noncomputable def mFin (S : Nat → Int32) (c : Nat) : (Nat → Int32) × Nat := mWaits (mFin0 S c)
theorem mWaits_fx {S : Nat → Int32} (hM : MI S) : ∀ n, fx n → (mWaits S).1 n = S n := fun n hn => by
  have h1 := mWait_fx (u := 1) hM (mK S) (Nat.le_refl _)
  have h2 := mWait_fx (u := 0) (hM.fx h1) (mK S) (by rw [mK_fx h1]; omega) n hn
  show (mWait (mWait S 1 (mK S)).1 0 (mK S)).1 n = S n
  rw [h2, h1 n hn]
theorem mFin_fx {S : Nat → Int32} {c : Nat} (hM : MI S) (hc : c < mK S) : ∀ n, fx n → (mFin S c).1 n = S n := fun n hn => by
  show (mWaits (mFin0 S c)).1 n = S n
  rw [mWaits_fx (hM.fx (mFin0_fx hM hc)) n hn, mFin0_fx hM hc n hn]
theorem MI.fin {S : Nat → Int32} {c : Nat} (hM : MI S) (hc : c < mK S) : MI (mFin S c).1 := hM.fx (mFin_fx hM hc)
section XP32
variable {p : Program} {l : Launch} {e : Env} {R : Room} {s : State} {m : MethodId} {args : Array Value} {below : List Frame} {meth : Method} {c : Code} {P : XP} {A : Nat → Prop} {nL cells slots : Nat} {Q : State → Prop} {cc : ByteArray} {ret : Option FieldType} {σ : XS} {pc : Nat} {lv : List (Nat × Value)} {st : List Value}
set_option maxRecDepth 100000 in
set_option maxHeartbeats 4000000 in
theorem c_X7_cost (l : Launch) (P : XP) (τ : XS) (S F L : Nat → Int32) (h1 : xI1 P) (hM : MI S) (j : Nat) (hj : j < mK S) (x : Int32) (hx : x = nI j) : XF l yX7_cost cX7_cost 4 (some .int) rm_X7_cost P [.ref (P.2.2.1 (.inr 9)), .int x] (mW τ S F L) (some (.int (mCost S j))) (mW τ S F L) := by
  refine XM.of (by decide +kernel) (Nat.le_of_ble_eq_true rfl) (fun p e s m args below meth c A C => ?_)
  replace C : XC p s m args meth c P A 4 RX7 cX7_cost (some .int) := C
  refine XW.eq (lv' := [(0, _), (1, _)]) rfl rfl rfl ?_
  refine X_aload_n (pc := 0) C 0 dX7_cost_0 rfl rfl ?_
  refine X_iload_n (pc := 1) C 1 dX7_cost_1 rfl rfl ?_
  refine X_iconst (pc := 2) (v := 4) C dX7_cost_2 (by decide) ?_
  refine K_X7_88 (pc := 3) C (by assumption) (c_X7_ofCall l P τ S F L h1 j 4 (by have := hM.k40; omega) (by decide) _ 4 hx rfl) ⟨Nat.le_of_ble_eq_true rfl, Nat.le_of_ble_eq_true rfl⟩ ⟨rfl, rfl⟩ ⟨Nat.zero_le _, Nat.zero_le _⟩ (Nat.le_of_ble_eq_true rfl) dX7_cost_3 ?_
  refine X_istore_n (pc := 6) (lv1 := [(0, _), (1, _), (2, _)]) C 2 dX7_cost_6 rfl (by decide) rfl ?_
  refine X_iload_n (pc := 7) C 2 dX7_cost_7 rfl rfl ?_
  refine X_iconst (pc := 8) (v := 1) C dX7_cost_8 (by decide) ?_
  refine X_icmp_eq (pc := 9) C 19 dX7_cost_9 (by decide) (fun h9 => ?_) (fun h9 => ?_)
  · skip
    refine X_aload_n (pc := 19) C 0 dX7_cost_19 rfl rfl ?_
    refine X_iload_n (pc := 20) C 1 dX7_cost_20 rfl rfl ?_
    refine X_iconst (pc := 21) (v := 2) C dX7_cost_21 (by decide) ?_
    refine K_X7_88 (pc := 22) C (by assumption) (c_X7_ofCall l P τ S F L h1 j 2 (by have := hM.k40; omega) (by decide) _ 2 hx rfl) ⟨Nat.le_of_ble_eq_true rfl, Nat.le_of_ble_eq_true rfl⟩ ⟨rfl, rfl⟩ ⟨Nat.zero_le _, Nat.zero_le _⟩ (Nat.le_of_ble_eq_true rfl) dX7_cost_22 ?_
    refine X_iconst (pc := 25) (v := (-1)) C dX7_cost_25 (by decide) ?_
    refine X_icmp_ne (pc := 26) C 31 dX7_cost_26 (by decide) (fun h26 => ?_) (fun h26 => ?_)
    · have g26 := hM.tr hj h26
      refine X_iload_n (pc := 31) C 2 dX7_cost_31 rfl rfl ?_
      refine X_iconst (pc := 32) (v := 1) C dX7_cost_32 (by decide) ?_
      refine X_icmp_ne (pc := 33) C 45 dX7_cost_33 (by decide) (fun h33 => ?_) (fun h33 => ?_)
      · skip
        refine X_aload_n (pc := 45) C 0 dX7_cost_45 rfl rfl ?_
        refine X_iload_n (pc := 46) C 1 dX7_cost_46 rfl rfl ?_
        refine X_bipush (pc := 47) (v := 6) C dX7_cost_47 (by decide) ?_
        refine K_X7_88 (pc := 49) C (by assumption) (c_X7_ofCall l P τ S F L h1 j 6 (by have := hM.k40; omega) (by decide) _ 6 hx rfl) ⟨Nat.le_of_ble_eq_true rfl, Nat.le_of_ble_eq_true rfl⟩ ⟨rfl, rfl⟩ ⟨Nat.zero_le _, Nat.zero_le _⟩ (Nat.le_of_ble_eq_true rfl) dX7_cost_49 ?_
        refine X_aload_n (pc := 52) C 0 dX7_cost_52 rfl rfl ?_
        refine X_iload_n (pc := 53) C 1 dX7_cost_53 rfl rfl ?_
        refine X_iconst (pc := 54) (v := 5) C dX7_cost_54 (by decide) ?_
        refine K_X7_88 (pc := 55) C (by assumption) (c_X7_ofCall l P τ S F L h1 j 5 (by have := hM.k40; omega) (by decide) _ 5 hx rfl) ⟨Nat.le_of_ble_eq_true rfl, Nat.le_of_ble_eq_true rfl⟩ ⟨rfl, rfl⟩ ⟨Nat.zero_le _, Nat.zero_le _⟩ (Nat.le_of_ble_eq_true rfl) dX7_cost_55 ?_
        refine X_isub (pc := 58) C dX7_cost_58 ?_
        refine X_istore_n (pc := 59) (lv1 := [(0, _), (1, _), (2, _), (3, _)]) C 3 dX7_cost_59 rfl (by decide) rfl ?_
        refine X_aload_n (pc := 60) C 0 dX7_cost_60 rfl rfl ?_
        refine G_X7_9 (pc := 61) C (by assumption) dX7_cost_61 ?_
        refine X_bipush (pc := 64) (v := 6) C dX7_cost_64 (by decide) ?_
        refine X_aload_n (pc := 66) C 0 dX7_cost_66 rfl rfl ?_
        refine X_iload_n (pc := 67) C 1 dX7_cost_67 rfl rfl ?_
        refine X_iconst (pc := 68) (v := 2) C dX7_cost_68 (by decide) ?_
        refine K_X7_88 (pc := 69) C (by assumption) (c_X7_ofCall l P τ S F L h1 j 2 (by have := hM.k40; omega) (by decide) _ 2 hx rfl) ⟨Nat.le_of_ble_eq_true rfl, Nat.le_of_ble_eq_true rfl⟩ ⟨rfl, rfl⟩ ⟨Nat.zero_le _, Nat.zero_le _⟩ (Nat.le_of_ble_eq_true rfl) dX7_cost_69 ?_
        refine X_iadd (pc := 72) C dX7_cost_72 ?_
        rw [tix g26.2]
        refine X_ialdN (pc := 73) C (by first | exact h1 _ (by decide) (by decide)) rfl (by have := g26.1; omega) (by decide) dX7_cost_73 ?_
        rw [mW_10]
        refine X_iconst (pc := 74) (v := 1) C dX7_cost_74 (by decide) ?_
        refine X_iload_n (pc := 75) C 3 dX7_cost_75 rfl rfl ?_
        refine X_bipush (pc := 76) (v := 59) C dX7_cost_76 (by decide) ?_
        refine X_iadd (pc := 78) C dX7_cost_78 ?_
        refine X_bipush (pc := 79) (v := 60) C dX7_cost_79 (by decide) ?_
        refine X_idiv (pc := 81) C dX7_cost_81 (by decide) ?_
        refine X_mmax (pc := 82) C m_m_X7_137 (Nat.le_of_ble_eq_true rfl) (Nat.le_of_ble_eq_true rfl) ⟨Nat.zero_le _, Nat.zero_le _⟩ dX7_cost_82 ?_
        refine X_imul (pc := 85) C dX7_cost_85 ?_
        exact X_iret (pc := 86) C (Nat.zero_le _) (Nat.zero_le _) dX7_cost_86 ⟨by rw [mCost, if_pos (Or.inl h9), if_neg h26, if_neg h33, xmax], rfl⟩
      · skip
        refine X_aload_n (pc := 36) C 0 dX7_cost_36 rfl rfl ?_
        refine G_X7_9 (pc := 37) C (by assumption) dX7_cost_37 ?_
        refine X_iconst (pc := 40) (v := 0) C dX7_cost_40 (by decide) ?_
        refine X_ialdN (j := 0) (pc := 41) C (by first | exact h1 _ (by decide) (by decide)) rfl (by omega) (by decide) dX7_cost_41 ?_
        rw [mW_10]
        refine X_goto (pc := 42) C 52 dX7_cost_42 (by decide) ?_
        refine X_aload_n (pc := 52) C 0 dX7_cost_52 rfl rfl ?_
        refine X_iload_n (pc := 53) C 1 dX7_cost_53 rfl rfl ?_
        refine X_iconst (pc := 54) (v := 5) C dX7_cost_54 (by decide) ?_
        refine K_X7_88 (pc := 55) C (by assumption) (c_X7_ofCall l P τ S F L h1 j 5 (by have := hM.k40; omega) (by decide) _ 5 hx rfl) ⟨Nat.le_of_ble_eq_true rfl, Nat.le_of_ble_eq_true rfl⟩ ⟨rfl, rfl⟩ ⟨Nat.zero_le _, Nat.zero_le _⟩ (Nat.le_of_ble_eq_true rfl) dX7_cost_55 ?_
        refine X_isub (pc := 58) C dX7_cost_58 ?_
        refine X_istore_n (pc := 59) (lv1 := [(0, _), (1, _), (2, _), (3, _)]) C 3 dX7_cost_59 rfl (by decide) rfl ?_
        refine X_aload_n (pc := 60) C 0 dX7_cost_60 rfl rfl ?_
        refine G_X7_9 (pc := 61) C (by assumption) dX7_cost_61 ?_
        refine X_bipush (pc := 64) (v := 6) C dX7_cost_64 (by decide) ?_
        refine X_aload_n (pc := 66) C 0 dX7_cost_66 rfl rfl ?_
        refine X_iload_n (pc := 67) C 1 dX7_cost_67 rfl rfl ?_
        refine X_iconst (pc := 68) (v := 2) C dX7_cost_68 (by decide) ?_
        refine K_X7_88 (pc := 69) C (by assumption) (c_X7_ofCall l P τ S F L h1 j 2 (by have := hM.k40; omega) (by decide) _ 2 hx rfl) ⟨Nat.le_of_ble_eq_true rfl, Nat.le_of_ble_eq_true rfl⟩ ⟨rfl, rfl⟩ ⟨Nat.zero_le _, Nat.zero_le _⟩ (Nat.le_of_ble_eq_true rfl) dX7_cost_69 ?_
        refine X_iadd (pc := 72) C dX7_cost_72 ?_
        rw [tix g26.2]
        refine X_ialdN (pc := 73) C (by first | exact h1 _ (by decide) (by decide)) rfl (by have := g26.1; omega) (by decide) dX7_cost_73 ?_
        rw [mW_10]
        refine X_iconst (pc := 74) (v := 1) C dX7_cost_74 (by decide) ?_
        refine X_iload_n (pc := 75) C 3 dX7_cost_75 rfl rfl ?_
        refine X_bipush (pc := 76) (v := 59) C dX7_cost_76 (by decide) ?_
        refine X_iadd (pc := 78) C dX7_cost_78 ?_
        refine X_bipush (pc := 79) (v := 60) C dX7_cost_79 (by decide) ?_
        refine X_idiv (pc := 81) C dX7_cost_81 (by decide) ?_
        refine X_mmax (pc := 82) C m_m_X7_137 (Nat.le_of_ble_eq_true rfl) (Nat.le_of_ble_eq_true rfl) ⟨Nat.zero_le _, Nat.zero_le _⟩ dX7_cost_82 ?_
        refine X_imul (pc := 85) C dX7_cost_85 ?_
        exact X_iret (pc := 86) C (Nat.zero_le _) (Nat.zero_le _) dX7_cost_86 ⟨by rw [mCost, if_pos (Or.inl h9), if_neg h26, if_pos h33, xmax], rfl⟩
    · skip
      refine X_iconst (pc := 29) (v := 5) C dX7_cost_29 (by decide) ?_
      exact X_iret (pc := 30) C (Nat.zero_le _) (Nat.zero_le _) dX7_cost_30 ⟨by rw [mCost, if_pos (Or.inl h9), if_pos h26], rfl⟩
  · skip
    refine X_iload_n (pc := 12) C 2 dX7_cost_12 rfl rfl ?_
    refine X_iconst (pc := 13) (v := 2) C dX7_cost_13 (by decide) ?_
    refine X_icmp_eq (pc := 14) C 19 dX7_cost_14 (by decide) (fun h14 => ?_) (fun h14 => ?_)
    · skip
      refine X_aload_n (pc := 19) C 0 dX7_cost_19 rfl rfl ?_
      refine X_iload_n (pc := 20) C 1 dX7_cost_20 rfl rfl ?_
      refine X_iconst (pc := 21) (v := 2) C dX7_cost_21 (by decide) ?_
      refine K_X7_88 (pc := 22) C (by assumption) (c_X7_ofCall l P τ S F L h1 j 2 (by have := hM.k40; omega) (by decide) _ 2 hx rfl) ⟨Nat.le_of_ble_eq_true rfl, Nat.le_of_ble_eq_true rfl⟩ ⟨rfl, rfl⟩ ⟨Nat.zero_le _, Nat.zero_le _⟩ (Nat.le_of_ble_eq_true rfl) dX7_cost_22 ?_
      refine X_iconst (pc := 25) (v := (-1)) C dX7_cost_25 (by decide) ?_
      refine X_icmp_ne (pc := 26) C 31 dX7_cost_26 (by decide) (fun h26 => ?_) (fun h26 => ?_)
      · have g26 := hM.tr hj h26
        refine X_iload_n (pc := 31) C 2 dX7_cost_31 rfl rfl ?_
        refine X_iconst (pc := 32) (v := 1) C dX7_cost_32 (by decide) ?_
        refine X_icmp_ne (pc := 33) C 45 dX7_cost_33 (by decide) (fun h33 => ?_) (fun h33 => ?_)
        · skip
          refine X_aload_n (pc := 45) C 0 dX7_cost_45 rfl rfl ?_
          refine X_iload_n (pc := 46) C 1 dX7_cost_46 rfl rfl ?_
          refine X_bipush (pc := 47) (v := 6) C dX7_cost_47 (by decide) ?_
          refine K_X7_88 (pc := 49) C (by assumption) (c_X7_ofCall l P τ S F L h1 j 6 (by have := hM.k40; omega) (by decide) _ 6 hx rfl) ⟨Nat.le_of_ble_eq_true rfl, Nat.le_of_ble_eq_true rfl⟩ ⟨rfl, rfl⟩ ⟨Nat.zero_le _, Nat.zero_le _⟩ (Nat.le_of_ble_eq_true rfl) dX7_cost_49 ?_
          refine X_aload_n (pc := 52) C 0 dX7_cost_52 rfl rfl ?_
          refine X_iload_n (pc := 53) C 1 dX7_cost_53 rfl rfl ?_
          refine X_iconst (pc := 54) (v := 5) C dX7_cost_54 (by decide) ?_
          refine K_X7_88 (pc := 55) C (by assumption) (c_X7_ofCall l P τ S F L h1 j 5 (by have := hM.k40; omega) (by decide) _ 5 hx rfl) ⟨Nat.le_of_ble_eq_true rfl, Nat.le_of_ble_eq_true rfl⟩ ⟨rfl, rfl⟩ ⟨Nat.zero_le _, Nat.zero_le _⟩ (Nat.le_of_ble_eq_true rfl) dX7_cost_55 ?_
          refine X_isub (pc := 58) C dX7_cost_58 ?_
          refine X_istore_n (pc := 59) (lv1 := [(0, _), (1, _), (2, _), (3, _)]) C 3 dX7_cost_59 rfl (by decide) rfl ?_
          refine X_aload_n (pc := 60) C 0 dX7_cost_60 rfl rfl ?_
          refine G_X7_9 (pc := 61) C (by assumption) dX7_cost_61 ?_
          refine X_bipush (pc := 64) (v := 6) C dX7_cost_64 (by decide) ?_
          refine X_aload_n (pc := 66) C 0 dX7_cost_66 rfl rfl ?_
          refine X_iload_n (pc := 67) C 1 dX7_cost_67 rfl rfl ?_
          refine X_iconst (pc := 68) (v := 2) C dX7_cost_68 (by decide) ?_
          refine K_X7_88 (pc := 69) C (by assumption) (c_X7_ofCall l P τ S F L h1 j 2 (by have := hM.k40; omega) (by decide) _ 2 hx rfl) ⟨Nat.le_of_ble_eq_true rfl, Nat.le_of_ble_eq_true rfl⟩ ⟨rfl, rfl⟩ ⟨Nat.zero_le _, Nat.zero_le _⟩ (Nat.le_of_ble_eq_true rfl) dX7_cost_69 ?_
          refine X_iadd (pc := 72) C dX7_cost_72 ?_
          rw [tix g26.2]
          refine X_ialdN (pc := 73) C (by first | exact h1 _ (by decide) (by decide)) rfl (by have := g26.1; omega) (by decide) dX7_cost_73 ?_
          rw [mW_10]
          refine X_iconst (pc := 74) (v := 1) C dX7_cost_74 (by decide) ?_
          refine X_iload_n (pc := 75) C 3 dX7_cost_75 rfl rfl ?_
          refine X_bipush (pc := 76) (v := 59) C dX7_cost_76 (by decide) ?_
          refine X_iadd (pc := 78) C dX7_cost_78 ?_
          refine X_bipush (pc := 79) (v := 60) C dX7_cost_79 (by decide) ?_
          refine X_idiv (pc := 81) C dX7_cost_81 (by decide) ?_
          refine X_mmax (pc := 82) C m_m_X7_137 (Nat.le_of_ble_eq_true rfl) (Nat.le_of_ble_eq_true rfl) ⟨Nat.zero_le _, Nat.zero_le _⟩ dX7_cost_82 ?_
          refine X_imul (pc := 85) C dX7_cost_85 ?_
          exact X_iret (pc := 86) C (Nat.zero_le _) (Nat.zero_le _) dX7_cost_86 ⟨by rw [mCost, if_pos (Or.inr h14), if_neg h26, if_neg h33, xmax], rfl⟩
        · skip
          refine X_aload_n (pc := 36) C 0 dX7_cost_36 rfl rfl ?_
          refine G_X7_9 (pc := 37) C (by assumption) dX7_cost_37 ?_
          refine X_iconst (pc := 40) (v := 0) C dX7_cost_40 (by decide) ?_
          refine X_ialdN (j := 0) (pc := 41) C (by first | exact h1 _ (by decide) (by decide)) rfl (by omega) (by decide) dX7_cost_41 ?_
          rw [mW_10]
          refine X_goto (pc := 42) C 52 dX7_cost_42 (by decide) ?_
          refine X_aload_n (pc := 52) C 0 dX7_cost_52 rfl rfl ?_
          refine X_iload_n (pc := 53) C 1 dX7_cost_53 rfl rfl ?_
          refine X_iconst (pc := 54) (v := 5) C dX7_cost_54 (by decide) ?_
          refine K_X7_88 (pc := 55) C (by assumption) (c_X7_ofCall l P τ S F L h1 j 5 (by have := hM.k40; omega) (by decide) _ 5 hx rfl) ⟨Nat.le_of_ble_eq_true rfl, Nat.le_of_ble_eq_true rfl⟩ ⟨rfl, rfl⟩ ⟨Nat.zero_le _, Nat.zero_le _⟩ (Nat.le_of_ble_eq_true rfl) dX7_cost_55 ?_
          refine X_isub (pc := 58) C dX7_cost_58 ?_
          refine X_istore_n (pc := 59) (lv1 := [(0, _), (1, _), (2, _), (3, _)]) C 3 dX7_cost_59 rfl (by decide) rfl ?_
          refine X_aload_n (pc := 60) C 0 dX7_cost_60 rfl rfl ?_
          refine G_X7_9 (pc := 61) C (by assumption) dX7_cost_61 ?_
          refine X_bipush (pc := 64) (v := 6) C dX7_cost_64 (by decide) ?_
          refine X_aload_n (pc := 66) C 0 dX7_cost_66 rfl rfl ?_
          refine X_iload_n (pc := 67) C 1 dX7_cost_67 rfl rfl ?_
          refine X_iconst (pc := 68) (v := 2) C dX7_cost_68 (by decide) ?_
          refine K_X7_88 (pc := 69) C (by assumption) (c_X7_ofCall l P τ S F L h1 j 2 (by have := hM.k40; omega) (by decide) _ 2 hx rfl) ⟨Nat.le_of_ble_eq_true rfl, Nat.le_of_ble_eq_true rfl⟩ ⟨rfl, rfl⟩ ⟨Nat.zero_le _, Nat.zero_le _⟩ (Nat.le_of_ble_eq_true rfl) dX7_cost_69 ?_
          refine X_iadd (pc := 72) C dX7_cost_72 ?_
          rw [tix g26.2]
          refine X_ialdN (pc := 73) C (by first | exact h1 _ (by decide) (by decide)) rfl (by have := g26.1; omega) (by decide) dX7_cost_73 ?_
          rw [mW_10]
          refine X_iconst (pc := 74) (v := 1) C dX7_cost_74 (by decide) ?_
          refine X_iload_n (pc := 75) C 3 dX7_cost_75 rfl rfl ?_
          refine X_bipush (pc := 76) (v := 59) C dX7_cost_76 (by decide) ?_
          refine X_iadd (pc := 78) C dX7_cost_78 ?_
          refine X_bipush (pc := 79) (v := 60) C dX7_cost_79 (by decide) ?_
          refine X_idiv (pc := 81) C dX7_cost_81 (by decide) ?_
          refine X_mmax (pc := 82) C m_m_X7_137 (Nat.le_of_ble_eq_true rfl) (Nat.le_of_ble_eq_true rfl) ⟨Nat.zero_le _, Nat.zero_le _⟩ dX7_cost_82 ?_
          refine X_imul (pc := 85) C dX7_cost_85 ?_
          exact X_iret (pc := 86) C (Nat.zero_le _) (Nat.zero_le _) dX7_cost_86 ⟨by rw [mCost, if_pos (Or.inr h14), if_neg h26, if_pos h33, xmax], rfl⟩
      · skip
        refine X_iconst (pc := 29) (v := 5) C dX7_cost_29 (by decide) ?_
        exact X_iret (pc := 30) C (Nat.zero_le _) (Nat.zero_le _) dX7_cost_30 ⟨by rw [mCost, if_pos (Or.inr h14), if_pos h26], rfl⟩
    · skip
      refine X_iconst (pc := 17) (v := 0) C dX7_cost_17 (by decide) ?_
      exact X_iret (pc := 18) C (Nat.zero_le _) (Nat.zero_le _) dX7_cost_18 ⟨by rw [mCost, if_neg (fun q => q.elim h9 h14)], rfl⟩

set_option maxRecDepth 100000 in
set_option maxHeartbeats 4000000 in
theorem c_X7_waits (l : Launch) (P : XP) (τ : XS) (S F L : Nat → Int32) (h1 : xI1 P) (v : Int32) : XF l yX7_waits cX7_waits 2 (some .int) rm_X7_waits P [.ref (P.2.2.1 (.inr 9)), .int v] (mW τ S F L) (some (.int (S 0 + v))) (mW τ (upd S 0 (S 0 + v)) F L) := by
  refine XM.of (by decide +kernel) (Nat.le_of_ble_eq_true rfl) (fun p e s m args below meth c A C => ?_)
  replace C : XC p s m args meth c P A 2 RX7 cX7_waits (some .int) := C
  refine XW.eq (lv' := [(0, _), (1, _)]) rfl rfl rfl ?_
  refine X_aload_n (pc := 0) C 0 dX7_waits_0 rfl rfl ?_
  refine G_X7_9 (pc := 1) C (by assumption) dX7_waits_1 ?_
  refine X_iconst (pc := 4) (v := 0) C dX7_waits_4 (by decide) ?_
  refine X_dup2 (pc := 5) C dX7_waits_5 rfl rfl ?_
  refine X_ialdN (j := 0) (pc := 6) C (by first | exact h1 _ (by decide) (by decide)) rfl (by omega) (by decide) dX7_waits_6 ?_
  rw [mW_10]
  refine X_iload_n (pc := 7) C 1 dX7_waits_7 rfl rfl ?_
  refine X_iadd (pc := 8) C dX7_waits_8 ?_
  refine X_iastN (j := 0) (pc := 9) C (by first | exact h1 _ (by decide) (by decide)) rfl (by omega) (by decide) dX7_waits_9 ?_
  rw [mW_u10]
  refine X_aload_n (pc := 10) C 0 dX7_waits_10 rfl rfl ?_
  refine G_X7_9 (pc := 11) C (by assumption) dX7_waits_11 ?_
  refine X_iconst (pc := 14) (v := 0) C dX7_waits_14 (by decide) ?_
  refine X_ialdN (j := 0) (pc := 15) C (by first | exact h1 _ (by decide) (by decide)) rfl (by omega) (by decide) dX7_waits_15 ?_
  rw [mW_10]
  rw [upd_at]
  exact X_iret (pc := 16) C (Nat.zero_le _) (Nat.zero_le _) dX7_waits_16 ⟨rfl, rfl⟩

set_option maxRecDepth 100000 in
set_option maxHeartbeats 4000000 in
theorem c_X7_setsMood (l : Launch) (P : XP) (τ : XS) (S F L : Nat → Int32) (h1 : xI1 P) (j : Nat) (hj : j < 15) (v : Int32) : XF l yX7_setsMood cX7_setsMood 4 (some .int) rm_X7_setsMood P [.ref (P.2.2.1 (.inr 9)), .int (nI j), .int v] (mW τ S F L) (some (.int (sU S 2 j))) (mW τ (upd S (10 + 12 * j + 2) v) F L) := by
  refine XM.of (by decide +kernel) (Nat.le_of_ble_eq_true rfl) (fun p e s m args below meth c A C => ?_)
  replace C : XC p s m args meth c P A 4 RX7 cX7_setsMood (some .int) := C
  refine XW.eq (lv' := [(0, _), (1, _), (2, _)]) rfl rfl rfl ?_
  refine X_aload_n (pc := 0) C 0 dX7_setsMood_0 rfl rfl ?_
  refine X_iload_n (pc := 1) C 1 dX7_setsMood_1 rfl rfl ?_
  refine X_iconst (pc := 2) (v := 2) C dX7_setsMood_2 (by decide) ?_
  refine K_X7_92 (pc := 3) C (by assumption) (c_X7_ofUser l P τ S F L h1 j 2 hj (by decide) _ 2 rfl rfl) ⟨Nat.le_of_ble_eq_true rfl, Nat.le_of_ble_eq_true rfl⟩ ⟨rfl, rfl⟩ ⟨Nat.zero_le _, Nat.zero_le _⟩ (Nat.le_of_ble_eq_true rfl) dX7_setsMood_3 ?_
  refine X_istore_n (pc := 6) (lv1 := [(0, _), (1, _), (2, _), (3, _)]) C 3 dX7_setsMood_6 rfl (by decide) rfl ?_
  refine X_aload_n (pc := 7) C 0 dX7_setsMood_7 rfl rfl ?_
  refine X_iload_n (pc := 8) C 1 dX7_setsMood_8 rfl rfl ?_
  refine X_iconst (pc := 9) (v := 2) C dX7_setsMood_9 (by decide) ?_
  refine X_iload_n (pc := 10) C 2 dX7_setsMood_10 rfl rfl ?_
  refine K_X7_123 (pc := 11) C (by assumption) (c_X7_putUser l P τ S F L h1 j 2 hj (by decide) _ 2 v rfl rfl) ⟨Nat.le_of_ble_eq_true rfl, Nat.le_of_ble_eq_true rfl⟩ ⟨rfl, rfl⟩ ⟨Nat.zero_le _, Nat.zero_le _⟩ (Nat.le_of_ble_eq_true rfl) dX7_setsMood_11 ?_
  refine X_iload_n (pc := 14) C 3 dX7_setsMood_14 rfl rfl ?_
  exact X_iret (pc := 15) C (Nat.zero_le _) (Nat.zero_le _) dX7_setsMood_15 ⟨rfl, rfl⟩

set_option maxRecDepth 100000 in
set_option maxHeartbeats 4000000 in
theorem L1_X7_starts (C : XC p s m args meth c P A 8 RX7 cX7_starts none) {τ : XS} {S F L : Nat → Int32} {x x2 x3 x4 : Int32} {N : Nat} (hN : N ≤ 64) (kx : XW p l e rm_X7_starts s m args below meth c P A 8 0 0 Q (mW τ S F L) 57 [(0, .ref (P.2.2.1 (.inr 9))), (1, .int x), (2, .int x2), (3, .int x3), (4, .int x4), (5, .int (xvol N)), (6, .int (nI 0))] []) : ∀ (k i : Nat), i + k = N → XW p l e rm_X7_starts s m args below meth c P A 8 0 0 Q (mW τ S F L) 33 [(0, .ref (P.2.2.1 (.inr 9))), (1, .int x), (2, .int x2), (3, .int x3), (4, .int x4), (5, .int (xvol i)), (6, .int (nI k))] [] := by
  intro k
  induction k with
  | zero =>
    intro i hi
    have e9 : i = N := by omega
    subst e9
    refine X_iload (pc := 33) C dX7_starts_33 rfl ?_
    refine X_if_le (pc := 35) C 57 dX7_starts_35 (by decide) (fun h35 => ?_) (fun h35 => ?_)
    · skip
      exact kx
    · exact absurd (show nI 0 ≤ 0 from by decide) h35
  | succ k ih =>
    intro i hi
    refine X_iload (pc := 33) C dX7_starts_33 rfl ?_
    refine X_if_le (pc := 35) C 57 dX7_starts_35 (by decide) (fun h35 => ?_) (fun h35 => ?_)
    · exact absurd h35 (nI_nle (by omega) (n31 (by omega)))
    · skip
      refine X_iload (pc := 38) C dX7_starts_38 rfl ?_
      refine X_iload (pc := 40) C dX7_starts_40 rfl ?_
      refine X_bipush (pc := 42) (v := 9) C dX7_starts_42 (by decide) ?_
      refine X_iadd (pc := 44) C dX7_starts_44 ?_
      refine X_bipush (pc := 45) (v := 10) C dX7_starts_45 (by decide) ?_
      refine X_idiv (pc := 47) C dX7_starts_47 (by decide) ?_
      refine X_isub (pc := 48) C dX7_starts_48 ?_
      refine X_istore (pc := 49) (lv1 := [(0, _), (1, _), (2, _), (3, _), (4, _), (5, _), (6, _)]) C dX7_starts_49 (by decide) rfl ?_
      refine X_iinc (pc := 51) (kk := (-1)) (lv1 := [(0, _), (1, _), (2, _), (3, _), (4, _), (5, _), (6, _)]) C dX7_starts_51 rfl (by decide) (by decide) rfl ?_
      refine X_goto (pc := 54) C 33 dX7_starts_54 (by decide) ?_
      exact XW.eq rfl (by rw [show nI (k + 1) + (-1 : Int32) = nI k from by rw [← Int32.sub_eq_add_neg, nI_pred]]; rfl) rfl (ih (i + 1) (by omega))

set_option maxRecDepth 100000 in
set_option maxHeartbeats 4000000 in
theorem L2_X7_starts (C : XC p s m args meth c P A 8 RX7 cX7_starts none) {τ : XS} {S F L : Nat → Int32} (h1 : xI1 P) {x x2 x3 x4 x5 x6 : Int32} {n : Nat} (hn : n ≤ 15) (hu : S 4 = nI n) (kx : XW p l e rm_X7_starts s m args below meth c P A 8 0 0 Q (mW τ (mHear S x4 x6 n) F L) 145 [(0, .ref (P.2.2.1 (.inr 9))), (1, .int x), (2, .int x2), (3, .int x3), (4, .int x4), (5, .int x5), (6, .int x6), (7, .int (nI (n)))] []) : ∀ (k i : Nat), i + k = n → XW p l e rm_X7_starts s m args below meth c P A 8 0 0 Q (mW τ (mHear S x4 x6 i) F L) 100 [(0, .ref (P.2.2.1 (.inr 9))), (1, .int x), (2, .int x2), (3, .int x3), (4, .int x4), (5, .int x5), (6, .int x6), (7, .int (nI (i)))] [] := by
  intro k
  induction k with
  | zero =>
    intro i hi
    have e9 : i = n := by omega
    subst e9
    have hu9 : mHear S x4 x6 i 4 = nI i := by rw [mHear_o _ (fun j hj => by omega)]; exact hu
    refine X_iload (pc := 100) C dX7_starts_100 rfl ?_
    refine X_aload_n (pc := 102) C 0 dX7_starts_102 rfl rfl ?_
    refine G_X7_9 (pc := 103) C (by assumption) dX7_starts_103 ?_
    refine X_iconst (pc := 106) (v := 4) C dX7_starts_106 (by decide) ?_
    refine X_ialdN (j := 4) (pc := 107) C (by first | exact h1 _ (by decide) (by decide)) rfl (by omega) (by decide) dX7_starts_107 ?_
    rw [mW_10]
    rw [hu9]
    refine X_icmp_ge (pc := 108) C 145 dX7_starts_108 (by decide) (fun h108 => ?_) (fun h108 => ?_)
    · skip
      exact kx
    · exact absurd (nI_le (Nat.le_refl _) (n31 (by omega))) h108
  | succ k ih =>
    intro i hi
    have hlt : i < n := by omega
    have hu9 : mHear S x4 x6 i 4 = nI n := by rw [mHear_o _ (fun j hj => by omega)]; exact hu
    refine X_iload (pc := 100) C dX7_starts_100 rfl ?_
    refine X_aload_n (pc := 102) C 0 dX7_starts_102 rfl rfl ?_
    refine G_X7_9 (pc := 103) C (by assumption) dX7_starts_103 ?_
    refine X_iconst (pc := 106) (v := 4) C dX7_starts_106 (by decide) ?_
    refine X_ialdN (j := 4) (pc := 107) C (by first | exact h1 _ (by decide) (by decide)) rfl (by omega) (by decide) dX7_starts_107 ?_
    rw [mW_10]
    rw [hu9]
    refine X_icmp_ge (pc := 108) C 145 dX7_starts_108 (by decide) (fun h108 => ?_) (fun h108 => ?_)
    · exact absurd (nle h108) (by omega)
    · skip
      refine X_iload (pc := 111) C dX7_starts_111 rfl ?_
      refine X_iload (pc := 113) C dX7_starts_113 rfl ?_
      refine X_ishr (pc := 115) C dX7_starts_115 ?_
      refine X_iconst (pc := 116) (v := 1) C dX7_starts_116 (by decide) ?_
      refine X_iand (pc := 117) C dX7_starts_117 ?_
      refine X_iconst (pc := 118) (v := 1) C dX7_starts_118 (by decide) ?_
      refine X_icmp_ne (pc := 119) C 139 dX7_starts_119 (by decide) (fun h119 => ?_) (fun h119 => ?_)
      · skip
        first | refine X_iincN (pc := 139) (lv1 := [(0, _), (1, _), (2, _), (3, _), (4, _), (5, _), (6, _), (7, _)]) C dX7_starts_139 rfl (by decide) (by decide) rfl ?_ | refine X_iinc (pc := 139) (kk := 1) (lv1 := [(0, _), (1, _), (2, _), (3, _), (4, _), (5, _), (6, _), (7, _)]) C dX7_starts_139 rfl (by decide) (by decide) rfl ?_
        refine X_goto (pc := 142) C 100 dX7_starts_142 (by decide) ?_
        exact XW.less (lv' := [(0, _), (1, _), (2, _), (3, _), (4, _), (5, _), (6, _), (7, _)]) [0, 1, 2, 3, 4, 5, 6, 7] rfl (XW.eq (by first | rw [mHear_n h119] | rw [mHear_y h119]) rfl rfl (ih (i + 1) (by omega)))
      · skip
        refine X_aload_n (pc := 122) C 0 dX7_starts_122 rfl rfl ?_
        refine X_iload (pc := 123) C dX7_starts_123 rfl ?_
        refine X_iconst (pc := 125) (v := 4) C dX7_starts_125 (by decide) ?_
        refine X_aload_n (pc := 126) C 0 dX7_starts_126 rfl rfl ?_
        refine X_iload (pc := 127) C dX7_starts_127 rfl ?_
        refine X_iconst (pc := 129) (v := 4) C dX7_starts_129 (by decide) ?_
        refine K_X7_92 (pc := 130) C (by assumption) (c_X7_ofUser l P τ (mHear S x4 x6 i) F L h1 i 4 (by omega) (by decide) _ 4 rfl rfl) ⟨Nat.le_of_ble_eq_true rfl, Nat.le_of_ble_eq_true rfl⟩ ⟨rfl, rfl⟩ ⟨Nat.zero_le _, Nat.zero_le _⟩ (Nat.le_of_ble_eq_true rfl) dX7_starts_130 ?_
        refine X_iload (pc := 133) C dX7_starts_133 rfl ?_
        refine X_ior (pc := 135) C dX7_starts_135 ?_
        refine K_X7_123 (pc := 136) C (by assumption) (c_X7_putUser l P τ (mHear S x4 x6 i) F L h1 i 4 (by omega) (by decide) _ 4 _ rfl rfl) ⟨Nat.le_of_ble_eq_true rfl, Nat.le_of_ble_eq_true rfl⟩ ⟨rfl, rfl⟩ ⟨Nat.zero_le _, Nat.zero_le _⟩ (Nat.le_of_ble_eq_true rfl) dX7_starts_136 ?_
        first | refine X_iincN (pc := 139) (lv1 := [(0, _), (1, _), (2, _), (3, _), (4, _), (5, _), (6, _), (7, _)]) C dX7_starts_139 rfl (by decide) (by decide) rfl ?_ | refine X_iinc (pc := 139) (kk := 1) (lv1 := [(0, _), (1, _), (2, _), (3, _), (4, _), (5, _), (6, _), (7, _)]) C dX7_starts_139 rfl (by decide) (by decide) rfl ?_
        refine X_goto (pc := 142) C 100 dX7_starts_142 (by decide) ?_
        exact XW.less (lv' := [(0, _), (1, _), (2, _), (3, _), (4, _), (5, _), (6, _), (7, _)]) [0, 1, 2, 3, 4, 5, 6, 7] rfl (XW.eq (by first | rw [mHear_n h119] | rw [mHear_y h119]) rfl rfl (ih (i + 1) (by omega)))

set_option maxRecDepth 100000 in
set_option maxHeartbeats 4000000 in
theorem c_X7_starts (l : Launch) (P : XP) (τ : XS) (S F L : Nat → Int32) (h1 : xI1 P) (hM : MI S) (j : Nat) (hj : j < mK S) (x : Int32) (hx : x = nI j) : XF l yX7_starts cX7_starts 8 none rm_X7_starts P [.ref (P.2.2.1 (.inr 9)), .int x] (mW τ S F L) (none) (mW τ (mStart S j) F L) := by
  refine XM.of (by decide +kernel) (Nat.le_of_ble_eq_true rfl) (fun p e s m args below meth c A C => ?_)
  replace C : XC p s m args meth c P A 8 RX7 cX7_starts none := C
  refine XW.eq (lv' := [(0, _), (1, _)]) rfl rfl rfl ?_
  by_cases hy : sC S 1 j = -1
  ·
    refine X_aload_n (pc := 0) C 0 dX7_starts_0 rfl rfl ?_
    refine X_iload_n (pc := 1) C 1 dX7_starts_1 rfl rfl ?_
    refine X_iconst (pc := 2) (v := 0) C dX7_starts_2 (by decide) ?_
    refine K_X7_88 (pc := 3) C (by assumption) (c_X7_ofCall l P τ S F L h1 j 0 (by have := hM.k40; omega) (by decide) _ 0 hx rfl) ⟨Nat.le_of_ble_eq_true rfl, Nat.le_of_ble_eq_true rfl⟩ ⟨rfl, rfl⟩ ⟨Nat.zero_le _, Nat.zero_le _⟩ (Nat.le_of_ble_eq_true rfl) dX7_starts_3 ?_
    refine X_istore_n (pc := 6) (lv1 := [(0, _), (1, _), (2, _)]) C 2 dX7_starts_6 rfl (by decide) rfl ?_
    refine X_aload_n (pc := 7) C 0 dX7_starts_7 rfl rfl ?_
    refine X_iload_n (pc := 8) C 1 dX7_starts_8 rfl rfl ?_
    refine X_iconst (pc := 9) (v := 1) C dX7_starts_9 (by decide) ?_
    refine K_X7_88 (pc := 10) C (by assumption) (c_X7_ofCall l P τ S F L h1 j 1 (by have := hM.k40; omega) (by decide) _ 1 hx rfl) ⟨Nat.le_of_ble_eq_true rfl, Nat.le_of_ble_eq_true rfl⟩ ⟨rfl, rfl⟩ ⟨Nat.zero_le _, Nat.zero_le _⟩ (Nat.le_of_ble_eq_true rfl) dX7_starts_10 ?_
    refine X_istore_n (pc := 13) (lv1 := [(0, _), (1, _), (2, _), (3, _)]) C 3 dX7_starts_13 rfl (by decide) rfl ?_
    refine X_aload_n (pc := 14) C 0 dX7_starts_14 rfl rfl ?_
    refine X_iload_n (pc := 15) C 2 dX7_starts_15 rfl rfl ?_
    refine X_iload_n (pc := 16) C 3 dX7_starts_16 rfl rfl ?_
    refine K_X7_115 (pc := 17) C (by assumption) (c_X7_ears l P τ S F L h1 hM _ _ (xok_mono (hM.c hj).1 hM.u15) (hM.oy hj)) ⟨Nat.le_of_ble_eq_true rfl, Nat.le_of_ble_eq_true rfl⟩ ⟨rfl, rfl⟩ ⟨Nat.zero_le _, Nat.zero_le _⟩ (Nat.le_of_ble_eq_true rfl) dX7_starts_17 ?_
    refine X_istore (pc := 20) (lv1 := [(0, _), (1, _), (2, _), (3, _), (4, _)]) C dX7_starts_20 (by decide) rfl ?_
    refine X_bipush (pc := 22) (v := 100) C dX7_starts_22 (by decide) ?_
    refine X_istore (pc := 24) (lv1 := [(0, _), (1, _), (2, _), (3, _), (4, _), (5, _)]) C dX7_starts_24 (by decide) rfl ?_
    refine X_iload (pc := 26) C dX7_starts_26 rfl ?_
    refine K_X7_118 (pc := 28) C (c_J6_bitCount l P _ _) ⟨Nat.le_of_ble_eq_true rfl, Nat.le_of_ble_eq_true rfl⟩ ⟨rfl, rfl⟩ ⟨Nat.zero_le _, Nat.zero_le _⟩ (Nat.le_of_ble_eq_true rfl) dX7_starts_28 ?_
    refine X_istore (pc := 31) (lv1 := [(0, _), (1, _), (2, _), (3, _), (4, _), (5, _), (6, _)]) C dX7_starts_31 (by decide) rfl ?_
    obtain ⟨N, hN, eN⟩ := xbc_in (mEars S (sC S 0 j) (sC S 1 j))
    rw [eN]
    refine L1_X7_starts C (N := N) (by omega) ?_ N 0 (by omega)
    refine X_aload_n (pc := 57) C 0 dX7_starts_57 rfl rfl ?_
    refine X_iload_n (pc := 58) C 2 dX7_starts_58 rfl rfl ?_
    refine X_iconst (pc := 59) (v := 4) C dX7_starts_59 (by decide) ?_
    refine K_X7_92 (pc := 60) C (by assumption) (c_X7_ofUser l P τ S F L h1 (cN (sC S 0 j)) 4 (hM.ca hj).1 (by decide) _ 4 (hM.ca hj).2 rfl) ⟨Nat.le_of_ble_eq_true rfl, Nat.le_of_ble_eq_true rfl⟩ ⟨rfl, rfl⟩ ⟨Nat.zero_le _, Nat.zero_le _⟩ (Nat.le_of_ble_eq_true rfl) dX7_starts_60 ?_
    refine X_istore (pc := 63) (lv1 := [(0, _), (1, _), (2, _), (3, _), (4, _), (5, _), (6, _)]) C dX7_starts_63 (by decide) rfl ?_
    refine X_iload_n (pc := 65) C 3 dX7_starts_65 rfl rfl ?_
    refine X_iconst (pc := 66) (v := (-1)) C dX7_starts_66 (by decide) ?_
    refine X_icmp_eq (pc := 67) C 97 dX7_starts_67 (by decide) (fun h67 => ?_) (fun h67 => ?_)
    · skip
      refine X_iconst (pc := 97) (v := 0) C dX7_starts_97 (by decide) ?_
      refine X_istore (pc := 98) (lv1 := [(0, _), (1, _), (2, _), (3, _), (4, _), (5, _), (6, _), (7, _)]) C dX7_starts_98 (by decide) rfl ?_
      refine L2_X7_starts (S := S) (n := mU S) C h1 hM.u15 (by exact hM.u) ?_ (mU S) 0 (by omega)
      refine XW.eq (σ' := mW τ (mStart0 S j) F L) (by rw [mStart0, mTell, mTold, if_pos hy, if_pos hy]) rfl rfl ?_
      refine X_aload_n (pc := 145) C 0 dX7_starts_145 rfl rfl ?_
      refine X_iload_n (pc := 146) C 1 dX7_starts_146 rfl rfl ?_
      refine X_iconst (pc := 147) (v := 4) C dX7_starts_147 (by decide) ?_
      refine X_iconst (pc := 148) (v := 1) C dX7_starts_148 (by decide) ?_
      refine K_X7_127 (pc := 149) C (by assumption) (c_X7_putCall l P τ (mStart0 S j) F L h1 j 4 (by have := hM.k40; omega) (by decide) _ 4 _ hx rfl) ⟨Nat.le_of_ble_eq_true rfl, Nat.le_of_ble_eq_true rfl⟩ ⟨rfl, rfl⟩ ⟨Nat.zero_le _, Nat.zero_le _⟩ (Nat.le_of_ble_eq_true rfl) dX7_starts_149 ?_
      refine X_aload_n (pc := 152) C 0 dX7_starts_152 rfl rfl ?_
      refine X_iload_n (pc := 153) C 1 dX7_starts_153 rfl rfl ?_
      refine X_iconst (pc := 154) (v := 5) C dX7_starts_154 (by decide) ?_
      refine X_aload_n (pc := 155) C 0 dX7_starts_155 rfl rfl ?_
      refine G_X7_9 (pc := 156) C (by assumption) dX7_starts_156 ?_
      refine X_iconst (pc := 159) (v := 0) C dX7_starts_159 (by decide) ?_
      refine X_ialdN (j := 0) (pc := 160) C (by first | exact h1 _ (by decide) (by decide)) rfl (by omega) (by decide) dX7_starts_160 ?_
      rw [mW_10]
      rw [show (upd (mStart0 S j) (190 + 9 * j + 4) 1) 0 = S 0 from by rw [upd_ne (by omega), mStart0_fx hM hj (by omega)]]
      refine K_X7_127 (pc := 161) C (by assumption) (c_X7_putCall l P τ (upd (mStart0 S j) (190 + 9 * j + 4) 1) F L h1 j 5 (by have := hM.k40; omega) (by decide) _ 5 _ hx rfl) ⟨Nat.le_of_ble_eq_true rfl, Nat.le_of_ble_eq_true rfl⟩ ⟨rfl, rfl⟩ ⟨Nat.zero_le _, Nat.zero_le _⟩ (Nat.le_of_ble_eq_true rfl) dX7_starts_161 ?_
      refine X_aload_n (pc := 164) C 0 dX7_starts_164 rfl rfl ?_
      refine X_iload_n (pc := 165) C 1 dX7_starts_165 rfl rfl ?_
      refine X_bipush (pc := 166) (v := 7) C dX7_starts_166 (by decide) ?_
      refine X_iload (pc := 168) C dX7_starts_168 rfl ?_
      refine K_X7_127 (pc := 170) C (by assumption) (c_X7_putCall l P τ (upd (upd (mStart0 S j) (190 + 9 * j + 4) 1) (190 + 9 * j + 5) (S 0)) F L h1 j 7 (by have := hM.k40; omega) (by decide) _ 7 _ hx rfl) ⟨Nat.le_of_ble_eq_true rfl, Nat.le_of_ble_eq_true rfl⟩ ⟨rfl, rfl⟩ ⟨Nat.zero_le _, Nat.zero_le _⟩ (Nat.le_of_ble_eq_true rfl) dX7_starts_170 ?_
      refine X_aload_n (pc := 173) C 0 dX7_starts_173 rfl rfl ?_
      refine X_iload_n (pc := 174) C 1 dX7_starts_174 rfl rfl ?_
      refine X_bipush (pc := 175) (v := 8) C dX7_starts_175 (by decide) ?_
      refine X_iload (pc := 177) C dX7_starts_177 rfl ?_
      refine K_X7_127 (pc := 179) C (by assumption) (c_X7_putCall l P τ (upd (upd (upd (mStart0 S j) (190 + 9 * j + 4) 1) (190 + 9 * j + 5) (S 0)) (190 + 9 * j + 7) (mEars S (sC S 0 j) (sC S 1 j))) F L h1 j 8 (by have := hM.k40; omega) (by decide) _ 8 _ hx rfl) ⟨Nat.le_of_ble_eq_true rfl, Nat.le_of_ble_eq_true rfl⟩ ⟨rfl, rfl⟩ ⟨Nat.zero_le _, Nat.zero_le _⟩ (Nat.le_of_ble_eq_true rfl) dX7_starts_179 ?_
      exact X_vret (pc := 182) C (Nat.zero_le _) (Nat.zero_le _) dX7_starts_182 ⟨rfl, by rw [mStart, xvolW, eN, nI_clamp (n31 (by omega))]⟩
    · exact absurd hy h67
  ·
    have ho := xok_c ((hM.oy hj).resolve_left hy)
    refine X_aload_n (pc := 0) C 0 dX7_starts_0 rfl rfl ?_
    refine X_iload_n (pc := 1) C 1 dX7_starts_1 rfl rfl ?_
    refine X_iconst (pc := 2) (v := 0) C dX7_starts_2 (by decide) ?_
    refine K_X7_88 (pc := 3) C (by assumption) (c_X7_ofCall l P τ S F L h1 j 0 (by have := hM.k40; omega) (by decide) _ 0 hx rfl) ⟨Nat.le_of_ble_eq_true rfl, Nat.le_of_ble_eq_true rfl⟩ ⟨rfl, rfl⟩ ⟨Nat.zero_le _, Nat.zero_le _⟩ (Nat.le_of_ble_eq_true rfl) dX7_starts_3 ?_
    refine X_istore_n (pc := 6) (lv1 := [(0, _), (1, _), (2, _)]) C 2 dX7_starts_6 rfl (by decide) rfl ?_
    refine X_aload_n (pc := 7) C 0 dX7_starts_7 rfl rfl ?_
    refine X_iload_n (pc := 8) C 1 dX7_starts_8 rfl rfl ?_
    refine X_iconst (pc := 9) (v := 1) C dX7_starts_9 (by decide) ?_
    refine K_X7_88 (pc := 10) C (by assumption) (c_X7_ofCall l P τ S F L h1 j 1 (by have := hM.k40; omega) (by decide) _ 1 hx rfl) ⟨Nat.le_of_ble_eq_true rfl, Nat.le_of_ble_eq_true rfl⟩ ⟨rfl, rfl⟩ ⟨Nat.zero_le _, Nat.zero_le _⟩ (Nat.le_of_ble_eq_true rfl) dX7_starts_10 ?_
    refine X_istore_n (pc := 13) (lv1 := [(0, _), (1, _), (2, _), (3, _)]) C 3 dX7_starts_13 rfl (by decide) rfl ?_
    refine X_aload_n (pc := 14) C 0 dX7_starts_14 rfl rfl ?_
    refine X_iload_n (pc := 15) C 2 dX7_starts_15 rfl rfl ?_
    refine X_iload_n (pc := 16) C 3 dX7_starts_16 rfl rfl ?_
    refine K_X7_115 (pc := 17) C (by assumption) (c_X7_ears l P τ S F L h1 hM _ _ (xok_mono (hM.c hj).1 hM.u15) (hM.oy hj)) ⟨Nat.le_of_ble_eq_true rfl, Nat.le_of_ble_eq_true rfl⟩ ⟨rfl, rfl⟩ ⟨Nat.zero_le _, Nat.zero_le _⟩ (Nat.le_of_ble_eq_true rfl) dX7_starts_17 ?_
    refine X_istore (pc := 20) (lv1 := [(0, _), (1, _), (2, _), (3, _), (4, _)]) C dX7_starts_20 (by decide) rfl ?_
    refine X_bipush (pc := 22) (v := 100) C dX7_starts_22 (by decide) ?_
    refine X_istore (pc := 24) (lv1 := [(0, _), (1, _), (2, _), (3, _), (4, _), (5, _)]) C dX7_starts_24 (by decide) rfl ?_
    refine X_iload (pc := 26) C dX7_starts_26 rfl ?_
    refine K_X7_118 (pc := 28) C (c_J6_bitCount l P _ _) ⟨Nat.le_of_ble_eq_true rfl, Nat.le_of_ble_eq_true rfl⟩ ⟨rfl, rfl⟩ ⟨Nat.zero_le _, Nat.zero_le _⟩ (Nat.le_of_ble_eq_true rfl) dX7_starts_28 ?_
    refine X_istore (pc := 31) (lv1 := [(0, _), (1, _), (2, _), (3, _), (4, _), (5, _), (6, _)]) C dX7_starts_31 (by decide) rfl ?_
    obtain ⟨N, hN, eN⟩ := xbc_in (mEars S (sC S 0 j) (sC S 1 j))
    rw [eN]
    refine L1_X7_starts C (N := N) (by omega) ?_ N 0 (by omega)
    refine X_aload_n (pc := 57) C 0 dX7_starts_57 rfl rfl ?_
    refine X_iload_n (pc := 58) C 2 dX7_starts_58 rfl rfl ?_
    refine X_iconst (pc := 59) (v := 4) C dX7_starts_59 (by decide) ?_
    refine K_X7_92 (pc := 60) C (by assumption) (c_X7_ofUser l P τ S F L h1 (cN (sC S 0 j)) 4 (hM.ca hj).1 (by decide) _ 4 (hM.ca hj).2 rfl) ⟨Nat.le_of_ble_eq_true rfl, Nat.le_of_ble_eq_true rfl⟩ ⟨rfl, rfl⟩ ⟨Nat.zero_le _, Nat.zero_le _⟩ (Nat.le_of_ble_eq_true rfl) dX7_starts_60 ?_
    refine X_istore (pc := 63) (lv1 := [(0, _), (1, _), (2, _), (3, _), (4, _), (5, _), (6, _)]) C dX7_starts_63 (by decide) rfl ?_
    refine X_iload_n (pc := 65) C 3 dX7_starts_65 rfl rfl ?_
    refine X_iconst (pc := 66) (v := (-1)) C dX7_starts_66 (by decide) ?_
    refine X_icmp_eq (pc := 67) C 97 dX7_starts_67 (by decide) (fun h67 => ?_) (fun h67 => ?_)
    · exact absurd h67 hy
    · skip
      refine X_iload (pc := 70) C dX7_starts_70 rfl ?_
      refine X_aload_n (pc := 72) C 0 dX7_starts_72 rfl rfl ?_
      refine X_iload_n (pc := 73) C 3 dX7_starts_73 rfl rfl ?_
      refine X_iconst (pc := 74) (v := 4) C dX7_starts_74 (by decide) ?_
      refine K_X7_92 (pc := 75) C (by assumption) (c_X7_ofUser l P τ S F L h1 (cN (sC S 1 j)) 4 ho.1 (by decide) _ 4 ho.2 rfl) ⟨Nat.le_of_ble_eq_true rfl, Nat.le_of_ble_eq_true rfl⟩ ⟨rfl, rfl⟩ ⟨Nat.zero_le _, Nat.zero_le _⟩ (Nat.le_of_ble_eq_true rfl) dX7_starts_75 ?_
      refine X_ior (pc := 78) C dX7_starts_78 ?_
      refine X_istore (pc := 79) (lv1 := [(0, _), (1, _), (2, _), (3, _), (4, _), (5, _), (6, _)]) C dX7_starts_79 (by decide) rfl ?_
      refine X_aload_n (pc := 81) C 0 dX7_starts_81 rfl rfl ?_
      refine X_iload_n (pc := 82) C 2 dX7_starts_82 rfl rfl ?_
      refine X_iconst (pc := 83) (v := 4) C dX7_starts_83 (by decide) ?_
      refine X_iload (pc := 84) C dX7_starts_84 rfl ?_
      refine K_X7_123 (pc := 86) C (by assumption) (c_X7_putUser l P τ S F L h1 (cN (sC S 0 j)) 4 (hM.ca hj).1 (by decide) _ 4 _ (hM.ca hj).2 rfl) ⟨Nat.le_of_ble_eq_true rfl, Nat.le_of_ble_eq_true rfl⟩ ⟨rfl, rfl⟩ ⟨Nat.zero_le _, Nat.zero_le _⟩ (Nat.le_of_ble_eq_true rfl) dX7_starts_86 ?_
      refine X_aload_n (pc := 89) C 0 dX7_starts_89 rfl rfl ?_
      refine X_iload_n (pc := 90) C 3 dX7_starts_90 rfl rfl ?_
      refine X_iconst (pc := 91) (v := 4) C dX7_starts_91 (by decide) ?_
      refine X_iload (pc := 92) C dX7_starts_92 rfl ?_
      refine K_X7_123 (pc := 94) C (by assumption) (c_X7_putUser l P τ (upd S (10 + 12 * cN (sC S 0 j) + 4) (sU S 4 (cN (sC S 0 j)) ||| sU S 4 (cN (sC S 1 j)))) F L h1 (cN (sC S 1 j)) 4 ho.1 (by decide) _ 4 _ ho.2 rfl) ⟨Nat.le_of_ble_eq_true rfl, Nat.le_of_ble_eq_true rfl⟩ ⟨rfl, rfl⟩ ⟨Nat.zero_le _, Nat.zero_le _⟩ (Nat.le_of_ble_eq_true rfl) dX7_starts_94 ?_
      refine X_iconst (pc := 97) (v := 0) C dX7_starts_97 (by decide) ?_
      refine X_istore (pc := 98) (lv1 := [(0, _), (1, _), (2, _), (3, _), (4, _), (5, _), (6, _), (7, _)]) C dX7_starts_98 (by decide) rfl ?_
      refine L2_X7_starts (S := (upd (upd S (10 + 12 * cN (sC S 0 j) + 4) (sU S 4 (cN (sC S 0 j)) ||| sU S 4 (cN (sC S 1 j)))) (10 + 12 * cN (sC S 1 j) + 4) (sU S 4 (cN (sC S 0 j)) ||| sU S 4 (cN (sC S 1 j))))) (n := mU S) C h1 hM.u15 (by rw [upd_ne (by omega), upd_ne (by omega)]; exact hM.u) ?_ (mU S) 0 (by omega)
      refine XW.eq (σ' := mW τ (mStart0 S j) F L) (by rw [mStart0, mTell, mTold, if_neg hy, if_neg hy]) rfl rfl ?_
      refine X_aload_n (pc := 145) C 0 dX7_starts_145 rfl rfl ?_
      refine X_iload_n (pc := 146) C 1 dX7_starts_146 rfl rfl ?_
      refine X_iconst (pc := 147) (v := 4) C dX7_starts_147 (by decide) ?_
      refine X_iconst (pc := 148) (v := 1) C dX7_starts_148 (by decide) ?_
      refine K_X7_127 (pc := 149) C (by assumption) (c_X7_putCall l P τ (mStart0 S j) F L h1 j 4 (by have := hM.k40; omega) (by decide) _ 4 _ hx rfl) ⟨Nat.le_of_ble_eq_true rfl, Nat.le_of_ble_eq_true rfl⟩ ⟨rfl, rfl⟩ ⟨Nat.zero_le _, Nat.zero_le _⟩ (Nat.le_of_ble_eq_true rfl) dX7_starts_149 ?_
      refine X_aload_n (pc := 152) C 0 dX7_starts_152 rfl rfl ?_
      refine X_iload_n (pc := 153) C 1 dX7_starts_153 rfl rfl ?_
      refine X_iconst (pc := 154) (v := 5) C dX7_starts_154 (by decide) ?_
      refine X_aload_n (pc := 155) C 0 dX7_starts_155 rfl rfl ?_
      refine G_X7_9 (pc := 156) C (by assumption) dX7_starts_156 ?_
      refine X_iconst (pc := 159) (v := 0) C dX7_starts_159 (by decide) ?_
      refine X_ialdN (j := 0) (pc := 160) C (by first | exact h1 _ (by decide) (by decide)) rfl (by omega) (by decide) dX7_starts_160 ?_
      rw [mW_10]
      rw [show (upd (mStart0 S j) (190 + 9 * j + 4) 1) 0 = S 0 from by rw [upd_ne (by omega), mStart0_fx hM hj (by omega)]]
      refine K_X7_127 (pc := 161) C (by assumption) (c_X7_putCall l P τ (upd (mStart0 S j) (190 + 9 * j + 4) 1) F L h1 j 5 (by have := hM.k40; omega) (by decide) _ 5 _ hx rfl) ⟨Nat.le_of_ble_eq_true rfl, Nat.le_of_ble_eq_true rfl⟩ ⟨rfl, rfl⟩ ⟨Nat.zero_le _, Nat.zero_le _⟩ (Nat.le_of_ble_eq_true rfl) dX7_starts_161 ?_
      refine X_aload_n (pc := 164) C 0 dX7_starts_164 rfl rfl ?_
      refine X_iload_n (pc := 165) C 1 dX7_starts_165 rfl rfl ?_
      refine X_bipush (pc := 166) (v := 7) C dX7_starts_166 (by decide) ?_
      refine X_iload (pc := 168) C dX7_starts_168 rfl ?_
      refine K_X7_127 (pc := 170) C (by assumption) (c_X7_putCall l P τ (upd (upd (mStart0 S j) (190 + 9 * j + 4) 1) (190 + 9 * j + 5) (S 0)) F L h1 j 7 (by have := hM.k40; omega) (by decide) _ 7 _ hx rfl) ⟨Nat.le_of_ble_eq_true rfl, Nat.le_of_ble_eq_true rfl⟩ ⟨rfl, rfl⟩ ⟨Nat.zero_le _, Nat.zero_le _⟩ (Nat.le_of_ble_eq_true rfl) dX7_starts_170 ?_
      refine X_aload_n (pc := 173) C 0 dX7_starts_173 rfl rfl ?_
      refine X_iload_n (pc := 174) C 1 dX7_starts_174 rfl rfl ?_
      refine X_bipush (pc := 175) (v := 8) C dX7_starts_175 (by decide) ?_
      refine X_iload (pc := 177) C dX7_starts_177 rfl ?_
      refine K_X7_127 (pc := 179) C (by assumption) (c_X7_putCall l P τ (upd (upd (upd (mStart0 S j) (190 + 9 * j + 4) 1) (190 + 9 * j + 5) (S 0)) (190 + 9 * j + 7) (mEars S (sC S 0 j) (sC S 1 j))) F L h1 j 8 (by have := hM.k40; omega) (by decide) _ 8 _ hx rfl) ⟨Nat.le_of_ble_eq_true rfl, Nat.le_of_ble_eq_true rfl⟩ ⟨rfl, rfl⟩ ⟨Nat.zero_le _, Nat.zero_le _⟩ (Nat.le_of_ble_eq_true rfl) dX7_starts_179 ?_
      exact X_vret (pc := 182) C (Nat.zero_le _) (Nat.zero_le _) dX7_starts_182 ⟨rfl, by rw [mStart, xvolW, eN, nI_clamp (n31 (by omega))]⟩

set_option maxRecDepth 100000 in
set_option maxHeartbeats 4000000 in
theorem c_X7_requests (l : Launch) (P : XP) (τ : XS) (S F L : Nat → Int32) (h1 : xI1 P) (hM : MI S) (hk : mK S < 40) (x y t u : Int32) (hx : xok x (mU S)) (hyt : (t = -1 ∧ xok y (mU S)) ∨ (y = -1 ∧ xok t (mT S))) : XF l yX7_requests cX7_requests 6 (some .int) rm_X7_requests P [.ref (P.2.2.1 (.inr 9)), .int x, .int y, .int t, .int u] (mW τ S F L) (some (.int (nI (mK S)))) (mW τ (mReq S x y t u) F L) := by
  refine XM.of (by decide +kernel) (Nat.le_of_ble_eq_true rfl) (fun p e s m args below meth c A C => ?_)
  replace C : XC p s m args meth c P A 6 RX7 cX7_requests (some .int) := C
  refine XW.eq (lv' := [(0, _), (1, _), (2, _), (3, _), (4, _)]) rfl rfl rfl ?_
  refine X_aload_n (pc := 0) C 0 dX7_requests_0 rfl rfl ?_
  refine G_X7_9 (pc := 1) C (by assumption) dX7_requests_1 ?_
  refine X_iconst (pc := 4) (v := 5) C dX7_requests_4 (by decide) ?_
  refine X_ialdN (j := 5) (pc := 5) C (by first | exact h1 _ (by decide) (by decide)) rfl (by omega) (by decide) dX7_requests_5 ?_
  rw [mW_10]
  rw [hM.k]
  refine X_istore (pc := 6) (lv1 := [(0, _), (1, _), (2, _), (3, _), (4, _), (5, _)]) C dX7_requests_6 (by decide) rfl ?_
  refine X_aload_n (pc := 8) C 0 dX7_requests_8 rfl rfl ?_
  refine G_X7_9 (pc := 9) C (by assumption) dX7_requests_9 ?_
  refine X_iconst (pc := 12) (v := 5) C dX7_requests_12 (by decide) ?_
  refine X_dup2 (pc := 13) C dX7_requests_13 rfl rfl ?_
  refine X_ialdN (j := 5) (pc := 14) C (by first | exact h1 _ (by decide) (by decide)) rfl (by omega) (by decide) dX7_requests_14 ?_
  rw [mW_10]
  rw [hM.k]
  refine X_iconst (pc := 15) (v := 1) C dX7_requests_15 (by decide) ?_
  refine X_iadd (pc := 16) C dX7_requests_16 ?_
  rw [nI_1]
  refine X_iastN (j := 5) (pc := 17) C (by first | exact h1 _ (by decide) (by decide)) rfl (by omega) (by decide) dX7_requests_17 ?_
  rw [mW_u10]
  refine X_aload_n (pc := 18) C 0 dX7_requests_18 rfl rfl ?_
  refine X_iload (pc := 19) C dX7_requests_19 rfl ?_
  refine X_iconst (pc := 21) (v := 0) C dX7_requests_21 (by decide) ?_
  refine X_iload_n (pc := 22) C 1 dX7_requests_22 rfl rfl ?_
  refine K_X7_127 (pc := 23) C (by assumption) (c_X7_putCall l P τ (upd S 5 (nI (mK S + 1))) F L h1 (mK S) 0 hk (by decide) _ 0 _ rfl rfl) ⟨Nat.le_of_ble_eq_true rfl, Nat.le_of_ble_eq_true rfl⟩ ⟨rfl, rfl⟩ ⟨Nat.zero_le _, Nat.zero_le _⟩ (Nat.le_of_ble_eq_true rfl) dX7_requests_23 ?_
  refine X_aload_n (pc := 26) C 0 dX7_requests_26 rfl rfl ?_
  refine X_iload (pc := 27) C dX7_requests_27 rfl ?_
  refine X_iconst (pc := 29) (v := 1) C dX7_requests_29 (by decide) ?_
  refine X_iload_n (pc := 30) C 2 dX7_requests_30 rfl rfl ?_
  refine K_X7_127 (pc := 31) C (by assumption) (c_X7_putCall l P τ (upd (upd S 5 (nI (mK S + 1))) (190 + 9 * mK S + 0) x) F L h1 (mK S) 1 hk (by decide) _ 1 _ rfl rfl) ⟨Nat.le_of_ble_eq_true rfl, Nat.le_of_ble_eq_true rfl⟩ ⟨rfl, rfl⟩ ⟨Nat.zero_le _, Nat.zero_le _⟩ (Nat.le_of_ble_eq_true rfl) dX7_requests_31 ?_
  refine X_aload_n (pc := 34) C 0 dX7_requests_34 rfl rfl ?_
  refine X_iload (pc := 35) C dX7_requests_35 rfl ?_
  refine X_iconst (pc := 37) (v := 2) C dX7_requests_37 (by decide) ?_
  refine X_iload_n (pc := 38) C 3 dX7_requests_38 rfl rfl ?_
  refine K_X7_127 (pc := 39) C (by assumption) (c_X7_putCall l P τ (upd (upd (upd S 5 (nI (mK S + 1))) (190 + 9 * mK S + 0) x) (190 + 9 * mK S + 1) y) F L h1 (mK S) 2 hk (by decide) _ 2 _ rfl rfl) ⟨Nat.le_of_ble_eq_true rfl, Nat.le_of_ble_eq_true rfl⟩ ⟨rfl, rfl⟩ ⟨Nat.zero_le _, Nat.zero_le _⟩ (Nat.le_of_ble_eq_true rfl) dX7_requests_39 ?_
  refine X_aload_n (pc := 42) C 0 dX7_requests_42 rfl rfl ?_
  refine X_iload (pc := 43) C dX7_requests_43 rfl ?_
  refine X_iconst (pc := 45) (v := 3) C dX7_requests_45 (by decide) ?_
  refine X_iload (pc := 46) C dX7_requests_46 rfl ?_
  refine K_X7_127 (pc := 48) C (by assumption) (c_X7_putCall l P τ (upd (upd (upd (upd S 5 (nI (mK S + 1))) (190 + 9 * mK S + 0) x) (190 + 9 * mK S + 1) y) (190 + 9 * mK S + 2) t) F L h1 (mK S) 3 hk (by decide) _ 3 _ rfl rfl) ⟨Nat.le_of_ble_eq_true rfl, Nat.le_of_ble_eq_true rfl⟩ ⟨rfl, rfl⟩ ⟨Nat.zero_le _, Nat.zero_le _⟩ (Nat.le_of_ble_eq_true rfl) dX7_requests_48 ?_
  refine X_aload_n (pc := 51) C 0 dX7_requests_51 rfl rfl ?_
  refine X_iload (pc := 52) C dX7_requests_52 rfl ?_
  refine X_iconst (pc := 54) (v := 4) C dX7_requests_54 (by decide) ?_
  refine X_iconst (pc := 55) (v := 0) C dX7_requests_55 (by decide) ?_
  refine K_X7_127 (pc := 56) C (by assumption) (c_X7_putCall l P τ (upd (upd (upd (upd (upd S 5 (nI (mK S + 1))) (190 + 9 * mK S + 0) x) (190 + 9 * mK S + 1) y) (190 + 9 * mK S + 2) t) (190 + 9 * mK S + 3) u) F L h1 (mK S) 4 hk (by decide) _ 4 _ rfl rfl) ⟨Nat.le_of_ble_eq_true rfl, Nat.le_of_ble_eq_true rfl⟩ ⟨rfl, rfl⟩ ⟨Nat.zero_le _, Nat.zero_le _⟩ (Nat.le_of_ble_eq_true rfl) dX7_requests_56 ?_
  refine X_aload_n (pc := 59) C 0 dX7_requests_59 rfl rfl ?_
  refine X_iload (pc := 60) C dX7_requests_60 rfl ?_
  refine X_iconst (pc := 62) (v := 5) C dX7_requests_62 (by decide) ?_
  refine X_iconst (pc := 63) (v := (-1)) C dX7_requests_63 (by decide) ?_
  refine K_X7_127 (pc := 64) C (by assumption) (c_X7_putCall l P τ (upd (upd (upd (upd (upd (upd S 5 (nI (mK S + 1))) (190 + 9 * mK S + 0) x) (190 + 9 * mK S + 1) y) (190 + 9 * mK S + 2) t) (190 + 9 * mK S + 3) u) (190 + 9 * mK S + 4) 0) F L h1 (mK S) 5 hk (by decide) _ 5 _ rfl rfl) ⟨Nat.le_of_ble_eq_true rfl, Nat.le_of_ble_eq_true rfl⟩ ⟨rfl, rfl⟩ ⟨Nat.zero_le _, Nat.zero_le _⟩ (Nat.le_of_ble_eq_true rfl) dX7_requests_64 ?_
  refine X_aload_n (pc := 67) C 0 dX7_requests_67 rfl rfl ?_
  refine X_iload (pc := 68) C dX7_requests_68 rfl ?_
  refine X_bipush (pc := 70) (v := 6) C dX7_requests_70 (by decide) ?_
  refine X_iconst (pc := 72) (v := (-1)) C dX7_requests_72 (by decide) ?_
  refine K_X7_127 (pc := 73) C (by assumption) (c_X7_putCall l P τ (upd (upd (upd (upd (upd (upd (upd S 5 (nI (mK S + 1))) (190 + 9 * mK S + 0) x) (190 + 9 * mK S + 1) y) (190 + 9 * mK S + 2) t) (190 + 9 * mK S + 3) u) (190 + 9 * mK S + 4) 0) (190 + 9 * mK S + 5) (-1)) F L h1 (mK S) 6 hk (by decide) _ 6 _ rfl rfl) ⟨Nat.le_of_ble_eq_true rfl, Nat.le_of_ble_eq_true rfl⟩ ⟨rfl, rfl⟩ ⟨Nat.zero_le _, Nat.zero_le _⟩ (Nat.le_of_ble_eq_true rfl) dX7_requests_73 ?_
  refine X_aload_n (pc := 76) C 0 dX7_requests_76 rfl rfl ?_
  refine X_iload (pc := 77) C dX7_requests_77 rfl ?_
  refine X_bipush (pc := 79) (v := 7) C dX7_requests_79 (by decide) ?_
  refine X_iconst (pc := 81) (v := 0) C dX7_requests_81 (by decide) ?_
  refine K_X7_127 (pc := 82) C (by assumption) (c_X7_putCall l P τ (upd (upd (upd (upd (upd (upd (upd (upd S 5 (nI (mK S + 1))) (190 + 9 * mK S + 0) x) (190 + 9 * mK S + 1) y) (190 + 9 * mK S + 2) t) (190 + 9 * mK S + 3) u) (190 + 9 * mK S + 4) 0) (190 + 9 * mK S + 5) (-1)) (190 + 9 * mK S + 6) (-1)) F L h1 (mK S) 7 hk (by decide) _ 7 _ rfl rfl) ⟨Nat.le_of_ble_eq_true rfl, Nat.le_of_ble_eq_true rfl⟩ ⟨rfl, rfl⟩ ⟨Nat.zero_le _, Nat.zero_le _⟩ (Nat.le_of_ble_eq_true rfl) dX7_requests_82 ?_
  refine X_aload_n (pc := 85) C 0 dX7_requests_85 rfl rfl ?_
  refine X_iload (pc := 86) C dX7_requests_86 rfl ?_
  refine X_bipush (pc := 88) (v := 8) C dX7_requests_88 (by decide) ?_
  refine X_bipush (pc := 90) (v := 100) C dX7_requests_90 (by decide) ?_
  refine K_X7_127 (pc := 92) C (by assumption) (c_X7_putCall l P τ (upd (upd (upd (upd (upd (upd (upd (upd (upd S 5 (nI (mK S + 1))) (190 + 9 * mK S + 0) x) (190 + 9 * mK S + 1) y) (190 + 9 * mK S + 2) t) (190 + 9 * mK S + 3) u) (190 + 9 * mK S + 4) 0) (190 + 9 * mK S + 5) (-1)) (190 + 9 * mK S + 6) (-1)) (190 + 9 * mK S + 7) 0) F L h1 (mK S) 8 hk (by decide) _ 8 _ rfl rfl) ⟨Nat.le_of_ble_eq_true rfl, Nat.le_of_ble_eq_true rfl⟩ ⟨rfl, rfl⟩ ⟨Nat.zero_le _, Nat.zero_le _⟩ (Nat.le_of_ble_eq_true rfl) dX7_requests_92 ?_
  refine XW.eq (σ' := mW τ (mReq0 S x y t u) F L) rfl rfl rfl ?_
  refine X_aload_n (pc := 95) C 0 dX7_requests_95 rfl rfl ?_
  refine X_iload (pc := 96) C dX7_requests_96 rfl ?_
  refine K_X7_130 (pc := 98) C (by assumption) (c_X7_why l P τ (mReq0 S x y t u) F L h1 (hM.req hk hx hyt) (mK S) (by rw [mReq0_K hk]; omega) _ rfl) ⟨Nat.le_of_ble_eq_true rfl, Nat.le_of_ble_eq_true rfl⟩ ⟨rfl, rfl⟩ ⟨Nat.zero_le _, Nat.zero_le _⟩ (Nat.le_of_ble_eq_true rfl) dX7_requests_98 ?_
  refine X_if_ne (pc := 101) C 110 dX7_requests_101 (by decide) (fun h101 => ?_) (fun h101 => ?_)
  · skip
    refine X_iload (pc := 110) C dX7_requests_110 rfl ?_
    exact X_iret (pc := 112) C (Nat.zero_le _) (Nat.zero_le _) dX7_requests_112 ⟨rfl, by rw [mReq, if_neg h101]⟩
  · skip
    refine X_aload_n (pc := 104) C 0 dX7_requests_104 rfl rfl ?_
    refine X_iload (pc := 105) C dX7_requests_105 rfl ?_
    refine K_X7_133 (pc := 107) C (by assumption) (c_X7_starts l P τ (mReq0 S x y t u) F L h1 (hM.req hk hx hyt) (mK S) (by rw [mReq0_K hk]; omega) _ rfl) ⟨Nat.le_of_ble_eq_true rfl, Nat.le_of_ble_eq_true rfl⟩ ⟨rfl, rfl⟩ ⟨Nat.zero_le _, Nat.zero_le _⟩ (Nat.le_of_ble_eq_true rfl) dX7_requests_107 ?_
    refine X_iload (pc := 110) C dX7_requests_110 rfl ?_
    exact X_iret (pc := 112) C (Nat.zero_le _) (Nat.zero_le _) dX7_requests_112 ⟨rfl, by rw [mReq, if_pos h101]⟩

set_option maxRecDepth 100000 in
set_option maxHeartbeats 4000000 in
theorem L_X7_startWaiting (C : XC p s m args meth c P A 4 RX7 cX7_startWaiting (some .int)) {τ : XS} {S F L : Nat → Int32} (h1 : xI1 P) (hM : MI S) {u : Int32} {n0 : Nat} (h0 : n0 ≤ 1000) (kx : XW p l e rm_X7_startWaiting s m args below meth c P A 4 0 0 Q (mW τ (mWait S u (mK S)).1 F L) 64 [(0, .ref (P.2.2.1 (.inr 9))), (1, .int (nI (n0 + (mWait S u (mK S)).2))), (2, .int u), (3, .int (nI (mK S)))] []) : ∀ (k i : Nat), i + k = mK S → XW p l e rm_X7_startWaiting s m args below meth c P A 4 0 0 Q (mW τ (mWait S u i).1 F L) 10 [(0, .ref (P.2.2.1 (.inr 9))), (1, .int (nI (n0 + (mWait S u (i)).2))), (2, .int u), (3, .int (nI (i)))] [] := by
  have hbd := hM.k40
  intro k
  induction k with
  | zero =>
    intro i hi
    have e9 : i = mK S := by omega
    subst e9
    have hk9 : (mWait S u (mK S)).1 5 = nI (mK S) := by rw [mWait_fx hM _ (Nat.le_refl _) 5 (Or.inl (by decide))]; exact hM.k
    refine X_iload_n (pc := 10) C 3 dX7_startWaiting_10 rfl rfl ?_
    refine X_aload_n (pc := 11) C 0 dX7_startWaiting_11 rfl rfl ?_
    refine G_X7_9 (pc := 12) C (by assumption) dX7_startWaiting_12 ?_
    refine X_iconst (pc := 15) (v := 5) C dX7_startWaiting_15 (by decide) ?_
    refine X_ialdN (j := 5) (pc := 16) C (by first | exact h1 _ (by decide) (by decide)) rfl (by omega) (by decide) dX7_startWaiting_16 ?_
    rw [mW_10]
    rw [hk9]
    refine X_icmp_ge (pc := 17) C 64 dX7_startWaiting_17 (by decide) (fun h17 => ?_) (fun h17 => ?_)
    · skip
      exact kx
    · exact absurd (nI_le (Nat.le_refl _) (n31 (by omega))) h17
  | succ k ih =>
    intro i hi
    have hlt : i < mK S := by omega
    have hf := mWait_fx (u := u) hM i (by omega)
    have hw := mWait_le S u i
    have hk9 : (mWait S u i).1 5 = nI (mK S) := by rw [hf 5 (Or.inl (by decide))]; exact hM.k
    have hMi : MI (mWait S u i).1 := hM.fx hf
    have hci : i < mK (mWait S u i).1 := by rw [mK_fx hf]; exact hlt
    refine X_iload_n (pc := 10) C 3 dX7_startWaiting_10 rfl rfl ?_
    refine X_aload_n (pc := 11) C 0 dX7_startWaiting_11 rfl rfl ?_
    refine G_X7_9 (pc := 12) C (by assumption) dX7_startWaiting_12 ?_
    refine X_iconst (pc := 15) (v := 5) C dX7_startWaiting_15 (by decide) ?_
    refine X_ialdN (j := 5) (pc := 16) C (by first | exact h1 _ (by decide) (by decide)) rfl (by omega) (by decide) dX7_startWaiting_16 ?_
    rw [mW_10]
    rw [hk9]
    refine X_icmp_ge (pc := 17) C 64 dX7_startWaiting_17 (by decide) (fun h17 => ?_) (fun h17 => ?_)
    · exact absurd (nle h17) (by omega)
    · skip
      refine X_aload_n (pc := 20) C 0 dX7_startWaiting_20 rfl rfl ?_
      refine X_iload_n (pc := 21) C 3 dX7_startWaiting_21 rfl rfl ?_
      refine X_iconst (pc := 22) (v := 4) C dX7_startWaiting_22 (by decide) ?_
      refine K_X7_88 (pc := 23) C (by assumption) (c_X7_ofCall l P τ (mWait S u i).1 F L h1 i 4 (by omega) (by decide) _ 4 rfl rfl) ⟨Nat.le_of_ble_eq_true rfl, Nat.le_of_ble_eq_true rfl⟩ ⟨rfl, rfl⟩ ⟨Nat.zero_le _, Nat.zero_le _⟩ (Nat.le_of_ble_eq_true rfl) dX7_startWaiting_23 ?_
      refine X_if_ne (pc := 26) C 58 dX7_startWaiting_26 (by decide) (fun h26 => ?_) (fun h26 => ?_)
      · have g9 : ¬ (sC (mWait S u i).1 4 i = 0 ∧ sC (mWait S u i).1 3 i = u ∧ mWhy (mWait S u i).1 i = 0) := fun q => h26 q.1
        first | refine X_iincN (pc := 58) (lv1 := [(0, _), (1, _), (2, _), (3, _)]) C dX7_startWaiting_58 rfl (by decide) (by decide) rfl ?_ | refine X_iinc (pc := 58) (kk := 1) (lv1 := [(0, _), (1, _), (2, _), (3, _)]) C dX7_startWaiting_58 rfl (by decide) (by decide) rfl ?_
        refine X_goto (pc := 61) C 10 dX7_startWaiting_61 (by decide) ?_
        exact XW.less (lv' := [(0, _), (1, _), (2, _), (3, _)]) [0, 1, 2, 3] rfl (XW.eq (by first | rw [mWait_n g9] | rw [mWait_y g9]) (by first | rw [mWait_n g9] | (rw [mWait_y g9]; rfl)) rfl (ih (i + 1) (by omega)))
      · skip
        refine X_aload_n (pc := 29) C 0 dX7_startWaiting_29 rfl rfl ?_
        refine X_iload_n (pc := 30) C 3 dX7_startWaiting_30 rfl rfl ?_
        refine X_iconst (pc := 31) (v := 3) C dX7_startWaiting_31 (by decide) ?_
        refine K_X7_88 (pc := 32) C (by assumption) (c_X7_ofCall l P τ (mWait S u i).1 F L h1 i 3 (by omega) (by decide) _ 3 rfl rfl) ⟨Nat.le_of_ble_eq_true rfl, Nat.le_of_ble_eq_true rfl⟩ ⟨rfl, rfl⟩ ⟨Nat.zero_le _, Nat.zero_le _⟩ (Nat.le_of_ble_eq_true rfl) dX7_startWaiting_32 ?_
        refine X_iload_n (pc := 35) C 2 dX7_startWaiting_35 rfl rfl ?_
        refine X_icmp_ne (pc := 36) C 58 dX7_startWaiting_36 (by decide) (fun h36 => ?_) (fun h36 => ?_)
        · have g9 : ¬ (sC (mWait S u i).1 4 i = 0 ∧ sC (mWait S u i).1 3 i = u ∧ mWhy (mWait S u i).1 i = 0) := fun q => h36 q.2.1
          first | refine X_iincN (pc := 58) (lv1 := [(0, _), (1, _), (2, _), (3, _)]) C dX7_startWaiting_58 rfl (by decide) (by decide) rfl ?_ | refine X_iinc (pc := 58) (kk := 1) (lv1 := [(0, _), (1, _), (2, _), (3, _)]) C dX7_startWaiting_58 rfl (by decide) (by decide) rfl ?_
          refine X_goto (pc := 61) C 10 dX7_startWaiting_61 (by decide) ?_
          exact XW.less (lv' := [(0, _), (1, _), (2, _), (3, _)]) [0, 1, 2, 3] rfl (XW.eq (by first | rw [mWait_n g9] | rw [mWait_y g9]) (by first | rw [mWait_n g9] | (rw [mWait_y g9]; rfl)) rfl (ih (i + 1) (by omega)))
        · skip
          refine X_aload_n (pc := 39) C 0 dX7_startWaiting_39 rfl rfl ?_
          refine X_iload_n (pc := 40) C 3 dX7_startWaiting_40 rfl rfl ?_
          refine K_X7_130 (pc := 41) C (by assumption) (c_X7_why l P τ (mWait S u i).1 F L h1 hMi i hci _ rfl) ⟨Nat.le_of_ble_eq_true rfl, Nat.le_of_ble_eq_true rfl⟩ ⟨rfl, rfl⟩ ⟨Nat.zero_le _, Nat.zero_le _⟩ (Nat.le_of_ble_eq_true rfl) dX7_startWaiting_41 ?_
          refine X_if_eq (pc := 44) C 50 dX7_startWaiting_44 (by decide) (fun h44 => ?_) (fun h44 => ?_)
          · have g9 : sC (mWait S u i).1 4 i = 0 ∧ sC (mWait S u i).1 3 i = u ∧ mWhy (mWait S u i).1 i = 0 := ⟨h26, h36, h44⟩
            refine X_aload_n (pc := 50) C 0 dX7_startWaiting_50 rfl rfl ?_
            refine X_iload_n (pc := 51) C 3 dX7_startWaiting_51 rfl rfl ?_
            refine K_X7_133 (pc := 52) C (by assumption) (c_X7_starts l P τ (mWait S u i).1 F L h1 hMi i hci _ rfl) ⟨Nat.le_of_ble_eq_true rfl, Nat.le_of_ble_eq_true rfl⟩ ⟨rfl, rfl⟩ ⟨Nat.zero_le _, Nat.zero_le _⟩ (Nat.le_of_ble_eq_true rfl) dX7_startWaiting_52 ?_
            first | refine X_iincN (pc := 55) (lv1 := [(0, _), (1, _), (2, _), (3, _)]) C dX7_startWaiting_55 rfl (by decide) (by decide) rfl ?_ | refine X_iinc (pc := 55) (kk := 1) (lv1 := [(0, _), (1, _), (2, _), (3, _)]) C dX7_startWaiting_55 rfl (by decide) (by decide) rfl ?_
            first | refine X_iincN (pc := 58) (lv1 := [(0, _), (1, _), (2, _), (3, _)]) C dX7_startWaiting_58 rfl (by decide) (by decide) rfl ?_ | refine X_iinc (pc := 58) (kk := 1) (lv1 := [(0, _), (1, _), (2, _), (3, _)]) C dX7_startWaiting_58 rfl (by decide) (by decide) rfl ?_
            refine X_goto (pc := 61) C 10 dX7_startWaiting_61 (by decide) ?_
            exact XW.less (lv' := [(0, _), (1, _), (2, _), (3, _)]) [0, 1, 2, 3] rfl (XW.eq (by first | rw [mWait_n g9] | rw [mWait_y g9]) (by first | rw [mWait_n g9] | (rw [mWait_y g9]; rfl)) rfl (ih (i + 1) (by omega)))
          · have g9 : ¬ (sC (mWait S u i).1 4 i = 0 ∧ sC (mWait S u i).1 3 i = u ∧ mWhy (mWait S u i).1 i = 0) := fun q => h44 q.2.2
            refine X_goto (pc := 47) C 58 dX7_startWaiting_47 (by decide) ?_
            first | refine X_iincN (pc := 58) (lv1 := [(0, _), (1, _), (2, _), (3, _)]) C dX7_startWaiting_58 rfl (by decide) (by decide) rfl ?_ | refine X_iinc (pc := 58) (kk := 1) (lv1 := [(0, _), (1, _), (2, _), (3, _)]) C dX7_startWaiting_58 rfl (by decide) (by decide) rfl ?_
            refine X_goto (pc := 61) C 10 dX7_startWaiting_61 (by decide) ?_
            exact XW.less (lv' := [(0, _), (1, _), (2, _), (3, _)]) [0, 1, 2, 3] rfl (XW.eq (by first | rw [mWait_n g9] | rw [mWait_y g9]) (by first | rw [mWait_n g9] | (rw [mWait_y g9]; rfl)) rfl (ih (i + 1) (by omega)))

set_option maxRecDepth 100000 in
set_option maxHeartbeats 4000000 in
theorem c_X7_startWaiting (l : Launch) (P : XP) (τ : XS) (S F L : Nat → Int32) (h1 : xI1 P) (hM : MI S) : XF l yX7_startWaiting cX7_startWaiting 4 (some .int) rm_X7_startWaiting P [.ref (P.2.2.1 (.inr 9))] (mW τ S F L) (some (.int (nI (mWaits S).2))) (mW τ (mWaits S).1 F L) := by
  refine XM.of (by decide +kernel) (Nat.le_of_ble_eq_true rfl) (fun p e s m args below meth c A C => ?_)
  replace C : XC p s m args meth c P A 4 RX7 cX7_startWaiting (some .int) := C
  refine XW.eq (lv' := [(0, _)]) rfl rfl rfl ?_
  refine X_iconst (pc := 0) (v := 0) C dX7_startWaiting_0 (by decide) ?_
  refine X_istore_n (pc := 1) (lv1 := [(0, _), (1, _)]) C 1 dX7_startWaiting_1 rfl (by decide) rfl ?_
  refine X_iconst (pc := 2) (v := 1) C dX7_startWaiting_2 (by decide) ?_
  refine X_istore_n (pc := 3) (lv1 := [(0, _), (1, _), (2, _)]) C 2 dX7_startWaiting_3 rfl (by decide) rfl ?_
  refine X_iload_n (pc := 4) C 2 dX7_startWaiting_4 rfl rfl ?_
  refine X_if_lt (pc := 5) C 70 dX7_startWaiting_5 (by decide) (fun h5 => ?_) (fun h5 => ?_)
  · exact absurd h5 (by decide)
  · skip
    refine X_iconst (pc := 8) (v := 0) C dX7_startWaiting_8 (by decide) ?_
    refine X_istore_n (pc := 9) (lv1 := [(0, _), (1, _), (2, _), (3, _)]) C 3 dX7_startWaiting_9 rfl (by decide) rfl ?_
    refine L_X7_startWaiting (S := S) (u := 1) (n0 := 0) C h1 hM (by omega) ?_ (mK S) 0 (by omega)
    refine X_iinc (pc := 64) (kk := (-1)) (lv1 := [(0, _), (1, _), (2, _), (3, _)]) C dX7_startWaiting_64 rfl (by decide) (by decide) rfl ?_
    refine X_goto (pc := 67) C 4 dX7_startWaiting_67 (by decide) ?_
    refine X_iload_n (pc := 4) C 2 dX7_startWaiting_4 rfl rfl ?_
    refine X_if_lt (pc := 5) C 70 dX7_startWaiting_5 (by decide) (fun h5 => ?_) (fun h5 => ?_)
    · exact absurd h5 (by decide)
    · skip
      refine X_iconst (pc := 8) (v := 0) C dX7_startWaiting_8 (by decide) ?_
      refine X_istore_n (pc := 9) (lv1 := [(0, _), (1, _), (2, _), (3, _)]) C 3 dX7_startWaiting_9 rfl (by decide) rfl ?_
      refine XW.less (lv' := [(0, _), (1, _), (2, .int 0), (3, .int (nI 0))]) [0, 1, 2, 3] rfl ?_
      have hM1 : MI (mWait S 1 (mK S)).1 := hM.fx (mWait_fx hM _ (Nat.le_refl _))
      have hk8 : mK (mWait S 1 (mK S)).1 = mK S := mK_fx (mWait_fx hM _ (Nat.le_refl _))
      refine L_X7_startWaiting (S := (mWait S 1 (mK S)).1) (u := 0) (n0 := 0 + (mWait S 1 (mK S)).2) C h1 hM1 (by have := mWait_le S 1 (mK S); have := hM.k40; omega) ?_ (mK (mWait S 1 (mK S)).1) 0 (by omega)
      refine X_iinc (pc := 64) (kk := (-1)) (lv1 := [(0, _), (1, _), (2, _), (3, _)]) C dX7_startWaiting_64 rfl (by decide) (by decide) rfl ?_
      refine X_goto (pc := 67) C 4 dX7_startWaiting_67 (by decide) ?_
      refine X_iload_n (pc := 4) C 2 dX7_startWaiting_4 rfl rfl ?_
      refine X_if_lt (pc := 5) C 70 dX7_startWaiting_5 (by decide) (fun h5 => ?_) (fun h5 => ?_)
      · skip
        refine X_iload_n (pc := 70) C 1 dX7_startWaiting_70 rfl rfl ?_
        exact X_iret (pc := 71) C (Nat.zero_le _) (Nat.zero_le _) dX7_startWaiting_71 ⟨by rw [mWaits, hk8, Nat.zero_add], by rw [mWaits, hk8]⟩
      · exact absurd (by decide) h5

set_option maxRecDepth 100000 in
set_option maxHeartbeats 4000000 in
theorem c_X7_finishes (l : Launch) (P : XP) (τ : XS) (S F L : Nat → Int32) (h1 : xI1 P) (hM : MI S) (j : Nat) (hj : j < mK S) (x : Int32) (hx : x = nI j) : XF l yX7_finishes cX7_finishes 3 (some .int) rm_X7_finishes P [.ref (P.2.2.1 (.inr 9)), .int x] (mW τ S F L) (some (.int (nI (mFin S j).2))) (mW τ (mFin S j).1 F L) := by
  refine XM.of (by decide +kernel) (Nat.le_of_ble_eq_true rfl) (fun p e s m args below meth c A C => ?_)
  replace C : XC p s m args meth c P A 3 RX7 cX7_finishes (some .int) := C
  refine XW.eq (lv' := [(0, _), (1, _)]) rfl rfl rfl ?_
  have hca := (hM.ca hj).1
  have hk40 := hM.k40
  refine X_aload_n (pc := 0) C 0 dX7_finishes_0 rfl rfl ?_
  refine X_iload_n (pc := 1) C 1 dX7_finishes_1 rfl rfl ?_
  refine X_iconst (pc := 2) (v := 0) C dX7_finishes_2 (by decide) ?_
  refine K_X7_88 (pc := 3) C (by assumption) (c_X7_ofCall l P τ S F L h1 j 0 (by have := hM.k40; omega) (by decide) _ 0 hx rfl) ⟨Nat.le_of_ble_eq_true rfl, Nat.le_of_ble_eq_true rfl⟩ ⟨rfl, rfl⟩ ⟨Nat.zero_le _, Nat.zero_le _⟩ (Nat.le_of_ble_eq_true rfl) dX7_finishes_3 ?_
  refine X_istore_n (pc := 6) (lv1 := [(0, _), (1, _), (2, _)]) C 2 dX7_finishes_6 rfl (by decide) rfl ?_
  refine X_aload_n (pc := 7) C 0 dX7_finishes_7 rfl rfl ?_
  refine X_iload_n (pc := 8) C 2 dX7_finishes_8 rfl rfl ?_
  refine X_iconst (pc := 9) (v := 3) C dX7_finishes_9 (by decide) ?_
  refine X_aload_n (pc := 10) C 0 dX7_finishes_10 rfl rfl ?_
  refine X_iload_n (pc := 11) C 2 dX7_finishes_11 rfl rfl ?_
  refine X_iconst (pc := 12) (v := 3) C dX7_finishes_12 (by decide) ?_
  refine K_X7_92 (pc := 13) C (by assumption) (c_X7_ofUser l P τ S F L h1 (cN (sC S 0 j)) 3 (hM.ca hj).1 (by decide) _ 3 (hM.ca hj).2 rfl) ⟨Nat.le_of_ble_eq_true rfl, Nat.le_of_ble_eq_true rfl⟩ ⟨rfl, rfl⟩ ⟨Nat.zero_le _, Nat.zero_le _⟩ (Nat.le_of_ble_eq_true rfl) dX7_finishes_13 ?_
  refine X_aload_n (pc := 16) C 0 dX7_finishes_16 rfl rfl ?_
  refine X_iload_n (pc := 17) C 1 dX7_finishes_17 rfl rfl ?_
  refine K_X7_142 (pc := 18) C (by assumption) (c_X7_cost l P τ S F L h1 hM j hj _ hx) ⟨Nat.le_of_ble_eq_true rfl, Nat.le_of_ble_eq_true rfl⟩ ⟨rfl, rfl⟩ ⟨Nat.zero_le _, Nat.zero_le _⟩ (Nat.le_of_ble_eq_true rfl) dX7_finishes_18 ?_
  refine X_iadd (pc := 21) C dX7_finishes_21 ?_
  refine K_X7_123 (pc := 22) C (by assumption) (c_X7_putUser l P τ S F L h1 (cN (sC S 0 j)) 3 (hM.ca hj).1 (by decide) _ 3 _ (hM.ca hj).2 rfl) ⟨Nat.le_of_ble_eq_true rfl, Nat.le_of_ble_eq_true rfl⟩ ⟨rfl, rfl⟩ ⟨Nat.zero_le _, Nat.zero_le _⟩ (Nat.le_of_ble_eq_true rfl) dX7_finishes_22 ?_
  refine X_aload_n (pc := 25) C 0 dX7_finishes_25 rfl rfl ?_
  refine X_iload_n (pc := 26) C 1 dX7_finishes_26 rfl rfl ?_
  refine X_iconst (pc := 27) (v := 4) C dX7_finishes_27 (by decide) ?_
  refine X_aload_n (pc := 28) C 0 dX7_finishes_28 rfl rfl ?_
  refine X_iload_n (pc := 29) C 1 dX7_finishes_29 rfl rfl ?_
  refine K_X7_95 (pc := 30) C (by assumption) (c_X7_isTalking l P τ (upd S (10 + 12 * cN (sC S 0 j) + 3) (sU S 3 (cN (sC S 0 j)) + mCost S j)) F L h1 j (by omega) _ hx) ⟨Nat.le_of_ble_eq_true rfl, Nat.le_of_ble_eq_true rfl⟩ ⟨rfl, rfl⟩ ⟨Nat.zero_le _, Nat.zero_le _⟩ (Nat.le_of_ble_eq_true rfl) dX7_finishes_30 ?_
  rw [sC_upd (S := S) (by omega)]
  refine X_if_eq (pc := 33) C 40 dX7_finishes_33 (by decide) (fun h33 => ?_) (fun h33 => ?_)
  · have g33 := bz0 h33
    refine X_iconst (pc := 40) (v := 3) C dX7_finishes_40 (by decide) ?_
    refine K_X7_127 (pc := 41) C (by assumption) (c_X7_putCall l P τ (upd S (10 + 12 * cN (sC S 0 j) + 3) (sU S 3 (cN (sC S 0 j)) + mCost S j)) F L h1 j 4 (by omega) (by decide) _ 4 _ hx rfl) ⟨Nat.le_of_ble_eq_true rfl, Nat.le_of_ble_eq_true rfl⟩ ⟨rfl, rfl⟩ ⟨Nat.zero_le _, Nat.zero_le _⟩ (Nat.le_of_ble_eq_true rfl) dX7_finishes_41 ?_
    refine X_aload_n (pc := 44) C 0 dX7_finishes_44 rfl rfl ?_
    refine X_iload_n (pc := 45) C 1 dX7_finishes_45 rfl rfl ?_
    refine X_bipush (pc := 46) (v := 6) C dX7_finishes_46 (by decide) ?_
    refine X_aload_n (pc := 48) C 0 dX7_finishes_48 rfl rfl ?_
    refine G_X7_9 (pc := 49) C (by assumption) dX7_finishes_49 ?_
    refine X_iconst (pc := 52) (v := 0) C dX7_finishes_52 (by decide) ?_
    refine X_ialdN (j := 0) (pc := 53) C (by first | exact h1 _ (by decide) (by decide)) rfl (by omega) (by decide) dX7_finishes_53 ?_
    rw [mW_10]
    rw [upd_ne (by omega), upd_ne (by omega)]
    refine K_X7_127 (pc := 54) C (by assumption) (c_X7_putCall l P τ (upd (upd S (10 + 12 * cN (sC S 0 j) + 3) (sU S 3 (cN (sC S 0 j)) + mCost S j)) (190 + 9 * j + 4) _) F L h1 j 6 (by omega) (by decide) _ 6 _ hx rfl) ⟨Nat.le_of_ble_eq_true rfl, Nat.le_of_ble_eq_true rfl⟩ ⟨rfl, rfl⟩ ⟨Nat.zero_le _, Nat.zero_le _⟩ (Nat.le_of_ble_eq_true rfl) dX7_finishes_54 ?_
    refine XW.eq (σ' := mW τ (mFin0 S j) F L) (by simp only [mFin0, g33, if_true, if_false]) rfl rfl ?_
    refine X_aload_n (pc := 57) C 0 dX7_finishes_57 rfl rfl ?_
    refine K_X7_145 (pc := 58) C (by assumption) (c_X7_startWaiting l P τ (mFin0 S j) F L h1 (hM.fx (mFin0_fx hM hj))) ⟨Nat.le_of_ble_eq_true rfl, Nat.le_of_ble_eq_true rfl⟩ ⟨rfl, rfl⟩ ⟨Nat.zero_le _, Nat.zero_le _⟩ (Nat.le_of_ble_eq_true rfl) dX7_finishes_58 ?_
    exact X_iret (pc := 61) C (Nat.zero_le _) (Nat.zero_le _) dX7_finishes_61 ⟨rfl, rfl⟩
  · have g33 := bz1 h33
    refine X_iconst (pc := 36) (v := 2) C dX7_finishes_36 (by decide) ?_
    refine X_goto (pc := 37) C 41 dX7_finishes_37 (by decide) ?_
    refine K_X7_127 (pc := 41) C (by assumption) (c_X7_putCall l P τ (upd S (10 + 12 * cN (sC S 0 j) + 3) (sU S 3 (cN (sC S 0 j)) + mCost S j)) F L h1 j 4 (by omega) (by decide) _ 4 _ hx rfl) ⟨Nat.le_of_ble_eq_true rfl, Nat.le_of_ble_eq_true rfl⟩ ⟨rfl, rfl⟩ ⟨Nat.zero_le _, Nat.zero_le _⟩ (Nat.le_of_ble_eq_true rfl) dX7_finishes_41 ?_
    refine X_aload_n (pc := 44) C 0 dX7_finishes_44 rfl rfl ?_
    refine X_iload_n (pc := 45) C 1 dX7_finishes_45 rfl rfl ?_
    refine X_bipush (pc := 46) (v := 6) C dX7_finishes_46 (by decide) ?_
    refine X_aload_n (pc := 48) C 0 dX7_finishes_48 rfl rfl ?_
    refine G_X7_9 (pc := 49) C (by assumption) dX7_finishes_49 ?_
    refine X_iconst (pc := 52) (v := 0) C dX7_finishes_52 (by decide) ?_
    refine X_ialdN (j := 0) (pc := 53) C (by first | exact h1 _ (by decide) (by decide)) rfl (by omega) (by decide) dX7_finishes_53 ?_
    rw [mW_10]
    rw [upd_ne (by omega), upd_ne (by omega)]
    refine K_X7_127 (pc := 54) C (by assumption) (c_X7_putCall l P τ (upd (upd S (10 + 12 * cN (sC S 0 j) + 3) (sU S 3 (cN (sC S 0 j)) + mCost S j)) (190 + 9 * j + 4) _) F L h1 j 6 (by omega) (by decide) _ 6 _ hx rfl) ⟨Nat.le_of_ble_eq_true rfl, Nat.le_of_ble_eq_true rfl⟩ ⟨rfl, rfl⟩ ⟨Nat.zero_le _, Nat.zero_le _⟩ (Nat.le_of_ble_eq_true rfl) dX7_finishes_54 ?_
    refine XW.eq (σ' := mW τ (mFin0 S j) F L) (by simp only [mFin0, g33, if_true, if_false]) rfl rfl ?_
    refine X_aload_n (pc := 57) C 0 dX7_finishes_57 rfl rfl ?_
    refine K_X7_145 (pc := 58) C (by assumption) (c_X7_startWaiting l P τ (mFin0 S j) F L h1 (hM.fx (mFin0_fx hM hj))) ⟨Nat.le_of_ble_eq_true rfl, Nat.le_of_ble_eq_true rfl⟩ ⟨rfl, rfl⟩ ⟨Nat.zero_le _, Nat.zero_le _⟩ (Nat.le_of_ble_eq_true rfl) dX7_finishes_58 ?_
    exact X_iret (pc := 61) C (Nat.zero_le _) (Nat.zero_le _) dX7_finishes_61 ⟨rfl, rfl⟩

end XP32

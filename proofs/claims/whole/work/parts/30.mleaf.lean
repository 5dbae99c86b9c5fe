/-! THE REFERENCE: its row, its fields, its letters; leaves -/
def mW (τ : XS) (S F L : Nat → Int32) : XS := xA (xA (xA τ (.inr 10) S) (.inr 9) F) (.inr 18) L
theorem mW_10 {τ : XS} {S F L : Nat → Int32} : (mW τ S F L).1 (.inr 10) = S := by simp [mW, xA]
theorem mW_9 {τ : XS} {S F L : Nat → Int32} : (mW τ S F L).1 (.inr 9) = F := by simp [mW, xA]
theorem mW_18 {τ : XS} {S F L : Nat → Int32} : (mW τ S F L).1 (.inr 18) = L := by simp [mW, xA]
theorem mW_o {τ : XS} {S F L : Nat → Int32} {i : XI} (h : i ≠ .inr 10) (h2 : i ≠ .inr 9) (h3 : i ≠ .inr 18) : (mW τ S F L).1 i = τ.1 i := by simp [mW, xA, h, h2, h3]
theorem mW_l {τ : XS} {S F L : Nat → Int32} : (mW τ S F L).2 = τ.2 := rfl
theorem mW_ext {σ τ : XS} (h : ∀ i, σ.1 i = τ.1 i) (h2 : σ.2 = τ.2) : σ = τ := Prod.ext (funext h) h2
theorem mW_A10 {τ : XS} {S F L S1 : Nat → Int32} : xA (mW τ S F L) (.inr 10) S1 = mW τ S1 F L := by
  refine mW_ext (fun i => ?_) rfl
  unfold mW xA
  by_cases h : i = .inr 10
  · subst h; simp
  · simp [h]
theorem mW_A9 {τ : XS} {S F L F1 : Nat → Int32} : xA (mW τ S F L) (.inr 9) F1 = mW τ S F1 L := by
  refine mW_ext (fun i => ?_) rfl
  unfold mW xA
  by_cases h : i = .inr 9
  · subst h; simp
  · simp [h]
theorem mW_A18 {τ : XS} {S F L L1 : Nat → Int32} : xA (mW τ S F L) (.inr 18) L1 = mW τ S F L1 := by
  refine mW_ext (fun i => ?_) rfl
  unfold mW xA
  by_cases h : i = .inr 18
  · subst h; simp
  · simp [h]
theorem mW_Ao {τ : XS} {S F L f : Nat → Int32} {j : XI} (h : j ≠ .inr 10) (h2 : j ≠ .inr 9) (h3 : j ≠ .inr 18) : xA (mW τ S F L) j f = mW (xA τ j f) S F L := by
  refine mW_ext (fun i => ?_) rfl
  unfold mW xA
  by_cases g : i = j
  · subst g; simp [h, h2, h3]
  · simp [g]
theorem mW_u10 {τ : XS} {S F L : Nat → Int32} {k : Nat} {v : Int32} : xu (mW τ S F L) (.inr 10) k v = mW τ (upd S k v) F L := by rw [xu, mW_10, mW_A10]
theorem mW_u9 {τ : XS} {S F L : Nat → Int32} {k : Nat} {v : Int32} : xu (mW τ S F L) (.inr 9) k v = mW τ S (upd F k v) L := by rw [xu, mW_9, mW_A9]
theorem mW_u18 {τ : XS} {S F L : Nat → Int32} {k : Nat} {v : Int32} : xu (mW τ S F L) (.inr 18) k v = mW τ S F (upd L k v) := by rw [xu, mW_18, mW_A18]
theorem mW_id (σ : XS) : σ = mW σ (σ.1 (.inr 10)) (σ.1 (.inr 9)) (σ.1 (.inr 18)) := by
  refine mW_ext (fun i => ?_) rfl
  unfold mW xA
  by_cases h : i = .inr 18
  · subst h; simp
  · by_cases h2 : i = .inr 9
    · subst h2; simp
    · by_cases h3 : i = .inr 10
      · subst h3; simp
      · simp [h, h2, h3]
theorem upd_at {f : Nat → Int32} {k : Nat} {v : Int32} : upd f k v k = v := by simp [upd]
theorem upd_ne {f : Nat → Int32} {k n : Nat} {v : Int32} (h : n ≠ k) : upd f k v n = f n := by simp [upd, h]
/-- what stands of user u, of call c -/
abbrev sU (S : Nat → Int32) (w u : Nat) : Int32 := S (10 + 12 * u + w)
abbrev sC (S : Nat → Int32) (w c : Nat) : Int32 := S (190 + 9 * c + w)
abbrev cN (x : Int32) : Nat := x.toNatClampNeg
theorem nI_m (a b : Nat) : nI a * nI b = nI (a * b) := (Int32.ofNat_mul a b).symm
def mFl (a b d : Int32) : Int32 := if ¬ a = 0 then 1 else if ¬ b = 0 then 2 else if ¬ d = 0 then 3 else 0
theorem bz00 {p : Prop} {hp : Decidable p} (h : (if p then (0 : Int32) else 1) = 0) : p := Classical.byContradiction fun q => by rw [if_neg q] at h; exact absurd h (by decide)
theorem bz01 {p : Prop} {hp : Decidable p} (h : ¬ (if p then (0 : Int32) else 1) = 0) : ¬ p := fun q => h (if_pos q)
theorem mFl_1 {p : Prop} {hp : Decidable p} : mFl (if p then 0 else 1) 0 0 = if p then 0 else 1 := by by_cases h : p <;> simp [mFl, h]
theorem if01_0 {p : Prop} {hp : Decidable p} : (if (if p then (0 : Int32) else 1) = 0 then (0 : Int32) else 1) = if p then 0 else 1 := by by_cases h : p <;> simp [h]
theorem nar_if {p : Prop} {hp : Decidable p} {a b : Int32} (ha : a = 0 ∨ a = 1) (hb : b = 0 ∨ b = 1) : vp_nar .boolean (if p then a else b) = if p then a else b := nar01 (by by_cases h : p <;> simp [h, ha, hb])
theorem uix (u w : Nat) : (10 : Int32) + 12 * nI u + nI w = nI (10 + 12 * u + w) := by
  rw [show (10 : Int32) = nI 10 from rfl, show (12 : Int32) = nI 12 from rfl, nI_m, nI_add, nI_add]
theorem cix (u w : Nat) : (190 : Int32) + 9 * nI u + nI w = nI (190 + 9 * u + w) := by
  rw [show (190 : Int32) = nI 190 from rfl, show (9 : Int32) = nI 9 from rfl, nI_m, nI_add, nI_add]
def mIn (x a b : Int32) : Int32 := if a ≤ x ∧ x ≤ b then 1 else 0
theorem mIn_ok {x : Int32} {n : Nat} (hn : n ≤ 1000000) : mIn x 0 (nI n - 1) = if xok x n then 1 else 0 := by
  unfold mIn
  have e : (0 ≤ x ∧ x ≤ nI n - 1) ↔ xok x n := by
    cases n with
    | zero =>
      constructor
      · intro h
        have h1 := Int32.le_iff_toInt_le.mp h.1
        have h2 := Int32.le_iff_toInt_le.mp h.2
        rw [show (nI 0 - 1).toInt = -1 from by decide] at h2
        rw [show (0 : Int32).toInt = 0 from by decide] at h1
        omega
      · intro h
        obtain ⟨h1, h2⟩ := h
        omega
    | succ k =>
      rw [nI_pred]
      unfold xok
      rw [Int32.le_iff_toInt_le, Int32.le_iff_toInt_le, nI_toInt (by omega), show (0 : Int32).toInt = 0 from by decide]
      omega
  by_cases h : xok x n
  · rw [if_pos h, if_pos (e.mpr h)]
  · rw [if_neg h, if_neg (fun q => h (e.mp q))]
section XP30
variable {p : Program} {l : Launch} {e : Env} {R : Room} {s : State} {m : MethodId} {args : Array Value} {below : List Frame} {meth : Method} {c : Code} {P : XP} {A : Nat → Prop} {nL cells slots : Nat} {Q : State → Prop} {cc : ByteArray} {ret : Option FieldType} {σ : XS} {pc : Nat} {lv : List (Nat × Value)} {st : List Value}
set_option maxRecDepth 100000 in
set_option maxHeartbeats 4000000 in
theorem c_X7_isIn (l : Launch) (P : XP) (σ : XS) (x a b : Int32) : XF l yX7_isIn cX7_isIn 3 (some .boolean) rm_X7_isIn P [.int x, .int a, .int b] σ (some (.int (mIn x a b))) (σ) := by
  refine XM.of (by decide +kernel) (Nat.le_of_ble_eq_true rfl) (fun p e s m args below meth c A C => ?_)
  replace C : XC p s m args meth c P A 3 RX7 cX7_isIn (some .boolean) := C
  refine XW.eq (lv' := [(0, _), (1, _), (2, _)]) rfl rfl rfl ?_
  refine X_iload_n (pc := 0) C 0 dX7_isIn_0 rfl rfl ?_
  refine X_iload_n (pc := 1) C 1 dX7_isIn_1 rfl rfl ?_
  refine X_icmp_lt (pc := 2) C 14 dX7_isIn_2 (by decide) (fun h2 => ?_) (fun h2 => ?_)
  · skip
    refine X_iconst (pc := 14) (v := 0) C dX7_isIn_14 (by decide) ?_
    exact X_zret (pc := 15) C (Nat.zero_le _) (Nat.zero_le _) (rfl) dX7_isIn_15 ⟨by rw [mIn, if_neg (fun q => Int32.not_le.mpr h2 q.1)], rfl⟩
  · skip
    refine X_iload_n (pc := 5) C 0 dX7_isIn_5 rfl rfl ?_
    refine X_iload_n (pc := 6) C 2 dX7_isIn_6 rfl rfl ?_
    refine X_icmp_gt (pc := 7) C 14 dX7_isIn_7 (by decide) (fun h7 => ?_) (fun h7 => ?_)
    · skip
      refine X_iconst (pc := 14) (v := 0) C dX7_isIn_14 (by decide) ?_
      exact X_zret (pc := 15) C (Nat.zero_le _) (Nat.zero_le _) (rfl) dX7_isIn_15 ⟨by rw [mIn, if_neg (fun q => Int32.not_le.mpr h7 q.2)], rfl⟩
    · skip
      refine X_iconst (pc := 10) (v := 1) C dX7_isIn_10 (by decide) ?_
      refine X_goto (pc := 11) C 15 dX7_isIn_11 (by decide) ?_
      exact X_zret (pc := 15) C (Nat.zero_le _) (Nat.zero_le _) (rfl) dX7_isIn_15 ⟨by rw [mIn, if_pos ⟨Int32.not_lt.mp h2, Int32.not_lt.mp h7⟩], rfl⟩

set_option maxRecDepth 100000 in
set_option maxHeartbeats 4000000 in
theorem c_X7_ofUser (l : Launch) (P : XP) (τ : XS) (S F L : Nat → Int32) (h1 : xI1 P) (u w : Nat) (hu : u < 15) (hw : w < 12) (x y : Int32) (hx : x = nI u) (hy : y = nI w) : XF l yX7_ofUser cX7_ofUser 3 (some .int) rm_X7_ofUser P [.ref (P.2.2.1 (.inr 9)), .int x, .int y] (mW τ S F L) (some (.int (sU S w u))) (mW τ S F L) := by
  refine XM.of (by decide +kernel) (Nat.le_of_ble_eq_true rfl) (fun p e s m args below meth c A C => ?_)
  replace C : XC p s m args meth c P A 3 RX7 cX7_ofUser (some .int) := C
  refine XW.eq (lv' := [(0, _), (1, _), (2, _)]) rfl rfl rfl ?_
  subst hx
  subst hy
  refine X_aload_n (pc := 0) C 0 dX7_ofUser_0 rfl rfl ?_
  refine G_X7_9 (pc := 1) C (by assumption) dX7_ofUser_1 ?_
  refine X_bipush (pc := 4) (v := 10) C dX7_ofUser_4 (by decide) ?_
  refine X_bipush (pc := 6) (v := 12) C dX7_ofUser_6 (by decide) ?_
  refine X_iload_n (pc := 8) C 1 dX7_ofUser_8 rfl rfl ?_
  refine X_imul (pc := 9) C dX7_ofUser_9 ?_
  refine X_iadd (pc := 10) C dX7_ofUser_10 ?_
  refine X_iload_n (pc := 11) C 2 dX7_ofUser_11 rfl rfl ?_
  refine X_iadd (pc := 12) C dX7_ofUser_12 ?_
  rw [uix]
  refine X_ialdN (pc := 13) C (by first | exact h1 _ (by decide) (by decide)) rfl (by omega) (by decide) dX7_ofUser_13 ?_
  rw [mW_10]
  exact X_iret (pc := 14) C (Nat.zero_le _) (Nat.zero_le _) dX7_ofUser_14 ⟨rfl, rfl⟩

set_option maxRecDepth 100000 in
set_option maxHeartbeats 4000000 in
theorem c_X7_putUser (l : Launch) (P : XP) (τ : XS) (S F L : Nat → Int32) (h1 : xI1 P) (u w : Nat) (hu : u < 15) (hw : w < 12) (x y v : Int32) (hx : x = nI u) (hy : y = nI w) : XF l yX7_putUser cX7_putUser 4 none rm_X7_putUser P [.ref (P.2.2.1 (.inr 9)), .int x, .int y, .int v] (mW τ S F L) (none) (mW τ (upd S (10 + 12 * u + w) v) F L) := by
  refine XM.of (by decide +kernel) (Nat.le_of_ble_eq_true rfl) (fun p e s m args below meth c A C => ?_)
  replace C : XC p s m args meth c P A 4 RX7 cX7_putUser none := C
  refine XW.eq (lv' := [(0, _), (1, _), (2, _), (3, _)]) rfl rfl rfl ?_
  subst hx
  subst hy
  refine X_aload_n (pc := 0) C 0 dX7_putUser_0 rfl rfl ?_
  refine G_X7_9 (pc := 1) C (by assumption) dX7_putUser_1 ?_
  refine X_bipush (pc := 4) (v := 10) C dX7_putUser_4 (by decide) ?_
  refine X_bipush (pc := 6) (v := 12) C dX7_putUser_6 (by decide) ?_
  refine X_iload_n (pc := 8) C 1 dX7_putUser_8 rfl rfl ?_
  refine X_imul (pc := 9) C dX7_putUser_9 ?_
  refine X_iadd (pc := 10) C dX7_putUser_10 ?_
  refine X_iload_n (pc := 11) C 2 dX7_putUser_11 rfl rfl ?_
  refine X_iadd (pc := 12) C dX7_putUser_12 ?_
  rw [uix]
  refine X_iload_n (pc := 13) C 3 dX7_putUser_13 rfl rfl ?_
  refine X_iastN (pc := 14) C (by first | exact h1 _ (by decide) (by decide)) rfl (by omega) (by decide) dX7_putUser_14 ?_
  rw [mW_u10]
  exact X_vret (pc := 15) C (Nat.zero_le _) (Nat.zero_le _) dX7_putUser_15 ⟨rfl, rfl⟩

set_option maxRecDepth 100000 in
set_option maxHeartbeats 4000000 in
theorem c_X7_ofCall (l : Launch) (P : XP) (τ : XS) (S F L : Nat → Int32) (h1 : xI1 P) (u w : Nat) (hu : u < 40) (hw : w < 9) (x y : Int32) (hx : x = nI u) (hy : y = nI w) : XF l yX7_ofCall cX7_ofCall 3 (some .int) rm_X7_ofCall P [.ref (P.2.2.1 (.inr 9)), .int x, .int y] (mW τ S F L) (some (.int (sC S w u))) (mW τ S F L) := by
  refine XM.of (by decide +kernel) (Nat.le_of_ble_eq_true rfl) (fun p e s m args below meth c A C => ?_)
  replace C : XC p s m args meth c P A 3 RX7 cX7_ofCall (some .int) := C
  refine XW.eq (lv' := [(0, _), (1, _), (2, _)]) rfl rfl rfl ?_
  subst hx
  subst hy
  refine X_aload_n (pc := 0) C 0 dX7_ofCall_0 rfl rfl ?_
  refine G_X7_9 (pc := 1) C (by assumption) dX7_ofCall_1 ?_
  refine X_sipush (pc := 4) (v := 190) C dX7_ofCall_4 (by decide) ?_
  refine X_bipush (pc := 7) (v := 9) C dX7_ofCall_7 (by decide) ?_
  refine X_iload_n (pc := 9) C 1 dX7_ofCall_9 rfl rfl ?_
  refine X_imul (pc := 10) C dX7_ofCall_10 ?_
  refine X_iadd (pc := 11) C dX7_ofCall_11 ?_
  refine X_iload_n (pc := 12) C 2 dX7_ofCall_12 rfl rfl ?_
  refine X_iadd (pc := 13) C dX7_ofCall_13 ?_
  rw [cix]
  refine X_ialdN (pc := 14) C (by first | exact h1 _ (by decide) (by decide)) rfl (by omega) (by decide) dX7_ofCall_14 ?_
  rw [mW_10]
  exact X_iret (pc := 15) C (Nat.zero_le _) (Nat.zero_le _) dX7_ofCall_15 ⟨rfl, rfl⟩

set_option maxRecDepth 100000 in
set_option maxHeartbeats 4000000 in
theorem c_X7_putCall (l : Launch) (P : XP) (τ : XS) (S F L : Nat → Int32) (h1 : xI1 P) (u w : Nat) (hu : u < 40) (hw : w < 9) (x y v : Int32) (hx : x = nI u) (hy : y = nI w) : XF l yX7_putCall cX7_putCall 4 none rm_X7_putCall P [.ref (P.2.2.1 (.inr 9)), .int x, .int y, .int v] (mW τ S F L) (none) (mW τ (upd S (190 + 9 * u + w) v) F L) := by
  refine XM.of (by decide +kernel) (Nat.le_of_ble_eq_true rfl) (fun p e s m args below meth c A C => ?_)
  replace C : XC p s m args meth c P A 4 RX7 cX7_putCall none := C
  refine XW.eq (lv' := [(0, _), (1, _), (2, _), (3, _)]) rfl rfl rfl ?_
  subst hx
  subst hy
  refine X_aload_n (pc := 0) C 0 dX7_putCall_0 rfl rfl ?_
  refine G_X7_9 (pc := 1) C (by assumption) dX7_putCall_1 ?_
  refine X_sipush (pc := 4) (v := 190) C dX7_putCall_4 (by decide) ?_
  refine X_bipush (pc := 7) (v := 9) C dX7_putCall_7 (by decide) ?_
  refine X_iload_n (pc := 9) C 1 dX7_putCall_9 rfl rfl ?_
  refine X_imul (pc := 10) C dX7_putCall_10 ?_
  refine X_iadd (pc := 11) C dX7_putCall_11 ?_
  refine X_iload_n (pc := 12) C 2 dX7_putCall_12 rfl rfl ?_
  refine X_iadd (pc := 13) C dX7_putCall_13 ?_
  rw [cix]
  refine X_iload_n (pc := 14) C 3 dX7_putCall_14 rfl rfl ?_
  refine X_iastN (pc := 15) C (by first | exact h1 _ (by decide) (by decide)) rfl (by omega) (by decide) dX7_putCall_15 ?_
  rw [mW_u10]
  exact X_vret (pc := 16) C (Nat.zero_le _) (Nat.zero_le _) dX7_putCall_16 ⟨rfl, rfl⟩

set_option maxRecDepth 100000 in
set_option maxHeartbeats 4000000 in
theorem c_X7_noUser (l : Launch) (P : XP) (τ : XS) (S F L : Nat → Int32) (h1 : xI1 P) (n : Nat) (hm : n ≤ 1000000) (hn : S 4 = nI n) (x : Int32) : XF l yX7_noUser cX7_noUser 2 (some .boolean) rm_X7_noUser P [.ref (P.2.2.1 (.inr 9)), .int x] (mW τ S F L) (some (.int (if xok x n then 0 else 1))) (mW τ S F L) := by
  refine XM.of (by decide +kernel) (Nat.le_of_ble_eq_true rfl) (fun p e s m args below meth c A C => ?_)
  replace C : XC p s m args meth c P A 2 RX7 cX7_noUser (some .boolean) := C
  refine XW.eq (lv' := [(0, _), (1, _)]) rfl rfl rfl ?_
  refine X_iload_n (pc := 0) C 1 dX7_noUser_0 rfl rfl ?_
  refine X_iconst (pc := 1) (v := 0) C dX7_noUser_1 (by decide) ?_
  refine X_aload_n (pc := 2) C 0 dX7_noUser_2 rfl rfl ?_
  refine G_X7_9 (pc := 3) C (by assumption) dX7_noUser_3 ?_
  refine X_iconst (pc := 6) (v := 4) C dX7_noUser_6 (by decide) ?_
  refine X_ialdN (j := 4) (pc := 7) C (by first | exact h1 _ (by decide) (by decide)) rfl (by omega) (by decide) dX7_noUser_7 ?_
  rw [mW_10]
  rw [hn]
  refine X_iconst (pc := 8) (v := 1) C dX7_noUser_8 (by decide) ?_
  refine X_isub (pc := 9) C dX7_noUser_9 ?_
  refine K_X7_80 (pc := 10) C (c_X7_isIn l P (mW τ S F L) x 0 (nI n - 1)) ⟨Nat.le_of_ble_eq_true rfl, Nat.le_of_ble_eq_true rfl⟩ ⟨rfl, rfl⟩ ⟨Nat.zero_le _, Nat.zero_le _⟩ (Nat.le_of_ble_eq_true rfl) dX7_noUser_10 ?_
  rw [mIn_ok hm]
  refine X_if_ne (pc := 13) C 20 dX7_noUser_13 (by decide) (fun h13 => ?_) (fun h13 => ?_)
  · skip
    refine X_iconst (pc := 20) (v := 0) C dX7_noUser_20 (by decide) ?_
    exact X_zret (pc := 21) C (Nat.zero_le _) (Nat.zero_le _) (rfl) dX7_noUser_21 ⟨by rw [if_pos (bz1 h13)], rfl⟩
  · skip
    refine X_iconst (pc := 16) (v := 1) C dX7_noUser_16 (by decide) ?_
    refine X_goto (pc := 17) C 21 dX7_noUser_17 (by decide) ?_
    exact X_zret (pc := 21) C (Nat.zero_le _) (Nat.zero_le _) (rfl) dX7_noUser_21 ⟨by rw [if_neg (bz0 h13)], rfl⟩

set_option maxRecDepth 100000 in
set_option maxHeartbeats 4000000 in
theorem c_X7_noLine (l : Launch) (P : XP) (τ : XS) (S F L : Nat → Int32) (h1 : xI1 P) (n : Nat) (hm : n ≤ 1000000) (hn : S 1 = nI n) (x : Int32) : XF l yX7_noLine cX7_noLine 2 (some .boolean) rm_X7_noLine P [.ref (P.2.2.1 (.inr 9)), .int x] (mW τ S F L) (some (.int (if xok x n then 0 else 1))) (mW τ S F L) := by
  refine XM.of (by decide +kernel) (Nat.le_of_ble_eq_true rfl) (fun p e s m args below meth c A C => ?_)
  replace C : XC p s m args meth c P A 2 RX7 cX7_noLine (some .boolean) := C
  refine XW.eq (lv' := [(0, _), (1, _)]) rfl rfl rfl ?_
  refine X_iload_n (pc := 0) C 1 dX7_noLine_0 rfl rfl ?_
  refine X_iconst (pc := 1) (v := 0) C dX7_noLine_1 (by decide) ?_
  refine X_aload_n (pc := 2) C 0 dX7_noLine_2 rfl rfl ?_
  refine G_X7_9 (pc := 3) C (by assumption) dX7_noLine_3 ?_
  refine X_iconst (pc := 6) (v := 1) C dX7_noLine_6 (by decide) ?_
  refine X_ialdN (j := 1) (pc := 7) C (by first | exact h1 _ (by decide) (by decide)) rfl (by omega) (by decide) dX7_noLine_7 ?_
  rw [mW_10]
  rw [hn]
  refine X_iconst (pc := 8) (v := 1) C dX7_noLine_8 (by decide) ?_
  refine X_isub (pc := 9) C dX7_noLine_9 ?_
  refine K_X7_80 (pc := 10) C (c_X7_isIn l P (mW τ S F L) x 0 (nI n - 1)) ⟨Nat.le_of_ble_eq_true rfl, Nat.le_of_ble_eq_true rfl⟩ ⟨rfl, rfl⟩ ⟨Nat.zero_le _, Nat.zero_le _⟩ (Nat.le_of_ble_eq_true rfl) dX7_noLine_10 ?_
  rw [mIn_ok hm]
  refine X_if_ne (pc := 13) C 20 dX7_noLine_13 (by decide) (fun h13 => ?_) (fun h13 => ?_)
  · skip
    refine X_iconst (pc := 20) (v := 0) C dX7_noLine_20 (by decide) ?_
    exact X_zret (pc := 21) C (Nat.zero_le _) (Nat.zero_le _) (rfl) dX7_noLine_21 ⟨by rw [if_pos (bz1 h13)], rfl⟩
  · skip
    refine X_iconst (pc := 16) (v := 1) C dX7_noLine_16 (by decide) ?_
    refine X_goto (pc := 17) C 21 dX7_noLine_17 (by decide) ?_
    exact X_zret (pc := 21) C (Nat.zero_le _) (Nat.zero_le _) (rfl) dX7_noLine_21 ⟨by rw [if_neg (bz0 h13)], rfl⟩

set_option maxRecDepth 100000 in
set_option maxHeartbeats 4000000 in
theorem c_X7_noTrunk (l : Launch) (P : XP) (τ : XS) (S F L : Nat → Int32) (h1 : xI1 P) (n : Nat) (hm : n ≤ 1000000) (hn : S 3 = nI n) (x : Int32) : XF l yX7_noTrunk cX7_noTrunk 2 (some .boolean) rm_X7_noTrunk P [.ref (P.2.2.1 (.inr 9)), .int x] (mW τ S F L) (some (.int (if xok x n then 0 else 1))) (mW τ S F L) := by
  refine XM.of (by decide +kernel) (Nat.le_of_ble_eq_true rfl) (fun p e s m args below meth c A C => ?_)
  replace C : XC p s m args meth c P A 2 RX7 cX7_noTrunk (some .boolean) := C
  refine XW.eq (lv' := [(0, _), (1, _)]) rfl rfl rfl ?_
  refine X_iload_n (pc := 0) C 1 dX7_noTrunk_0 rfl rfl ?_
  refine X_iconst (pc := 1) (v := 0) C dX7_noTrunk_1 (by decide) ?_
  refine X_aload_n (pc := 2) C 0 dX7_noTrunk_2 rfl rfl ?_
  refine G_X7_9 (pc := 3) C (by assumption) dX7_noTrunk_3 ?_
  refine X_iconst (pc := 6) (v := 3) C dX7_noTrunk_6 (by decide) ?_
  refine X_ialdN (j := 3) (pc := 7) C (by first | exact h1 _ (by decide) (by decide)) rfl (by omega) (by decide) dX7_noTrunk_7 ?_
  rw [mW_10]
  rw [hn]
  refine X_iconst (pc := 8) (v := 1) C dX7_noTrunk_8 (by decide) ?_
  refine X_isub (pc := 9) C dX7_noTrunk_9 ?_
  refine K_X7_80 (pc := 10) C (c_X7_isIn l P (mW τ S F L) x 0 (nI n - 1)) ⟨Nat.le_of_ble_eq_true rfl, Nat.le_of_ble_eq_true rfl⟩ ⟨rfl, rfl⟩ ⟨Nat.zero_le _, Nat.zero_le _⟩ (Nat.le_of_ble_eq_true rfl) dX7_noTrunk_10 ?_
  rw [mIn_ok hm]
  refine X_if_ne (pc := 13) C 20 dX7_noTrunk_13 (by decide) (fun h13 => ?_) (fun h13 => ?_)
  · skip
    refine X_iconst (pc := 20) (v := 0) C dX7_noTrunk_20 (by decide) ?_
    exact X_zret (pc := 21) C (Nat.zero_le _) (Nat.zero_le _) (rfl) dX7_noTrunk_21 ⟨by rw [if_pos (bz1 h13)], rfl⟩
  · skip
    refine X_iconst (pc := 16) (v := 1) C dX7_noTrunk_16 (by decide) ?_
    refine X_goto (pc := 17) C 21 dX7_noTrunk_17 (by decide) ?_
    exact X_zret (pc := 21) C (Nat.zero_le _) (Nat.zero_le _) (rfl) dX7_noTrunk_21 ⟨by rw [if_neg (bz0 h13)], rfl⟩

set_option maxRecDepth 100000 in
set_option maxHeartbeats 4000000 in
theorem c_X7_noCall (l : Launch) (P : XP) (τ : XS) (S F L : Nat → Int32) (h1 : xI1 P) (n : Nat) (hm : n ≤ 1000000) (hn : S 5 = nI n) (x : Int32) : XF l yX7_noCall cX7_noCall 2 (some .boolean) rm_X7_noCall P [.ref (P.2.2.1 (.inr 9)), .int x] (mW τ S F L) (some (.int (if xok x n then 0 else 1))) (mW τ S F L) := by
  refine XM.of (by decide +kernel) (Nat.le_of_ble_eq_true rfl) (fun p e s m args below meth c A C => ?_)
  replace C : XC p s m args meth c P A 2 RX7 cX7_noCall (some .boolean) := C
  refine XW.eq (lv' := [(0, _), (1, _)]) rfl rfl rfl ?_
  refine X_iload_n (pc := 0) C 1 dX7_noCall_0 rfl rfl ?_
  refine X_iconst (pc := 1) (v := 0) C dX7_noCall_1 (by decide) ?_
  refine X_aload_n (pc := 2) C 0 dX7_noCall_2 rfl rfl ?_
  refine G_X7_9 (pc := 3) C (by assumption) dX7_noCall_3 ?_
  refine X_iconst (pc := 6) (v := 5) C dX7_noCall_6 (by decide) ?_
  refine X_ialdN (j := 5) (pc := 7) C (by first | exact h1 _ (by decide) (by decide)) rfl (by omega) (by decide) dX7_noCall_7 ?_
  rw [mW_10]
  rw [hn]
  refine X_iconst (pc := 8) (v := 1) C dX7_noCall_8 (by decide) ?_
  refine X_isub (pc := 9) C dX7_noCall_9 ?_
  refine K_X7_80 (pc := 10) C (c_X7_isIn l P (mW τ S F L) x 0 (nI n - 1)) ⟨Nat.le_of_ble_eq_true rfl, Nat.le_of_ble_eq_true rfl⟩ ⟨rfl, rfl⟩ ⟨Nat.zero_le _, Nat.zero_le _⟩ (Nat.le_of_ble_eq_true rfl) dX7_noCall_10 ?_
  rw [mIn_ok hm]
  refine X_if_ne (pc := 13) C 20 dX7_noCall_13 (by decide) (fun h13 => ?_) (fun h13 => ?_)
  · skip
    refine X_iconst (pc := 20) (v := 0) C dX7_noCall_20 (by decide) ?_
    exact X_zret (pc := 21) C (Nat.zero_le _) (Nat.zero_le _) (rfl) dX7_noCall_21 ⟨by rw [if_pos (bz1 h13)], rfl⟩
  · skip
    refine X_iconst (pc := 16) (v := 1) C dX7_noCall_16 (by decide) ?_
    refine X_goto (pc := 17) C 21 dX7_noCall_17 (by decide) ?_
    exact X_zret (pc := 21) C (Nat.zero_le _) (Nat.zero_le _) (rfl) dX7_noCall_21 ⟨by rw [if_neg (bz0 h13)], rfl⟩

set_option maxRecDepth 100000 in
set_option maxHeartbeats 4000000 in
theorem c_X7_isTalking (l : Launch) (P : XP) (τ : XS) (S F L : Nat → Int32) (h1 : xI1 P) (j : Nat) (hj : j < 40) (x : Int32) (hx : x = nI j) : XF l yX7_isTalking cX7_isTalking 2 (some .boolean) rm_X7_isTalking P [.ref (P.2.2.1 (.inr 9)), .int x] (mW τ S F L) (some (.int (if sC S 4 j = 1 then 1 else 0))) (mW τ S F L) := by
  refine XM.of (by decide +kernel) (Nat.le_of_ble_eq_true rfl) (fun p e s m args below meth c A C => ?_)
  replace C : XC p s m args meth c P A 2 RX7 cX7_isTalking (some .boolean) := C
  refine XW.eq (lv' := [(0, _), (1, _)]) rfl rfl rfl ?_
  refine X_aload_n (pc := 0) C 0 dX7_isTalking_0 rfl rfl ?_
  refine X_iload_n (pc := 1) C 1 dX7_isTalking_1 rfl rfl ?_
  refine X_iconst (pc := 2) (v := 4) C dX7_isTalking_2 (by decide) ?_
  refine K_X7_88 (pc := 3) C (by assumption) (c_X7_ofCall l P τ S F L h1 j 4 hj (by decide) x 4 hx rfl) ⟨Nat.le_of_ble_eq_true rfl, Nat.le_of_ble_eq_true rfl⟩ ⟨rfl, rfl⟩ ⟨Nat.zero_le _, Nat.zero_le _⟩ (Nat.le_of_ble_eq_true rfl) dX7_isTalking_3 ?_
  refine X_iconst (pc := 6) (v := 1) C dX7_isTalking_6 (by decide) ?_
  refine X_icmp_ne (pc := 7) C 14 dX7_isTalking_7 (by decide) (fun h7 => ?_) (fun h7 => ?_)
  · skip
    refine X_iconst (pc := 14) (v := 0) C dX7_isTalking_14 (by decide) ?_
    exact X_zret (pc := 15) C (Nat.zero_le _) (Nat.zero_le _) (rfl) dX7_isTalking_15 ⟨by rw [if_neg h7], rfl⟩
  · skip
    refine X_iconst (pc := 10) (v := 1) C dX7_isTalking_10 (by decide) ?_
    refine X_goto (pc := 11) C 15 dX7_isTalking_11 (by decide) ?_
    exact X_zret (pc := 15) C (Nat.zero_le _) (Nat.zero_le _) (rfl) dX7_isTalking_15 ⟨by rw [if_pos h7], rfl⟩

set_option maxRecDepth 100000 in
set_option maxHeartbeats 4000000 in
theorem c_X7_isOver (l : Launch) (P : XP) (τ : XS) (S F L : Nat → Int32) (h1 : xI1 P) (j : Nat) (hj : j < 40) (x : Int32) (hx : x = nI j) : XF l yX7_isOver cX7_isOver 2 (some .boolean) rm_X7_isOver P [.ref (P.2.2.1 (.inr 9)), .int x] (mW τ S F L) (some (.int (if 2 ≤ sC S 4 j then 1 else 0))) (mW τ S F L) := by
  refine XM.of (by decide +kernel) (Nat.le_of_ble_eq_true rfl) (fun p e s m args below meth c A C => ?_)
  replace C : XC p s m args meth c P A 2 RX7 cX7_isOver (some .boolean) := C
  refine XW.eq (lv' := [(0, _), (1, _)]) rfl rfl rfl ?_
  refine X_aload_n (pc := 0) C 0 dX7_isOver_0 rfl rfl ?_
  refine X_iload_n (pc := 1) C 1 dX7_isOver_1 rfl rfl ?_
  refine X_iconst (pc := 2) (v := 4) C dX7_isOver_2 (by decide) ?_
  refine K_X7_88 (pc := 3) C (by assumption) (c_X7_ofCall l P τ S F L h1 j 4 hj (by decide) x 4 hx rfl) ⟨Nat.le_of_ble_eq_true rfl, Nat.le_of_ble_eq_true rfl⟩ ⟨rfl, rfl⟩ ⟨Nat.zero_le _, Nat.zero_le _⟩ (Nat.le_of_ble_eq_true rfl) dX7_isOver_3 ?_
  refine X_iconst (pc := 6) (v := 2) C dX7_isOver_6 (by decide) ?_
  refine X_icmp_lt (pc := 7) C 14 dX7_isOver_7 (by decide) (fun h7 => ?_) (fun h7 => ?_)
  · skip
    refine X_iconst (pc := 14) (v := 0) C dX7_isOver_14 (by decide) ?_
    exact X_zret (pc := 15) C (Nat.zero_le _) (Nat.zero_le _) (rfl) dX7_isOver_15 ⟨by rw [if_neg (Int32.not_le.mpr h7)], rfl⟩
  · skip
    refine X_iconst (pc := 10) (v := 1) C dX7_isOver_10 (by decide) ?_
    refine X_goto (pc := 11) C 15 dX7_isOver_11 (by decide) ?_
    exact X_zret (pc := 15) C (Nat.zero_le _) (Nat.zero_le _) (rfl) dX7_isOver_15 ⟨by rw [if_pos (Int32.not_lt.mp h7)], rfl⟩

set_option maxRecDepth 100000 in
set_option maxHeartbeats 4000000 in
theorem c_X7_isWaiting (l : Launch) (P : XP) (τ : XS) (S F L : Nat → Int32) (h1 : xI1 P) (j : Nat) (hj : j < 40) (x : Int32) (hx : x = nI j) : XF l yX7_isWaiting cX7_isWaiting 2 (some .boolean) rm_X7_isWaiting P [.ref (P.2.2.1 (.inr 9)), .int x] (mW τ S F L) (some (.int (if sC S 4 j = 0 then 1 else 0))) (mW τ S F L) := by
  refine XM.of (by decide +kernel) (Nat.le_of_ble_eq_true rfl) (fun p e s m args below meth c A C => ?_)
  replace C : XC p s m args meth c P A 2 RX7 cX7_isWaiting (some .boolean) := C
  refine XW.eq (lv' := [(0, _), (1, _)]) rfl rfl rfl ?_
  refine X_aload_n (pc := 0) C 0 dX7_isWaiting_0 rfl rfl ?_
  refine X_iload_n (pc := 1) C 1 dX7_isWaiting_1 rfl rfl ?_
  refine X_iconst (pc := 2) (v := 4) C dX7_isWaiting_2 (by decide) ?_
  refine K_X7_88 (pc := 3) C (by assumption) (c_X7_ofCall l P τ S F L h1 j 4 hj (by decide) x 4 hx rfl) ⟨Nat.le_of_ble_eq_true rfl, Nat.le_of_ble_eq_true rfl⟩ ⟨rfl, rfl⟩ ⟨Nat.zero_le _, Nat.zero_le _⟩ (Nat.le_of_ble_eq_true rfl) dX7_isWaiting_3 ?_
  refine X_if_ne (pc := 6) C 13 dX7_isWaiting_6 (by decide) (fun h6 => ?_) (fun h6 => ?_)
  · skip
    refine X_iconst (pc := 13) (v := 0) C dX7_isWaiting_13 (by decide) ?_
    exact X_zret (pc := 14) C (Nat.zero_le _) (Nat.zero_le _) (rfl) dX7_isWaiting_14 ⟨by rw [if_neg h6], rfl⟩
  · skip
    refine X_iconst (pc := 9) (v := 1) C dX7_isWaiting_9 (by decide) ?_
    refine X_goto (pc := 10) C 14 dX7_isWaiting_10 (by decide) ?_
    exact X_zret (pc := 14) C (Nat.zero_le _) (Nat.zero_le _) (rfl) dX7_isWaiting_14 ⟨by rw [if_pos h6], rfl⟩

set_option maxRecDepth 100000 in
set_option maxHeartbeats 4000000 in
theorem c_X7_told (l : Launch) (P : XP) (τ : XS) (S F L : Nat → Int32) (h1 : xI1 P) (v : Int32) : XF l yX7_told cX7_told 2 (some .int) rm_X7_told P [.ref (P.2.2.1 (.inr 9)), .int v] (mW τ S F L) (some (.int (v))) (mW τ S (upd F 7 0) L) := by
  refine XM.of (by decide +kernel) (Nat.le_of_ble_eq_true rfl) (fun p e s m args below meth c A C => ?_)
  replace C : XC p s m args meth c P A 2 RX7 cX7_told (some .int) := C
  refine XW.eq (lv' := [(0, _), (1, _)]) rfl rfl rfl ?_
  refine X_aload_n (pc := 0) C 0 dX7_told_0 rfl rfl ?_
  refine X_iconst (pc := 1) (v := 0) C dX7_told_1 (by decide) ?_
  refine U_X7_67 (pc := 2) C (by assumption) dX7_told_2 ?_
  rw [mW_u9]
  refine X_iload_n (pc := 5) C 1 dX7_told_5 rfl rfl ?_
  exact X_iret (pc := 6) C (Nat.zero_le _) (Nat.zero_le _) dX7_told_6 ⟨rfl, rfl⟩

set_option maxRecDepth 100000 in
set_option maxHeartbeats 4000000 in
theorem c_X7_thrown (l : Launch) (P : XP) (τ : XS) (S F L : Nat → Int32) (h1 : xI1 P) : XF l yX7_thrown cX7_thrown 1 (some .int) rm_X7_thrown P [.ref (P.2.2.1 (.inr 9))] (mW τ S F L) (some (.int (F 7))) (mW τ S F L) := by
  refine XM.of (by decide +kernel) (Nat.le_of_ble_eq_true rfl) (fun p e s m args below meth c A C => ?_)
  replace C : XC p s m args meth c P A 1 RX7 cX7_thrown (some .int) := C
  refine XW.eq (lv' := [(0, _)]) rfl rfl rfl ?_
  refine X_aload_n (pc := 0) C 0 dX7_thrown_0 rfl rfl ?_
  refine G_X7_67 (pc := 1) C (by assumption) dX7_thrown_1 ?_
  rw [mW_9]
  exact X_iret (pc := 4) C (Nat.zero_le _) (Nat.zero_le _) dX7_thrown_4 ⟨rfl, rfl⟩

set_option maxRecDepth 100000 in
set_option maxHeartbeats 4000000 in
theorem c_X7_fails (l : Launch) (P : XP) (τ : XS) (S F L : Nat → Int32) (h1 : xI1 P) (a b d : Int32) : XF l yX7_fails cX7_fails 4 (some .boolean) rm_X7_fails P [.ref (P.2.2.1 (.inr 9)), .int a, .int b, .int d] (mW τ S F L) (some (.int (if mFl a b d = 0 then 0 else 1))) (mW τ S (upd F 7 (mFl a b d)) L) := by
  refine XM.of (by decide +kernel) (Nat.le_of_ble_eq_true rfl) (fun p e s m args below meth c A C => ?_)
  replace C : XC p s m args meth c P A 4 RX7 cX7_fails (some .boolean) := C
  refine XW.eq (lv' := [(0, _), (1, _), (2, _), (3, _)]) rfl rfl rfl ?_
  refine X_aload_n (pc := 0) C 0 dX7_fails_0 rfl rfl ?_
  refine X_iload_n (pc := 1) C 1 dX7_fails_1 rfl rfl ?_
  refine X_if_eq (pc := 2) C 9 dX7_fails_2 (by decide) (fun h2 => ?_) (fun h2 => ?_)
  · skip
    refine X_iload_n (pc := 9) C 2 dX7_fails_9 rfl rfl ?_
    refine X_if_eq (pc := 10) C 17 dX7_fails_10 (by decide) (fun h10 => ?_) (fun h10 => ?_)
    · skip
      refine X_iload_n (pc := 17) C 3 dX7_fails_17 rfl rfl ?_
      refine X_if_eq (pc := 18) C 25 dX7_fails_18 (by decide) (fun h18 => ?_) (fun h18 => ?_)
      · skip
        refine X_iconst (pc := 25) (v := 0) C dX7_fails_25 (by decide) ?_
        refine U_X7_67 (pc := 26) C (by assumption) dX7_fails_26 ?_
        rw [mW_u9]
        refine X_aload_n (pc := 29) C 0 dX7_fails_29 rfl rfl ?_
        refine G_X7_67 (pc := 30) C (by assumption) dX7_fails_30 ?_
        rw [mW_9]
        rw [upd_at]
        refine X_if_le (pc := 33) C 40 dX7_fails_33 (by decide) (fun h33 => ?_) (fun h33 => ?_)
        · skip
          refine X_iconst (pc := 40) (v := 0) C dX7_fails_40 (by decide) ?_
          exact X_zret (pc := 41) C (Nat.zero_le _) (Nat.zero_le _) (rfl) dX7_fails_41 ⟨by first | exact absurd h33 (by decide) | simp [mFl, *], by first | exact absurd h33 (by decide) | simp [mFl, *]⟩
        · skip
          refine X_iconst (pc := 36) (v := 1) C dX7_fails_36 (by decide) ?_
          refine X_goto (pc := 37) C 41 dX7_fails_37 (by decide) ?_
          exact X_zret (pc := 41) C (Nat.zero_le _) (Nat.zero_le _) (rfl) dX7_fails_41 ⟨by first | exact absurd h33 (by decide) | simp [mFl, *], by first | exact absurd h33 (by decide) | simp [mFl, *]⟩
      · skip
        refine X_iconst (pc := 21) (v := 3) C dX7_fails_21 (by decide) ?_
        refine X_goto (pc := 22) C 26 dX7_fails_22 (by decide) ?_
        refine U_X7_67 (pc := 26) C (by assumption) dX7_fails_26 ?_
        rw [mW_u9]
        refine X_aload_n (pc := 29) C 0 dX7_fails_29 rfl rfl ?_
        refine G_X7_67 (pc := 30) C (by assumption) dX7_fails_30 ?_
        rw [mW_9]
        rw [upd_at]
        refine X_if_le (pc := 33) C 40 dX7_fails_33 (by decide) (fun h33 => ?_) (fun h33 => ?_)
        · skip
          refine X_iconst (pc := 40) (v := 0) C dX7_fails_40 (by decide) ?_
          exact X_zret (pc := 41) C (Nat.zero_le _) (Nat.zero_le _) (rfl) dX7_fails_41 ⟨by first | exact absurd h33 (by decide) | simp [mFl, *], by first | exact absurd h33 (by decide) | simp [mFl, *]⟩
        · skip
          refine X_iconst (pc := 36) (v := 1) C dX7_fails_36 (by decide) ?_
          refine X_goto (pc := 37) C 41 dX7_fails_37 (by decide) ?_
          exact X_zret (pc := 41) C (Nat.zero_le _) (Nat.zero_le _) (rfl) dX7_fails_41 ⟨by first | exact absurd h33 (by decide) | simp [mFl, *], by first | exact absurd h33 (by decide) | simp [mFl, *]⟩
    · skip
      refine X_iconst (pc := 13) (v := 2) C dX7_fails_13 (by decide) ?_
      refine X_goto (pc := 14) C 26 dX7_fails_14 (by decide) ?_
      refine U_X7_67 (pc := 26) C (by assumption) dX7_fails_26 ?_
      rw [mW_u9]
      refine X_aload_n (pc := 29) C 0 dX7_fails_29 rfl rfl ?_
      refine G_X7_67 (pc := 30) C (by assumption) dX7_fails_30 ?_
      rw [mW_9]
      rw [upd_at]
      refine X_if_le (pc := 33) C 40 dX7_fails_33 (by decide) (fun h33 => ?_) (fun h33 => ?_)
      · skip
        refine X_iconst (pc := 40) (v := 0) C dX7_fails_40 (by decide) ?_
        exact X_zret (pc := 41) C (Nat.zero_le _) (Nat.zero_le _) (rfl) dX7_fails_41 ⟨by first | exact absurd h33 (by decide) | simp [mFl, *], by first | exact absurd h33 (by decide) | simp [mFl, *]⟩
      · skip
        refine X_iconst (pc := 36) (v := 1) C dX7_fails_36 (by decide) ?_
        refine X_goto (pc := 37) C 41 dX7_fails_37 (by decide) ?_
        exact X_zret (pc := 41) C (Nat.zero_le _) (Nat.zero_le _) (rfl) dX7_fails_41 ⟨by first | exact absurd h33 (by decide) | simp [mFl, *], by first | exact absurd h33 (by decide) | simp [mFl, *]⟩
  · skip
    refine X_iconst (pc := 5) (v := 1) C dX7_fails_5 (by decide) ?_
    refine X_goto (pc := 6) C 26 dX7_fails_6 (by decide) ?_
    refine U_X7_67 (pc := 26) C (by assumption) dX7_fails_26 ?_
    rw [mW_u9]
    refine X_aload_n (pc := 29) C 0 dX7_fails_29 rfl rfl ?_
    refine G_X7_67 (pc := 30) C (by assumption) dX7_fails_30 ?_
    rw [mW_9]
    rw [upd_at]
    refine X_if_le (pc := 33) C 40 dX7_fails_33 (by decide) (fun h33 => ?_) (fun h33 => ?_)
    · skip
      refine X_iconst (pc := 40) (v := 0) C dX7_fails_40 (by decide) ?_
      exact X_zret (pc := 41) C (Nat.zero_le _) (Nat.zero_le _) (rfl) dX7_fails_41 ⟨by first | exact absurd h33 (by decide) | simp [mFl, *], by first | exact absurd h33 (by decide) | simp [mFl, *]⟩
    · skip
      refine X_iconst (pc := 36) (v := 1) C dX7_fails_36 (by decide) ?_
      refine X_goto (pc := 37) C 41 dX7_fails_37 (by decide) ?_
      exact X_zret (pc := 41) C (Nat.zero_le _) (Nat.zero_le _) (rfl) dX7_fails_41 ⟨by first | exact absurd h33 (by decide) | simp [mFl, *], by first | exact absurd h33 (by decide) | simp [mFl, *]⟩

set_option maxRecDepth 100000 in
set_option maxHeartbeats 4000000 in
theorem c_X7_isBad (l : Launch) (P : XP) (τ : XS) (S F L : Nat → Int32) (h1 : xI1 P) (n : Nat) (hm : n ≤ 1000000) (hn : S 4 = nI n) (x : Int32) : XF l yX7_isBad cX7_isBad 2 (some .boolean) rm_X7_isBad P [.ref (P.2.2.1 (.inr 9)), .int x] (mW τ S F L) (some (.int (if xok x n then 0 else 1))) (mW τ S (upd F 7 (if xok x n then 0 else 1)) L) := by
  refine XM.of (by decide +kernel) (Nat.le_of_ble_eq_true rfl) (fun p e s m args below meth c A C => ?_)
  replace C : XC p s m args meth c P A 2 RX7 cX7_isBad (some .boolean) := C
  refine XW.eq (lv' := [(0, _), (1, _)]) rfl rfl rfl ?_
  refine X_aload_n (pc := 0) C 0 dX7_isBad_0 rfl rfl ?_
  refine X_aload_n (pc := 1) C 0 dX7_isBad_1 rfl rfl ?_
  refine X_iload_n (pc := 2) C 1 dX7_isBad_2 rfl rfl ?_
  refine K_X7_288 (pc := 3) C (by assumption) (c_X7_noUser l P τ S F L h1 n hm hn x) ⟨Nat.le_of_ble_eq_true rfl, Nat.le_of_ble_eq_true rfl⟩ ⟨rfl, rfl⟩ ⟨Nat.zero_le _, Nat.zero_le _⟩ (Nat.le_of_ble_eq_true rfl) dX7_isBad_3 ?_
  refine X_iconst (pc := 6) (v := 0) C dX7_isBad_6 (by decide) ?_
  refine X_iconst (pc := 7) (v := 0) C dX7_isBad_7 (by decide) ?_
  refine K_X7_154 (pc := 8) C (by assumption) (c_X7_fails l P τ S F L h1 (if xok x n then 0 else 1) 0 0) ⟨Nat.le_of_ble_eq_true rfl, Nat.le_of_ble_eq_true rfl⟩ ⟨rfl, rfl⟩ ⟨Nat.zero_le _, Nat.zero_le _⟩ (Nat.le_of_ble_eq_true rfl) dX7_isBad_8 ?_
  rw [mFl_1, if01_0]
  exact X_zret (pc := 11) C (Nat.zero_le _) (Nat.zero_le _) (by split <;> rfl) dX7_isBad_11 ⟨rfl, rfl⟩

set_option maxRecDepth 100000 in
set_option maxHeartbeats 4000000 in
theorem c_X7_isBadCall (l : Launch) (P : XP) (τ : XS) (S F L : Nat → Int32) (h1 : xI1 P) (n : Nat) (hm : n ≤ 1000000) (hn : S 5 = nI n) (x : Int32) : XF l yX7_isBadCall cX7_isBadCall 2 (some .boolean) rm_X7_isBadCall P [.ref (P.2.2.1 (.inr 9)), .int x] (mW τ S F L) (some (.int (if xok x n then 0 else 1))) (mW τ S (upd F 7 (if xok x n then 0 else 1)) L) := by
  refine XM.of (by decide +kernel) (Nat.le_of_ble_eq_true rfl) (fun p e s m args below meth c A C => ?_)
  replace C : XC p s m args meth c P A 2 RX7 cX7_isBadCall (some .boolean) := C
  refine XW.eq (lv' := [(0, _), (1, _)]) rfl rfl rfl ?_
  refine X_aload_n (pc := 0) C 0 dX7_isBadCall_0 rfl rfl ?_
  refine X_aload_n (pc := 1) C 0 dX7_isBadCall_1 rfl rfl ?_
  refine X_iload_n (pc := 2) C 1 dX7_isBadCall_2 rfl rfl ?_
  refine K_X7_294 (pc := 3) C (by assumption) (c_X7_noCall l P τ S F L h1 n hm hn x) ⟨Nat.le_of_ble_eq_true rfl, Nat.le_of_ble_eq_true rfl⟩ ⟨rfl, rfl⟩ ⟨Nat.zero_le _, Nat.zero_le _⟩ (Nat.le_of_ble_eq_true rfl) dX7_isBadCall_3 ?_
  refine X_iconst (pc := 6) (v := 0) C dX7_isBadCall_6 (by decide) ?_
  refine X_iconst (pc := 7) (v := 0) C dX7_isBadCall_7 (by decide) ?_
  refine K_X7_154 (pc := 8) C (by assumption) (c_X7_fails l P τ S F L h1 (if xok x n then 0 else 1) 0 0) ⟨Nat.le_of_ble_eq_true rfl, Nat.le_of_ble_eq_true rfl⟩ ⟨rfl, rfl⟩ ⟨Nat.zero_le _, Nat.zero_le _⟩ (Nat.le_of_ble_eq_true rfl) dX7_isBadCall_8 ?_
  rw [mFl_1, if01_0]
  exact X_zret (pc := 11) C (Nat.zero_le _) (Nat.zero_le _) (by split <;> rfl) dX7_isBadCall_11 ⟨rfl, rfl⟩

set_option maxRecDepth 100000 in
set_option maxHeartbeats 4000000 in
theorem c_X7_toldUser (l : Launch) (P : XP) (τ : XS) (S F L : Nat → Int32) (h1 : xI1 P) (n : Nat) (hm : n ≤ 15) (hn : S 4 = nI n) (x : Int32) (w : Nat) (hw : w < 12) (y : Int32) (hy : y = nI w) : XF l yX7_toldUser cX7_toldUser 3 (some .int) rm_X7_toldUser P [.ref (P.2.2.1 (.inr 9)), .int x, .int y] (mW τ S F L) (some (.int (if xok x n then sU S w (cN x) else 0))) (mW τ S (upd F 7 (if xok x n then 0 else 1)) L) := by
  refine XM.of (by decide +kernel) (Nat.le_of_ble_eq_true rfl) (fun p e s m args below meth c A C => ?_)
  replace C : XC p s m args meth c P A 3 RX7 cX7_toldUser (some .int) := C
  refine XW.eq (lv' := [(0, _), (1, _), (2, _)]) rfl rfl rfl ?_
  refine X_aload_n (pc := 0) C 0 dX7_toldUser_0 rfl rfl ?_
  refine X_iload_n (pc := 1) C 1 dX7_toldUser_1 rfl rfl ?_
  refine K_X7_303 (pc := 2) C (by assumption) (c_X7_isBad l P τ S F L h1 n (by omega) hn x) ⟨Nat.le_of_ble_eq_true rfl, Nat.le_of_ble_eq_true rfl⟩ ⟨rfl, rfl⟩ ⟨Nat.zero_le _, Nat.zero_le _⟩ (Nat.le_of_ble_eq_true rfl) dX7_toldUser_2 ?_
  refine X_if_eq (pc := 5) C 12 dX7_toldUser_5 (by decide) (fun h5 => ?_) (fun h5 => ?_)
  · have g5 := bz00 h5
    obtain ⟨j, hj, rfl⟩ := xok_of g5
    refine X_aload_n (pc := 12) C 0 dX7_toldUser_12 rfl rfl ?_
    refine X_iload_n (pc := 13) C 1 dX7_toldUser_13 rfl rfl ?_
    refine X_iload_n (pc := 14) C 2 dX7_toldUser_14 rfl rfl ?_
    refine K_X7_92 (pc := 15) C (by assumption) (c_X7_ofUser l P τ S (upd F 7 (if xok (nI j) n then 0 else 1)) L h1 j w (by omega) hw (nI j) y rfl hy) ⟨Nat.le_of_ble_eq_true rfl, Nat.le_of_ble_eq_true rfl⟩ ⟨rfl, rfl⟩ ⟨Nat.zero_le _, Nat.zero_le _⟩ (Nat.le_of_ble_eq_true rfl) dX7_toldUser_15 ?_
    exact X_iret (pc := 18) C (Nat.zero_le _) (Nat.zero_le _) dX7_toldUser_18 ⟨by rw [if_pos g5, cN, nI_clamp (n31 (by omega))], rfl⟩
  · have g5 := bz01 h5
    refine X_iconst (pc := 8) (v := 0) C dX7_toldUser_8 (by decide) ?_
    refine X_goto (pc := 9) C 18 dX7_toldUser_9 (by decide) ?_
    exact X_iret (pc := 18) C (Nat.zero_le _) (Nat.zero_le _) dX7_toldUser_18 ⟨by rw [if_neg g5], rfl⟩

set_option maxRecDepth 100000 in
set_option maxHeartbeats 4000000 in
theorem c_X7_toldCall (l : Launch) (P : XP) (τ : XS) (S F L : Nat → Int32) (h1 : xI1 P) (n : Nat) (hm : n ≤ 40) (hn : S 5 = nI n) (x : Int32) (w : Nat) (hw : w < 9) (y : Int32) (hy : y = nI w) : XF l yX7_toldCall cX7_toldCall 3 (some .int) rm_X7_toldCall P [.ref (P.2.2.1 (.inr 9)), .int x, .int y] (mW τ S F L) (some (.int (if xok x n then sC S w (cN x) else 0))) (mW τ S (upd F 7 (if xok x n then 0 else 1)) L) := by
  refine XM.of (by decide +kernel) (Nat.le_of_ble_eq_true rfl) (fun p e s m args below meth c A C => ?_)
  replace C : XC p s m args meth c P A 3 RX7 cX7_toldCall (some .int) := C
  refine XW.eq (lv' := [(0, _), (1, _), (2, _)]) rfl rfl rfl ?_
  refine X_aload_n (pc := 0) C 0 dX7_toldCall_0 rfl rfl ?_
  refine X_iload_n (pc := 1) C 1 dX7_toldCall_1 rfl rfl ?_
  refine K_X7_312 (pc := 2) C (by assumption) (c_X7_isBadCall l P τ S F L h1 n (by omega) hn x) ⟨Nat.le_of_ble_eq_true rfl, Nat.le_of_ble_eq_true rfl⟩ ⟨rfl, rfl⟩ ⟨Nat.zero_le _, Nat.zero_le _⟩ (Nat.le_of_ble_eq_true rfl) dX7_toldCall_2 ?_
  refine X_if_eq (pc := 5) C 12 dX7_toldCall_5 (by decide) (fun h5 => ?_) (fun h5 => ?_)
  · have g5 := bz00 h5
    obtain ⟨j, hj, rfl⟩ := xok_of g5
    refine X_aload_n (pc := 12) C 0 dX7_toldCall_12 rfl rfl ?_
    refine X_iload_n (pc := 13) C 1 dX7_toldCall_13 rfl rfl ?_
    refine X_iload_n (pc := 14) C 2 dX7_toldCall_14 rfl rfl ?_
    refine K_X7_88 (pc := 15) C (by assumption) (c_X7_ofCall l P τ S (upd F 7 (if xok (nI j) n then 0 else 1)) L h1 j w (by omega) hw (nI j) y rfl hy) ⟨Nat.le_of_ble_eq_true rfl, Nat.le_of_ble_eq_true rfl⟩ ⟨rfl, rfl⟩ ⟨Nat.zero_le _, Nat.zero_le _⟩ (Nat.le_of_ble_eq_true rfl) dX7_toldCall_15 ?_
    exact X_iret (pc := 18) C (Nat.zero_le _) (Nat.zero_le _) dX7_toldCall_18 ⟨by rw [if_pos g5, cN, nI_clamp (n31 (by omega))], rfl⟩
  · have g5 := bz01 h5
    refine X_iconst (pc := 8) (v := 0) C dX7_toldCall_8 (by decide) ?_
    refine X_goto (pc := 9) C 18 dX7_toldCall_9 (by decide) ?_
    exact X_iret (pc := 18) C (Nat.zero_le _) (Nat.zero_le _) dX7_toldCall_18 ⟨by rw [if_neg g5], rfl⟩

end XP30

/-! THE REFERENCE: what its reader expects -/
def mCpL (B : Nat → Int32) (s : Nat) (L : Nat → Int32) (i : Nat) : Nat → Int32 := fun k => if k < i then B (s + k) else L k
theorem mCpL_0 {B L : Nat → Int32} {s : Nat} : mCpL B s L 0 = L := by funext k; simp [mCpL]
theorem mCpL_s {B L : Nat → Int32} {s i : Nat} : upd (mCpL B s L i) i (B (s + i)) = mCpL B s L (i + 1) := by
  funext k
  by_cases h : k = i
  · subst h; simp [upd, mCpL]
  · have e : (k < i + 1) = (k < i) := by simp; omega
    simp [upd, mCpL, h, e]
def mNhW (F : Nat → Int32) : Nat → Int32 := mWr F (if F 16 = 1 ∧ eF F - sF F ≤ 6 then 0 else 1) 1
def mNhF (F : Nat → Int32) : Nat → Int32 := if mNhW F 20 = 0 then upd (mNhW F) 15 (nI (eF F - sF F)) else mNhW F
def mNhL (B F L : Nat → Int32) : Nat → Int32 := if mNhW F 20 = 0 then mCpL B (sF F) L (eF F - sF F) else L
theorem mNhF_0 {F : Nat → Int32} (h : mNhF F 20 = 0) : F 20 = 0 ∧ F 16 = 1 ∧ eF F - sF F ≤ 6 ∧ mNhF F = upd F 15 (nI (eF F - sF F)) ∧ mNhW F 20 = 0 := by
  unfold mNhF at h ⊢
  by_cases g : mNhW F 20 = 0
  · rw [if_pos g]
    obtain ⟨h1, h2, h3⟩ := mWr_0 (F := F) (code := 1) g
    have g2 : F 16 = 1 ∧ eF F - sF F ≤ 6 := Classical.byContradiction fun q => by rw [if_neg q] at h2; exact absurd h2 (by decide)
    exact ⟨h1, g2.1, g2.2, by rw [show mNhW F = F from h3], g⟩
  · rw [if_neg g] at h
    exact absurd h g
theorem mNhF_TK {n : Nat} {F : Nat → Int32} (h : TK n F) : TK n (mNhF F) := by
  unfold mNhF
  have hw : TK n (mNhW F) := mWr_TK h
  split
  · exact hw.o (upd_ne (by decide)) (upd_ne (by decide)) (upd_ne (by decide))
  · exact hw
def mNamedQ (S F L : Nat → Int32) (u : Nat) : Prop := sU S 5 u = F 15 ∧ ∀ i, i < cN (F 15) → sU S (6 + i) u = L i
noncomputable def mNmd (S F L : Nat → Int32) : Int32 := cFirst (fun u => @decide (mNamedQ S F L u) (Classical.propDecidable _)) (mU S) 0
/-- a subscriber's name is read, of one that is not x -/
noncomputable def mUhV (B S F L : Nat → Int32) : Int32 := if mNhF F 20 = 0 then mNmd S (mNhF F) (mNhL B F L) else 0
noncomputable def mUh0 (B S F L : Nat → Int32) (x : Int32) : Nat → Int32 := mWr (mNhF F) (if mNhF F 20 = 0 ∧ (mUhV B S F L = -1 ∨ mUhV B S F L = x) then 1 else 0) 3
noncomputable def mUhF (B : Nat → Int32) (n : Nat) (S F L : Nat → Int32) (x : Int32) : Nat → Int32 := mGo B n (mUh0 B S F L x)
theorem mUhF_TK {B S F L : Nat → Int32} {n : Nat} {x : Int32} (h : TK n F) : TK n (mUhF B n S F L x) := mGo_TK (mWr_TK (mNhF_TK h))
theorem cFirst_ok {q : Nat → Bool} : ∀ (k i : Nat), cFirst q k i = -1 ∨ ∃ j, i ≤ j ∧ j < i + k ∧ cFirst q k i = nI j ∧ q j = true
  | 0, i => Or.inl rfl
  | k + 1, i => by
    unfold cFirst
    by_cases h : q i = true
    · rw [if_pos h]; exact Or.inr ⟨i, Nat.le_refl _, by omega, rfl, h⟩
    · rw [if_neg h]
      rcases cFirst_ok k (i + 1) with h1 | ⟨j, a, b, c, d⟩
      · exact Or.inl h1
      · exact Or.inr ⟨j, by omega, by omega, c, d⟩
theorem mNmd_ok {S F L : Nat → Int32} (hM : MI S) (h : ¬ mNmd S F L = -1) : xok (mNmd S F L) (mU S) := by
  have hu := hM.u15
  rcases cFirst_ok (q := fun u => @decide (mNamedQ S F L u) (Classical.propDecidable _)) (mU S) 0 with g | ⟨j, -, g2, g3, -⟩
  · exact absurd g h
  · rw [mNmd, g3]; exact xok_nI (by omega)
theorem mUhF_0 {B S F L : Nat → Int32} {n : Nat} {x : Int32} (h : mUhF B n S F L x 20 = 0) : F 20 = 0 ∧ F 16 = 1 ∧ eF F - sF F ≤ 6 ∧ ¬ mUhV B S F L = -1 ∧ ¬ mUhV B S F L = x ∧ mUhV B S F L = mNmd S (mNhF F) (mNhL B F L) ∧ mUhF B n S F L x = mNx1 B n (mNhF F) ∧ mNhF F = upd F 15 (nI (eF F - sF F)) := by
  unfold mUhF at h ⊢
  rw [mGo_20] at h
  unfold mUh0 at h ⊢
  obtain ⟨h1, h2, h3⟩ := mWr_0 h
  rw [h3]
  obtain ⟨a, b, c, d, -⟩ := mNhF_0 h1
  have gi : ¬ (mUhV B S F L = -1 ∨ mUhV B S F L = x) := fun q => by rw [if_pos ⟨h1, q⟩] at h2; exact absurd h2 (by decide)
  exact ⟨a, b, c, fun q => gi (Or.inl q), fun q => gi (Or.inr q), if_pos h1, if_pos h1, d⟩
theorem mUhV_ok {B S F L : Nat → Int32} {n : Nat} {x : Int32} (hM : MI S) (h : mUhF B n S F L x 20 = 0) : xok (mUhV B S F L) (mU S) := by
  obtain ⟨-, -, -, h4, -, h6, -⟩ := mUhF_0 h
  rw [h6] at h4 ⊢
  exact mNmd_ok hM h4
/-- the rings -/
def mRh0 (F : Nat → Int32) : Nat → Int32 := mWr F (if F 16 = 1 ∧ eF F - sF F ≤ 5 then 0 else 1) 1
def mRhL (B : Nat → Int32) : Nat → Nat → (Nat → Int32) → Int32 → (Nat → Int32) × Int32
  | 0, _, F, c => (F, c)
  | k + 1, i, F, c => if F 20 = 0 then mRhL B k (i + 1) (mWr F (if B i = 115 ∨ B i = 108 then 0 else 1) 1) (2 * c + (if B i = 108 then 1 else 0)) else (F, c)
def mRh (B F : Nat → Int32) : (Nat → Int32) × Int32 := mRhL B (eF F - sF F) (sF F) (mRh0 F) 1
theorem mRhL_TK {B : Nat → Int32} {n : Nat} : ∀ (k i : Nat) (F : Nat → Int32) (c : Int32), TK n F → TK n (mRhL B k i F c).1
  | 0, _, F, c, h => h
  | k + 1, i, F, c, h => by
    unfold mRhL
    split
    · exact mRhL_TK k _ _ _ (mWr_TK h)
    · exact h
theorem mRh_TK {B F : Nat → Int32} {n : Nat} (h : TK n F) : TK n (mRh B F).1 := mRhL_TK _ _ _ _ (mWr_TK h)
/-- the semicolon -/
def mEn (F : Nat → Int32) (b code : Int32) : Nat → Int32 := mWr (mWr F (if F 16 = 3 then 0 else 1) 1) (if mWr F (if F 16 = 3 then 0 else 1) 1 20 = 0 ∧ b = 0 then 1 else 0) code
theorem mEn_TK {n : Nat} {F : Nat → Int32} {b code : Int32} (h : TK n F) : TK n (mEn F b code) := mWr_TK (mWr_TK h)
theorem mEn_0 {F : Nat → Int32} {b code : Int32} (h : mEn F b code 20 = 0) : F 20 = 0 ∧ F 16 = 3 ∧ ¬ b = 0 ∧ mEn F b code = F := by
  unfold mEn at h ⊢
  obtain ⟨h1, h2, h3⟩ := mWr_0 h
  rw [h3]
  obtain ⟨h4, h5, h6⟩ := mWr_0 h1
  rw [h6]
  have g16 : F 16 = 3 := Classical.byContradiction fun q => by rw [if_neg q] at h5; exact absurd h5 (by decide)
  exact ⟨h4, g16, fun q => by rw [if_pos ⟨h1, q⟩] at h2; exact absurd h2 (by decide), rfl⟩
section XP37
variable {p : Program} {l : Launch} {e : Env} {R : Room} {s : State} {m : MethodId} {args : Array Value} {below : List Frame} {meth : Method} {c : Code} {P : XP} {A : Nat → Prop} {nL cells slots : Nat} {Q : State → Prop} {cc : ByteArray} {ret : Option FieldType} {σ : XS} {pc : Nat} {lv : List (Nat × Value)} {st : List Value}
set_option maxRecDepth 100000 in
set_option maxHeartbeats 4000000 in
theorem c_X7_wrong (l : Launch) (P : XP) (τ : XS) (S F L : Nat → Int32) (h1 : xI1 P) (b q : Int32) : XF l yX7_wrong cX7_wrong 3 none rm_X7_wrong P [.ref (P.2.2.1 (.inr 9)), .int b, .int q] (mW τ S F L) (none) (mW τ S (mWr F b q) L) := by
  refine XM.of (by decide +kernel) (Nat.le_of_ble_eq_true rfl) (fun p e s m args below meth c A C => ?_)
  replace C : XC p s m args meth c P A 3 RX7 cX7_wrong none := C
  refine XW.eq (lv' := [(0, _), (1, _), (2, _)]) rfl rfl rfl ?_
  refine X_aload_n (pc := 0) C 0 dX7_wrong_0 rfl rfl ?_
  refine G_X7_180 (pc := 1) C (by assumption) dX7_wrong_1 ?_
  rw [mW_9]
  refine X_if_ne (pc := 4) C 11 dX7_wrong_4 (by decide) (fun h4 => ?_) (fun h4 => ?_)
  · have g9 : ¬ (F 20 = 0 ∧ ¬ b = 0) := fun q => h4 q.1
    exact X_vret (pc := 11) C (Nat.zero_le _) (Nat.zero_le _) dX7_wrong_11 ⟨rfl, by first | rw [mWr, if_pos g9] | rw [mWr, if_neg g9]⟩
  · skip
    refine X_iload_n (pc := 7) C 1 dX7_wrong_7 rfl rfl ?_
    refine X_if_ne (pc := 8) C 12 dX7_wrong_8 (by decide) (fun h8 => ?_) (fun h8 => ?_)
    · have g9 : F 20 = 0 ∧ ¬ b = 0 := ⟨h4, h8⟩
      refine X_aload_n (pc := 12) C 0 dX7_wrong_12 rfl rfl ?_
      refine X_iconst (pc := 13) (v := 1) C dX7_wrong_13 (by decide) ?_
      refine U_X7_180 (pc := 14) C (by assumption) (by decide) (by decide) dX7_wrong_14 ?_
      rw [mW_u9]
      refine X_aload_n (pc := 17) C 0 dX7_wrong_17 rfl rfl ?_
      refine X_iload_n (pc := 18) C 2 dX7_wrong_18 rfl rfl ?_
      refine U_X7_184 (pc := 19) C (by assumption) dX7_wrong_19 ?_
      rw [mW_u9]
      refine X_aload_n (pc := 22) C 0 dX7_wrong_22 rfl rfl ?_
      refine X_aload_n (pc := 23) C 0 dX7_wrong_23 rfl rfl ?_
      refine G_X7_161 (pc := 24) C (by assumption) dX7_wrong_24 ?_
      rw [mW_9]
      rw [upd_ne (by decide), upd_ne (by decide)]
      refine U_X7_35 (pc := 27) C (by assumption) dX7_wrong_27 ?_
      rw [mW_u9]
      exact X_vret (pc := 30) C (Nat.zero_le _) (Nat.zero_le _) dX7_wrong_30 ⟨rfl, by first | rw [mWr, if_pos g9] | rw [mWr, if_neg g9]⟩
    · have g9 : ¬ (F 20 = 0 ∧ ¬ b = 0) := fun q => q.2 h8
      exact X_vret (pc := 11) C (Nat.zero_le _) (Nat.zero_le _) dX7_wrong_11 ⟨rfl, by first | rw [mWr, if_pos g9] | rw [mWr, if_neg g9]⟩

set_option maxRecDepth 100000 in
set_option maxHeartbeats 4000000 in
theorem c_X7_go (l : Launch) (P : XP) (τ : XS) (S F L : Nat → Int32) (h1 : xI1 P) (n : Nat) (hT : TK n F) : XF l yX7_go cX7_go 1 none rm_X7_go P [.ref (P.2.2.1 (.inr 9))] (mW τ S F L) (none) (mW τ S (mGo (τ.1 (.inr 16)) n F) L) := by
  refine XM.of (by decide +kernel) (Nat.le_of_ble_eq_true rfl) (fun p e s m args below meth c A C => ?_)
  replace C : XC p s m args meth c P A 1 RX7 cX7_go none := C
  refine XW.eq (lv' := [(0, _)]) rfl rfl rfl ?_
  refine X_aload_n (pc := 0) C 0 dX7_go_0 rfl rfl ?_
  refine G_X7_180 (pc := 1) C (by assumption) dX7_go_1 ?_
  rw [mW_9]
  refine X_if_ne (pc := 4) C 11 dX7_go_4 (by decide) (fun h4 => ?_) (fun h4 => ?_)
  · skip
    exact X_vret (pc := 11) C (Nat.zero_le _) (Nat.zero_le _) dX7_go_11 ⟨rfl, by first | rw [mGo, if_pos h4, mNx1] | rw [mGo, if_neg h4]⟩
  · skip
    refine X_aload_n (pc := 7) C 0 dX7_go_7 rfl rfl ?_
    refine K_X7_187 (pc := 8) C (by assumption) (c_X7_next l P _ _ _ _ h1 n hT.1 hT.2.1 (eF F) hT.2.2.2.2.2 hT.2.2.1) ⟨Nat.le_of_ble_eq_true rfl, Nat.le_of_ble_eq_true rfl⟩ ⟨rfl, rfl⟩ ⟨Nat.zero_le _, Nat.zero_le _⟩ (Nat.le_of_ble_eq_true rfl) dX7_go_8 ?_
    exact X_vret (pc := 11) C (Nat.zero_le _) (Nat.zero_le _) dX7_go_11 ⟨rfl, by first | rw [mGo, if_pos h4, mNx1] | rw [mGo, if_neg h4]⟩

set_option maxRecDepth 100000 in
set_option maxHeartbeats 4000000 in
theorem L_X7_is {Post : Option Value → XS → Prop} {mc ms : Nat} (C : XC p s m args meth c P A 3 RX7 cX7_is (some .boolean)) {τ : XS} {S F L : Nat → Int32} (h1 : xI1 P) {n q : Nat} (hT : TK n F) (hq : q < 9) (hl : eF F - sF F = xln q) : ∀ (k i : Nat), i + k = xln q → Post (some (.int (xmat (fun j => (τ.1 (.inr 16)) (sF F + j)) q k i))) (mW τ S F L) → XW p l e rm_X7_is s m args below meth c P A 3 0 0 (MQ below (XQ P A Post) args s mc ms A) (mW τ S F L) 35 [(0, .ref (P.2.2.1 (.inr 9))), (1, .ref (xK P q)), (2, .int (nI (i)))] [] := by
  have hb := xln_700 q hq
  have hT1 := hT.1
  have hT5 : sF F ≤ eF F ∧ eF F ≤ n := hT.2.2.2.2
  intro k
  induction k with
  | zero =>
    intro i hi hp
    have e9 : i = xln q := by omega
    subst e9
    refine X_iload_n (pc := 35) C 2 dX7_is_35 rfl rfl ?_
    refine X_aload_n (pc := 36) C 1 dX7_is_36 rfl rfl ?_
    refine X_callT (n := 0) (pc := 37) C hq [] (c_J0_length l P _ q hq) rfl m_c_J0_length_8abf5 m_m_X7_48 m_i_J0_length_8abf5 m_s_J0_length_8abf5 m_n_J0 ⟨by decide +kernel, by decide +kernel, by decide +kernel⟩ ⟨Nat.le_of_ble_eq_true rfl, Nat.le_of_ble_eq_true rfl⟩ ⟨rfl, rfl⟩ ⟨Nat.zero_le _, Nat.zero_le _⟩ rfl (Nat.le_of_ble_eq_true rfl) rfl dX7_is_37 ?_
    refine X_icmp_ge (pc := 40) C 70 dX7_is_40 (by decide) (fun h40 => ?_) (fun h40 => ?_)
    · skip
      refine X_iconst (pc := 70) (v := 1) C dX7_is_70 (by decide) ?_
      exact X_zret (pc := 71) C (Nat.zero_le _) (Nat.zero_le _) (rfl) dX7_is_71 hp
    · exact absurd (nI_le (Nat.le_refl _) (n31 (by omega))) h40
  | succ k ih =>
    intro i hi hp
    have hlt : i < xln q := by omega
    refine X_iload_n (pc := 35) C 2 dX7_is_35 rfl rfl ?_
    refine X_aload_n (pc := 36) C 1 dX7_is_36 rfl rfl ?_
    refine X_callT (n := 0) (pc := 37) C hq [] (c_J0_length l P _ q hq) rfl m_c_J0_length_8abf5 m_m_X7_48 m_i_J0_length_8abf5 m_s_J0_length_8abf5 m_n_J0 ⟨by decide +kernel, by decide +kernel, by decide +kernel⟩ ⟨Nat.le_of_ble_eq_true rfl, Nat.le_of_ble_eq_true rfl⟩ ⟨rfl, rfl⟩ ⟨Nat.zero_le _, Nat.zero_le _⟩ rfl (Nat.le_of_ble_eq_true rfl) rfl dX7_is_37 ?_
    refine X_icmp_ge (pc := 40) C 70 dX7_is_40 (by decide) (fun h40 => ?_) (fun h40 => ?_)
    · exact absurd (nle h40) (by omega)
    · skip
      refine X_aload_n (pc := 43) C 0 dX7_is_43 rfl rfl ?_
      refine G_X7_29 (pc := 44) C (by assumption) dX7_is_44 ?_
      refine X_aload_n (pc := 47) C 0 dX7_is_47 rfl rfl ?_
      refine G_X7_161 (pc := 48) C (by assumption) dX7_is_48 ?_
      rw [mW_9]
      rw [hT.2.2.2.1]
      refine X_iload_n (pc := 51) C 2 dX7_is_51 rfl rfl ?_
      refine X_iadd (pc := 52) C dX7_is_52 ?_
      rw [nI_add]
      refine X_ialdN (pc := 53) C (by first | exact h1 _ (by decide) (by decide)) rfl (by show sF F + i < 700; omega) (by decide) dX7_is_53 ?_
      rw [mW_o (i := .inr 16) (by decide) (by decide) (by decide)]
      refine X_aload_n (pc := 54) C 1 dX7_is_54 rfl rfl ?_
      refine X_iload_n (pc := 55) C 2 dX7_is_55 rfl rfl ?_
      refine X_callT (n := 1) (pc := 56) C hq [.int _] (c_J0_charAt l P _ q i hq hlt) rfl m_c_J0_charAt_5068e m_m_X7_57 m_i_J0_charAt_5068e m_s_J0_charAt_5068e m_n_J0 ⟨by decide +kernel, by decide +kernel, by decide +kernel⟩ ⟨Nat.le_of_ble_eq_true rfl, Nat.le_of_ble_eq_true rfl⟩ ⟨rfl, rfl⟩ ⟨Nat.zero_le _, Nat.zero_le _⟩ rfl (Nat.le_of_ble_eq_true rfl) rfl dX7_is_56 ?_
      refine X_icmp_eq (pc := 59) C 64 dX7_is_59 (by decide) (fun h59 => ?_) (fun h59 => ?_)
      · skip
        first | refine X_iincN (pc := 64) (lv1 := [(0, _), (1, _), (2, _)]) C dX7_is_64 rfl (by decide) (by decide) rfl ?_ | refine X_iinc (pc := 64) (kk := 1) (lv1 := [(0, _), (1, _), (2, _)]) C dX7_is_64 rfl (by decide) (by decide) rfl ?_
        refine X_goto (pc := 67) C 35 dX7_is_67 (by decide) ?_
        exact ih (i + 1) (by omega) (by rw [xmat, if_pos h59] at hp; exact hp)
      · skip
        refine X_iconst (pc := 62) (v := 0) C dX7_is_62 (by decide) ?_
        exact X_zret (pc := 63) C (Nat.zero_le _) (Nat.zero_le _) (rfl) dX7_is_63 (by rw [xmat, if_neg h59] at hp; exact hp)

set_option maxRecDepth 100000 in
set_option maxHeartbeats 4000000 in
theorem c_X7_is (l : Launch) (P : XP) (τ : XS) (S F L : Nat → Int32) (h1 : xI1 P) (n : Nat) (hT : TK n F) (q : Nat) (hq : q < 9) : XF l yX7_is cX7_is 3 (some .boolean) rm_X7_is P [.ref (P.2.2.1 (.inr 9)), .ref (xK P q)] (mW τ S F L) (some (.int (mIs (τ.1 (.inr 16)) F q))) (mW τ S F L) := by
  refine XM.of (by decide +kernel) (Nat.le_of_ble_eq_true rfl) (fun p e s m args below meth c A C => ?_)
  replace C : XC p s m args meth c P A 3 RX7 cX7_is (some .boolean) := C
  refine XW.eq (lv' := [(0, _), (1, _)]) rfl rfl rfl ?_
  have hb := xln_700 q hq
  refine X_aload_n (pc := 0) C 0 dX7_is_0 rfl rfl ?_
  refine G_X7_180 (pc := 1) C (by assumption) dX7_is_1 ?_
  rw [mW_9]
  refine X_if_ne (pc := 4) C 31 dX7_is_4 (by decide) (fun h4 => ?_) (fun h4 => ?_)
  · skip
    refine X_iconst (pc := 31) (v := 0) C dX7_is_31 (by decide) ?_
    exact X_zret (pc := 32) C (Nat.zero_le _) (Nat.zero_le _) (rfl) dX7_is_32 ⟨by first | rw [mIs, if_neg (fun z : F 20 = 0 ∧ F 16 = 1 ∧ eF F - sF F = xln q => h4 z.1)] | rw [mIs, if_neg (fun z : F 20 = 0 ∧ F 16 = 1 ∧ eF F - sF F = xln q => h12 z.2.1)] | rw [mIs, if_neg (fun z : F 20 = 0 ∧ F 16 = 1 ∧ eF F - sF F = xln q => h28 (by rw [z.2.2]))], rfl⟩
  · skip
    refine X_aload_n (pc := 7) C 0 dX7_is_7 rfl rfl ?_
    refine G_X7_164 (pc := 8) C (by assumption) dX7_is_8 ?_
    rw [mW_9]
    refine X_iconst (pc := 11) (v := 1) C dX7_is_11 (by decide) ?_
    refine X_icmp_ne (pc := 12) C 31 dX7_is_12 (by decide) (fun h12 => ?_) (fun h12 => ?_)
    · skip
      refine X_iconst (pc := 31) (v := 0) C dX7_is_31 (by decide) ?_
      exact X_zret (pc := 32) C (Nat.zero_le _) (Nat.zero_le _) (rfl) dX7_is_32 ⟨by first | rw [mIs, if_neg (fun z : F 20 = 0 ∧ F 16 = 1 ∧ eF F - sF F = xln q => h4 z.1)] | rw [mIs, if_neg (fun z : F 20 = 0 ∧ F 16 = 1 ∧ eF F - sF F = xln q => h12 z.2.1)] | rw [mIs, if_neg (fun z : F 20 = 0 ∧ F 16 = 1 ∧ eF F - sF F = xln q => h28 (by rw [z.2.2]))], rfl⟩
    · skip
      refine X_aload_n (pc := 15) C 0 dX7_is_15 rfl rfl ?_
      refine G_X7_158 (pc := 16) C (by assumption) dX7_is_16 ?_
      rw [mW_9]
      rw [hT.2.2.1]
      refine X_aload_n (pc := 19) C 0 dX7_is_19 rfl rfl ?_
      refine G_X7_161 (pc := 20) C (by assumption) dX7_is_20 ?_
      rw [mW_9]
      rw [hT.2.2.2.1]
      refine X_isub (pc := 23) C dX7_is_23 ?_
      rw [nI_subN hT.2.2.2.2.1]
      refine X_aload_n (pc := 24) C 1 dX7_is_24 rfl rfl ?_
      refine X_callT (n := 0) (pc := 25) C hq [] (c_J0_length l P _ q hq) rfl m_c_J0_length_8abf5 m_m_X7_48 m_i_J0_length_8abf5 m_s_J0_length_8abf5 m_n_J0 ⟨by decide +kernel, by decide +kernel, by decide +kernel⟩ ⟨Nat.le_of_ble_eq_true rfl, Nat.le_of_ble_eq_true rfl⟩ ⟨rfl, rfl⟩ ⟨Nat.zero_le _, Nat.zero_le _⟩ rfl (Nat.le_of_ble_eq_true rfl) rfl dX7_is_25 ?_
      refine X_icmp_eq (pc := 28) C 33 dX7_is_28 (by decide) (fun h28 => ?_) (fun h28 => ?_)
      · have g28 : eF F - sF F = xln q := neq h28 (by have h9 : eF F ≤ n := hT.2.2.2.2.2; have := hT.1; omega) (by omega)
        refine X_iconst (pc := 33) (v := 0) C dX7_is_33 (by decide) ?_
        refine X_istore_n (pc := 34) (lv1 := [(0, _), (1, _), (2, _)]) C 2 dX7_is_34 rfl (by decide) rfl ?_
        exact L_X7_is C h1 hT hq g28 (xln q) 0 (by omega) ⟨by rw [mIs, if_pos ⟨h4, h12, g28⟩], rfl⟩
      · skip
        refine X_iconst (pc := 31) (v := 0) C dX7_is_31 (by decide) ?_
        exact X_zret (pc := 32) C (Nat.zero_le _) (Nat.zero_le _) (rfl) dX7_is_32 ⟨by first | rw [mIs, if_neg (fun z : F 20 = 0 ∧ F 16 = 1 ∧ eF F - sF F = xln q => h4 z.1)] | rw [mIs, if_neg (fun z : F 20 = 0 ∧ F 16 = 1 ∧ eF F - sF F = xln q => h12 z.2.1)] | rw [mIs, if_neg (fun z : F 20 = 0 ∧ F 16 = 1 ∧ eF F - sF F = xln q => h28 (by rw [z.2.2]))], rfl⟩

set_option maxRecDepth 100000 in
set_option maxHeartbeats 4000000 in
theorem c_X7_number (l : Launch) (P : XP) (τ : XS) (S F L : Nat → Int32) (h1 : xI1 P) (n : Nat) (hT : TK n F) (x y : Int32) : XF l yX7_number cX7_number 4 (some .int) rm_X7_number P [.ref (P.2.2.1 (.inr 9)), .int x, .int y] (mW τ S F L) (some (.int (mNbV F x y))) (mW τ S (mNbF (τ.1 (.inr 16)) n F x y) L) := by
  refine XM.of (by decide +kernel) (Nat.le_of_ble_eq_true rfl) (fun p e s m args below meth c A C => ?_)
  replace C : XC p s m args meth c P A 4 RX7 cX7_number (some .int) := C
  refine XW.eq (lv' := [(0, _), (1, _), (2, _)]) rfl rfl rfl ?_
  refine X_aload_n (pc := 0) C 0 dX7_number_0 rfl rfl ?_
  refine X_aload_n (pc := 1) C 0 dX7_number_1 rfl rfl ?_
  refine G_X7_164 (pc := 2) C (by assumption) dX7_number_2 ?_
  rw [mW_9]
  refine X_iconst (pc := 5) (v := 2) C dX7_number_5 (by decide) ?_
  refine X_icmp_eq (pc := 6) C 13 dX7_number_6 (by decide) (fun h6 => ?_) (fun h6 => ?_)
  · have g6 : (if F 16 = 2 then (0 : Int32) else 1) = 0 := if_pos h6
    refine X_iconst (pc := 13) (v := 0) C dX7_number_13 (by decide) ?_
    refine X_iconst (pc := 14) (v := 1) C dX7_number_14 (by decide) ?_
    refine K_X7_190 (pc := 15) C (by assumption) (c_X7_wrong l P _ _ _ _ h1 _ _) ⟨Nat.le_of_ble_eq_true rfl, Nat.le_of_ble_eq_true rfl⟩ ⟨rfl, rfl⟩ ⟨Nat.zero_le _, Nat.zero_le _⟩ (Nat.le_of_ble_eq_true rfl) dX7_number_15 ?_
    refine XW.eq (σ' := mW τ S (mWr F (if F 16 = 2 then 0 else 1) 1) L) (by rw [g6]) rfl rfl ?_
    refine X_aload_n (pc := 18) C 0 dX7_number_18 rfl rfl ?_
    refine X_aload_n (pc := 19) C 0 dX7_number_19 rfl rfl ?_
    refine G_X7_180 (pc := 20) C (by assumption) dX7_number_20 ?_
    rw [mW_9]
    refine X_if_ne (pc := 23) C 42 dX7_number_23 (by decide) (fun h23 => ?_) (fun h23 => ?_)
    · have g9 : (if mWr F (if F 16 = 2 then 0 else 1) 1 20 = 0 ∧ ¬ (x ≤ F 19 ∧ F 19 ≤ y) then (1 : Int32) else 0) = 0 := if_neg (fun q => h23 q.1)
      refine X_iconst (pc := 42) (v := 0) C dX7_number_42 (by decide) ?_
      refine X_iconst (pc := 43) (v := 2) C dX7_number_43 (by decide) ?_
      refine K_X7_190 (pc := 44) C (by assumption) (c_X7_wrong l P _ _ _ _ h1 _ _) ⟨Nat.le_of_ble_eq_true rfl, Nat.le_of_ble_eq_true rfl⟩ ⟨rfl, rfl⟩ ⟨Nat.zero_le _, Nat.zero_le _⟩ (Nat.le_of_ble_eq_true rfl) dX7_number_44 ?_
      refine XW.eq (σ' := mW τ S (mNb0 F x y) L) (by rw [mNb0, g9]) rfl rfl ?_
      refine X_aload_n (pc := 47) C 0 dX7_number_47 rfl rfl ?_
      refine G_X7_180 (pc := 48) C (by assumption) dX7_number_48 ?_
      rw [mW_9]
      refine X_if_eq (pc := 51) C 58 dX7_number_51 (by decide) (fun h51 => ?_) (fun h51 => ?_)
      · skip
        refine X_aload_n (pc := 58) C 0 dX7_number_58 rfl rfl ?_
        refine G_X7_173 (pc := 59) C (by assumption) dX7_number_59 ?_
        rw [mW_9]
        rw [show mNb0 F x y 19 = F 19 from by rw [mNb0, mWr_o (by decide) (by decide) (by decide), mWr_o (by decide) (by decide) (by decide)]]
        refine X_istore_n (pc := 62) (lv1 := [(0, _), (1, _), (2, _), (3, _)]) C 3 dX7_number_62 rfl (by decide) rfl ?_
        refine X_aload_n (pc := 63) C 0 dX7_number_63 rfl rfl ?_
        refine K_X7_194 (pc := 64) C (by assumption) (c_X7_go l P _ _ _ _ h1 n (mNb0_TK hT)) ⟨Nat.le_of_ble_eq_true rfl, Nat.le_of_ble_eq_true rfl⟩ ⟨rfl, rfl⟩ ⟨Nat.zero_le _, Nat.zero_le _⟩ (Nat.le_of_ble_eq_true rfl) dX7_number_64 ?_
        refine X_iload_n (pc := 67) C 3 dX7_number_67 rfl rfl ?_
        exact X_iret (pc := 68) C (Nat.zero_le _) (Nat.zero_le _) dX7_number_68 ⟨by first | rw [mNbV, if_pos h51] | rw [mNbV, if_neg h51], rfl⟩
      · skip
        refine X_iload_n (pc := 54) C 1 dX7_number_54 rfl rfl ?_
        refine X_goto (pc := 55) C 62 dX7_number_55 (by decide) ?_
        refine X_istore_n (pc := 62) (lv1 := [(0, _), (1, _), (2, _), (3, _)]) C 3 dX7_number_62 rfl (by decide) rfl ?_
        refine X_aload_n (pc := 63) C 0 dX7_number_63 rfl rfl ?_
        refine K_X7_194 (pc := 64) C (by assumption) (c_X7_go l P _ _ _ _ h1 n (mNb0_TK hT)) ⟨Nat.le_of_ble_eq_true rfl, Nat.le_of_ble_eq_true rfl⟩ ⟨rfl, rfl⟩ ⟨Nat.zero_le _, Nat.zero_le _⟩ (Nat.le_of_ble_eq_true rfl) dX7_number_64 ?_
        refine X_iload_n (pc := 67) C 3 dX7_number_67 rfl rfl ?_
        exact X_iret (pc := 68) C (Nat.zero_le _) (Nat.zero_le _) dX7_number_68 ⟨by first | rw [mNbV, if_pos h51] | rw [mNbV, if_neg h51], rfl⟩
    · skip
      refine X_aload_n (pc := 26) C 0 dX7_number_26 rfl rfl ?_
      refine G_X7_173 (pc := 27) C (by assumption) dX7_number_27 ?_
      rw [mW_9]
      rw [mWr_o (by decide) (by decide) (by decide)]
      refine X_iload_n (pc := 30) C 1 dX7_number_30 rfl rfl ?_
      refine X_iload_n (pc := 31) C 2 dX7_number_31 rfl rfl ?_
      refine K_X7_80 (pc := 32) C (c_X7_isIn l P _ _ _ _) ⟨Nat.le_of_ble_eq_true rfl, Nat.le_of_ble_eq_true rfl⟩ ⟨rfl, rfl⟩ ⟨Nat.zero_le _, Nat.zero_le _⟩ (Nat.le_of_ble_eq_true rfl) dX7_number_32 ?_
      refine X_if_ne (pc := 35) C 42 dX7_number_35 (by decide) (fun h35 => ?_) (fun h35 => ?_)
      · have g9 : (if mWr F (if F 16 = 2 then 0 else 1) 1 20 = 0 ∧ ¬ (x ≤ F 19 ∧ F 19 ≤ y) then (1 : Int32) else 0) = 0 := if_neg (fun q => q.2 (bz1 h35))
        refine X_iconst (pc := 42) (v := 0) C dX7_number_42 (by decide) ?_
        refine X_iconst (pc := 43) (v := 2) C dX7_number_43 (by decide) ?_
        refine K_X7_190 (pc := 44) C (by assumption) (c_X7_wrong l P _ _ _ _ h1 _ _) ⟨Nat.le_of_ble_eq_true rfl, Nat.le_of_ble_eq_true rfl⟩ ⟨rfl, rfl⟩ ⟨Nat.zero_le _, Nat.zero_le _⟩ (Nat.le_of_ble_eq_true rfl) dX7_number_44 ?_
        refine XW.eq (σ' := mW τ S (mNb0 F x y) L) (by rw [mNb0, g9]) rfl rfl ?_
        refine X_aload_n (pc := 47) C 0 dX7_number_47 rfl rfl ?_
        refine G_X7_180 (pc := 48) C (by assumption) dX7_number_48 ?_
        rw [mW_9]
        refine X_if_eq (pc := 51) C 58 dX7_number_51 (by decide) (fun h51 => ?_) (fun h51 => ?_)
        · skip
          refine X_aload_n (pc := 58) C 0 dX7_number_58 rfl rfl ?_
          refine G_X7_173 (pc := 59) C (by assumption) dX7_number_59 ?_
          rw [mW_9]
          rw [show mNb0 F x y 19 = F 19 from by rw [mNb0, mWr_o (by decide) (by decide) (by decide), mWr_o (by decide) (by decide) (by decide)]]
          refine X_istore_n (pc := 62) (lv1 := [(0, _), (1, _), (2, _), (3, _)]) C 3 dX7_number_62 rfl (by decide) rfl ?_
          refine X_aload_n (pc := 63) C 0 dX7_number_63 rfl rfl ?_
          refine K_X7_194 (pc := 64) C (by assumption) (c_X7_go l P _ _ _ _ h1 n (mNb0_TK hT)) ⟨Nat.le_of_ble_eq_true rfl, Nat.le_of_ble_eq_true rfl⟩ ⟨rfl, rfl⟩ ⟨Nat.zero_le _, Nat.zero_le _⟩ (Nat.le_of_ble_eq_true rfl) dX7_number_64 ?_
          refine X_iload_n (pc := 67) C 3 dX7_number_67 rfl rfl ?_
          exact X_iret (pc := 68) C (Nat.zero_le _) (Nat.zero_le _) dX7_number_68 ⟨by first | rw [mNbV, if_pos h51] | rw [mNbV, if_neg h51], rfl⟩
        · skip
          refine X_iload_n (pc := 54) C 1 dX7_number_54 rfl rfl ?_
          refine X_goto (pc := 55) C 62 dX7_number_55 (by decide) ?_
          refine X_istore_n (pc := 62) (lv1 := [(0, _), (1, _), (2, _), (3, _)]) C 3 dX7_number_62 rfl (by decide) rfl ?_
          refine X_aload_n (pc := 63) C 0 dX7_number_63 rfl rfl ?_
          refine K_X7_194 (pc := 64) C (by assumption) (c_X7_go l P _ _ _ _ h1 n (mNb0_TK hT)) ⟨Nat.le_of_ble_eq_true rfl, Nat.le_of_ble_eq_true rfl⟩ ⟨rfl, rfl⟩ ⟨Nat.zero_le _, Nat.zero_le _⟩ (Nat.le_of_ble_eq_true rfl) dX7_number_64 ?_
          refine X_iload_n (pc := 67) C 3 dX7_number_67 rfl rfl ?_
          exact X_iret (pc := 68) C (Nat.zero_le _) (Nat.zero_le _) dX7_number_68 ⟨by first | rw [mNbV, if_pos h51] | rw [mNbV, if_neg h51], rfl⟩
      · have g9 : (if mWr F (if F 16 = 2 then 0 else 1) 1 20 = 0 ∧ ¬ (x ≤ F 19 ∧ F 19 ≤ y) then (1 : Int32) else 0) = 1 := if_pos ⟨h23, bz0 h35⟩
        refine X_iconst (pc := 38) (v := 1) C dX7_number_38 (by decide) ?_
        refine X_goto (pc := 39) C 43 dX7_number_39 (by decide) ?_
        refine X_iconst (pc := 43) (v := 2) C dX7_number_43 (by decide) ?_
        refine K_X7_190 (pc := 44) C (by assumption) (c_X7_wrong l P _ _ _ _ h1 _ _) ⟨Nat.le_of_ble_eq_true rfl, Nat.le_of_ble_eq_true rfl⟩ ⟨rfl, rfl⟩ ⟨Nat.zero_le _, Nat.zero_le _⟩ (Nat.le_of_ble_eq_true rfl) dX7_number_44 ?_
        refine XW.eq (σ' := mW τ S (mNb0 F x y) L) (by rw [mNb0, g9]) rfl rfl ?_
        refine X_aload_n (pc := 47) C 0 dX7_number_47 rfl rfl ?_
        refine G_X7_180 (pc := 48) C (by assumption) dX7_number_48 ?_
        rw [mW_9]
        refine X_if_eq (pc := 51) C 58 dX7_number_51 (by decide) (fun h51 => ?_) (fun h51 => ?_)
        · skip
          refine X_aload_n (pc := 58) C 0 dX7_number_58 rfl rfl ?_
          refine G_X7_173 (pc := 59) C (by assumption) dX7_number_59 ?_
          rw [mW_9]
          rw [show mNb0 F x y 19 = F 19 from by rw [mNb0, mWr_o (by decide) (by decide) (by decide), mWr_o (by decide) (by decide) (by decide)]]
          refine X_istore_n (pc := 62) (lv1 := [(0, _), (1, _), (2, _), (3, _)]) C 3 dX7_number_62 rfl (by decide) rfl ?_
          refine X_aload_n (pc := 63) C 0 dX7_number_63 rfl rfl ?_
          refine K_X7_194 (pc := 64) C (by assumption) (c_X7_go l P _ _ _ _ h1 n (mNb0_TK hT)) ⟨Nat.le_of_ble_eq_true rfl, Nat.le_of_ble_eq_true rfl⟩ ⟨rfl, rfl⟩ ⟨Nat.zero_le _, Nat.zero_le _⟩ (Nat.le_of_ble_eq_true rfl) dX7_number_64 ?_
          refine X_iload_n (pc := 67) C 3 dX7_number_67 rfl rfl ?_
          exact X_iret (pc := 68) C (Nat.zero_le _) (Nat.zero_le _) dX7_number_68 ⟨by first | rw [mNbV, if_pos h51] | rw [mNbV, if_neg h51], rfl⟩
        · skip
          refine X_iload_n (pc := 54) C 1 dX7_number_54 rfl rfl ?_
          refine X_goto (pc := 55) C 62 dX7_number_55 (by decide) ?_
          refine X_istore_n (pc := 62) (lv1 := [(0, _), (1, _), (2, _), (3, _)]) C 3 dX7_number_62 rfl (by decide) rfl ?_
          refine X_aload_n (pc := 63) C 0 dX7_number_63 rfl rfl ?_
          refine K_X7_194 (pc := 64) C (by assumption) (c_X7_go l P _ _ _ _ h1 n (mNb0_TK hT)) ⟨Nat.le_of_ble_eq_true rfl, Nat.le_of_ble_eq_true rfl⟩ ⟨rfl, rfl⟩ ⟨Nat.zero_le _, Nat.zero_le _⟩ (Nat.le_of_ble_eq_true rfl) dX7_number_64 ?_
          refine X_iload_n (pc := 67) C 3 dX7_number_67 rfl rfl ?_
          exact X_iret (pc := 68) C (Nat.zero_le _) (Nat.zero_le _) dX7_number_68 ⟨by first | rw [mNbV, if_pos h51] | rw [mNbV, if_neg h51], rfl⟩
  · have g6 : (if F 16 = 2 then (0 : Int32) else 1) = 1 := if_neg h6
    refine X_iconst (pc := 9) (v := 1) C dX7_number_9 (by decide) ?_
    refine X_goto (pc := 10) C 14 dX7_number_10 (by decide) ?_
    refine X_iconst (pc := 14) (v := 1) C dX7_number_14 (by decide) ?_
    refine K_X7_190 (pc := 15) C (by assumption) (c_X7_wrong l P _ _ _ _ h1 _ _) ⟨Nat.le_of_ble_eq_true rfl, Nat.le_of_ble_eq_true rfl⟩ ⟨rfl, rfl⟩ ⟨Nat.zero_le _, Nat.zero_le _⟩ (Nat.le_of_ble_eq_true rfl) dX7_number_15 ?_
    refine XW.eq (σ' := mW τ S (mWr F (if F 16 = 2 then 0 else 1) 1) L) (by rw [g6]) rfl rfl ?_
    refine X_aload_n (pc := 18) C 0 dX7_number_18 rfl rfl ?_
    refine X_aload_n (pc := 19) C 0 dX7_number_19 rfl rfl ?_
    refine G_X7_180 (pc := 20) C (by assumption) dX7_number_20 ?_
    rw [mW_9]
    refine X_if_ne (pc := 23) C 42 dX7_number_23 (by decide) (fun h23 => ?_) (fun h23 => ?_)
    · have g9 : (if mWr F (if F 16 = 2 then 0 else 1) 1 20 = 0 ∧ ¬ (x ≤ F 19 ∧ F 19 ≤ y) then (1 : Int32) else 0) = 0 := if_neg (fun q => h23 q.1)
      refine X_iconst (pc := 42) (v := 0) C dX7_number_42 (by decide) ?_
      refine X_iconst (pc := 43) (v := 2) C dX7_number_43 (by decide) ?_
      refine K_X7_190 (pc := 44) C (by assumption) (c_X7_wrong l P _ _ _ _ h1 _ _) ⟨Nat.le_of_ble_eq_true rfl, Nat.le_of_ble_eq_true rfl⟩ ⟨rfl, rfl⟩ ⟨Nat.zero_le _, Nat.zero_le _⟩ (Nat.le_of_ble_eq_true rfl) dX7_number_44 ?_
      refine XW.eq (σ' := mW τ S (mNb0 F x y) L) (by rw [mNb0, g9]) rfl rfl ?_
      refine X_aload_n (pc := 47) C 0 dX7_number_47 rfl rfl ?_
      refine G_X7_180 (pc := 48) C (by assumption) dX7_number_48 ?_
      rw [mW_9]
      refine X_if_eq (pc := 51) C 58 dX7_number_51 (by decide) (fun h51 => ?_) (fun h51 => ?_)
      · skip
        refine X_aload_n (pc := 58) C 0 dX7_number_58 rfl rfl ?_
        refine G_X7_173 (pc := 59) C (by assumption) dX7_number_59 ?_
        rw [mW_9]
        rw [show mNb0 F x y 19 = F 19 from by rw [mNb0, mWr_o (by decide) (by decide) (by decide), mWr_o (by decide) (by decide) (by decide)]]
        refine X_istore_n (pc := 62) (lv1 := [(0, _), (1, _), (2, _), (3, _)]) C 3 dX7_number_62 rfl (by decide) rfl ?_
        refine X_aload_n (pc := 63) C 0 dX7_number_63 rfl rfl ?_
        refine K_X7_194 (pc := 64) C (by assumption) (c_X7_go l P _ _ _ _ h1 n (mNb0_TK hT)) ⟨Nat.le_of_ble_eq_true rfl, Nat.le_of_ble_eq_true rfl⟩ ⟨rfl, rfl⟩ ⟨Nat.zero_le _, Nat.zero_le _⟩ (Nat.le_of_ble_eq_true rfl) dX7_number_64 ?_
        refine X_iload_n (pc := 67) C 3 dX7_number_67 rfl rfl ?_
        exact X_iret (pc := 68) C (Nat.zero_le _) (Nat.zero_le _) dX7_number_68 ⟨by first | rw [mNbV, if_pos h51] | rw [mNbV, if_neg h51], rfl⟩
      · skip
        refine X_iload_n (pc := 54) C 1 dX7_number_54 rfl rfl ?_
        refine X_goto (pc := 55) C 62 dX7_number_55 (by decide) ?_
        refine X_istore_n (pc := 62) (lv1 := [(0, _), (1, _), (2, _), (3, _)]) C 3 dX7_number_62 rfl (by decide) rfl ?_
        refine X_aload_n (pc := 63) C 0 dX7_number_63 rfl rfl ?_
        refine K_X7_194 (pc := 64) C (by assumption) (c_X7_go l P _ _ _ _ h1 n (mNb0_TK hT)) ⟨Nat.le_of_ble_eq_true rfl, Nat.le_of_ble_eq_true rfl⟩ ⟨rfl, rfl⟩ ⟨Nat.zero_le _, Nat.zero_le _⟩ (Nat.le_of_ble_eq_true rfl) dX7_number_64 ?_
        refine X_iload_n (pc := 67) C 3 dX7_number_67 rfl rfl ?_
        exact X_iret (pc := 68) C (Nat.zero_le _) (Nat.zero_le _) dX7_number_68 ⟨by first | rw [mNbV, if_pos h51] | rw [mNbV, if_neg h51], rfl⟩
    · skip
      refine X_aload_n (pc := 26) C 0 dX7_number_26 rfl rfl ?_
      refine G_X7_173 (pc := 27) C (by assumption) dX7_number_27 ?_
      rw [mW_9]
      rw [mWr_o (by decide) (by decide) (by decide)]
      refine X_iload_n (pc := 30) C 1 dX7_number_30 rfl rfl ?_
      refine X_iload_n (pc := 31) C 2 dX7_number_31 rfl rfl ?_
      refine K_X7_80 (pc := 32) C (c_X7_isIn l P _ _ _ _) ⟨Nat.le_of_ble_eq_true rfl, Nat.le_of_ble_eq_true rfl⟩ ⟨rfl, rfl⟩ ⟨Nat.zero_le _, Nat.zero_le _⟩ (Nat.le_of_ble_eq_true rfl) dX7_number_32 ?_
      refine X_if_ne (pc := 35) C 42 dX7_number_35 (by decide) (fun h35 => ?_) (fun h35 => ?_)
      · have g9 : (if mWr F (if F 16 = 2 then 0 else 1) 1 20 = 0 ∧ ¬ (x ≤ F 19 ∧ F 19 ≤ y) then (1 : Int32) else 0) = 0 := if_neg (fun q => q.2 (bz1 h35))
        refine X_iconst (pc := 42) (v := 0) C dX7_number_42 (by decide) ?_
        refine X_iconst (pc := 43) (v := 2) C dX7_number_43 (by decide) ?_
        refine K_X7_190 (pc := 44) C (by assumption) (c_X7_wrong l P _ _ _ _ h1 _ _) ⟨Nat.le_of_ble_eq_true rfl, Nat.le_of_ble_eq_true rfl⟩ ⟨rfl, rfl⟩ ⟨Nat.zero_le _, Nat.zero_le _⟩ (Nat.le_of_ble_eq_true rfl) dX7_number_44 ?_
        refine XW.eq (σ' := mW τ S (mNb0 F x y) L) (by rw [mNb0, g9]) rfl rfl ?_
        refine X_aload_n (pc := 47) C 0 dX7_number_47 rfl rfl ?_
        refine G_X7_180 (pc := 48) C (by assumption) dX7_number_48 ?_
        rw [mW_9]
        refine X_if_eq (pc := 51) C 58 dX7_number_51 (by decide) (fun h51 => ?_) (fun h51 => ?_)
        · skip
          refine X_aload_n (pc := 58) C 0 dX7_number_58 rfl rfl ?_
          refine G_X7_173 (pc := 59) C (by assumption) dX7_number_59 ?_
          rw [mW_9]
          rw [show mNb0 F x y 19 = F 19 from by rw [mNb0, mWr_o (by decide) (by decide) (by decide), mWr_o (by decide) (by decide) (by decide)]]
          refine X_istore_n (pc := 62) (lv1 := [(0, _), (1, _), (2, _), (3, _)]) C 3 dX7_number_62 rfl (by decide) rfl ?_
          refine X_aload_n (pc := 63) C 0 dX7_number_63 rfl rfl ?_
          refine K_X7_194 (pc := 64) C (by assumption) (c_X7_go l P _ _ _ _ h1 n (mNb0_TK hT)) ⟨Nat.le_of_ble_eq_true rfl, Nat.le_of_ble_eq_true rfl⟩ ⟨rfl, rfl⟩ ⟨Nat.zero_le _, Nat.zero_le _⟩ (Nat.le_of_ble_eq_true rfl) dX7_number_64 ?_
          refine X_iload_n (pc := 67) C 3 dX7_number_67 rfl rfl ?_
          exact X_iret (pc := 68) C (Nat.zero_le _) (Nat.zero_le _) dX7_number_68 ⟨by first | rw [mNbV, if_pos h51] | rw [mNbV, if_neg h51], rfl⟩
        · skip
          refine X_iload_n (pc := 54) C 1 dX7_number_54 rfl rfl ?_
          refine X_goto (pc := 55) C 62 dX7_number_55 (by decide) ?_
          refine X_istore_n (pc := 62) (lv1 := [(0, _), (1, _), (2, _), (3, _)]) C 3 dX7_number_62 rfl (by decide) rfl ?_
          refine X_aload_n (pc := 63) C 0 dX7_number_63 rfl rfl ?_
          refine K_X7_194 (pc := 64) C (by assumption) (c_X7_go l P _ _ _ _ h1 n (mNb0_TK hT)) ⟨Nat.le_of_ble_eq_true rfl, Nat.le_of_ble_eq_true rfl⟩ ⟨rfl, rfl⟩ ⟨Nat.zero_le _, Nat.zero_le _⟩ (Nat.le_of_ble_eq_true rfl) dX7_number_64 ?_
          refine X_iload_n (pc := 67) C 3 dX7_number_67 rfl rfl ?_
          exact X_iret (pc := 68) C (Nat.zero_le _) (Nat.zero_le _) dX7_number_68 ⟨by first | rw [mNbV, if_pos h51] | rw [mNbV, if_neg h51], rfl⟩
      · have g9 : (if mWr F (if F 16 = 2 then 0 else 1) 1 20 = 0 ∧ ¬ (x ≤ F 19 ∧ F 19 ≤ y) then (1 : Int32) else 0) = 1 := if_pos ⟨h23, bz0 h35⟩
        refine X_iconst (pc := 38) (v := 1) C dX7_number_38 (by decide) ?_
        refine X_goto (pc := 39) C 43 dX7_number_39 (by decide) ?_
        refine X_iconst (pc := 43) (v := 2) C dX7_number_43 (by decide) ?_
        refine K_X7_190 (pc := 44) C (by assumption) (c_X7_wrong l P _ _ _ _ h1 _ _) ⟨Nat.le_of_ble_eq_true rfl, Nat.le_of_ble_eq_true rfl⟩ ⟨rfl, rfl⟩ ⟨Nat.zero_le _, Nat.zero_le _⟩ (Nat.le_of_ble_eq_true rfl) dX7_number_44 ?_
        refine XW.eq (σ' := mW τ S (mNb0 F x y) L) (by rw [mNb0, g9]) rfl rfl ?_
        refine X_aload_n (pc := 47) C 0 dX7_number_47 rfl rfl ?_
        refine G_X7_180 (pc := 48) C (by assumption) dX7_number_48 ?_
        rw [mW_9]
        refine X_if_eq (pc := 51) C 58 dX7_number_51 (by decide) (fun h51 => ?_) (fun h51 => ?_)
        · skip
          refine X_aload_n (pc := 58) C 0 dX7_number_58 rfl rfl ?_
          refine G_X7_173 (pc := 59) C (by assumption) dX7_number_59 ?_
          rw [mW_9]
          rw [show mNb0 F x y 19 = F 19 from by rw [mNb0, mWr_o (by decide) (by decide) (by decide), mWr_o (by decide) (by decide) (by decide)]]
          refine X_istore_n (pc := 62) (lv1 := [(0, _), (1, _), (2, _), (3, _)]) C 3 dX7_number_62 rfl (by decide) rfl ?_
          refine X_aload_n (pc := 63) C 0 dX7_number_63 rfl rfl ?_
          refine K_X7_194 (pc := 64) C (by assumption) (c_X7_go l P _ _ _ _ h1 n (mNb0_TK hT)) ⟨Nat.le_of_ble_eq_true rfl, Nat.le_of_ble_eq_true rfl⟩ ⟨rfl, rfl⟩ ⟨Nat.zero_le _, Nat.zero_le _⟩ (Nat.le_of_ble_eq_true rfl) dX7_number_64 ?_
          refine X_iload_n (pc := 67) C 3 dX7_number_67 rfl rfl ?_
          exact X_iret (pc := 68) C (Nat.zero_le _) (Nat.zero_le _) dX7_number_68 ⟨by first | rw [mNbV, if_pos h51] | rw [mNbV, if_neg h51], rfl⟩
        · skip
          refine X_iload_n (pc := 54) C 1 dX7_number_54 rfl rfl ?_
          refine X_goto (pc := 55) C 62 dX7_number_55 (by decide) ?_
          refine X_istore_n (pc := 62) (lv1 := [(0, _), (1, _), (2, _), (3, _)]) C 3 dX7_number_62 rfl (by decide) rfl ?_
          refine X_aload_n (pc := 63) C 0 dX7_number_63 rfl rfl ?_
          refine K_X7_194 (pc := 64) C (by assumption) (c_X7_go l P _ _ _ _ h1 n (mNb0_TK hT)) ⟨Nat.le_of_ble_eq_true rfl, Nat.le_of_ble_eq_true rfl⟩ ⟨rfl, rfl⟩ ⟨Nat.zero_le _, Nat.zero_le _⟩ (Nat.le_of_ble_eq_true rfl) dX7_number_64 ?_
          refine X_iload_n (pc := 67) C 3 dX7_number_67 rfl rfl ?_
          exact X_iret (pc := 68) C (Nat.zero_le _) (Nat.zero_le _) dX7_number_68 ⟨by first | rw [mNbV, if_pos h51] | rw [mNbV, if_neg h51], rfl⟩

set_option maxRecDepth 100000 in
set_option maxHeartbeats 4000000 in
theorem L_X7_nameHere (C : XC p s m args meth c P A 2 RX7 cX7_nameHere none) {τ : XS} {S G L : Nat → Int32} (h1 : xI1 P) {s0 w : Nat} (hw : w ≤ 6) (h15 : G 15 = nI w) (h17 : G 17 = nI s0) (hs : s0 + w ≤ 700) (kx : XW p l e rm_X7_nameHere s m args below meth c P A 2 0 0 Q (mW τ S G (mCpL (τ.1 (.inr 16)) s0 L (w))) 86 [(0, .ref (P.2.2.1 (.inr 9))), (1, .int (nI (w)))] []) : ∀ (k i : Nat), i + k = w → XW p l e rm_X7_nameHere s m args below meth c P A 2 0 0 Q (mW τ S G (mCpL (τ.1 (.inr 16)) s0 L (i))) 55 [(0, .ref (P.2.2.1 (.inr 9))), (1, .int (nI (i)))] [] := by
  intro k
  induction k with
  | zero =>
    intro i hi
    have e9 : i = w := by omega
    subst e9
    refine X_iload_n (pc := 55) C 1 dX7_nameHere_55 rfl rfl ?_
    refine X_aload_n (pc := 56) C 0 dX7_nameHere_56 rfl rfl ?_
    refine G_X7_148 (pc := 57) C (by assumption) dX7_nameHere_57 ?_
    rw [mW_9]
    rw [h15]
    refine X_icmp_ge (pc := 60) C 86 dX7_nameHere_60 (by decide) (fun h60 => ?_) (fun h60 => ?_)
    · skip
      exact kx
    · exact absurd (nI_le (Nat.le_refl _) (n31 (by omega))) h60
  | succ k ih =>
    intro i hi
    have hlt : i < w := by omega
    refine X_iload_n (pc := 55) C 1 dX7_nameHere_55 rfl rfl ?_
    refine X_aload_n (pc := 56) C 0 dX7_nameHere_56 rfl rfl ?_
    refine G_X7_148 (pc := 57) C (by assumption) dX7_nameHere_57 ?_
    rw [mW_9]
    rw [h15]
    refine X_icmp_ge (pc := 60) C 86 dX7_nameHere_60 (by decide) (fun h60 => ?_) (fun h60 => ?_)
    · exact absurd (nle h60) (by omega)
    · skip
      refine X_aload_n (pc := 63) C 0 dX7_nameHere_63 rfl rfl ?_
      refine G_X7_39 (pc := 64) C (by assumption) dX7_nameHere_64 ?_
      refine X_iload_n (pc := 67) C 1 dX7_nameHere_67 rfl rfl ?_
      refine X_aload_n (pc := 68) C 0 dX7_nameHere_68 rfl rfl ?_
      refine G_X7_29 (pc := 69) C (by assumption) dX7_nameHere_69 ?_
      refine X_aload_n (pc := 72) C 0 dX7_nameHere_72 rfl rfl ?_
      refine G_X7_161 (pc := 73) C (by assumption) dX7_nameHere_73 ?_
      rw [mW_9]
      rw [h17]
      refine X_iload_n (pc := 76) C 1 dX7_nameHere_76 rfl rfl ?_
      refine X_iadd (pc := 77) C dX7_nameHere_77 ?_
      rw [nI_add]
      refine X_ialdN (pc := 78) C (by first | exact h1 _ (by decide) (by decide)) rfl (by omega) (by decide) dX7_nameHere_78 ?_
      rw [mW_o (i := .inr 16) (by decide) (by decide) (by decide)]
      refine X_iastN (pc := 79) C (by first | exact h1 _ (by decide) (by decide)) rfl (by omega) (by decide) dX7_nameHere_79 ?_
      rw [mW_u18]
      rw [mCpL_s]
      first | refine X_iincN (pc := 80) (lv1 := [(0, _), (1, _)]) C dX7_nameHere_80 rfl (by decide) (by decide) rfl ?_ | refine X_iinc (pc := 80) (kk := 1) (lv1 := [(0, _), (1, _)]) C dX7_nameHere_80 rfl (by decide) (by decide) rfl ?_
      refine X_goto (pc := 83) C 55 dX7_nameHere_83 (by decide) ?_
      exact ih (i + 1) (by omega)

set_option maxRecDepth 100000 in
set_option maxHeartbeats 4000000 in
theorem c_X7_nameHere (l : Launch) (P : XP) (τ : XS) (S F L : Nat → Int32) (h1 : xI1 P) (n : Nat) (hT : TK n F) : XF l yX7_nameHere cX7_nameHere 2 none rm_X7_nameHere P [.ref (P.2.2.1 (.inr 9))] (mW τ S F L) (none) (mW τ S (mNhF F) (mNhL (τ.1 (.inr 16)) F L)) := by
  refine XM.of (by decide +kernel) (Nat.le_of_ble_eq_true rfl) (fun p e s m args below meth c A C => ?_)
  replace C : XC p s m args meth c P A 2 RX7 cX7_nameHere none := C
  refine XW.eq (lv' := [(0, _)]) rfl rfl rfl ?_
  have hT1 := hT.1
  have hT6 : sF F ≤ eF F ∧ eF F ≤ n := hT.2.2.2.2
  refine X_aload_n (pc := 0) C 0 dX7_nameHere_0 rfl rfl ?_
  refine X_aload_n (pc := 1) C 0 dX7_nameHere_1 rfl rfl ?_
  refine G_X7_164 (pc := 2) C (by assumption) dX7_nameHere_2 ?_
  rw [mW_9]
  refine X_iconst (pc := 5) (v := 1) C dX7_nameHere_5 (by decide) ?_
  refine X_icmp_ne (pc := 6) C 23 dX7_nameHere_6 (by decide) (fun h6 => ?_) (fun h6 => ?_)
  · have g9 : (if F 16 = 1 ∧ eF F - sF F ≤ 6 then (0 : Int32) else 1) = 1 := if_neg (fun q => h6 q.1)
    refine X_iconst (pc := 23) (v := 1) C dX7_nameHere_23 (by decide) ?_
    refine X_goto (pc := 24) C 28 dX7_nameHere_24 (by decide) ?_
    refine X_iconst (pc := 28) (v := 1) C dX7_nameHere_28 (by decide) ?_
    refine K_X7_190 (pc := 29) C (by assumption) (c_X7_wrong l P _ _ _ _ h1 _ _) ⟨Nat.le_of_ble_eq_true rfl, Nat.le_of_ble_eq_true rfl⟩ ⟨rfl, rfl⟩ ⟨Nat.zero_le _, Nat.zero_le _⟩ (Nat.le_of_ble_eq_true rfl) dX7_nameHere_29 ?_
    refine XW.eq (σ' := mW τ S (mNhW F) L) (by rw [mNhW, g9]) rfl rfl ?_
    refine X_aload_n (pc := 32) C 0 dX7_nameHere_32 rfl rfl ?_
    refine G_X7_180 (pc := 33) C (by assumption) dX7_nameHere_33 ?_
    rw [mW_9]
    refine X_if_eq (pc := 36) C 40 dX7_nameHere_36 (by decide) (fun h36 => ?_) (fun h36 => ?_)
    · have g6 : eF F - sF F ≤ 6 := by
        have h := (mWr_0 (F := F) (code := 1) h36).2.1
        exact Classical.byContradiction fun q => by rw [if_neg (fun z => q z.2)] at h; exact absurd h (by decide)
      refine X_aload_n (pc := 40) C 0 dX7_nameHere_40 rfl rfl ?_
      refine X_aload_n (pc := 41) C 0 dX7_nameHere_41 rfl rfl ?_
      refine G_X7_158 (pc := 42) C (by assumption) dX7_nameHere_42 ?_
      rw [mW_9]
      rw [show mNhW F 18 = F 18 from mWr_o (by decide) (by decide) (by decide), hT.2.2.1]
      refine X_aload_n (pc := 45) C 0 dX7_nameHere_45 rfl rfl ?_
      refine G_X7_161 (pc := 46) C (by assumption) dX7_nameHere_46 ?_
      rw [mW_9]
      rw [show mNhW F 17 = F 17 from mWr_o (by decide) (by decide) (by decide), hT.2.2.2.1]
      refine X_isub (pc := 49) C dX7_nameHere_49 ?_
      rw [nI_subN hT.2.2.2.2.1]
      refine U_X7_148 (pc := 50) C (by assumption) dX7_nameHere_50 ?_
      rw [mW_u9]
      refine X_iconst (pc := 53) (v := 0) C dX7_nameHere_53 (by decide) ?_
      refine X_istore_n (pc := 54) (lv1 := [(0, _), (1, _)]) C 1 dX7_nameHere_54 rfl (by decide) rfl ?_
      refine XW.eq (σ' := mW τ S (upd (mNhW F) 15 (nI (eF F - sF F))) (mCpL (τ.1 (.inr 16)) (sF F) L 0)) (by rw [mCpL_0]) rfl rfl ?_
      refine L_X7_nameHere C h1 (s0 := sF F) (w := eF F - sF F) g6 upd_at (by rw [upd_ne (by decide), show mNhW F 17 = F 17 from mWr_o (by decide) (by decide) (by decide), hT.2.2.2.1]) (by omega) ?_ (eF F - sF F) 0 (by omega)
      exact X_vret (pc := 86) C (Nat.zero_le _) (Nat.zero_le _) dX7_nameHere_86 ⟨rfl, by rw [mNhF, mNhL, if_pos h36, if_pos h36]⟩
    · skip
      exact X_vret (pc := 39) C (Nat.zero_le _) (Nat.zero_le _) dX7_nameHere_39 ⟨rfl, by rw [mNhF, mNhL, if_neg h36, if_neg h36]⟩
  · skip
    refine X_aload_n (pc := 9) C 0 dX7_nameHere_9 rfl rfl ?_
    refine G_X7_158 (pc := 10) C (by assumption) dX7_nameHere_10 ?_
    rw [mW_9]
    rw [hT.2.2.1]
    refine X_aload_n (pc := 13) C 0 dX7_nameHere_13 rfl rfl ?_
    refine G_X7_161 (pc := 14) C (by assumption) dX7_nameHere_14 ?_
    rw [mW_9]
    rw [hT.2.2.2.1]
    refine X_isub (pc := 17) C dX7_nameHere_17 ?_
    rw [nI_subN hT.2.2.2.2.1]
    refine X_bipush (pc := 18) (v := 6) C dX7_nameHere_18 (by decide) ?_
    refine X_icmp_le (pc := 20) C 27 dX7_nameHere_20 (by decide) (fun h20 => ?_) (fun h20 => ?_)
    · have g9 : (if F 16 = 1 ∧ eF F - sF F ≤ 6 then (0 : Int32) else 1) = 0 := if_pos ⟨h6, nle (b := 6) h20⟩
      refine X_iconst (pc := 27) (v := 0) C dX7_nameHere_27 (by decide) ?_
      refine X_iconst (pc := 28) (v := 1) C dX7_nameHere_28 (by decide) ?_
      refine K_X7_190 (pc := 29) C (by assumption) (c_X7_wrong l P _ _ _ _ h1 _ _) ⟨Nat.le_of_ble_eq_true rfl, Nat.le_of_ble_eq_true rfl⟩ ⟨rfl, rfl⟩ ⟨Nat.zero_le _, Nat.zero_le _⟩ (Nat.le_of_ble_eq_true rfl) dX7_nameHere_29 ?_
      refine XW.eq (σ' := mW τ S (mNhW F) L) (by rw [mNhW, g9]) rfl rfl ?_
      refine X_aload_n (pc := 32) C 0 dX7_nameHere_32 rfl rfl ?_
      refine G_X7_180 (pc := 33) C (by assumption) dX7_nameHere_33 ?_
      rw [mW_9]
      refine X_if_eq (pc := 36) C 40 dX7_nameHere_36 (by decide) (fun h36 => ?_) (fun h36 => ?_)
      · have g6 : eF F - sF F ≤ 6 := by
          have h := (mWr_0 (F := F) (code := 1) h36).2.1
          exact Classical.byContradiction fun q => by rw [if_neg (fun z => q z.2)] at h; exact absurd h (by decide)
        refine X_aload_n (pc := 40) C 0 dX7_nameHere_40 rfl rfl ?_
        refine X_aload_n (pc := 41) C 0 dX7_nameHere_41 rfl rfl ?_
        refine G_X7_158 (pc := 42) C (by assumption) dX7_nameHere_42 ?_
        rw [mW_9]
        rw [show mNhW F 18 = F 18 from mWr_o (by decide) (by decide) (by decide), hT.2.2.1]
        refine X_aload_n (pc := 45) C 0 dX7_nameHere_45 rfl rfl ?_
        refine G_X7_161 (pc := 46) C (by assumption) dX7_nameHere_46 ?_
        rw [mW_9]
        rw [show mNhW F 17 = F 17 from mWr_o (by decide) (by decide) (by decide), hT.2.2.2.1]
        refine X_isub (pc := 49) C dX7_nameHere_49 ?_
        rw [nI_subN hT.2.2.2.2.1]
        refine U_X7_148 (pc := 50) C (by assumption) dX7_nameHere_50 ?_
        rw [mW_u9]
        refine X_iconst (pc := 53) (v := 0) C dX7_nameHere_53 (by decide) ?_
        refine X_istore_n (pc := 54) (lv1 := [(0, _), (1, _)]) C 1 dX7_nameHere_54 rfl (by decide) rfl ?_
        refine XW.eq (σ' := mW τ S (upd (mNhW F) 15 (nI (eF F - sF F))) (mCpL (τ.1 (.inr 16)) (sF F) L 0)) (by rw [mCpL_0]) rfl rfl ?_
        refine L_X7_nameHere C h1 (s0 := sF F) (w := eF F - sF F) g6 upd_at (by rw [upd_ne (by decide), show mNhW F 17 = F 17 from mWr_o (by decide) (by decide) (by decide), hT.2.2.2.1]) (by omega) ?_ (eF F - sF F) 0 (by omega)
        exact X_vret (pc := 86) C (Nat.zero_le _) (Nat.zero_le _) dX7_nameHere_86 ⟨rfl, by rw [mNhF, mNhL, if_pos h36, if_pos h36]⟩
      · skip
        exact X_vret (pc := 39) C (Nat.zero_le _) (Nat.zero_le _) dX7_nameHere_39 ⟨rfl, by rw [mNhF, mNhL, if_neg h36, if_neg h36]⟩
    · have g9 : (if F 16 = 1 ∧ eF F - sF F ≤ 6 then (0 : Int32) else 1) = 1 := if_neg (fun q => h20 (nI_le (b := 6) q.2 (by decide)))
      refine X_iconst (pc := 23) (v := 1) C dX7_nameHere_23 (by decide) ?_
      refine X_goto (pc := 24) C 28 dX7_nameHere_24 (by decide) ?_
      refine X_iconst (pc := 28) (v := 1) C dX7_nameHere_28 (by decide) ?_
      refine K_X7_190 (pc := 29) C (by assumption) (c_X7_wrong l P _ _ _ _ h1 _ _) ⟨Nat.le_of_ble_eq_true rfl, Nat.le_of_ble_eq_true rfl⟩ ⟨rfl, rfl⟩ ⟨Nat.zero_le _, Nat.zero_le _⟩ (Nat.le_of_ble_eq_true rfl) dX7_nameHere_29 ?_
      refine XW.eq (σ' := mW τ S (mNhW F) L) (by rw [mNhW, g9]) rfl rfl ?_
      refine X_aload_n (pc := 32) C 0 dX7_nameHere_32 rfl rfl ?_
      refine G_X7_180 (pc := 33) C (by assumption) dX7_nameHere_33 ?_
      rw [mW_9]
      refine X_if_eq (pc := 36) C 40 dX7_nameHere_36 (by decide) (fun h36 => ?_) (fun h36 => ?_)
      · have g6 : eF F - sF F ≤ 6 := by
          have h := (mWr_0 (F := F) (code := 1) h36).2.1
          exact Classical.byContradiction fun q => by rw [if_neg (fun z => q z.2)] at h; exact absurd h (by decide)
        refine X_aload_n (pc := 40) C 0 dX7_nameHere_40 rfl rfl ?_
        refine X_aload_n (pc := 41) C 0 dX7_nameHere_41 rfl rfl ?_
        refine G_X7_158 (pc := 42) C (by assumption) dX7_nameHere_42 ?_
        rw [mW_9]
        rw [show mNhW F 18 = F 18 from mWr_o (by decide) (by decide) (by decide), hT.2.2.1]
        refine X_aload_n (pc := 45) C 0 dX7_nameHere_45 rfl rfl ?_
        refine G_X7_161 (pc := 46) C (by assumption) dX7_nameHere_46 ?_
        rw [mW_9]
        rw [show mNhW F 17 = F 17 from mWr_o (by decide) (by decide) (by decide), hT.2.2.2.1]
        refine X_isub (pc := 49) C dX7_nameHere_49 ?_
        rw [nI_subN hT.2.2.2.2.1]
        refine U_X7_148 (pc := 50) C (by assumption) dX7_nameHere_50 ?_
        rw [mW_u9]
        refine X_iconst (pc := 53) (v := 0) C dX7_nameHere_53 (by decide) ?_
        refine X_istore_n (pc := 54) (lv1 := [(0, _), (1, _)]) C 1 dX7_nameHere_54 rfl (by decide) rfl ?_
        refine XW.eq (σ' := mW τ S (upd (mNhW F) 15 (nI (eF F - sF F))) (mCpL (τ.1 (.inr 16)) (sF F) L 0)) (by rw [mCpL_0]) rfl rfl ?_
        refine L_X7_nameHere C h1 (s0 := sF F) (w := eF F - sF F) g6 upd_at (by rw [upd_ne (by decide), show mNhW F 17 = F 17 from mWr_o (by decide) (by decide) (by decide), hT.2.2.2.1]) (by omega) ?_ (eF F - sF F) 0 (by omega)
        exact X_vret (pc := 86) C (Nat.zero_le _) (Nat.zero_le _) dX7_nameHere_86 ⟨rfl, by rw [mNhF, mNhL, if_pos h36, if_pos h36]⟩
      · skip
        exact X_vret (pc := 39) C (Nat.zero_le _) (Nat.zero_le _) dX7_nameHere_39 ⟨rfl, by rw [mNhF, mNhL, if_neg h36, if_neg h36]⟩

set_option maxRecDepth 100000 in
set_option maxHeartbeats 4000000 in
theorem L1_X7_named (C : XC p s m args meth c P A 5 RX7 cX7_named (some .int)) {τ : XS} {S F L : Nat → Int32} (h1 : xI1 P) {i0 w : Nat} (hi0 : i0 < 15) (hw : w ≤ 6) (h15 : F 15 = nI w) (kx1 : (∀ a, a < w → sU S (6 + a) i0 = L a) → XW p l e rm_X7_named s m args below meth c P A 5 0 0 Q (mW τ S F L) 90 [(0, .ref (P.2.2.1 (.inr 9))), (1, .int (nI i0)), (2, .int (nI (10 + 12 * i0 + 5))), (3, .int 1), (4, .int (nI w))] []) (kx0 : ∀ a, a < w → ¬ sU S (6 + a) i0 = L a → ∀ v, XW p l e rm_X7_named s m args below meth c P A 5 0 0 Q (mW τ S F L) 90 [(0, .ref (P.2.2.1 (.inr 9))), (1, .int (nI i0)), (2, .int (nI (10 + 12 * i0 + 5))), (3, .int 0), (4, .int v)] []) : ∀ (k j : Nat), j + k = w → (∀ a, a < j → sU S (6 + a) i0 = L a) → XW p l e rm_X7_named s m args below meth c P A 5 0 0 Q (mW τ S F L) 44 [(0, .ref (P.2.2.1 (.inr 9))), (1, .int (nI i0)), (2, .int (nI (10 + 12 * i0 + 5))), (3, .int 1), (4, .int (nI j))] [] := by
  intro k
  induction k with
  | zero =>
    intro j hj ha
    have e9 : j = w := by omega
    subst e9
    refine X_iload_n (pc := 44) C 3 dX7_named_44 rfl rfl ?_
    refine X_if_eq (pc := 45) C 90 dX7_named_45 (by decide) (fun h45 => ?_) (fun h45 => ?_)
    · exact absurd h45 (by decide)
    · skip
      refine X_iload (pc := 48) C dX7_named_48 rfl ?_
      refine X_aload_n (pc := 50) C 0 dX7_named_50 rfl rfl ?_
      refine G_X7_148 (pc := 51) C (by assumption) dX7_named_51 ?_
      rw [mW_9]
      rw [h15]
      refine X_icmp_ge (pc := 54) C 90 dX7_named_54 (by decide) (fun h54 => ?_) (fun h54 => ?_)
      · skip
        exact kx1 ha
      · exact absurd (nI_le (Nat.le_refl _) (n31 (by omega))) h54
  | succ k ih =>
    intro j hj ha
    have hlt : j < w := by omega
    refine X_iload_n (pc := 44) C 3 dX7_named_44 rfl rfl ?_
    refine X_if_eq (pc := 45) C 90 dX7_named_45 (by decide) (fun h45 => ?_) (fun h45 => ?_)
    · exact absurd h45 (by decide)
    · skip
      refine X_iload (pc := 48) C dX7_named_48 rfl ?_
      refine X_aload_n (pc := 50) C 0 dX7_named_50 rfl rfl ?_
      refine G_X7_148 (pc := 51) C (by assumption) dX7_named_51 ?_
      rw [mW_9]
      rw [h15]
      refine X_icmp_ge (pc := 54) C 90 dX7_named_54 (by decide) (fun h54 => ?_) (fun h54 => ?_)
      · exact absurd (nle h54) (by omega)
      · skip
        refine X_aload_n (pc := 57) C 0 dX7_named_57 rfl rfl ?_
        refine G_X7_9 (pc := 58) C (by assumption) dX7_named_58 ?_
        refine X_iload_n (pc := 61) C 2 dX7_named_61 rfl rfl ?_
        refine X_iconst (pc := 62) (v := 1) C dX7_named_62 (by decide) ?_
        refine X_iadd (pc := 63) C dX7_named_63 ?_
        rw [show nI (10 + 12 * i0 + 5) + (1 : Int32) = nI (10 + 12 * i0 + 6) from nI_1 _]
        refine X_iload (pc := 64) C dX7_named_64 rfl ?_
        refine X_iadd (pc := 66) C dX7_named_66 ?_
        rw [nI_add]
        refine X_ialdN (pc := 67) C (by first | exact h1 _ (by decide) (by decide)) rfl (by omega) (by decide) dX7_named_67 ?_
        rw [mW_10]
        refine X_aload_n (pc := 68) C 0 dX7_named_68 rfl rfl ?_
        refine G_X7_39 (pc := 69) C (by assumption) dX7_named_69 ?_
        refine X_iload (pc := 72) C dX7_named_72 rfl ?_
        refine X_ialdN (pc := 74) C (by first | exact h1 _ (by decide) (by decide)) rfl (by omega) (by decide) dX7_named_74 ?_
        rw [mW_18]
        refine X_icmp_ne (pc := 75) C 82 dX7_named_75 (by decide) (fun h75 => ?_) (fun h75 => ?_)
        · have g75 : ¬ sU S (6 + j) i0 = L j := fun q => h75 (by rw [show 10 + 12 * i0 + 6 + j = 10 + 12 * i0 + (6 + j) by omega]; exact q)
          refine X_iconst (pc := 82) (v := 0) C dX7_named_82 (by decide) ?_
          refine X_istore_n (pc := 83) (lv1 := [(0, _), (1, _), (2, _), (3, _), (4, _)]) C 3 dX7_named_83 rfl (by decide) rfl ?_
          first | refine X_iincN (pc := 84) (lv1 := [(0, _), (1, _), (2, _), (3, _), (4, _)]) C dX7_named_84 rfl (by decide) (by decide) rfl ?_ | refine X_iinc (pc := 84) (kk := 1) (lv1 := [(0, _), (1, _), (2, _), (3, _), (4, _)]) C dX7_named_84 rfl (by decide) (by decide) rfl ?_
          refine X_goto (pc := 87) C 44 dX7_named_87 (by decide) ?_
          first
            | exact XW.less (lv' := [(0, _), (1, _), (2, _), (3, _), (4, _)]) [0, 1, 2, 3, 4] rfl (ih (j + 1) (by omega) (fun a h9 => by
                by_cases q : a = j
                · rw [q]; exact g75
                · exact ha a (by omega)))
            | (skip
               refine X_iload_n (pc := 44) C 3 dX7_named_44 rfl rfl ?_
               refine X_if_eq (pc := 45) C 90 dX7_named_45 (by decide) (fun h45 => ?_) (fun h45 => ?_)
               · skip
                 exact kx0 j hlt g75 _
               · exact absurd h45 (by decide))
        · have g75 : sU S (6 + j) i0 = L j := by rw [show 10 + 12 * i0 + 6 + j = 10 + 12 * i0 + (6 + j) by omega] at h75; exact h75
          refine X_iconst (pc := 78) (v := 1) C dX7_named_78 (by decide) ?_
          refine X_goto (pc := 79) C 83 dX7_named_79 (by decide) ?_
          refine X_istore_n (pc := 83) (lv1 := [(0, _), (1, _), (2, _), (3, _), (4, _)]) C 3 dX7_named_83 rfl (by decide) rfl ?_
          first | refine X_iincN (pc := 84) (lv1 := [(0, _), (1, _), (2, _), (3, _), (4, _)]) C dX7_named_84 rfl (by decide) (by decide) rfl ?_ | refine X_iinc (pc := 84) (kk := 1) (lv1 := [(0, _), (1, _), (2, _), (3, _), (4, _)]) C dX7_named_84 rfl (by decide) (by decide) rfl ?_
          refine X_goto (pc := 87) C 44 dX7_named_87 (by decide) ?_
          first
            | exact XW.less (lv' := [(0, _), (1, _), (2, _), (3, _), (4, _)]) [0, 1, 2, 3, 4] rfl (ih (j + 1) (by omega) (fun a h9 => by
                by_cases q : a = j
                · rw [q]; exact g75
                · exact ha a (by omega)))
            | (skip
               refine X_iload_n (pc := 44) C 3 dX7_named_44 rfl rfl ?_
               refine X_if_eq (pc := 45) C 90 dX7_named_45 (by decide) (fun h45 => ?_) (fun h45 => ?_)
               · skip
                 exact kx0 j hlt g75 _
               · exact absurd h45 (by decide))

set_option maxRecDepth 100000 in
set_option maxHeartbeats 4000000 in
theorem L_X7_named {Post : Option Value → XS → Prop} {mc ms : Nat} (C : XC p s m args meth c P A 5 RX7 cX7_named (some .int)) {τ : XS} {S F L : Nat → Int32} (h1 : xI1 P) (hM : MI S) {w : Nat} (hw : w ≤ 6) (h15 : F 15 = nI w) : ∀ (k i : Nat), i + k = mU S → Post (some (.int (cFirst (fun u => @decide (mNamedQ S F L u) (Classical.propDecidable _)) k i))) (mW τ S F L) → XW p l e rm_X7_named s m args below meth c P A 5 0 0 (MQ below (XQ P A Post) args s mc ms A) (mW τ S F L) 2 [(0, .ref (P.2.2.1 (.inr 9))), (1, .int (nI (i)))] [] := by
  have hbd := hM.u15
  have ew : cN (F 15) = w := by rw [h15, cN, nI_clamp (n31 (by omega))]
  intro k
  induction k with
  | zero =>
    intro i hi hp
    have e9 : i = mU S := by omega
    subst e9
    refine X_iload_n (pc := 2) C 1 dX7_named_2 rfl rfl ?_
    refine X_aload_n (pc := 3) C 0 dX7_named_3 rfl rfl ?_
    refine G_X7_9 (pc := 4) C (by assumption) dX7_named_4 ?_
    refine X_iconst (pc := 7) (v := 4) C dX7_named_7 (by decide) ?_
    refine X_ialdN (j := 4) (pc := 8) C (by first | exact h1 _ (by decide) (by decide)) rfl (by omega) (by decide) dX7_named_8 ?_
    rw [mW_10]
    rw [hM.u]
    refine X_icmp_ge (pc := 9) C 102 dX7_named_9 (by decide) (fun h9 => ?_) (fun h9 => ?_)
    · skip
      refine X_iconst (pc := 102) (v := (-1)) C dX7_named_102 (by decide) ?_
      exact X_iret (pc := 103) C (Nat.zero_le _) (Nat.zero_le _) dX7_named_103 hp
    · exact absurd (nI_le (Nat.le_refl _) (n31 (by omega))) h9
  | succ k ih =>
    intro i hi hp
    have hlt : i < mU S := by omega
    refine X_iload_n (pc := 2) C 1 dX7_named_2 rfl rfl ?_
    refine X_aload_n (pc := 3) C 0 dX7_named_3 rfl rfl ?_
    refine G_X7_9 (pc := 4) C (by assumption) dX7_named_4 ?_
    refine X_iconst (pc := 7) (v := 4) C dX7_named_7 (by decide) ?_
    refine X_ialdN (j := 4) (pc := 8) C (by first | exact h1 _ (by decide) (by decide)) rfl (by omega) (by decide) dX7_named_8 ?_
    rw [mW_10]
    rw [hM.u]
    refine X_icmp_ge (pc := 9) C 102 dX7_named_9 (by decide) (fun h9 => ?_) (fun h9 => ?_)
    · exact absurd (nle h9) (by omega)
    · skip
      refine X_bipush (pc := 12) (v := 10) C dX7_named_12 (by decide) ?_
      refine X_bipush (pc := 14) (v := 12) C dX7_named_14 (by decide) ?_
      refine X_iload_n (pc := 16) C 1 dX7_named_16 rfl rfl ?_
      refine X_imul (pc := 17) C dX7_named_17 ?_
      refine X_iadd (pc := 18) C dX7_named_18 ?_
      refine X_iconst (pc := 19) (v := 5) C dX7_named_19 (by decide) ?_
      refine X_iadd (pc := 20) C dX7_named_20 ?_
      rw [show (10 : Int32) + 12 * nI i + 5 = nI (10 + 12 * i + 5) from uix i 5]
      refine X_istore_n (pc := 21) (lv1 := [(0, _), (1, _), (2, _)]) C 2 dX7_named_21 rfl (by decide) rfl ?_
      refine X_aload_n (pc := 22) C 0 dX7_named_22 rfl rfl ?_
      refine G_X7_9 (pc := 23) C (by assumption) dX7_named_23 ?_
      refine X_iload_n (pc := 26) C 2 dX7_named_26 rfl rfl ?_
      refine X_ialdN (pc := 27) C (by first | exact h1 _ (by decide) (by decide)) rfl (by omega) (by decide) dX7_named_27 ?_
      rw [mW_10]
      refine X_aload_n (pc := 28) C 0 dX7_named_28 rfl rfl ?_
      refine G_X7_148 (pc := 29) C (by assumption) dX7_named_29 ?_
      rw [mW_9]
      refine X_icmp_ne (pc := 32) C 39 dX7_named_32 (by decide) (fun h32 => ?_) (fun h32 => ?_)
      · skip
        refine X_iconst (pc := 39) (v := 0) C dX7_named_39 (by decide) ?_
        refine X_istore_n (pc := 40) (lv1 := [(0, _), (1, _), (2, _), (3, _)]) C 3 dX7_named_40 rfl (by decide) rfl ?_
        refine X_iconst (pc := 41) (v := 0) C dX7_named_41 (by decide) ?_
        refine X_istore (pc := 42) (lv1 := [(0, _), (1, _), (2, _), (3, _), (4, _)]) C dX7_named_42 (by decide) rfl ?_
        first
          | (refine L1_X7_named C h1 (i0 := i) (by omega) hw h15 (fun hall => ?_) (fun a9 ha9 hne v => ?_) w 0 (by omega) (fun a h9 => absurd h9 (Nat.not_lt_zero _))
             · have gq : mNamedQ S F L i := ⟨h32, fun a h9 => hall a (by rw [← ew]; exact h9)⟩
               refine X_iload_n (pc := 90) C 3 dX7_named_90 rfl rfl ?_
               refine X_if_eq (pc := 91) C 96 dX7_named_91 (by decide) (fun h91 => ?_) (fun h91 => ?_)
               · exact absurd h91 (by decide)
               · skip
                 refine X_iload_n (pc := 94) C 1 dX7_named_94 rfl rfl ?_
                 exact X_iret (pc := 95) C (Nat.zero_le _) (Nat.zero_le _) dX7_named_95 (by rw [cFirst, if_pos (@decide_eq_true _ (Classical.propDecidable _) gq)] at hp; exact hp)
             · have gq : ¬ mNamedQ S F L i := fun z => hne (z.2 a9 (by rw [ew]; exact ha9))
               refine X_iload_n (pc := 90) C 3 dX7_named_90 rfl rfl ?_
               refine X_if_eq (pc := 91) C 96 dX7_named_91 (by decide) (fun h91 => ?_) (fun h91 => ?_)
               · skip
                 first | refine X_iincN (pc := 96) (lv1 := [(0, _), (1, _), (2, _), (3, _), (4, _)]) C dX7_named_96 rfl (by decide) (by decide) rfl ?_ | refine X_iinc (pc := 96) (kk := 1) (lv1 := [(0, _), (1, _), (2, _), (3, _), (4, _)]) C dX7_named_96 rfl (by decide) (by decide) rfl ?_
                 refine X_goto (pc := 99) C 2 dX7_named_99 (by decide) ?_
                 exact XW.less (lv' := [(0, _), (1, _)]) [0, 1] rfl (ih (i + 1) (by omega) (by rw [cFirst, if_neg (fun z => gq (@of_decide_eq_true _ (Classical.propDecidable _) z))] at hp; exact hp))
               · exact absurd h91 (by decide))
          | (have gq : ¬ mNamedQ S F L i := fun z => h32 z.1
             refine X_iload_n (pc := 44) C 3 dX7_named_44 rfl rfl ?_
             refine X_if_eq (pc := 45) C 90 dX7_named_45 (by decide) (fun h45 => ?_) (fun h45 => ?_)
             · skip
               refine X_iload_n (pc := 90) C 3 dX7_named_90 rfl rfl ?_
               refine X_if_eq (pc := 91) C 96 dX7_named_91 (by decide) (fun h91 => ?_) (fun h91 => ?_)
               · skip
                 first | refine X_iincN (pc := 96) (lv1 := [(0, _), (1, _), (2, _), (3, _), (4, _)]) C dX7_named_96 rfl (by decide) (by decide) rfl ?_ | refine X_iinc (pc := 96) (kk := 1) (lv1 := [(0, _), (1, _), (2, _), (3, _), (4, _)]) C dX7_named_96 rfl (by decide) (by decide) rfl ?_
                 refine X_goto (pc := 99) C 2 dX7_named_99 (by decide) ?_
                 exact XW.less (lv' := [(0, _), (1, _)]) [0, 1] rfl (ih (i + 1) (by omega) (by rw [cFirst, if_neg (fun z => gq (@of_decide_eq_true _ (Classical.propDecidable _) z))] at hp; exact hp))
               · exact absurd h91 (by decide)
             · exact absurd h45 (by decide))
      · skip
        refine X_iconst (pc := 35) (v := 1) C dX7_named_35 (by decide) ?_
        refine X_goto (pc := 36) C 40 dX7_named_36 (by decide) ?_
        refine X_istore_n (pc := 40) (lv1 := [(0, _), (1, _), (2, _), (3, _)]) C 3 dX7_named_40 rfl (by decide) rfl ?_
        refine X_iconst (pc := 41) (v := 0) C dX7_named_41 (by decide) ?_
        refine X_istore (pc := 42) (lv1 := [(0, _), (1, _), (2, _), (3, _), (4, _)]) C dX7_named_42 (by decide) rfl ?_
        first
          | (refine L1_X7_named C h1 (i0 := i) (by omega) hw h15 (fun hall => ?_) (fun a9 ha9 hne v => ?_) w 0 (by omega) (fun a h9 => absurd h9 (Nat.not_lt_zero _))
             · have gq : mNamedQ S F L i := ⟨h32, fun a h9 => hall a (by rw [← ew]; exact h9)⟩
               refine X_iload_n (pc := 90) C 3 dX7_named_90 rfl rfl ?_
               refine X_if_eq (pc := 91) C 96 dX7_named_91 (by decide) (fun h91 => ?_) (fun h91 => ?_)
               · exact absurd h91 (by decide)
               · skip
                 refine X_iload_n (pc := 94) C 1 dX7_named_94 rfl rfl ?_
                 exact X_iret (pc := 95) C (Nat.zero_le _) (Nat.zero_le _) dX7_named_95 (by rw [cFirst, if_pos (@decide_eq_true _ (Classical.propDecidable _) gq)] at hp; exact hp)
             · have gq : ¬ mNamedQ S F L i := fun z => hne (z.2 a9 (by rw [ew]; exact ha9))
               refine X_iload_n (pc := 90) C 3 dX7_named_90 rfl rfl ?_
               refine X_if_eq (pc := 91) C 96 dX7_named_91 (by decide) (fun h91 => ?_) (fun h91 => ?_)
               · skip
                 first | refine X_iincN (pc := 96) (lv1 := [(0, _), (1, _), (2, _), (3, _), (4, _)]) C dX7_named_96 rfl (by decide) (by decide) rfl ?_ | refine X_iinc (pc := 96) (kk := 1) (lv1 := [(0, _), (1, _), (2, _), (3, _), (4, _)]) C dX7_named_96 rfl (by decide) (by decide) rfl ?_
                 refine X_goto (pc := 99) C 2 dX7_named_99 (by decide) ?_
                 exact XW.less (lv' := [(0, _), (1, _)]) [0, 1] rfl (ih (i + 1) (by omega) (by rw [cFirst, if_neg (fun z => gq (@of_decide_eq_true _ (Classical.propDecidable _) z))] at hp; exact hp))
               · exact absurd h91 (by decide))
          | (have gq : ¬ mNamedQ S F L i := fun z => h32 z.1
             refine X_iload_n (pc := 44) C 3 dX7_named_44 rfl rfl ?_
             refine X_if_eq (pc := 45) C 90 dX7_named_45 (by decide) (fun h45 => ?_) (fun h45 => ?_)
             · skip
               refine X_iload_n (pc := 90) C 3 dX7_named_90 rfl rfl ?_
               refine X_if_eq (pc := 91) C 96 dX7_named_91 (by decide) (fun h91 => ?_) (fun h91 => ?_)
               · skip
                 first | refine X_iincN (pc := 96) (lv1 := [(0, _), (1, _), (2, _), (3, _), (4, _)]) C dX7_named_96 rfl (by decide) (by decide) rfl ?_ | refine X_iinc (pc := 96) (kk := 1) (lv1 := [(0, _), (1, _), (2, _), (3, _), (4, _)]) C dX7_named_96 rfl (by decide) (by decide) rfl ?_
                 refine X_goto (pc := 99) C 2 dX7_named_99 (by decide) ?_
                 exact XW.less (lv' := [(0, _), (1, _)]) [0, 1] rfl (ih (i + 1) (by omega) (by rw [cFirst, if_neg (fun z => gq (@of_decide_eq_true _ (Classical.propDecidable _) z))] at hp; exact hp))
               · exact absurd h91 (by decide)
             · exact absurd h45 (by decide))

set_option maxRecDepth 100000 in
set_option maxHeartbeats 4000000 in
theorem c_X7_named (l : Launch) (P : XP) (τ : XS) (S F L : Nat → Int32) (h1 : xI1 P) (hM : MI S) (w : Nat) (hw : w ≤ 6) (h15 : F 15 = nI w) : XF l yX7_named cX7_named 5 (some .int) rm_X7_named P [.ref (P.2.2.1 (.inr 9))] (mW τ S F L) (some (.int (mNmd S F L))) (mW τ S F L) := by
  refine XM.of (by decide +kernel) (Nat.le_of_ble_eq_true rfl) (fun p e s m args below meth c A C => ?_)
  replace C : XC p s m args meth c P A 5 RX7 cX7_named (some .int) := C
  refine XW.eq (lv' := [(0, _)]) rfl rfl rfl ?_
  refine X_iconst (pc := 0) (v := 0) C dX7_named_0 (by decide) ?_
  refine X_istore_n (pc := 1) (lv1 := [(0, _), (1, _)]) C 1 dX7_named_1 rfl (by decide) rfl ?_
  exact L_X7_named C h1 hM hw h15 (mU S) 0 (by omega) ⟨rfl, rfl⟩

set_option maxRecDepth 100000 in
set_option maxHeartbeats 4000000 in
theorem c_X7_userHere (l : Launch) (P : XP) (τ : XS) (S F L : Nat → Int32) (h1 : xI1 P) (n : Nat) (hT : TK n F) (hM : MI S) (x : Int32) : XF l yX7_userHere cX7_userHere 3 (some .int) rm_X7_userHere P [.ref (P.2.2.1 (.inr 9)), .int x] (mW τ S F L) (some (.int ((mUhV (τ.1 (.inr 16)) S F L)))) (mW τ S (mUhF (τ.1 (.inr 16)) n S F L x) (mNhL (τ.1 (.inr 16)) F L)) := by
  refine XM.of (by decide +kernel) (Nat.le_of_ble_eq_true rfl) (fun p e s m args below meth c A C => ?_)
  replace C : XC p s m args meth c P A 3 RX7 cX7_userHere (some .int) := C
  refine XW.eq (lv' := [(0, _), (1, _)]) rfl rfl rfl ?_
  refine X_aload_n (pc := 0) C 0 dX7_userHere_0 rfl rfl ?_
  refine K_X7_197 (pc := 1) C (by assumption) (c_X7_nameHere l P _ _ _ _ h1 n hT) ⟨Nat.le_of_ble_eq_true rfl, Nat.le_of_ble_eq_true rfl⟩ ⟨rfl, rfl⟩ ⟨Nat.zero_le _, Nat.zero_le _⟩ (Nat.le_of_ble_eq_true rfl) dX7_userHere_1 ?_
  refine X_aload_n (pc := 4) C 0 dX7_userHere_4 rfl rfl ?_
  refine G_X7_180 (pc := 5) C (by assumption) dX7_userHere_5 ?_
  rw [mW_9]
  refine X_if_eq (pc := 8) C 15 dX7_userHere_8 (by decide) (fun h8 => ?_) (fun h8 => ?_)
  · have gv : (mUhV (τ.1 (.inr 16)) S F L) = mNmd S (mNhF F) (mNhL (τ.1 (.inr 16)) F L) := if_pos h8
    have g6 := (mNhF_0 h8).2.2.1
    have g15 : mNhF F 15 = nI (eF F - sF F) := by rw [(mNhF_0 h8).2.2.2.1, upd_at]
    refine X_aload_n (pc := 15) C 0 dX7_userHere_15 rfl rfl ?_
    refine K_X7_200 (pc := 16) C (by assumption) (c_X7_named l P _ _ _ _ h1 hM _ g6 g15) ⟨Nat.le_of_ble_eq_true rfl, Nat.le_of_ble_eq_true rfl⟩ ⟨rfl, rfl⟩ ⟨Nat.zero_le _, Nat.zero_le _⟩ (Nat.le_of_ble_eq_true rfl) dX7_userHere_16 ?_
    refine X_istore_n (pc := 19) (lv1 := [(0, _), (1, _), (2, _)]) C 2 dX7_userHere_19 rfl (by decide) rfl ?_
    skip
    refine X_aload_n (pc := 20) C 0 dX7_userHere_20 rfl rfl ?_
    refine X_aload_n (pc := 21) C 0 dX7_userHere_21 rfl rfl ?_
    refine G_X7_180 (pc := 22) C (by assumption) dX7_userHere_22 ?_
    rw [mW_9]
    refine X_if_ne (pc := 25) C 42 dX7_userHere_25 (by decide) (fun h25 => ?_) (fun h25 => ?_)
    · have g9 : (if mNhF F 20 = 0 ∧ ((mUhV (τ.1 (.inr 16)) S F L) = -1 ∨ (mUhV (τ.1 (.inr 16)) S F L) = x) then (1 : Int32) else 0) = 0 := if_neg (fun q => h25 q.1)
      refine X_iconst (pc := 42) (v := 0) C dX7_userHere_42 (by decide) ?_
      refine X_iconst (pc := 43) (v := 3) C dX7_userHere_43 (by decide) ?_
      refine K_X7_190 (pc := 44) C (by assumption) (c_X7_wrong l P _ _ _ _ h1 _ _) ⟨Nat.le_of_ble_eq_true rfl, Nat.le_of_ble_eq_true rfl⟩ ⟨rfl, rfl⟩ ⟨Nat.zero_le _, Nat.zero_le _⟩ (Nat.le_of_ble_eq_true rfl) dX7_userHere_44 ?_
      refine XW.eq (σ' := mW τ S (mUh0 (τ.1 (.inr 16)) S F L x) (mNhL (τ.1 (.inr 16)) F L)) (by rw [mUh0, g9]) rfl rfl ?_
      refine X_aload_n (pc := 47) C 0 dX7_userHere_47 rfl rfl ?_
      refine K_X7_194 (pc := 48) C (by assumption) (c_X7_go l P _ _ _ _ h1 n (mWr_TK (mNhF_TK hT))) ⟨Nat.le_of_ble_eq_true rfl, Nat.le_of_ble_eq_true rfl⟩ ⟨rfl, rfl⟩ ⟨Nat.zero_le _, Nat.zero_le _⟩ (Nat.le_of_ble_eq_true rfl) dX7_userHere_48 ?_
      refine X_iload_n (pc := 51) C 2 dX7_userHere_51 rfl rfl ?_
      exact X_iret (pc := 52) C (Nat.zero_le _) (Nat.zero_le _) dX7_userHere_52 ⟨by rw [gv], rfl⟩
    · skip
      refine X_iload_n (pc := 28) C 2 dX7_userHere_28 rfl rfl ?_
      refine X_iconst (pc := 29) (v := (-1)) C dX7_userHere_29 (by decide) ?_
      refine X_icmp_eq (pc := 30) C 38 dX7_userHere_30 (by decide) (fun h30 => ?_) (fun h30 => ?_)
      · have g9 : (if mNhF F 20 = 0 ∧ ((mUhV (τ.1 (.inr 16)) S F L) = -1 ∨ (mUhV (τ.1 (.inr 16)) S F L) = x) then (1 : Int32) else 0) = 1 := if_pos ⟨h25, Or.inl (by rw [gv]; exact h30)⟩
        refine X_iconst (pc := 38) (v := 1) C dX7_userHere_38 (by decide) ?_
        refine X_goto (pc := 39) C 43 dX7_userHere_39 (by decide) ?_
        refine X_iconst (pc := 43) (v := 3) C dX7_userHere_43 (by decide) ?_
        refine K_X7_190 (pc := 44) C (by assumption) (c_X7_wrong l P _ _ _ _ h1 _ _) ⟨Nat.le_of_ble_eq_true rfl, Nat.le_of_ble_eq_true rfl⟩ ⟨rfl, rfl⟩ ⟨Nat.zero_le _, Nat.zero_le _⟩ (Nat.le_of_ble_eq_true rfl) dX7_userHere_44 ?_
        refine XW.eq (σ' := mW τ S (mUh0 (τ.1 (.inr 16)) S F L x) (mNhL (τ.1 (.inr 16)) F L)) (by rw [mUh0, g9]) rfl rfl ?_
        refine X_aload_n (pc := 47) C 0 dX7_userHere_47 rfl rfl ?_
        refine K_X7_194 (pc := 48) C (by assumption) (c_X7_go l P _ _ _ _ h1 n (mWr_TK (mNhF_TK hT))) ⟨Nat.le_of_ble_eq_true rfl, Nat.le_of_ble_eq_true rfl⟩ ⟨rfl, rfl⟩ ⟨Nat.zero_le _, Nat.zero_le _⟩ (Nat.le_of_ble_eq_true rfl) dX7_userHere_48 ?_
        refine X_iload_n (pc := 51) C 2 dX7_userHere_51 rfl rfl ?_
        exact X_iret (pc := 52) C (Nat.zero_le _) (Nat.zero_le _) dX7_userHere_52 ⟨by rw [gv], rfl⟩
      · skip
        refine X_iload_n (pc := 33) C 2 dX7_userHere_33 rfl rfl ?_
        refine X_iload_n (pc := 34) C 1 dX7_userHere_34 rfl rfl ?_
        refine X_icmp_ne (pc := 35) C 42 dX7_userHere_35 (by decide) (fun h35 => ?_) (fun h35 => ?_)
        · have g9 : (if mNhF F 20 = 0 ∧ ((mUhV (τ.1 (.inr 16)) S F L) = -1 ∨ (mUhV (τ.1 (.inr 16)) S F L) = x) then (1 : Int32) else 0) = 0 := if_neg (fun q => q.2.elim (fun z => h30 (by rw [← gv]; exact z)) (fun z => h35 (by rw [← gv]; exact z)))
          refine X_iconst (pc := 42) (v := 0) C dX7_userHere_42 (by decide) ?_
          refine X_iconst (pc := 43) (v := 3) C dX7_userHere_43 (by decide) ?_
          refine K_X7_190 (pc := 44) C (by assumption) (c_X7_wrong l P _ _ _ _ h1 _ _) ⟨Nat.le_of_ble_eq_true rfl, Nat.le_of_ble_eq_true rfl⟩ ⟨rfl, rfl⟩ ⟨Nat.zero_le _, Nat.zero_le _⟩ (Nat.le_of_ble_eq_true rfl) dX7_userHere_44 ?_
          refine XW.eq (σ' := mW τ S (mUh0 (τ.1 (.inr 16)) S F L x) (mNhL (τ.1 (.inr 16)) F L)) (by rw [mUh0, g9]) rfl rfl ?_
          refine X_aload_n (pc := 47) C 0 dX7_userHere_47 rfl rfl ?_
          refine K_X7_194 (pc := 48) C (by assumption) (c_X7_go l P _ _ _ _ h1 n (mWr_TK (mNhF_TK hT))) ⟨Nat.le_of_ble_eq_true rfl, Nat.le_of_ble_eq_true rfl⟩ ⟨rfl, rfl⟩ ⟨Nat.zero_le _, Nat.zero_le _⟩ (Nat.le_of_ble_eq_true rfl) dX7_userHere_48 ?_
          refine X_iload_n (pc := 51) C 2 dX7_userHere_51 rfl rfl ?_
          exact X_iret (pc := 52) C (Nat.zero_le _) (Nat.zero_le _) dX7_userHere_52 ⟨by rw [gv], rfl⟩
        · have g9 : (if mNhF F 20 = 0 ∧ ((mUhV (τ.1 (.inr 16)) S F L) = -1 ∨ (mUhV (τ.1 (.inr 16)) S F L) = x) then (1 : Int32) else 0) = 1 := if_pos ⟨h25, Or.inr (by rw [gv]; exact h35)⟩
          refine X_iconst (pc := 38) (v := 1) C dX7_userHere_38 (by decide) ?_
          refine X_goto (pc := 39) C 43 dX7_userHere_39 (by decide) ?_
          refine X_iconst (pc := 43) (v := 3) C dX7_userHere_43 (by decide) ?_
          refine K_X7_190 (pc := 44) C (by assumption) (c_X7_wrong l P _ _ _ _ h1 _ _) ⟨Nat.le_of_ble_eq_true rfl, Nat.le_of_ble_eq_true rfl⟩ ⟨rfl, rfl⟩ ⟨Nat.zero_le _, Nat.zero_le _⟩ (Nat.le_of_ble_eq_true rfl) dX7_userHere_44 ?_
          refine XW.eq (σ' := mW τ S (mUh0 (τ.1 (.inr 16)) S F L x) (mNhL (τ.1 (.inr 16)) F L)) (by rw [mUh0, g9]) rfl rfl ?_
          refine X_aload_n (pc := 47) C 0 dX7_userHere_47 rfl rfl ?_
          refine K_X7_194 (pc := 48) C (by assumption) (c_X7_go l P _ _ _ _ h1 n (mWr_TK (mNhF_TK hT))) ⟨Nat.le_of_ble_eq_true rfl, Nat.le_of_ble_eq_true rfl⟩ ⟨rfl, rfl⟩ ⟨Nat.zero_le _, Nat.zero_le _⟩ (Nat.le_of_ble_eq_true rfl) dX7_userHere_48 ?_
          refine X_iload_n (pc := 51) C 2 dX7_userHere_51 rfl rfl ?_
          exact X_iret (pc := 52) C (Nat.zero_le _) (Nat.zero_le _) dX7_userHere_52 ⟨by rw [gv], rfl⟩
  · have gv : (mUhV (τ.1 (.inr 16)) S F L) = 0 := if_neg h8
    refine X_iconst (pc := 11) (v := 0) C dX7_userHere_11 (by decide) ?_
    refine X_goto (pc := 12) C 19 dX7_userHere_12 (by decide) ?_
    refine X_istore_n (pc := 19) (lv1 := [(0, _), (1, _), (2, _)]) C 2 dX7_userHere_19 rfl (by decide) rfl ?_
    skip
    refine X_aload_n (pc := 20) C 0 dX7_userHere_20 rfl rfl ?_
    refine X_aload_n (pc := 21) C 0 dX7_userHere_21 rfl rfl ?_
    refine G_X7_180 (pc := 22) C (by assumption) dX7_userHere_22 ?_
    rw [mW_9]
    refine X_if_ne (pc := 25) C 42 dX7_userHere_25 (by decide) (fun h25 => ?_) (fun h25 => ?_)
    · have g9 : (if mNhF F 20 = 0 ∧ ((mUhV (τ.1 (.inr 16)) S F L) = -1 ∨ (mUhV (τ.1 (.inr 16)) S F L) = x) then (1 : Int32) else 0) = 0 := if_neg (fun q => h25 q.1)
      refine X_iconst (pc := 42) (v := 0) C dX7_userHere_42 (by decide) ?_
      refine X_iconst (pc := 43) (v := 3) C dX7_userHere_43 (by decide) ?_
      refine K_X7_190 (pc := 44) C (by assumption) (c_X7_wrong l P _ _ _ _ h1 _ _) ⟨Nat.le_of_ble_eq_true rfl, Nat.le_of_ble_eq_true rfl⟩ ⟨rfl, rfl⟩ ⟨Nat.zero_le _, Nat.zero_le _⟩ (Nat.le_of_ble_eq_true rfl) dX7_userHere_44 ?_
      refine XW.eq (σ' := mW τ S (mUh0 (τ.1 (.inr 16)) S F L x) (mNhL (τ.1 (.inr 16)) F L)) (by rw [mUh0, g9]) rfl rfl ?_
      refine X_aload_n (pc := 47) C 0 dX7_userHere_47 rfl rfl ?_
      refine K_X7_194 (pc := 48) C (by assumption) (c_X7_go l P _ _ _ _ h1 n (mWr_TK (mNhF_TK hT))) ⟨Nat.le_of_ble_eq_true rfl, Nat.le_of_ble_eq_true rfl⟩ ⟨rfl, rfl⟩ ⟨Nat.zero_le _, Nat.zero_le _⟩ (Nat.le_of_ble_eq_true rfl) dX7_userHere_48 ?_
      refine X_iload_n (pc := 51) C 2 dX7_userHere_51 rfl rfl ?_
      exact X_iret (pc := 52) C (Nat.zero_le _) (Nat.zero_le _) dX7_userHere_52 ⟨by rw [gv], rfl⟩
    · skip
      refine X_iload_n (pc := 28) C 2 dX7_userHere_28 rfl rfl ?_
      refine X_iconst (pc := 29) (v := (-1)) C dX7_userHere_29 (by decide) ?_
      refine X_icmp_eq (pc := 30) C 38 dX7_userHere_30 (by decide) (fun h30 => ?_) (fun h30 => ?_)
      · have g9 : (if mNhF F 20 = 0 ∧ ((mUhV (τ.1 (.inr 16)) S F L) = -1 ∨ (mUhV (τ.1 (.inr 16)) S F L) = x) then (1 : Int32) else 0) = 1 := if_pos ⟨h25, Or.inl (by rw [gv]; exact h30)⟩
        refine X_iconst (pc := 38) (v := 1) C dX7_userHere_38 (by decide) ?_
        refine X_goto (pc := 39) C 43 dX7_userHere_39 (by decide) ?_
        refine X_iconst (pc := 43) (v := 3) C dX7_userHere_43 (by decide) ?_
        refine K_X7_190 (pc := 44) C (by assumption) (c_X7_wrong l P _ _ _ _ h1 _ _) ⟨Nat.le_of_ble_eq_true rfl, Nat.le_of_ble_eq_true rfl⟩ ⟨rfl, rfl⟩ ⟨Nat.zero_le _, Nat.zero_le _⟩ (Nat.le_of_ble_eq_true rfl) dX7_userHere_44 ?_
        refine XW.eq (σ' := mW τ S (mUh0 (τ.1 (.inr 16)) S F L x) (mNhL (τ.1 (.inr 16)) F L)) (by rw [mUh0, g9]) rfl rfl ?_
        refine X_aload_n (pc := 47) C 0 dX7_userHere_47 rfl rfl ?_
        refine K_X7_194 (pc := 48) C (by assumption) (c_X7_go l P _ _ _ _ h1 n (mWr_TK (mNhF_TK hT))) ⟨Nat.le_of_ble_eq_true rfl, Nat.le_of_ble_eq_true rfl⟩ ⟨rfl, rfl⟩ ⟨Nat.zero_le _, Nat.zero_le _⟩ (Nat.le_of_ble_eq_true rfl) dX7_userHere_48 ?_
        refine X_iload_n (pc := 51) C 2 dX7_userHere_51 rfl rfl ?_
        exact X_iret (pc := 52) C (Nat.zero_le _) (Nat.zero_le _) dX7_userHere_52 ⟨by rw [gv], rfl⟩
      · skip
        refine X_iload_n (pc := 33) C 2 dX7_userHere_33 rfl rfl ?_
        refine X_iload_n (pc := 34) C 1 dX7_userHere_34 rfl rfl ?_
        refine X_icmp_ne (pc := 35) C 42 dX7_userHere_35 (by decide) (fun h35 => ?_) (fun h35 => ?_)
        · have g9 : (if mNhF F 20 = 0 ∧ ((mUhV (τ.1 (.inr 16)) S F L) = -1 ∨ (mUhV (τ.1 (.inr 16)) S F L) = x) then (1 : Int32) else 0) = 0 := if_neg (fun q => q.2.elim (fun z => h30 (by rw [← gv]; exact z)) (fun z => h35 (by rw [← gv]; exact z)))
          refine X_iconst (pc := 42) (v := 0) C dX7_userHere_42 (by decide) ?_
          refine X_iconst (pc := 43) (v := 3) C dX7_userHere_43 (by decide) ?_
          refine K_X7_190 (pc := 44) C (by assumption) (c_X7_wrong l P _ _ _ _ h1 _ _) ⟨Nat.le_of_ble_eq_true rfl, Nat.le_of_ble_eq_true rfl⟩ ⟨rfl, rfl⟩ ⟨Nat.zero_le _, Nat.zero_le _⟩ (Nat.le_of_ble_eq_true rfl) dX7_userHere_44 ?_
          refine XW.eq (σ' := mW τ S (mUh0 (τ.1 (.inr 16)) S F L x) (mNhL (τ.1 (.inr 16)) F L)) (by rw [mUh0, g9]) rfl rfl ?_
          refine X_aload_n (pc := 47) C 0 dX7_userHere_47 rfl rfl ?_
          refine K_X7_194 (pc := 48) C (by assumption) (c_X7_go l P _ _ _ _ h1 n (mWr_TK (mNhF_TK hT))) ⟨Nat.le_of_ble_eq_true rfl, Nat.le_of_ble_eq_true rfl⟩ ⟨rfl, rfl⟩ ⟨Nat.zero_le _, Nat.zero_le _⟩ (Nat.le_of_ble_eq_true rfl) dX7_userHere_48 ?_
          refine X_iload_n (pc := 51) C 2 dX7_userHere_51 rfl rfl ?_
          exact X_iret (pc := 52) C (Nat.zero_le _) (Nat.zero_le _) dX7_userHere_52 ⟨by rw [gv], rfl⟩
        · have g9 : (if mNhF F 20 = 0 ∧ ((mUhV (τ.1 (.inr 16)) S F L) = -1 ∨ (mUhV (τ.1 (.inr 16)) S F L) = x) then (1 : Int32) else 0) = 1 := if_pos ⟨h25, Or.inr (by rw [gv]; exact h35)⟩
          refine X_iconst (pc := 38) (v := 1) C dX7_userHere_38 (by decide) ?_
          refine X_goto (pc := 39) C 43 dX7_userHere_39 (by decide) ?_
          refine X_iconst (pc := 43) (v := 3) C dX7_userHere_43 (by decide) ?_
          refine K_X7_190 (pc := 44) C (by assumption) (c_X7_wrong l P _ _ _ _ h1 _ _) ⟨Nat.le_of_ble_eq_true rfl, Nat.le_of_ble_eq_true rfl⟩ ⟨rfl, rfl⟩ ⟨Nat.zero_le _, Nat.zero_le _⟩ (Nat.le_of_ble_eq_true rfl) dX7_userHere_44 ?_
          refine XW.eq (σ' := mW τ S (mUh0 (τ.1 (.inr 16)) S F L x) (mNhL (τ.1 (.inr 16)) F L)) (by rw [mUh0, g9]) rfl rfl ?_
          refine X_aload_n (pc := 47) C 0 dX7_userHere_47 rfl rfl ?_
          refine K_X7_194 (pc := 48) C (by assumption) (c_X7_go l P _ _ _ _ h1 n (mWr_TK (mNhF_TK hT))) ⟨Nat.le_of_ble_eq_true rfl, Nat.le_of_ble_eq_true rfl⟩ ⟨rfl, rfl⟩ ⟨Nat.zero_le _, Nat.zero_le _⟩ (Nat.le_of_ble_eq_true rfl) dX7_userHere_48 ?_
          refine X_iload_n (pc := 51) C 2 dX7_userHere_51 rfl rfl ?_
          exact X_iret (pc := 52) C (Nat.zero_le _) (Nat.zero_le _) dX7_userHere_52 ⟨by rw [gv], rfl⟩

set_option maxRecDepth 100000 in
set_option maxHeartbeats 4000000 in
theorem L_X7_ringsHere {Post : Option Value → XS → Prop} {mc ms : Nat} (C : XC p s m args meth c P A 3 RX7 cX7_ringsHere (some .int)) {τ : XS} {S L : Nat → Int32} (h1 : xI1 P) {n : Nat} : ∀ (k i : Nat) (F : Nat → Int32) (q : Int32), TK n F → i + k = eF F → Post (some (.int (mRhL (τ.1 (.inr 16)) k i F q).2)) (mW τ S (mRhL (τ.1 (.inr 16)) k i F q).1 L) → XW p l e rm_X7_ringsHere s m args below meth c P A 3 0 0 (MQ below (XQ P A Post) args s mc ms A) (mW τ S F L) 38 [(0, .ref (P.2.2.1 (.inr 9))), (1, .int (q)), (2, .int (nI (i)))] [] := by
  intro k
  induction k with
  | zero =>
    intro i F q hT hi hp
    have e9 : i = eF F := by omega
    subst e9
    refine X_aload_n (pc := 38) C 0 dX7_ringsHere_38 rfl rfl ?_
    refine G_X7_180 (pc := 39) C (by assumption) dX7_ringsHere_39 ?_
    rw [mW_9]
    refine X_if_ne (pc := 42) C 112 dX7_ringsHere_42 (by decide) (fun h42 => ?_) (fun h42 => ?_)
    · skip
      refine X_iload_n (pc := 112) C 1 dX7_ringsHere_112 rfl rfl ?_
      exact X_iret (pc := 113) C (Nat.zero_le _) (Nat.zero_le _) dX7_ringsHere_113 hp
    · skip
      refine X_iload_n (pc := 45) C 2 dX7_ringsHere_45 rfl rfl ?_
      refine X_aload_n (pc := 46) C 0 dX7_ringsHere_46 rfl rfl ?_
      refine G_X7_158 (pc := 47) C (by assumption) dX7_ringsHere_47 ?_
      rw [mW_9]
      rw [show F 18 = nI (eF F) from hT.2.2.1]
      refine X_icmp_ge (pc := 50) C 112 dX7_ringsHere_50 (by decide) (fun h50 => ?_) (fun h50 => ?_)
      · skip
        refine X_iload_n (pc := 112) C 1 dX7_ringsHere_112 rfl rfl ?_
        exact X_iret (pc := 113) C (Nat.zero_le _) (Nat.zero_le _) dX7_ringsHere_113 hp
      · exact absurd (nI_le (Nat.le_refl _) (n31 (by have := hT.1; have : eF F ≤ n := hT.2.2.2.2.2; omega))) h50
  | succ k ih =>
    intro i F q hT hi hp
    have hT1 := hT.1
    have hT6 : sF F ≤ eF F ∧ eF F ≤ n := hT.2.2.2.2
    have hlt : i < eF F := by omega
    refine X_aload_n (pc := 38) C 0 dX7_ringsHere_38 rfl rfl ?_
    refine G_X7_180 (pc := 39) C (by assumption) dX7_ringsHere_39 ?_
    rw [mW_9]
    refine X_if_ne (pc := 42) C 112 dX7_ringsHere_42 (by decide) (fun h42 => ?_) (fun h42 => ?_)
    · rw [mRhL, if_neg h42] at hp
      refine X_iload_n (pc := 112) C 1 dX7_ringsHere_112 rfl rfl ?_
      exact X_iret (pc := 113) C (Nat.zero_le _) (Nat.zero_le _) dX7_ringsHere_113 hp
    · rw [mRhL, if_pos h42] at hp
      refine X_iload_n (pc := 45) C 2 dX7_ringsHere_45 rfl rfl ?_
      refine X_aload_n (pc := 46) C 0 dX7_ringsHere_46 rfl rfl ?_
      refine G_X7_158 (pc := 47) C (by assumption) dX7_ringsHere_47 ?_
      rw [mW_9]
      rw [show F 18 = nI (eF F) from hT.2.2.1]
      refine X_icmp_ge (pc := 50) C 112 dX7_ringsHere_50 (by decide) (fun h50 => ?_) (fun h50 => ?_)
      · exact absurd (nle h50) (by omega)
      · skip
        refine X_aload_n (pc := 53) C 0 dX7_ringsHere_53 rfl rfl ?_
        refine X_aload_n (pc := 54) C 0 dX7_ringsHere_54 rfl rfl ?_
        refine G_X7_29 (pc := 55) C (by assumption) dX7_ringsHere_55 ?_
        refine X_iload_n (pc := 58) C 2 dX7_ringsHere_58 rfl rfl ?_
        refine X_ialdN (pc := 59) C (by first | exact h1 _ (by decide) (by decide)) rfl (by omega) (by decide) dX7_ringsHere_59 ?_
        rw [mW_o (i := .inr 16) (by decide) (by decide) (by decide)]
        refine X_bipush (pc := 60) (v := 115) C dX7_ringsHere_60 (by decide) ?_
        refine X_icmp_eq (pc := 62) C 80 dX7_ringsHere_62 (by decide) (fun h62 => ?_) (fun h62 => ?_)
        · have g9 : (if ((τ.1 (.inr 16)) i) = 115 ∨ ((τ.1 (.inr 16)) i) = 108 then (0 : Int32) else 1) = 0 := if_pos (Or.inl h62)
          refine X_iconst (pc := 80) (v := 0) C dX7_ringsHere_80 (by decide) ?_
          refine X_iconst (pc := 81) (v := 1) C dX7_ringsHere_81 (by decide) ?_
          refine K_X7_190 (pc := 82) C (by assumption) (c_X7_wrong l P _ _ _ _ h1 _ _) ⟨Nat.le_of_ble_eq_true rfl, Nat.le_of_ble_eq_true rfl⟩ ⟨rfl, rfl⟩ ⟨Nat.zero_le _, Nat.zero_le _⟩ (Nat.le_of_ble_eq_true rfl) dX7_ringsHere_82 ?_
          refine XW.eq (σ' := mW τ S (mWr F (if ((τ.1 (.inr 16)) i) = 115 ∨ ((τ.1 (.inr 16)) i) = 108 then (0 : Int32) else 1) 1) L) (by rw [g9]) rfl rfl ?_
          refine X_iconst (pc := 85) (v := 2) C dX7_ringsHere_85 (by decide) ?_
          refine X_iload_n (pc := 86) C 1 dX7_ringsHere_86 rfl rfl ?_
          refine X_imul (pc := 87) C dX7_ringsHere_87 ?_
          refine X_aload_n (pc := 88) C 0 dX7_ringsHere_88 rfl rfl ?_
          refine G_X7_29 (pc := 89) C (by assumption) dX7_ringsHere_89 ?_
          refine X_iload_n (pc := 92) C 2 dX7_ringsHere_92 rfl rfl ?_
          refine X_ialdN (pc := 93) C (by first | exact h1 _ (by decide) (by decide)) rfl (by omega) (by decide) dX7_ringsHere_93 ?_
          rw [mW_o (i := .inr 16) (by decide) (by decide) (by decide)]
          refine X_bipush (pc := 94) (v := 108) C dX7_ringsHere_94 (by decide) ?_
          refine X_icmp_ne (pc := 96) C 103 dX7_ringsHere_96 (by decide) (fun h96 => ?_) (fun h96 => ?_)
          · have g10 : (if ((τ.1 (.inr 16)) i) = 108 then (1 : Int32) else 0) = 0 := if_neg h96
            refine X_iconst (pc := 103) (v := 0) C dX7_ringsHere_103 (by decide) ?_
            refine X_iadd (pc := 104) C dX7_ringsHere_104 ?_
            refine X_istore_n (pc := 105) (lv1 := [(0, _), (1, _), (2, _)]) C 1 dX7_ringsHere_105 rfl (by decide) rfl ?_
            first | refine X_iincN (pc := 106) (lv1 := [(0, _), (1, _), (2, _)]) C dX7_ringsHere_106 rfl (by decide) (by decide) rfl ?_ | refine X_iinc (pc := 106) (kk := 1) (lv1 := [(0, _), (1, _), (2, _)]) C dX7_ringsHere_106 rfl (by decide) (by decide) rfl ?_
            refine X_goto (pc := 109) C 38 dX7_ringsHere_109 (by decide) ?_
            exact ih (i + 1) (mWr F (if ((τ.1 (.inr 16)) i) = 115 ∨ ((τ.1 (.inr 16)) i) = 108 then (0 : Int32) else 1) 1) _ (mWr_TK hT) (by rw [show eF (mWr F (if ((τ.1 (.inr 16)) i) = 115 ∨ ((τ.1 (.inr 16)) i) = 108 then (0 : Int32) else 1) 1) = eF F from by rw [eF, mWr_o (by decide) (by decide) (by decide)]]; omega) (by rw [g10] at hp; exact hp)
          · have g10 : (if ((τ.1 (.inr 16)) i) = 108 then (1 : Int32) else 0) = 1 := if_pos h96
            refine X_iconst (pc := 99) (v := 1) C dX7_ringsHere_99 (by decide) ?_
            refine X_goto (pc := 100) C 104 dX7_ringsHere_100 (by decide) ?_
            refine X_iadd (pc := 104) C dX7_ringsHere_104 ?_
            refine X_istore_n (pc := 105) (lv1 := [(0, _), (1, _), (2, _)]) C 1 dX7_ringsHere_105 rfl (by decide) rfl ?_
            first | refine X_iincN (pc := 106) (lv1 := [(0, _), (1, _), (2, _)]) C dX7_ringsHere_106 rfl (by decide) (by decide) rfl ?_ | refine X_iinc (pc := 106) (kk := 1) (lv1 := [(0, _), (1, _), (2, _)]) C dX7_ringsHere_106 rfl (by decide) (by decide) rfl ?_
            refine X_goto (pc := 109) C 38 dX7_ringsHere_109 (by decide) ?_
            exact ih (i + 1) (mWr F (if ((τ.1 (.inr 16)) i) = 115 ∨ ((τ.1 (.inr 16)) i) = 108 then (0 : Int32) else 1) 1) _ (mWr_TK hT) (by rw [show eF (mWr F (if ((τ.1 (.inr 16)) i) = 115 ∨ ((τ.1 (.inr 16)) i) = 108 then (0 : Int32) else 1) 1) = eF F from by rw [eF, mWr_o (by decide) (by decide) (by decide)]]; omega) (by rw [g10] at hp; exact hp)
        · skip
          refine X_aload_n (pc := 65) C 0 dX7_ringsHere_65 rfl rfl ?_
          refine G_X7_29 (pc := 66) C (by assumption) dX7_ringsHere_66 ?_
          refine X_iload_n (pc := 69) C 2 dX7_ringsHere_69 rfl rfl ?_
          refine X_ialdN (pc := 70) C (by first | exact h1 _ (by decide) (by decide)) rfl (by omega) (by decide) dX7_ringsHere_70 ?_
          rw [mW_o (i := .inr 16) (by decide) (by decide) (by decide)]
          refine X_bipush (pc := 71) (v := 108) C dX7_ringsHere_71 (by decide) ?_
          refine X_icmp_eq (pc := 73) C 80 dX7_ringsHere_73 (by decide) (fun h73 => ?_) (fun h73 => ?_)
          · have g9 : (if ((τ.1 (.inr 16)) i) = 115 ∨ ((τ.1 (.inr 16)) i) = 108 then (0 : Int32) else 1) = 0 := if_pos (Or.inr h73)
            refine X_iconst (pc := 80) (v := 0) C dX7_ringsHere_80 (by decide) ?_
            refine X_iconst (pc := 81) (v := 1) C dX7_ringsHere_81 (by decide) ?_
            refine K_X7_190 (pc := 82) C (by assumption) (c_X7_wrong l P _ _ _ _ h1 _ _) ⟨Nat.le_of_ble_eq_true rfl, Nat.le_of_ble_eq_true rfl⟩ ⟨rfl, rfl⟩ ⟨Nat.zero_le _, Nat.zero_le _⟩ (Nat.le_of_ble_eq_true rfl) dX7_ringsHere_82 ?_
            refine XW.eq (σ' := mW τ S (mWr F (if ((τ.1 (.inr 16)) i) = 115 ∨ ((τ.1 (.inr 16)) i) = 108 then (0 : Int32) else 1) 1) L) (by rw [g9]) rfl rfl ?_
            refine X_iconst (pc := 85) (v := 2) C dX7_ringsHere_85 (by decide) ?_
            refine X_iload_n (pc := 86) C 1 dX7_ringsHere_86 rfl rfl ?_
            refine X_imul (pc := 87) C dX7_ringsHere_87 ?_
            refine X_aload_n (pc := 88) C 0 dX7_ringsHere_88 rfl rfl ?_
            refine G_X7_29 (pc := 89) C (by assumption) dX7_ringsHere_89 ?_
            refine X_iload_n (pc := 92) C 2 dX7_ringsHere_92 rfl rfl ?_
            refine X_ialdN (pc := 93) C (by first | exact h1 _ (by decide) (by decide)) rfl (by omega) (by decide) dX7_ringsHere_93 ?_
            rw [mW_o (i := .inr 16) (by decide) (by decide) (by decide)]
            refine X_bipush (pc := 94) (v := 108) C dX7_ringsHere_94 (by decide) ?_
            refine X_icmp_ne (pc := 96) C 103 dX7_ringsHere_96 (by decide) (fun h96 => ?_) (fun h96 => ?_)
            · have g10 : (if ((τ.1 (.inr 16)) i) = 108 then (1 : Int32) else 0) = 0 := if_neg h96
              refine X_iconst (pc := 103) (v := 0) C dX7_ringsHere_103 (by decide) ?_
              refine X_iadd (pc := 104) C dX7_ringsHere_104 ?_
              refine X_istore_n (pc := 105) (lv1 := [(0, _), (1, _), (2, _)]) C 1 dX7_ringsHere_105 rfl (by decide) rfl ?_
              first | refine X_iincN (pc := 106) (lv1 := [(0, _), (1, _), (2, _)]) C dX7_ringsHere_106 rfl (by decide) (by decide) rfl ?_ | refine X_iinc (pc := 106) (kk := 1) (lv1 := [(0, _), (1, _), (2, _)]) C dX7_ringsHere_106 rfl (by decide) (by decide) rfl ?_
              refine X_goto (pc := 109) C 38 dX7_ringsHere_109 (by decide) ?_
              exact ih (i + 1) (mWr F (if ((τ.1 (.inr 16)) i) = 115 ∨ ((τ.1 (.inr 16)) i) = 108 then (0 : Int32) else 1) 1) _ (mWr_TK hT) (by rw [show eF (mWr F (if ((τ.1 (.inr 16)) i) = 115 ∨ ((τ.1 (.inr 16)) i) = 108 then (0 : Int32) else 1) 1) = eF F from by rw [eF, mWr_o (by decide) (by decide) (by decide)]]; omega) (by rw [g10] at hp; exact hp)
            · have g10 : (if ((τ.1 (.inr 16)) i) = 108 then (1 : Int32) else 0) = 1 := if_pos h96
              refine X_iconst (pc := 99) (v := 1) C dX7_ringsHere_99 (by decide) ?_
              refine X_goto (pc := 100) C 104 dX7_ringsHere_100 (by decide) ?_
              refine X_iadd (pc := 104) C dX7_ringsHere_104 ?_
              refine X_istore_n (pc := 105) (lv1 := [(0, _), (1, _), (2, _)]) C 1 dX7_ringsHere_105 rfl (by decide) rfl ?_
              first | refine X_iincN (pc := 106) (lv1 := [(0, _), (1, _), (2, _)]) C dX7_ringsHere_106 rfl (by decide) (by decide) rfl ?_ | refine X_iinc (pc := 106) (kk := 1) (lv1 := [(0, _), (1, _), (2, _)]) C dX7_ringsHere_106 rfl (by decide) (by decide) rfl ?_
              refine X_goto (pc := 109) C 38 dX7_ringsHere_109 (by decide) ?_
              exact ih (i + 1) (mWr F (if ((τ.1 (.inr 16)) i) = 115 ∨ ((τ.1 (.inr 16)) i) = 108 then (0 : Int32) else 1) 1) _ (mWr_TK hT) (by rw [show eF (mWr F (if ((τ.1 (.inr 16)) i) = 115 ∨ ((τ.1 (.inr 16)) i) = 108 then (0 : Int32) else 1) 1) = eF F from by rw [eF, mWr_o (by decide) (by decide) (by decide)]]; omega) (by rw [g10] at hp; exact hp)
          · have g9 : (if ((τ.1 (.inr 16)) i) = 115 ∨ ((τ.1 (.inr 16)) i) = 108 then (0 : Int32) else 1) = 1 := if_neg (fun z => z.elim h62 h73)
            refine X_iconst (pc := 76) (v := 1) C dX7_ringsHere_76 (by decide) ?_
            refine X_goto (pc := 77) C 81 dX7_ringsHere_77 (by decide) ?_
            refine X_iconst (pc := 81) (v := 1) C dX7_ringsHere_81 (by decide) ?_
            refine K_X7_190 (pc := 82) C (by assumption) (c_X7_wrong l P _ _ _ _ h1 _ _) ⟨Nat.le_of_ble_eq_true rfl, Nat.le_of_ble_eq_true rfl⟩ ⟨rfl, rfl⟩ ⟨Nat.zero_le _, Nat.zero_le _⟩ (Nat.le_of_ble_eq_true rfl) dX7_ringsHere_82 ?_
            refine XW.eq (σ' := mW τ S (mWr F (if ((τ.1 (.inr 16)) i) = 115 ∨ ((τ.1 (.inr 16)) i) = 108 then (0 : Int32) else 1) 1) L) (by rw [g9]) rfl rfl ?_
            refine X_iconst (pc := 85) (v := 2) C dX7_ringsHere_85 (by decide) ?_
            refine X_iload_n (pc := 86) C 1 dX7_ringsHere_86 rfl rfl ?_
            refine X_imul (pc := 87) C dX7_ringsHere_87 ?_
            refine X_aload_n (pc := 88) C 0 dX7_ringsHere_88 rfl rfl ?_
            refine G_X7_29 (pc := 89) C (by assumption) dX7_ringsHere_89 ?_
            refine X_iload_n (pc := 92) C 2 dX7_ringsHere_92 rfl rfl ?_
            refine X_ialdN (pc := 93) C (by first | exact h1 _ (by decide) (by decide)) rfl (by omega) (by decide) dX7_ringsHere_93 ?_
            rw [mW_o (i := .inr 16) (by decide) (by decide) (by decide)]
            refine X_bipush (pc := 94) (v := 108) C dX7_ringsHere_94 (by decide) ?_
            refine X_icmp_ne (pc := 96) C 103 dX7_ringsHere_96 (by decide) (fun h96 => ?_) (fun h96 => ?_)
            · have g10 : (if ((τ.1 (.inr 16)) i) = 108 then (1 : Int32) else 0) = 0 := if_neg h96
              refine X_iconst (pc := 103) (v := 0) C dX7_ringsHere_103 (by decide) ?_
              refine X_iadd (pc := 104) C dX7_ringsHere_104 ?_
              refine X_istore_n (pc := 105) (lv1 := [(0, _), (1, _), (2, _)]) C 1 dX7_ringsHere_105 rfl (by decide) rfl ?_
              first | refine X_iincN (pc := 106) (lv1 := [(0, _), (1, _), (2, _)]) C dX7_ringsHere_106 rfl (by decide) (by decide) rfl ?_ | refine X_iinc (pc := 106) (kk := 1) (lv1 := [(0, _), (1, _), (2, _)]) C dX7_ringsHere_106 rfl (by decide) (by decide) rfl ?_
              refine X_goto (pc := 109) C 38 dX7_ringsHere_109 (by decide) ?_
              exact ih (i + 1) (mWr F (if ((τ.1 (.inr 16)) i) = 115 ∨ ((τ.1 (.inr 16)) i) = 108 then (0 : Int32) else 1) 1) _ (mWr_TK hT) (by rw [show eF (mWr F (if ((τ.1 (.inr 16)) i) = 115 ∨ ((τ.1 (.inr 16)) i) = 108 then (0 : Int32) else 1) 1) = eF F from by rw [eF, mWr_o (by decide) (by decide) (by decide)]]; omega) (by rw [g10] at hp; exact hp)
            · have g10 : (if ((τ.1 (.inr 16)) i) = 108 then (1 : Int32) else 0) = 1 := if_pos h96
              refine X_iconst (pc := 99) (v := 1) C dX7_ringsHere_99 (by decide) ?_
              refine X_goto (pc := 100) C 104 dX7_ringsHere_100 (by decide) ?_
              refine X_iadd (pc := 104) C dX7_ringsHere_104 ?_
              refine X_istore_n (pc := 105) (lv1 := [(0, _), (1, _), (2, _)]) C 1 dX7_ringsHere_105 rfl (by decide) rfl ?_
              first | refine X_iincN (pc := 106) (lv1 := [(0, _), (1, _), (2, _)]) C dX7_ringsHere_106 rfl (by decide) (by decide) rfl ?_ | refine X_iinc (pc := 106) (kk := 1) (lv1 := [(0, _), (1, _), (2, _)]) C dX7_ringsHere_106 rfl (by decide) (by decide) rfl ?_
              refine X_goto (pc := 109) C 38 dX7_ringsHere_109 (by decide) ?_
              exact ih (i + 1) (mWr F (if ((τ.1 (.inr 16)) i) = 115 ∨ ((τ.1 (.inr 16)) i) = 108 then (0 : Int32) else 1) 1) _ (mWr_TK hT) (by rw [show eF (mWr F (if ((τ.1 (.inr 16)) i) = 115 ∨ ((τ.1 (.inr 16)) i) = 108 then (0 : Int32) else 1) 1) = eF F from by rw [eF, mWr_o (by decide) (by decide) (by decide)]]; omega) (by rw [g10] at hp; exact hp)

set_option maxRecDepth 100000 in
set_option maxHeartbeats 4000000 in
theorem c_X7_ringsHere (l : Launch) (P : XP) (τ : XS) (S F L : Nat → Int32) (h1 : xI1 P) (n : Nat) (hT : TK n F) : XF l yX7_ringsHere cX7_ringsHere 3 (some .int) rm_X7_ringsHere P [.ref (P.2.2.1 (.inr 9))] (mW τ S F L) (some (.int ((mRh (τ.1 (.inr 16)) F).2))) (mW τ S (mRh (τ.1 (.inr 16)) F).1 L) := by
  refine XM.of (by decide +kernel) (Nat.le_of_ble_eq_true rfl) (fun p e s m args below meth c A C => ?_)
  replace C : XC p s m args meth c P A 3 RX7 cX7_ringsHere (some .int) := C
  refine XW.eq (lv' := [(0, _)]) rfl rfl rfl ?_
  have hT1 := hT.1
  have hT6 : sF F ≤ eF F ∧ eF F ≤ n := hT.2.2.2.2
  refine X_aload_n (pc := 0) C 0 dX7_ringsHere_0 rfl rfl ?_
  refine X_aload_n (pc := 1) C 0 dX7_ringsHere_1 rfl rfl ?_
  refine G_X7_164 (pc := 2) C (by assumption) dX7_ringsHere_2 ?_
  rw [mW_9]
  refine X_iconst (pc := 5) (v := 1) C dX7_ringsHere_5 (by decide) ?_
  refine X_icmp_ne (pc := 6) C 22 dX7_ringsHere_6 (by decide) (fun h6 => ?_) (fun h6 => ?_)
  · have g9 : (if F 16 = 1 ∧ eF F - sF F ≤ 5 then (0 : Int32) else 1) = 1 := if_neg (fun q => h6 q.1)
    refine X_iconst (pc := 22) (v := 1) C dX7_ringsHere_22 (by decide) ?_
    refine X_goto (pc := 23) C 27 dX7_ringsHere_23 (by decide) ?_
    refine X_iconst (pc := 27) (v := 1) C dX7_ringsHere_27 (by decide) ?_
    refine K_X7_190 (pc := 28) C (by assumption) (c_X7_wrong l P _ _ _ _ h1 _ _) ⟨Nat.le_of_ble_eq_true rfl, Nat.le_of_ble_eq_true rfl⟩ ⟨rfl, rfl⟩ ⟨Nat.zero_le _, Nat.zero_le _⟩ (Nat.le_of_ble_eq_true rfl) dX7_ringsHere_28 ?_
    refine XW.eq (σ' := mW τ S (mRh0 F) L) (by rw [mRh0, g9]) rfl rfl ?_
    refine X_iconst (pc := 31) (v := 1) C dX7_ringsHere_31 (by decide) ?_
    refine X_istore_n (pc := 32) (lv1 := [(0, _), (1, _)]) C 1 dX7_ringsHere_32 rfl (by decide) rfl ?_
    refine X_aload_n (pc := 33) C 0 dX7_ringsHere_33 rfl rfl ?_
    refine G_X7_161 (pc := 34) C (by assumption) dX7_ringsHere_34 ?_
    rw [mW_9]
    rw [show mRh0 F 17 = F 17 from mWr_o (by decide) (by decide) (by decide), hT.2.2.2.1]
    refine X_istore_n (pc := 37) (lv1 := [(0, _), (1, _), (2, _)]) C 2 dX7_ringsHere_37 rfl (by decide) rfl ?_
    exact L_X7_ringsHere C h1 (n := n) (eF F - sF F) (sF F) (mRh0 F) 1 (mWr_TK hT) (by rw [show eF (mRh0 F) = eF F from by rw [eF, mRh0, mWr_o (by decide) (by decide) (by decide)]]; omega) ⟨rfl, rfl⟩
  · skip
    refine X_aload_n (pc := 9) C 0 dX7_ringsHere_9 rfl rfl ?_
    refine G_X7_158 (pc := 10) C (by assumption) dX7_ringsHere_10 ?_
    rw [mW_9]
    rw [hT.2.2.1]
    refine X_aload_n (pc := 13) C 0 dX7_ringsHere_13 rfl rfl ?_
    refine G_X7_161 (pc := 14) C (by assumption) dX7_ringsHere_14 ?_
    rw [mW_9]
    rw [hT.2.2.2.1]
    refine X_isub (pc := 17) C dX7_ringsHere_17 ?_
    rw [nI_subN hT.2.2.2.2.1]
    refine X_iconst (pc := 18) (v := 5) C dX7_ringsHere_18 (by decide) ?_
    refine X_icmp_le (pc := 19) C 26 dX7_ringsHere_19 (by decide) (fun h19 => ?_) (fun h19 => ?_)
    · have g9 : (if F 16 = 1 ∧ eF F - sF F ≤ 5 then (0 : Int32) else 1) = 0 := if_pos ⟨h6, nle (b := 5) h19⟩
      refine X_iconst (pc := 26) (v := 0) C dX7_ringsHere_26 (by decide) ?_
      refine X_iconst (pc := 27) (v := 1) C dX7_ringsHere_27 (by decide) ?_
      refine K_X7_190 (pc := 28) C (by assumption) (c_X7_wrong l P _ _ _ _ h1 _ _) ⟨Nat.le_of_ble_eq_true rfl, Nat.le_of_ble_eq_true rfl⟩ ⟨rfl, rfl⟩ ⟨Nat.zero_le _, Nat.zero_le _⟩ (Nat.le_of_ble_eq_true rfl) dX7_ringsHere_28 ?_
      refine XW.eq (σ' := mW τ S (mRh0 F) L) (by rw [mRh0, g9]) rfl rfl ?_
      refine X_iconst (pc := 31) (v := 1) C dX7_ringsHere_31 (by decide) ?_
      refine X_istore_n (pc := 32) (lv1 := [(0, _), (1, _)]) C 1 dX7_ringsHere_32 rfl (by decide) rfl ?_
      refine X_aload_n (pc := 33) C 0 dX7_ringsHere_33 rfl rfl ?_
      refine G_X7_161 (pc := 34) C (by assumption) dX7_ringsHere_34 ?_
      rw [mW_9]
      rw [show mRh0 F 17 = F 17 from mWr_o (by decide) (by decide) (by decide), hT.2.2.2.1]
      refine X_istore_n (pc := 37) (lv1 := [(0, _), (1, _), (2, _)]) C 2 dX7_ringsHere_37 rfl (by decide) rfl ?_
      exact L_X7_ringsHere C h1 (n := n) (eF F - sF F) (sF F) (mRh0 F) 1 (mWr_TK hT) (by rw [show eF (mRh0 F) = eF F from by rw [eF, mRh0, mWr_o (by decide) (by decide) (by decide)]]; omega) ⟨rfl, rfl⟩
    · have g9 : (if F 16 = 1 ∧ eF F - sF F ≤ 5 then (0 : Int32) else 1) = 1 := if_neg (fun q => h19 (nI_le (b := 5) q.2 (by decide)))
      refine X_iconst (pc := 22) (v := 1) C dX7_ringsHere_22 (by decide) ?_
      refine X_goto (pc := 23) C 27 dX7_ringsHere_23 (by decide) ?_
      refine X_iconst (pc := 27) (v := 1) C dX7_ringsHere_27 (by decide) ?_
      refine K_X7_190 (pc := 28) C (by assumption) (c_X7_wrong l P _ _ _ _ h1 _ _) ⟨Nat.le_of_ble_eq_true rfl, Nat.le_of_ble_eq_true rfl⟩ ⟨rfl, rfl⟩ ⟨Nat.zero_le _, Nat.zero_le _⟩ (Nat.le_of_ble_eq_true rfl) dX7_ringsHere_28 ?_
      refine XW.eq (σ' := mW τ S (mRh0 F) L) (by rw [mRh0, g9]) rfl rfl ?_
      refine X_iconst (pc := 31) (v := 1) C dX7_ringsHere_31 (by decide) ?_
      refine X_istore_n (pc := 32) (lv1 := [(0, _), (1, _)]) C 1 dX7_ringsHere_32 rfl (by decide) rfl ?_
      refine X_aload_n (pc := 33) C 0 dX7_ringsHere_33 rfl rfl ?_
      refine G_X7_161 (pc := 34) C (by assumption) dX7_ringsHere_34 ?_
      rw [mW_9]
      rw [show mRh0 F 17 = F 17 from mWr_o (by decide) (by decide) (by decide), hT.2.2.2.1]
      refine X_istore_n (pc := 37) (lv1 := [(0, _), (1, _), (2, _)]) C 2 dX7_ringsHere_37 rfl (by decide) rfl ?_
      exact L_X7_ringsHere C h1 (n := n) (eF F - sF F) (sF F) (mRh0 F) 1 (mWr_TK hT) (by rw [show eF (mRh0 F) = eF F from by rw [eF, mRh0, mWr_o (by decide) (by decide) (by decide)]]; omega) ⟨rfl, rfl⟩

set_option maxRecDepth 100000 in
set_option maxHeartbeats 4000000 in
theorem c_X7_ends (l : Launch) (P : XP) (τ : XS) (S F L : Nat → Int32) (h1 : xI1 P) (b q : Int32) : XF l yX7_ends cX7_ends 3 (some .boolean) rm_X7_ends P [.ref (P.2.2.1 (.inr 9)), .int b, .int q] (mW τ S F L) (some (.int (if mEn F b q 20 = 0 then 1 else 0))) (mW τ S (mEn F b q) L) := by
  refine XM.of (by decide +kernel) (Nat.le_of_ble_eq_true rfl) (fun p e s m args below meth c A C => ?_)
  replace C : XC p s m args meth c P A 3 RX7 cX7_ends (some .boolean) := C
  refine XW.eq (lv' := [(0, _), (1, _), (2, _)]) rfl rfl rfl ?_
  refine X_aload_n (pc := 0) C 0 dX7_ends_0 rfl rfl ?_
  refine X_aload_n (pc := 1) C 0 dX7_ends_1 rfl rfl ?_
  refine G_X7_164 (pc := 2) C (by assumption) dX7_ends_2 ?_
  rw [mW_9]
  refine X_iconst (pc := 5) (v := 3) C dX7_ends_5 (by decide) ?_
  refine X_icmp_eq (pc := 6) C 13 dX7_ends_6 (by decide) (fun h6 => ?_) (fun h6 => ?_)
  · have g6 : (if F 16 = 3 then (0 : Int32) else 1) = 0 := if_pos h6
    refine X_iconst (pc := 13) (v := 0) C dX7_ends_13 (by decide) ?_
    refine X_iconst (pc := 14) (v := 1) C dX7_ends_14 (by decide) ?_
    refine K_X7_190 (pc := 15) C (by assumption) (c_X7_wrong l P _ _ _ _ h1 _ _) ⟨Nat.le_of_ble_eq_true rfl, Nat.le_of_ble_eq_true rfl⟩ ⟨rfl, rfl⟩ ⟨Nat.zero_le _, Nat.zero_le _⟩ (Nat.le_of_ble_eq_true rfl) dX7_ends_15 ?_
    refine XW.eq (σ' := mW τ S (mWr F (if F 16 = 3 then (0 : Int32) else 1) 1) L) (by rw [g6]) rfl rfl ?_
    refine X_aload_n (pc := 18) C 0 dX7_ends_18 rfl rfl ?_
    refine X_aload_n (pc := 19) C 0 dX7_ends_19 rfl rfl ?_
    refine G_X7_180 (pc := 20) C (by assumption) dX7_ends_20 ?_
    rw [mW_9]
    refine X_if_ne (pc := 23) C 34 dX7_ends_23 (by decide) (fun h23 => ?_) (fun h23 => ?_)
    · have g9 : (if (mWr F (if F 16 = 3 then (0 : Int32) else 1) 1) 20 = 0 ∧ b = 0 then (1 : Int32) else 0) = 0 := if_neg (fun q => h23 q.1)
      refine X_iconst (pc := 34) (v := 0) C dX7_ends_34 (by decide) ?_
      refine X_iload_n (pc := 35) C 2 dX7_ends_35 rfl rfl ?_
      refine K_X7_190 (pc := 36) C (by assumption) (c_X7_wrong l P _ _ _ _ h1 _ _) ⟨Nat.le_of_ble_eq_true rfl, Nat.le_of_ble_eq_true rfl⟩ ⟨rfl, rfl⟩ ⟨Nat.zero_le _, Nat.zero_le _⟩ (Nat.le_of_ble_eq_true rfl) dX7_ends_36 ?_
      refine XW.eq (σ' := mW τ S (mEn F b q) L) (by rw [mEn, g9]) rfl rfl ?_
      refine X_aload_n (pc := 39) C 0 dX7_ends_39 rfl rfl ?_
      refine G_X7_180 (pc := 40) C (by assumption) dX7_ends_40 ?_
      rw [mW_9]
      refine X_if_ne (pc := 43) C 50 dX7_ends_43 (by decide) (fun h43 => ?_) (fun h43 => ?_)
      · skip
        refine X_iconst (pc := 50) (v := 0) C dX7_ends_50 (by decide) ?_
        exact X_zret (pc := 51) C (Nat.zero_le _) (Nat.zero_le _) (rfl) dX7_ends_51 ⟨by first | rw [if_pos h43] | rw [if_neg h43], rfl⟩
      · skip
        refine X_iconst (pc := 46) (v := 1) C dX7_ends_46 (by decide) ?_
        refine X_goto (pc := 47) C 51 dX7_ends_47 (by decide) ?_
        exact X_zret (pc := 51) C (Nat.zero_le _) (Nat.zero_le _) (rfl) dX7_ends_51 ⟨by first | rw [if_pos h43] | rw [if_neg h43], rfl⟩
    · skip
      refine X_iload_n (pc := 26) C 1 dX7_ends_26 rfl rfl ?_
      refine X_if_ne (pc := 27) C 34 dX7_ends_27 (by decide) (fun h27 => ?_) (fun h27 => ?_)
      · have g9 : (if (mWr F (if F 16 = 3 then (0 : Int32) else 1) 1) 20 = 0 ∧ b = 0 then (1 : Int32) else 0) = 0 := if_neg (fun q => h27 q.2)
        refine X_iconst (pc := 34) (v := 0) C dX7_ends_34 (by decide) ?_
        refine X_iload_n (pc := 35) C 2 dX7_ends_35 rfl rfl ?_
        refine K_X7_190 (pc := 36) C (by assumption) (c_X7_wrong l P _ _ _ _ h1 _ _) ⟨Nat.le_of_ble_eq_true rfl, Nat.le_of_ble_eq_true rfl⟩ ⟨rfl, rfl⟩ ⟨Nat.zero_le _, Nat.zero_le _⟩ (Nat.le_of_ble_eq_true rfl) dX7_ends_36 ?_
        refine XW.eq (σ' := mW τ S (mEn F b q) L) (by rw [mEn, g9]) rfl rfl ?_
        refine X_aload_n (pc := 39) C 0 dX7_ends_39 rfl rfl ?_
        refine G_X7_180 (pc := 40) C (by assumption) dX7_ends_40 ?_
        rw [mW_9]
        refine X_if_ne (pc := 43) C 50 dX7_ends_43 (by decide) (fun h43 => ?_) (fun h43 => ?_)
        · skip
          refine X_iconst (pc := 50) (v := 0) C dX7_ends_50 (by decide) ?_
          exact X_zret (pc := 51) C (Nat.zero_le _) (Nat.zero_le _) (rfl) dX7_ends_51 ⟨by first | rw [if_pos h43] | rw [if_neg h43], rfl⟩
        · skip
          refine X_iconst (pc := 46) (v := 1) C dX7_ends_46 (by decide) ?_
          refine X_goto (pc := 47) C 51 dX7_ends_47 (by decide) ?_
          exact X_zret (pc := 51) C (Nat.zero_le _) (Nat.zero_le _) (rfl) dX7_ends_51 ⟨by first | rw [if_pos h43] | rw [if_neg h43], rfl⟩
      · have g9 : (if (mWr F (if F 16 = 3 then (0 : Int32) else 1) 1) 20 = 0 ∧ b = 0 then (1 : Int32) else 0) = 1 := if_pos ⟨h23, h27⟩
        refine X_iconst (pc := 30) (v := 1) C dX7_ends_30 (by decide) ?_
        refine X_goto (pc := 31) C 35 dX7_ends_31 (by decide) ?_
        refine X_iload_n (pc := 35) C 2 dX7_ends_35 rfl rfl ?_
        refine K_X7_190 (pc := 36) C (by assumption) (c_X7_wrong l P _ _ _ _ h1 _ _) ⟨Nat.le_of_ble_eq_true rfl, Nat.le_of_ble_eq_true rfl⟩ ⟨rfl, rfl⟩ ⟨Nat.zero_le _, Nat.zero_le _⟩ (Nat.le_of_ble_eq_true rfl) dX7_ends_36 ?_
        refine XW.eq (σ' := mW τ S (mEn F b q) L) (by rw [mEn, g9]) rfl rfl ?_
        refine X_aload_n (pc := 39) C 0 dX7_ends_39 rfl rfl ?_
        refine G_X7_180 (pc := 40) C (by assumption) dX7_ends_40 ?_
        rw [mW_9]
        refine X_if_ne (pc := 43) C 50 dX7_ends_43 (by decide) (fun h43 => ?_) (fun h43 => ?_)
        · skip
          refine X_iconst (pc := 50) (v := 0) C dX7_ends_50 (by decide) ?_
          exact X_zret (pc := 51) C (Nat.zero_le _) (Nat.zero_le _) (rfl) dX7_ends_51 ⟨by first | rw [if_pos h43] | rw [if_neg h43], rfl⟩
        · skip
          refine X_iconst (pc := 46) (v := 1) C dX7_ends_46 (by decide) ?_
          refine X_goto (pc := 47) C 51 dX7_ends_47 (by decide) ?_
          exact X_zret (pc := 51) C (Nat.zero_le _) (Nat.zero_le _) (rfl) dX7_ends_51 ⟨by first | rw [if_pos h43] | rw [if_neg h43], rfl⟩
  · have g6 : (if F 16 = 3 then (0 : Int32) else 1) = 1 := if_neg h6
    refine X_iconst (pc := 9) (v := 1) C dX7_ends_9 (by decide) ?_
    refine X_goto (pc := 10) C 14 dX7_ends_10 (by decide) ?_
    refine X_iconst (pc := 14) (v := 1) C dX7_ends_14 (by decide) ?_
    refine K_X7_190 (pc := 15) C (by assumption) (c_X7_wrong l P _ _ _ _ h1 _ _) ⟨Nat.le_of_ble_eq_true rfl, Nat.le_of_ble_eq_true rfl⟩ ⟨rfl, rfl⟩ ⟨Nat.zero_le _, Nat.zero_le _⟩ (Nat.le_of_ble_eq_true rfl) dX7_ends_15 ?_
    refine XW.eq (σ' := mW τ S (mWr F (if F 16 = 3 then (0 : Int32) else 1) 1) L) (by rw [g6]) rfl rfl ?_
    refine X_aload_n (pc := 18) C 0 dX7_ends_18 rfl rfl ?_
    refine X_aload_n (pc := 19) C 0 dX7_ends_19 rfl rfl ?_
    refine G_X7_180 (pc := 20) C (by assumption) dX7_ends_20 ?_
    rw [mW_9]
    refine X_if_ne (pc := 23) C 34 dX7_ends_23 (by decide) (fun h23 => ?_) (fun h23 => ?_)
    · have g9 : (if (mWr F (if F 16 = 3 then (0 : Int32) else 1) 1) 20 = 0 ∧ b = 0 then (1 : Int32) else 0) = 0 := if_neg (fun q => h23 q.1)
      refine X_iconst (pc := 34) (v := 0) C dX7_ends_34 (by decide) ?_
      refine X_iload_n (pc := 35) C 2 dX7_ends_35 rfl rfl ?_
      refine K_X7_190 (pc := 36) C (by assumption) (c_X7_wrong l P _ _ _ _ h1 _ _) ⟨Nat.le_of_ble_eq_true rfl, Nat.le_of_ble_eq_true rfl⟩ ⟨rfl, rfl⟩ ⟨Nat.zero_le _, Nat.zero_le _⟩ (Nat.le_of_ble_eq_true rfl) dX7_ends_36 ?_
      refine XW.eq (σ' := mW τ S (mEn F b q) L) (by rw [mEn, g9]) rfl rfl ?_
      refine X_aload_n (pc := 39) C 0 dX7_ends_39 rfl rfl ?_
      refine G_X7_180 (pc := 40) C (by assumption) dX7_ends_40 ?_
      rw [mW_9]
      refine X_if_ne (pc := 43) C 50 dX7_ends_43 (by decide) (fun h43 => ?_) (fun h43 => ?_)
      · skip
        refine X_iconst (pc := 50) (v := 0) C dX7_ends_50 (by decide) ?_
        exact X_zret (pc := 51) C (Nat.zero_le _) (Nat.zero_le _) (rfl) dX7_ends_51 ⟨by first | rw [if_pos h43] | rw [if_neg h43], rfl⟩
      · skip
        refine X_iconst (pc := 46) (v := 1) C dX7_ends_46 (by decide) ?_
        refine X_goto (pc := 47) C 51 dX7_ends_47 (by decide) ?_
        exact X_zret (pc := 51) C (Nat.zero_le _) (Nat.zero_le _) (rfl) dX7_ends_51 ⟨by first | rw [if_pos h43] | rw [if_neg h43], rfl⟩
    · skip
      refine X_iload_n (pc := 26) C 1 dX7_ends_26 rfl rfl ?_
      refine X_if_ne (pc := 27) C 34 dX7_ends_27 (by decide) (fun h27 => ?_) (fun h27 => ?_)
      · have g9 : (if (mWr F (if F 16 = 3 then (0 : Int32) else 1) 1) 20 = 0 ∧ b = 0 then (1 : Int32) else 0) = 0 := if_neg (fun q => h27 q.2)
        refine X_iconst (pc := 34) (v := 0) C dX7_ends_34 (by decide) ?_
        refine X_iload_n (pc := 35) C 2 dX7_ends_35 rfl rfl ?_
        refine K_X7_190 (pc := 36) C (by assumption) (c_X7_wrong l P _ _ _ _ h1 _ _) ⟨Nat.le_of_ble_eq_true rfl, Nat.le_of_ble_eq_true rfl⟩ ⟨rfl, rfl⟩ ⟨Nat.zero_le _, Nat.zero_le _⟩ (Nat.le_of_ble_eq_true rfl) dX7_ends_36 ?_
        refine XW.eq (σ' := mW τ S (mEn F b q) L) (by rw [mEn, g9]) rfl rfl ?_
        refine X_aload_n (pc := 39) C 0 dX7_ends_39 rfl rfl ?_
        refine G_X7_180 (pc := 40) C (by assumption) dX7_ends_40 ?_
        rw [mW_9]
        refine X_if_ne (pc := 43) C 50 dX7_ends_43 (by decide) (fun h43 => ?_) (fun h43 => ?_)
        · skip
          refine X_iconst (pc := 50) (v := 0) C dX7_ends_50 (by decide) ?_
          exact X_zret (pc := 51) C (Nat.zero_le _) (Nat.zero_le _) (rfl) dX7_ends_51 ⟨by first | rw [if_pos h43] | rw [if_neg h43], rfl⟩
        · skip
          refine X_iconst (pc := 46) (v := 1) C dX7_ends_46 (by decide) ?_
          refine X_goto (pc := 47) C 51 dX7_ends_47 (by decide) ?_
          exact X_zret (pc := 51) C (Nat.zero_le _) (Nat.zero_le _) (rfl) dX7_ends_51 ⟨by first | rw [if_pos h43] | rw [if_neg h43], rfl⟩
      · have g9 : (if (mWr F (if F 16 = 3 then (0 : Int32) else 1) 1) 20 = 0 ∧ b = 0 then (1 : Int32) else 0) = 1 := if_pos ⟨h23, h27⟩
        refine X_iconst (pc := 30) (v := 1) C dX7_ends_30 (by decide) ?_
        refine X_goto (pc := 31) C 35 dX7_ends_31 (by decide) ?_
        refine X_iload_n (pc := 35) C 2 dX7_ends_35 rfl rfl ?_
        refine K_X7_190 (pc := 36) C (by assumption) (c_X7_wrong l P _ _ _ _ h1 _ _) ⟨Nat.le_of_ble_eq_true rfl, Nat.le_of_ble_eq_true rfl⟩ ⟨rfl, rfl⟩ ⟨Nat.zero_le _, Nat.zero_le _⟩ (Nat.le_of_ble_eq_true rfl) dX7_ends_36 ?_
        refine XW.eq (σ' := mW τ S (mEn F b q) L) (by rw [mEn, g9]) rfl rfl ?_
        refine X_aload_n (pc := 39) C 0 dX7_ends_39 rfl rfl ?_
        refine G_X7_180 (pc := 40) C (by assumption) dX7_ends_40 ?_
        rw [mW_9]
        refine X_if_ne (pc := 43) C 50 dX7_ends_43 (by decide) (fun h43 => ?_) (fun h43 => ?_)
        · skip
          refine X_iconst (pc := 50) (v := 0) C dX7_ends_50 (by decide) ?_
          exact X_zret (pc := 51) C (Nat.zero_le _) (Nat.zero_le _) (rfl) dX7_ends_51 ⟨by first | rw [if_pos h43] | rw [if_neg h43], rfl⟩
        · skip
          refine X_iconst (pc := 46) (v := 1) C dX7_ends_46 (by decide) ?_
          refine X_goto (pc := 47) C 51 dX7_ends_47 (by decide) ?_
          exact X_zret (pc := 51) C (Nat.zero_le _) (Nat.zero_le _) (rfl) dX7_ends_51 ⟨by first | rw [if_pos h43] | rw [if_neg h43], rfl⟩

end XP37

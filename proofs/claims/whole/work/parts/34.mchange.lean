/-! THE REFERENCE: what is changed -/
theorem upd_upd {f : Nat → Int32} {k : Nat} {a b : Int32} : upd (upd f k a) k b = upd f k b := by
  funext n
  by_cases h : n = k <;> simp [upd, h]
theorem xA_xA {σ : XS} {i : XI} {f g : Nat → Int32} : xA (xA σ i f) i g = xA σ i g := by
  refine mW_ext (fun j => ?_) rfl
  unfold xA
  by_cases h : j = i <;> simp [h]
theorem upd_76 {f : Nat → Int32} {a : Int32} : upd f 7 a 6 = f 6 := upd_ne (by decide)
theorem m550 (c : Nat) : nI c * 550 = nI (c * 550) := nI_m c 550
theorem mW_uo {τ : XS} {S F L : Nat → Int32} {j : XI} {k : Nat} {v : Int32} (h : j ≠ .inr 10) (h2 : j ≠ .inr 9) (h3 : j ≠ .inr 18) : xu (mW τ S F L) j k v = mW (xu τ j k v) S F L := by rw [xu, mW_o h h2 h3, mW_Ao h h2 h3]; rfl
def mNx (ch : Nat) : Nat := if ch = 8 then 8 else ch + 1
/-- the kept rows with f behind them -/
def mRem (K f : Nat → Int32) (ch : Nat) : Nat → Int32 := if ch = 8 then va_cpy f (va_cpy K K 550 0 3850) 0 3850 550 else va_cpy f K 0 (ch * 550) 550
/-- .. the world with them -/
def mRw (τ : XS) (f : Nat → Int32) (ch : Nat) : XS := xA τ (.inr 12) (mRem (τ.1 (.inr 12)) f ch)
def ub (u : Int32) : Int32 := if u = 0 then 0 else 1
def mThC (S : Nat → Int32) (x y : Int32) : Int32 := if xok x (mU S) ∧ xok y (mU S) then (if x = y then 2 else if mK S = 40 then 3 else 0) else 1
def mThT (S : Nat → Int32) (x y : Int32) : Int32 := if xok x (mU S) ∧ xok y (mT S) then (if mK S = 40 then 2 else 0) else 1
def mThE (S : Nat → Int32) (x : Int32) : Int32 := if xok x (mK S) then (if 2 ≤ sC S 4 (cN x) then 2 else 0) else 1
def mThW (S : Nat → Int32) (v : Int32) : Int32 := if 1 ≤ v ∧ v ≤ 9999 then (if S 0 + v ≤ 999999 then 0 else 2) else 1
def mThM (S : Nat → Int32) (x v : Int32) : Int32 := if xok x (mU S) then (if 0 ≤ v ∧ v ≤ 9 then 0 else 2) else 1
def mThR (τ : XS) (x : Int32) : Int32 := if xok x 2 then (if τ.1 (.inr 15) (cN x) = 0 then 2 else 0) else 1
theorem mIn_2 (x : Int32) : mIn x 0 1 = if xok x 2 then 1 else 0 := mIn_ok (n := 2) (by decide)
theorem mIn_b {x a b : Int32} : mIn x a b = if a ≤ x ∧ x ≤ b then 1 else 0 := rfl
theorem i24 : (24 : Int32) + -8 = 16 := by decide
theorem i16 : (16 : Int32) + -8 = 8 := by decide
theorem i8_ : (8 : Int32) + -8 = 0 := by decide
def mPut4 (τ : XS) (n : Nat) (v : Int32) : XS := xu (xu (xu (xu τ (.inr 16) n (v >>> ((24 : Int32) &&& 31) &&& 255)) (.inr 16) (n + 1) (v >>> ((16 : Int32) &&& 31) &&& 255)) (.inr 16) (n + 2) (v >>> ((8 : Int32) &&& 31) &&& 255)) (.inr 16) (n + 3) (v >>> ((0 : Int32) &&& 31) &&& 255)
section XP34
variable {p : Program} {l : Launch} {e : Env} {R : Room} {s : State} {m : MethodId} {args : Array Value} {below : List Frame} {meth : Method} {c : Code} {P : XP} {A : Nat → Prop} {nL cells slots : Nat} {Q : State → Prop} {cc : ByteArray} {ret : Option FieldType} {σ : XS} {pc : Nat} {lv : List (Nat × Value)} {st : List Value}
set_option maxRecDepth 100000 in
set_option maxHeartbeats 4000000 in
theorem c_X7_copy (l : Launch) (P : XP) (σ : XS) {i j : XI} {n0 n1 sp dp : Nat} (hi : i ∈ P.2.2.2.1) (hj : j ∈ P.2.2.2.1) (hs : xsh i = .inr (0, n0)) (hs1 : xsh j = .inr (0, n1)) (h4 : sp + 550 ≤ n0) (h5 : dp + 550 ≤ n1) (hn0 : n0 < 2 ^ 31) (hn1 : n1 < 2 ^ 31) : XF l yX7_copy cX7_copy 4 none rm_X7_copy P [.ref (P.2.2.1 i), .int (nI sp), .ref (P.2.2.1 j), .int (nI dp)] σ (none) (xA σ j (va_cpy (σ.1 i) (σ.1 j) sp dp 550)) := by
  refine XM.of (by decide +kernel) (Nat.le_of_ble_eq_true rfl) (fun p e s m args below meth c A C => ?_)
  replace C : XC p s m args meth c P A 4 RX7 cX7_copy none := C
  refine XW.eq (lv' := [(0, _), (1, _), (2, _), (3, _)]) rfl rfl rfl ?_
  refine X_aload_n (pc := 0) C 0 dX7_copy_0 rfl rfl ?_
  refine X_iload_n (pc := 1) C 1 dX7_copy_1 rfl rfl ?_
  refine X_aload_n (pc := 2) C 2 dX7_copy_2 rfl rfl ?_
  refine X_iload_n (pc := 3) C 3 dX7_copy_3 rfl rfl ?_
  refine X_sipush (pc := 4) (v := 550) C dX7_copy_4 (by decide) ?_
  refine X_copyi (sp := sp) (dp := dp) (n := 550) (pc := 7) C hi hj hs hs1 m_m_X7_70 h4 h5 hn0 hn1 (Nat.le_of_ble_eq_true rfl) (Nat.le_of_ble_eq_true rfl) dX7_copy_7 ?_
  exact X_vret (pc := 10) C (Nat.zero_le _) (Nat.zero_le _) dX7_copy_10 ⟨rfl, rfl⟩

set_option maxRecDepth 100000 in
set_option maxHeartbeats 4000000 in
theorem c_X7_remember (l : Launch) (P : XP) (τ : XS) (S F L : Nat → Int32) (h1 : xI1 P) (ch : Nat) (hc8 : ch ≤ 8) (hch : F 6 = nI ch) : XF l yX7_remember cX7_remember 2 none rm_X7_remember P [.ref (P.2.2.1 (.inr 9)), .ref (P.2.2.1 (.inr 10))] (mW τ S F L) (none) (mW (mRw τ S ch) S (upd F 6 (nI (mNx ch))) L) := by
  refine XM.of (by decide +kernel) (Nat.le_of_ble_eq_true rfl) (fun p e s m args below meth c A C => ?_)
  replace C : XC p s m args meth c P A 2 RX7 cX7_remember none := C
  refine XW.eq (lv' := [(0, _), (1, _)]) rfl rfl rfl ?_
  refine X_aload_n (pc := 0) C 0 dX7_remember_0 rfl rfl ?_
  refine G_X7_64 (pc := 1) C (by assumption) dX7_remember_1 ?_
  rw [mW_9]
  rw [hch]
  refine X_bipush (pc := 4) (v := 8) C dX7_remember_4 (by decide) ?_
  refine X_icmp_ne (pc := 6) C 37 dX7_remember_6 (by decide) (fun h6 => ?_) (fun h6 => ?_)
  · have g8 : ¬ ch = 8 := fun q => h6 (by rw [q]; rfl)
    refine X_aload_n (pc := 37) C 1 dX7_remember_37 rfl rfl ?_
    refine X_iconst (pc := 38) (v := 0) C dX7_remember_38 (by decide) ?_
    refine X_aload_n (pc := 39) C 0 dX7_remember_39 rfl rfl ?_
    refine G_X7_16 (pc := 40) C (by assumption) dX7_remember_40 ?_
    refine X_aload_n (pc := 43) C 0 dX7_remember_43 rfl rfl ?_
    refine G_X7_64 (pc := 44) C (by assumption) dX7_remember_44 ?_
    rw [mW_9]
    rw [hch]
    refine X_sipush (pc := 47) (v := 550) C dX7_remember_47 (by decide) ?_
    refine X_imul (pc := 50) C dX7_remember_50 ?_
    rw [m550]
    refine K_X7_76 (pc := 51) C (c_X7_copy l P _ (sp := 0) (dp := (ch * 550)) (h1 10 (by decide) (by decide)) (h1 12 (by decide) (by decide)) rfl rfl (by decide) (by omega) (by decide) (by decide)) ⟨Nat.le_of_ble_eq_true rfl, Nat.le_of_ble_eq_true rfl⟩ ⟨rfl, rfl⟩ ⟨Nat.zero_le _, Nat.zero_le _⟩ (Nat.le_of_ble_eq_true rfl) dX7_remember_51 ?_
    refine XW.eq (σ' := mW (mRw τ S ch) S F L) (by rw [mW_10, mW_o (i := .inr 12) (by decide) (by decide) (by decide), mW_Ao (by decide) (by decide) (by decide), mRw, mRem, if_neg g8]) rfl rfl ?_
    refine X_aload_n (pc := 54) C 0 dX7_remember_54 rfl rfl ?_
    refine X_dup (pc := 55) C dX7_remember_55 rfl ?_
    refine G_X7_64 (pc := 56) C (by assumption) dX7_remember_56 ?_
    rw [mW_9]
    rw [hch]
    refine X_iconst (pc := 59) (v := 1) C dX7_remember_59 (by decide) ?_
    refine X_iadd (pc := 60) C dX7_remember_60 ?_
    rw [nI_1]
    refine U_X7_64 (pc := 61) C (by assumption) dX7_remember_61 ?_
    rw [mW_u9]
    exact X_vret (pc := 64) C (Nat.zero_le _) (Nat.zero_le _) dX7_remember_64 ⟨rfl, by rw [mNx, if_neg g8]⟩
  · have g8 : ch = 8 := neq (b := 8) h6
    refine X_aload_n (pc := 9) C 0 dX7_remember_9 rfl rfl ?_
    refine G_X7_16 (pc := 10) C (by assumption) dX7_remember_10 ?_
    refine X_sipush (pc := 13) (v := 550) C dX7_remember_13 (by decide) ?_
    refine X_aload_n (pc := 16) C 0 dX7_remember_16 rfl rfl ?_
    refine G_X7_16 (pc := 17) C (by assumption) dX7_remember_17 ?_
    refine X_iconst (pc := 20) (v := 0) C dX7_remember_20 (by decide) ?_
    refine X_sipush (pc := 21) (v := 3850) C dX7_remember_21 (by decide) ?_
    refine X_copyi (sp := 550) (dp := 0) (n := 3850) (pc := 24) C (by first | exact h1 _ (by decide) (by decide)) (by first | exact h1 _ (by decide) (by decide)) rfl rfl m_m_X7_70 (by decide) (by decide) (by decide) (by decide) (Nat.le_of_ble_eq_true rfl) (Nat.le_of_ble_eq_true rfl) dX7_remember_24 ?_
    refine XW.eq (σ' := mW (xA τ (.inr 12) (va_cpy (τ.1 (.inr 12)) (τ.1 (.inr 12)) 550 0 3850)) S F L) (by rw [mW_o (i := .inr 12) (by decide) (by decide) (by decide), mW_Ao (by decide) (by decide) (by decide)]) rfl rfl ?_
    refine X_aload_n (pc := 27) C 0 dX7_remember_27 rfl rfl ?_
    refine X_dup (pc := 28) C dX7_remember_28 rfl ?_
    refine G_X7_64 (pc := 29) C (by assumption) dX7_remember_29 ?_
    rw [mW_9]
    rw [hch]
    refine X_iconst (pc := 32) (v := 1) C dX7_remember_32 (by decide) ?_
    refine X_isub (pc := 33) C dX7_remember_33 ?_
    rw [show nI ch - (1 : Int32) = nI 7 from by rw [g8]; rfl]
    refine U_X7_64 (pc := 34) C (by assumption) dX7_remember_34 ?_
    rw [mW_u9]
    refine X_aload_n (pc := 37) C 1 dX7_remember_37 rfl rfl ?_
    refine X_iconst (pc := 38) (v := 0) C dX7_remember_38 (by decide) ?_
    refine X_aload_n (pc := 39) C 0 dX7_remember_39 rfl rfl ?_
    refine G_X7_16 (pc := 40) C (by assumption) dX7_remember_40 ?_
    refine X_aload_n (pc := 43) C 0 dX7_remember_43 rfl rfl ?_
    refine G_X7_64 (pc := 44) C (by assumption) dX7_remember_44 ?_
    rw [mW_9]
    rw [upd_at]
    refine X_sipush (pc := 47) (v := 550) C dX7_remember_47 (by decide) ?_
    refine X_imul (pc := 50) C dX7_remember_50 ?_
    rw [show nI 7 * (550 : Int32) = nI 3850 from by decide]
    refine K_X7_76 (pc := 51) C (c_X7_copy l P _ (sp := 0) (dp := 3850) (h1 10 (by decide) (by decide)) (h1 12 (by decide) (by decide)) rfl rfl (by decide) (by decide) (by decide) (by decide)) ⟨Nat.le_of_ble_eq_true rfl, Nat.le_of_ble_eq_true rfl⟩ ⟨rfl, rfl⟩ ⟨Nat.zero_le _, Nat.zero_le _⟩ (Nat.le_of_ble_eq_true rfl) dX7_remember_51 ?_
    refine XW.eq (σ' := mW (mRw τ S ch) S (upd F 6 (nI 7)) L) (by rw [mW_10, mW_o (i := .inr 12) (by decide) (by decide) (by decide), mW_Ao (by decide) (by decide) (by decide), xA_self, mRw, mRem, if_pos g8, xA_xA]) rfl rfl ?_
    refine X_aload_n (pc := 54) C 0 dX7_remember_54 rfl rfl ?_
    refine X_dup (pc := 55) C dX7_remember_55 rfl ?_
    refine G_X7_64 (pc := 56) C (by assumption) dX7_remember_56 ?_
    rw [mW_9]
    rw [upd_at]
    refine X_iconst (pc := 59) (v := 1) C dX7_remember_59 (by decide) ?_
    refine X_iadd (pc := 60) C dX7_remember_60 ?_
    rw [nI_1]
    refine U_X7_64 (pc := 61) C (by assumption) dX7_remember_61 ?_
    rw [mW_u9]
    rw [upd_upd]
    exact X_vret (pc := 64) C (Nat.zero_le _) (Nat.zero_le _) dX7_remember_64 ⟨rfl, by rw [mNx, if_pos g8]⟩

set_option maxRecDepth 100000 in
set_option maxHeartbeats 4000000 in
theorem c_X7_remember14 (l : Launch) (P : XP) (τ : XS) (S F L : Nat → Int32) (h1 : xI1 P) (ch : Nat) (hc8 : ch ≤ 8) (hch : F 6 = nI ch) : XF l yX7_remember cX7_remember 2 none rm_X7_remember P [.ref (P.2.2.1 (.inr 9)), .ref (P.2.2.1 (.inr 14))] (mW τ S F L) (none) (mW (mRw τ (τ.1 (.inr 14)) ch) S (upd F 6 (nI (mNx ch))) L) := by
  refine XM.of (by decide +kernel) (Nat.le_of_ble_eq_true rfl) (fun p e s m args below meth c A C => ?_)
  replace C : XC p s m args meth c P A 2 RX7 cX7_remember none := C
  refine XW.eq (lv' := [(0, _), (1, _)]) rfl rfl rfl ?_
  refine X_aload_n (pc := 0) C 0 dX7_remember_0 rfl rfl ?_
  refine G_X7_64 (pc := 1) C (by assumption) dX7_remember_1 ?_
  rw [mW_9]
  rw [hch]
  refine X_bipush (pc := 4) (v := 8) C dX7_remember_4 (by decide) ?_
  refine X_icmp_ne (pc := 6) C 37 dX7_remember_6 (by decide) (fun h6 => ?_) (fun h6 => ?_)
  · have g8 : ¬ ch = 8 := fun q => h6 (by rw [q]; rfl)
    refine X_aload_n (pc := 37) C 1 dX7_remember_37 rfl rfl ?_
    refine X_iconst (pc := 38) (v := 0) C dX7_remember_38 (by decide) ?_
    refine X_aload_n (pc := 39) C 0 dX7_remember_39 rfl rfl ?_
    refine G_X7_16 (pc := 40) C (by assumption) dX7_remember_40 ?_
    refine X_aload_n (pc := 43) C 0 dX7_remember_43 rfl rfl ?_
    refine G_X7_64 (pc := 44) C (by assumption) dX7_remember_44 ?_
    rw [mW_9]
    rw [hch]
    refine X_sipush (pc := 47) (v := 550) C dX7_remember_47 (by decide) ?_
    refine X_imul (pc := 50) C dX7_remember_50 ?_
    rw [m550]
    refine K_X7_76 (pc := 51) C (c_X7_copy l P _ (sp := 0) (dp := (ch * 550)) (h1 14 (by decide) (by decide)) (h1 12 (by decide) (by decide)) rfl rfl (by decide) (by omega) (by decide) (by decide)) ⟨Nat.le_of_ble_eq_true rfl, Nat.le_of_ble_eq_true rfl⟩ ⟨rfl, rfl⟩ ⟨Nat.zero_le _, Nat.zero_le _⟩ (Nat.le_of_ble_eq_true rfl) dX7_remember_51 ?_
    refine XW.eq (σ' := mW (mRw τ (τ.1 (.inr 14)) ch) S F L) (by rw [mW_o (i := .inr 14) (by decide) (by decide) (by decide), mW_o (i := .inr 12) (by decide) (by decide) (by decide), mW_Ao (by decide) (by decide) (by decide), mRw, mRem, if_neg g8]) rfl rfl ?_
    refine X_aload_n (pc := 54) C 0 dX7_remember_54 rfl rfl ?_
    refine X_dup (pc := 55) C dX7_remember_55 rfl ?_
    refine G_X7_64 (pc := 56) C (by assumption) dX7_remember_56 ?_
    rw [mW_9]
    rw [hch]
    refine X_iconst (pc := 59) (v := 1) C dX7_remember_59 (by decide) ?_
    refine X_iadd (pc := 60) C dX7_remember_60 ?_
    rw [nI_1]
    refine U_X7_64 (pc := 61) C (by assumption) dX7_remember_61 ?_
    rw [mW_u9]
    exact X_vret (pc := 64) C (Nat.zero_le _) (Nat.zero_le _) dX7_remember_64 ⟨rfl, by rw [mNx, if_neg g8]⟩
  · have g8 : ch = 8 := neq (b := 8) h6
    refine X_aload_n (pc := 9) C 0 dX7_remember_9 rfl rfl ?_
    refine G_X7_16 (pc := 10) C (by assumption) dX7_remember_10 ?_
    refine X_sipush (pc := 13) (v := 550) C dX7_remember_13 (by decide) ?_
    refine X_aload_n (pc := 16) C 0 dX7_remember_16 rfl rfl ?_
    refine G_X7_16 (pc := 17) C (by assumption) dX7_remember_17 ?_
    refine X_iconst (pc := 20) (v := 0) C dX7_remember_20 (by decide) ?_
    refine X_sipush (pc := 21) (v := 3850) C dX7_remember_21 (by decide) ?_
    refine X_copyi (sp := 550) (dp := 0) (n := 3850) (pc := 24) C (by first | exact h1 _ (by decide) (by decide)) (by first | exact h1 _ (by decide) (by decide)) rfl rfl m_m_X7_70 (by decide) (by decide) (by decide) (by decide) (Nat.le_of_ble_eq_true rfl) (Nat.le_of_ble_eq_true rfl) dX7_remember_24 ?_
    refine XW.eq (σ' := mW (xA τ (.inr 12) (va_cpy (τ.1 (.inr 12)) (τ.1 (.inr 12)) 550 0 3850)) S F L) (by rw [mW_o (i := .inr 12) (by decide) (by decide) (by decide), mW_Ao (by decide) (by decide) (by decide)]) rfl rfl ?_
    refine X_aload_n (pc := 27) C 0 dX7_remember_27 rfl rfl ?_
    refine X_dup (pc := 28) C dX7_remember_28 rfl ?_
    refine G_X7_64 (pc := 29) C (by assumption) dX7_remember_29 ?_
    rw [mW_9]
    rw [hch]
    refine X_iconst (pc := 32) (v := 1) C dX7_remember_32 (by decide) ?_
    refine X_isub (pc := 33) C dX7_remember_33 ?_
    rw [show nI ch - (1 : Int32) = nI 7 from by rw [g8]; rfl]
    refine U_X7_64 (pc := 34) C (by assumption) dX7_remember_34 ?_
    rw [mW_u9]
    refine X_aload_n (pc := 37) C 1 dX7_remember_37 rfl rfl ?_
    refine X_iconst (pc := 38) (v := 0) C dX7_remember_38 (by decide) ?_
    refine X_aload_n (pc := 39) C 0 dX7_remember_39 rfl rfl ?_
    refine G_X7_16 (pc := 40) C (by assumption) dX7_remember_40 ?_
    refine X_aload_n (pc := 43) C 0 dX7_remember_43 rfl rfl ?_
    refine G_X7_64 (pc := 44) C (by assumption) dX7_remember_44 ?_
    rw [mW_9]
    rw [upd_at]
    refine X_sipush (pc := 47) (v := 550) C dX7_remember_47 (by decide) ?_
    refine X_imul (pc := 50) C dX7_remember_50 ?_
    rw [show nI 7 * (550 : Int32) = nI 3850 from by decide]
    refine K_X7_76 (pc := 51) C (c_X7_copy l P _ (sp := 0) (dp := 3850) (h1 14 (by decide) (by decide)) (h1 12 (by decide) (by decide)) rfl rfl (by decide) (by decide) (by decide) (by decide)) ⟨Nat.le_of_ble_eq_true rfl, Nat.le_of_ble_eq_true rfl⟩ ⟨rfl, rfl⟩ ⟨Nat.zero_le _, Nat.zero_le _⟩ (Nat.le_of_ble_eq_true rfl) dX7_remember_51 ?_
    refine XW.eq (σ' := mW (mRw τ (τ.1 (.inr 14)) ch) S (upd F 6 (nI 7)) L) (by rw [mW_o (i := .inr 14) (by decide) (by decide) (by decide), xA_ne _ _ (show (Sum.inr 14 : XI) ≠ .inr 12 by decide), mW_o (i := .inr 12) (by decide) (by decide) (by decide), mW_Ao (by decide) (by decide) (by decide), xA_self, mRw, mRem, if_pos g8, xA_xA]) rfl rfl ?_
    refine X_aload_n (pc := 54) C 0 dX7_remember_54 rfl rfl ?_
    refine X_dup (pc := 55) C dX7_remember_55 rfl ?_
    refine G_X7_64 (pc := 56) C (by assumption) dX7_remember_56 ?_
    rw [mW_9]
    rw [upd_at]
    refine X_iconst (pc := 59) (v := 1) C dX7_remember_59 (by decide) ?_
    refine X_iadd (pc := 60) C dX7_remember_60 ?_
    rw [nI_1]
    refine U_X7_64 (pc := 61) C (by assumption) dX7_remember_61 ?_
    rw [mW_u9]
    rw [upd_upd]
    exact X_vret (pc := 64) C (Nat.zero_le _) (Nat.zero_le _) dX7_remember_64 ⟨rfl, by rw [mNx, if_pos g8]⟩

theorem mThC_0 {S : Nat → Int32} {x y : Int32} (h : mThC S x y = 0) (hM : MI S) : xok x (mU S) ∧ xok y (mU S) ∧ mK S < 40 := by
  unfold mThC at h
  have := hM.k40
  by_cases g : xok x (mU S) ∧ xok y (mU S)
  · rw [if_pos g] at h
    by_cases g1 : x = y
    · rw [if_pos g1] at h; exact absurd h (by decide)
    · rw [if_neg g1] at h
      by_cases g2 : mK S = 40
      · rw [if_pos g2] at h; exact absurd h (by decide)
      · exact ⟨g.1, g.2, by omega⟩
  · rw [if_neg g] at h; exact absurd h (by decide)
theorem mThT_0 {S : Nat → Int32} {x y : Int32} (h : mThT S x y = 0) (hM : MI S) : xok x (mU S) ∧ xok y (mT S) ∧ mK S < 40 := by
  unfold mThT at h
  have := hM.k40
  by_cases g : xok x (mU S) ∧ xok y (mT S)
  · rw [if_pos g] at h
    by_cases g2 : mK S = 40
    · rw [if_pos g2] at h; exact absurd h (by decide)
    · exact ⟨g.1, g.2, by omega⟩
  · rw [if_neg g] at h; exact absurd h (by decide)
set_option maxRecDepth 100000 in
set_option maxHeartbeats 4000000 in
theorem c_X7_call (l : Launch) (P : XP) (τ : XS) (S F L : Nat → Int32) (h1 : xI1 P) (hM : MI S) (ch : Nat) (hc8 : ch ≤ 8) (hch : F 6 = nI ch) (x y u : Int32) : XF l yX7_call cX7_call 4 (some .int) rm_X7_call P [.ref (P.2.2.1 (.inr 9)), .int x, .int y, .int u] (mW τ S F L) (some (.int (if (mThC S x y) = 0 then nI (mK S) else 0))) (if (mThC S x y) = 0 then mW (mRw τ S ch) (mReq S x y (-1) (ub u)) (upd (upd F 7 0) 6 (nI (mNx ch))) L else mW τ S (upd F 7 ((mThC S x y))) L) := by
  refine XM.of (by decide +kernel) (Nat.le_of_ble_eq_true rfl) (fun p e s m args below meth c A C => ?_)
  replace C : XC p s m args meth c P A 4 RX7 cX7_call (some .int) := C
  refine XW.eq (lv' := [(0, _), (1, _), (2, _), (3, _)]) rfl rfl rfl ?_
  refine X_aload_n (pc := 0) C 0 dX7_call_0 rfl rfl ?_
  refine X_aload_n (pc := 1) C 0 dX7_call_1 rfl rfl ?_
  refine X_iload_n (pc := 2) C 1 dX7_call_2 rfl rfl ?_
  refine K_X7_288 (pc := 3) C (by assumption) (c_X7_noUser l P _ _ _ _ h1 (mU S) (by have := hM.u15; omega) hM.u x) ⟨Nat.le_of_ble_eq_true rfl, Nat.le_of_ble_eq_true rfl⟩ ⟨rfl, rfl⟩ ⟨Nat.zero_le _, Nat.zero_le _⟩ (Nat.le_of_ble_eq_true rfl) dX7_call_3 ?_
  refine X_if_ne (pc := 6) C 17 dX7_call_6 (by decide) (fun h6 => ?_) (fun h6 => ?_)
  · have g6 := bz01 h6
    refine X_iconst (pc := 17) (v := 1) C dX7_call_17 (by decide) ?_
    refine X_goto (pc := 18) C 22 dX7_call_18 (by decide) ?_
    refine X_iload_n (pc := 22) C 1 dX7_call_22 rfl rfl ?_
    refine X_iload_n (pc := 23) C 2 dX7_call_23 rfl rfl ?_
    refine X_icmp_ne (pc := 24) C 31 dX7_call_24 (by decide) (fun h24 => ?_) (fun h24 => ?_)
    · skip
      refine X_iconst (pc := 31) (v := 0) C dX7_call_31 (by decide) ?_
      refine X_aload_n (pc := 32) C 0 dX7_call_32 rfl rfl ?_
      refine G_X7_9 (pc := 33) C (by assumption) dX7_call_33 ?_
      refine X_iconst (pc := 36) (v := 5) C dX7_call_36 (by decide) ?_
      refine X_ialdN (j := 5) (pc := 37) C (by first | exact h1 _ (by decide) (by decide)) rfl (by omega) (by decide) dX7_call_37 ?_
      rw [mW_10]
      rw [hM.k]
      refine X_bipush (pc := 38) (v := 40) C dX7_call_38 (by decide) ?_
      refine X_icmp_ne (pc := 40) C 47 dX7_call_40 (by decide) (fun h40 => ?_) (fun h40 => ?_)
      · have g40 : ¬ mK S = 40 := fun q => h40 (by rw [q]; rfl)
        refine X_iconst (pc := 47) (v := 0) C dX7_call_47 (by decide) ?_
        refine K_X7_154 (pc := 48) C (by assumption) (c_X7_fails l P _ _ _ _ h1 _ _ _) ⟨Nat.le_of_ble_eq_true rfl, Nat.le_of_ble_eq_true rfl⟩ ⟨rfl, rfl⟩ ⟨Nat.zero_le _, Nat.zero_le _⟩ (Nat.le_of_ble_eq_true rfl) dX7_call_48 ?_
        rw [show mFl _ _ _ = (mThC S x y) from by first | (rw [mThC, if_neg (fun q => g6 q.1)]; rfl) | (rw [mThC, if_neg (fun q => g14 q.2)]; rfl) | (rw [mThC, if_pos ⟨g6, g14⟩, if_pos h24]; rfl) | (rw [mThC, if_pos ⟨g6, g14⟩, if_neg h24, if_neg g40]; rfl) | (rw [mThC, if_pos ⟨g6, g14⟩, if_neg h24, if_pos g40]; rfl)]
        refine X_if_eq (pc := 51) C 56 dX7_call_51 (by decide) (fun h51 => ?_) (fun h51 => ?_)
        · have gg := bz00 h51
          have gx := mThC_0 gg hM
          rw [gg]
          refine X_aload_n (pc := 56) C 0 dX7_call_56 rfl rfl ?_
          refine X_aload_n (pc := 57) C 0 dX7_call_57 rfl rfl ?_
          refine G_X7_9 (pc := 58) C (by assumption) dX7_call_58 ?_
          refine K_X7_267 (pc := 61) C (by assumption) (c_X7_remember l P _ _ _ _ h1 ch hc8 (by rw [upd_76]; exact hch)) ⟨Nat.le_of_ble_eq_true rfl, Nat.le_of_ble_eq_true rfl⟩ ⟨rfl, rfl⟩ ⟨Nat.zero_le _, Nat.zero_le _⟩ (Nat.le_of_ble_eq_true rfl) dX7_call_61 ?_
          refine X_aload_n (pc := 64) C 0 dX7_call_64 rfl rfl ?_
          refine X_iload_n (pc := 65) C 1 dX7_call_65 rfl rfl ?_
          refine X_iload_n (pc := 66) C 2 dX7_call_66 rfl rfl ?_
          refine X_iconst (pc := 67) (v := (-1)) C dX7_call_67 (by decide) ?_
          refine X_iload_n (pc := 68) C 3 dX7_call_68 rfl rfl ?_
          refine X_if_eq (pc := 69) C 76 dX7_call_69 (by decide) (fun h69 => ?_) (fun h69 => ?_)
          · skip
            refine X_iconst (pc := 76) (v := 0) C dX7_call_76 (by decide) ?_
            refine K_X7_230 (pc := 77) C (by assumption) (c_X7_requests l P _ _ _ _ h1 hM gx.2.2 _ _ _ _ gx.1 (Or.inl ⟨rfl, gx.2.1⟩)) ⟨Nat.le_of_ble_eq_true rfl, Nat.le_of_ble_eq_true rfl⟩ ⟨rfl, rfl⟩ ⟨Nat.zero_le _, Nat.zero_le _⟩ (Nat.le_of_ble_eq_true rfl) dX7_call_77 ?_
            exact X_iret (pc := 80) C (Nat.zero_le _) (Nat.zero_le _) dX7_call_80 ⟨by first | (rw [if_neg gg]) | (rw [if_pos rfl]), by first | (rw [if_neg gg]) | (rw [if_pos rfl, ub, if_pos h69]) | (rw [if_pos rfl, ub, if_neg h69])⟩
          · skip
            refine X_iconst (pc := 72) (v := 1) C dX7_call_72 (by decide) ?_
            refine X_goto (pc := 73) C 77 dX7_call_73 (by decide) ?_
            refine K_X7_230 (pc := 77) C (by assumption) (c_X7_requests l P _ _ _ _ h1 hM gx.2.2 _ _ _ _ gx.1 (Or.inl ⟨rfl, gx.2.1⟩)) ⟨Nat.le_of_ble_eq_true rfl, Nat.le_of_ble_eq_true rfl⟩ ⟨rfl, rfl⟩ ⟨Nat.zero_le _, Nat.zero_le _⟩ (Nat.le_of_ble_eq_true rfl) dX7_call_77 ?_
            exact X_iret (pc := 80) C (Nat.zero_le _) (Nat.zero_le _) dX7_call_80 ⟨by first | (rw [if_neg gg]) | (rw [if_pos rfl]), by first | (rw [if_neg gg]) | (rw [if_pos rfl, ub, if_pos h69]) | (rw [if_pos rfl, ub, if_neg h69])⟩
        · have gg := bz01 h51
          refine X_iconst (pc := 54) (v := 0) C dX7_call_54 (by decide) ?_
          exact X_iret (pc := 55) C (Nat.zero_le _) (Nat.zero_le _) dX7_call_55 ⟨by first | (rw [if_neg gg]) | (rw [if_pos rfl]), by first | (rw [if_neg gg]) | (rw [if_pos rfl, ub, if_pos h69]) | (rw [if_pos rfl, ub, if_neg h69])⟩
      · have g40 : mK S = 40 := neq (b := 40) h40 (by have := hM.k40; omega)
        refine X_iconst (pc := 43) (v := 1) C dX7_call_43 (by decide) ?_
        refine X_goto (pc := 44) C 48 dX7_call_44 (by decide) ?_
        refine K_X7_154 (pc := 48) C (by assumption) (c_X7_fails l P _ _ _ _ h1 _ _ _) ⟨Nat.le_of_ble_eq_true rfl, Nat.le_of_ble_eq_true rfl⟩ ⟨rfl, rfl⟩ ⟨Nat.zero_le _, Nat.zero_le _⟩ (Nat.le_of_ble_eq_true rfl) dX7_call_48 ?_
        rw [show mFl _ _ _ = (mThC S x y) from by first | (rw [mThC, if_neg (fun q => g6 q.1)]; rfl) | (rw [mThC, if_neg (fun q => g14 q.2)]; rfl) | (rw [mThC, if_pos ⟨g6, g14⟩, if_pos h24]; rfl) | (rw [mThC, if_pos ⟨g6, g14⟩, if_neg h24, if_neg g40]; rfl) | (rw [mThC, if_pos ⟨g6, g14⟩, if_neg h24, if_pos g40]; rfl)]
        refine X_if_eq (pc := 51) C 56 dX7_call_51 (by decide) (fun h51 => ?_) (fun h51 => ?_)
        · have gg := bz00 h51
          have gx := mThC_0 gg hM
          rw [gg]
          refine X_aload_n (pc := 56) C 0 dX7_call_56 rfl rfl ?_
          refine X_aload_n (pc := 57) C 0 dX7_call_57 rfl rfl ?_
          refine G_X7_9 (pc := 58) C (by assumption) dX7_call_58 ?_
          refine K_X7_267 (pc := 61) C (by assumption) (c_X7_remember l P _ _ _ _ h1 ch hc8 (by rw [upd_76]; exact hch)) ⟨Nat.le_of_ble_eq_true rfl, Nat.le_of_ble_eq_true rfl⟩ ⟨rfl, rfl⟩ ⟨Nat.zero_le _, Nat.zero_le _⟩ (Nat.le_of_ble_eq_true rfl) dX7_call_61 ?_
          refine X_aload_n (pc := 64) C 0 dX7_call_64 rfl rfl ?_
          refine X_iload_n (pc := 65) C 1 dX7_call_65 rfl rfl ?_
          refine X_iload_n (pc := 66) C 2 dX7_call_66 rfl rfl ?_
          refine X_iconst (pc := 67) (v := (-1)) C dX7_call_67 (by decide) ?_
          refine X_iload_n (pc := 68) C 3 dX7_call_68 rfl rfl ?_
          refine X_if_eq (pc := 69) C 76 dX7_call_69 (by decide) (fun h69 => ?_) (fun h69 => ?_)
          · skip
            refine X_iconst (pc := 76) (v := 0) C dX7_call_76 (by decide) ?_
            refine K_X7_230 (pc := 77) C (by assumption) (c_X7_requests l P _ _ _ _ h1 hM gx.2.2 _ _ _ _ gx.1 (Or.inl ⟨rfl, gx.2.1⟩)) ⟨Nat.le_of_ble_eq_true rfl, Nat.le_of_ble_eq_true rfl⟩ ⟨rfl, rfl⟩ ⟨Nat.zero_le _, Nat.zero_le _⟩ (Nat.le_of_ble_eq_true rfl) dX7_call_77 ?_
            exact X_iret (pc := 80) C (Nat.zero_le _) (Nat.zero_le _) dX7_call_80 ⟨by first | (rw [if_neg gg]) | (rw [if_pos rfl]), by first | (rw [if_neg gg]) | (rw [if_pos rfl, ub, if_pos h69]) | (rw [if_pos rfl, ub, if_neg h69])⟩
          · skip
            refine X_iconst (pc := 72) (v := 1) C dX7_call_72 (by decide) ?_
            refine X_goto (pc := 73) C 77 dX7_call_73 (by decide) ?_
            refine K_X7_230 (pc := 77) C (by assumption) (c_X7_requests l P _ _ _ _ h1 hM gx.2.2 _ _ _ _ gx.1 (Or.inl ⟨rfl, gx.2.1⟩)) ⟨Nat.le_of_ble_eq_true rfl, Nat.le_of_ble_eq_true rfl⟩ ⟨rfl, rfl⟩ ⟨Nat.zero_le _, Nat.zero_le _⟩ (Nat.le_of_ble_eq_true rfl) dX7_call_77 ?_
            exact X_iret (pc := 80) C (Nat.zero_le _) (Nat.zero_le _) dX7_call_80 ⟨by first | (rw [if_neg gg]) | (rw [if_pos rfl]), by first | (rw [if_neg gg]) | (rw [if_pos rfl, ub, if_pos h69]) | (rw [if_pos rfl, ub, if_neg h69])⟩
        · have gg := bz01 h51
          refine X_iconst (pc := 54) (v := 0) C dX7_call_54 (by decide) ?_
          exact X_iret (pc := 55) C (Nat.zero_le _) (Nat.zero_le _) dX7_call_55 ⟨by first | (rw [if_neg gg]) | (rw [if_pos rfl]), by first | (rw [if_neg gg]) | (rw [if_pos rfl, ub, if_pos h69]) | (rw [if_pos rfl, ub, if_neg h69])⟩
    · skip
      refine X_iconst (pc := 27) (v := 1) C dX7_call_27 (by decide) ?_
      refine X_goto (pc := 28) C 32 dX7_call_28 (by decide) ?_
      refine X_aload_n (pc := 32) C 0 dX7_call_32 rfl rfl ?_
      refine G_X7_9 (pc := 33) C (by assumption) dX7_call_33 ?_
      refine X_iconst (pc := 36) (v := 5) C dX7_call_36 (by decide) ?_
      refine X_ialdN (j := 5) (pc := 37) C (by first | exact h1 _ (by decide) (by decide)) rfl (by omega) (by decide) dX7_call_37 ?_
      rw [mW_10]
      rw [hM.k]
      refine X_bipush (pc := 38) (v := 40) C dX7_call_38 (by decide) ?_
      refine X_icmp_ne (pc := 40) C 47 dX7_call_40 (by decide) (fun h40 => ?_) (fun h40 => ?_)
      · have g40 : ¬ mK S = 40 := fun q => h40 (by rw [q]; rfl)
        refine X_iconst (pc := 47) (v := 0) C dX7_call_47 (by decide) ?_
        refine K_X7_154 (pc := 48) C (by assumption) (c_X7_fails l P _ _ _ _ h1 _ _ _) ⟨Nat.le_of_ble_eq_true rfl, Nat.le_of_ble_eq_true rfl⟩ ⟨rfl, rfl⟩ ⟨Nat.zero_le _, Nat.zero_le _⟩ (Nat.le_of_ble_eq_true rfl) dX7_call_48 ?_
        rw [show mFl _ _ _ = (mThC S x y) from by first | (rw [mThC, if_neg (fun q => g6 q.1)]; rfl) | (rw [mThC, if_neg (fun q => g14 q.2)]; rfl) | (rw [mThC, if_pos ⟨g6, g14⟩, if_pos h24]; rfl) | (rw [mThC, if_pos ⟨g6, g14⟩, if_neg h24, if_neg g40]; rfl) | (rw [mThC, if_pos ⟨g6, g14⟩, if_neg h24, if_pos g40]; rfl)]
        refine X_if_eq (pc := 51) C 56 dX7_call_51 (by decide) (fun h51 => ?_) (fun h51 => ?_)
        · have gg := bz00 h51
          have gx := mThC_0 gg hM
          rw [gg]
          refine X_aload_n (pc := 56) C 0 dX7_call_56 rfl rfl ?_
          refine X_aload_n (pc := 57) C 0 dX7_call_57 rfl rfl ?_
          refine G_X7_9 (pc := 58) C (by assumption) dX7_call_58 ?_
          refine K_X7_267 (pc := 61) C (by assumption) (c_X7_remember l P _ _ _ _ h1 ch hc8 (by rw [upd_76]; exact hch)) ⟨Nat.le_of_ble_eq_true rfl, Nat.le_of_ble_eq_true rfl⟩ ⟨rfl, rfl⟩ ⟨Nat.zero_le _, Nat.zero_le _⟩ (Nat.le_of_ble_eq_true rfl) dX7_call_61 ?_
          refine X_aload_n (pc := 64) C 0 dX7_call_64 rfl rfl ?_
          refine X_iload_n (pc := 65) C 1 dX7_call_65 rfl rfl ?_
          refine X_iload_n (pc := 66) C 2 dX7_call_66 rfl rfl ?_
          refine X_iconst (pc := 67) (v := (-1)) C dX7_call_67 (by decide) ?_
          refine X_iload_n (pc := 68) C 3 dX7_call_68 rfl rfl ?_
          refine X_if_eq (pc := 69) C 76 dX7_call_69 (by decide) (fun h69 => ?_) (fun h69 => ?_)
          · skip
            refine X_iconst (pc := 76) (v := 0) C dX7_call_76 (by decide) ?_
            refine K_X7_230 (pc := 77) C (by assumption) (c_X7_requests l P _ _ _ _ h1 hM gx.2.2 _ _ _ _ gx.1 (Or.inl ⟨rfl, gx.2.1⟩)) ⟨Nat.le_of_ble_eq_true rfl, Nat.le_of_ble_eq_true rfl⟩ ⟨rfl, rfl⟩ ⟨Nat.zero_le _, Nat.zero_le _⟩ (Nat.le_of_ble_eq_true rfl) dX7_call_77 ?_
            exact X_iret (pc := 80) C (Nat.zero_le _) (Nat.zero_le _) dX7_call_80 ⟨by first | (rw [if_neg gg]) | (rw [if_pos rfl]), by first | (rw [if_neg gg]) | (rw [if_pos rfl, ub, if_pos h69]) | (rw [if_pos rfl, ub, if_neg h69])⟩
          · skip
            refine X_iconst (pc := 72) (v := 1) C dX7_call_72 (by decide) ?_
            refine X_goto (pc := 73) C 77 dX7_call_73 (by decide) ?_
            refine K_X7_230 (pc := 77) C (by assumption) (c_X7_requests l P _ _ _ _ h1 hM gx.2.2 _ _ _ _ gx.1 (Or.inl ⟨rfl, gx.2.1⟩)) ⟨Nat.le_of_ble_eq_true rfl, Nat.le_of_ble_eq_true rfl⟩ ⟨rfl, rfl⟩ ⟨Nat.zero_le _, Nat.zero_le _⟩ (Nat.le_of_ble_eq_true rfl) dX7_call_77 ?_
            exact X_iret (pc := 80) C (Nat.zero_le _) (Nat.zero_le _) dX7_call_80 ⟨by first | (rw [if_neg gg]) | (rw [if_pos rfl]), by first | (rw [if_neg gg]) | (rw [if_pos rfl, ub, if_pos h69]) | (rw [if_pos rfl, ub, if_neg h69])⟩
        · have gg := bz01 h51
          refine X_iconst (pc := 54) (v := 0) C dX7_call_54 (by decide) ?_
          exact X_iret (pc := 55) C (Nat.zero_le _) (Nat.zero_le _) dX7_call_55 ⟨by first | (rw [if_neg gg]) | (rw [if_pos rfl]), by first | (rw [if_neg gg]) | (rw [if_pos rfl, ub, if_pos h69]) | (rw [if_pos rfl, ub, if_neg h69])⟩
      · have g40 : mK S = 40 := neq (b := 40) h40 (by have := hM.k40; omega)
        refine X_iconst (pc := 43) (v := 1) C dX7_call_43 (by decide) ?_
        refine X_goto (pc := 44) C 48 dX7_call_44 (by decide) ?_
        refine K_X7_154 (pc := 48) C (by assumption) (c_X7_fails l P _ _ _ _ h1 _ _ _) ⟨Nat.le_of_ble_eq_true rfl, Nat.le_of_ble_eq_true rfl⟩ ⟨rfl, rfl⟩ ⟨Nat.zero_le _, Nat.zero_le _⟩ (Nat.le_of_ble_eq_true rfl) dX7_call_48 ?_
        rw [show mFl _ _ _ = (mThC S x y) from by first | (rw [mThC, if_neg (fun q => g6 q.1)]; rfl) | (rw [mThC, if_neg (fun q => g14 q.2)]; rfl) | (rw [mThC, if_pos ⟨g6, g14⟩, if_pos h24]; rfl) | (rw [mThC, if_pos ⟨g6, g14⟩, if_neg h24, if_neg g40]; rfl) | (rw [mThC, if_pos ⟨g6, g14⟩, if_neg h24, if_pos g40]; rfl)]
        refine X_if_eq (pc := 51) C 56 dX7_call_51 (by decide) (fun h51 => ?_) (fun h51 => ?_)
        · have gg := bz00 h51
          have gx := mThC_0 gg hM
          rw [gg]
          refine X_aload_n (pc := 56) C 0 dX7_call_56 rfl rfl ?_
          refine X_aload_n (pc := 57) C 0 dX7_call_57 rfl rfl ?_
          refine G_X7_9 (pc := 58) C (by assumption) dX7_call_58 ?_
          refine K_X7_267 (pc := 61) C (by assumption) (c_X7_remember l P _ _ _ _ h1 ch hc8 (by rw [upd_76]; exact hch)) ⟨Nat.le_of_ble_eq_true rfl, Nat.le_of_ble_eq_true rfl⟩ ⟨rfl, rfl⟩ ⟨Nat.zero_le _, Nat.zero_le _⟩ (Nat.le_of_ble_eq_true rfl) dX7_call_61 ?_
          refine X_aload_n (pc := 64) C 0 dX7_call_64 rfl rfl ?_
          refine X_iload_n (pc := 65) C 1 dX7_call_65 rfl rfl ?_
          refine X_iload_n (pc := 66) C 2 dX7_call_66 rfl rfl ?_
          refine X_iconst (pc := 67) (v := (-1)) C dX7_call_67 (by decide) ?_
          refine X_iload_n (pc := 68) C 3 dX7_call_68 rfl rfl ?_
          refine X_if_eq (pc := 69) C 76 dX7_call_69 (by decide) (fun h69 => ?_) (fun h69 => ?_)
          · skip
            refine X_iconst (pc := 76) (v := 0) C dX7_call_76 (by decide) ?_
            refine K_X7_230 (pc := 77) C (by assumption) (c_X7_requests l P _ _ _ _ h1 hM gx.2.2 _ _ _ _ gx.1 (Or.inl ⟨rfl, gx.2.1⟩)) ⟨Nat.le_of_ble_eq_true rfl, Nat.le_of_ble_eq_true rfl⟩ ⟨rfl, rfl⟩ ⟨Nat.zero_le _, Nat.zero_le _⟩ (Nat.le_of_ble_eq_true rfl) dX7_call_77 ?_
            exact X_iret (pc := 80) C (Nat.zero_le _) (Nat.zero_le _) dX7_call_80 ⟨by first | (rw [if_neg gg]) | (rw [if_pos rfl]), by first | (rw [if_neg gg]) | (rw [if_pos rfl, ub, if_pos h69]) | (rw [if_pos rfl, ub, if_neg h69])⟩
          · skip
            refine X_iconst (pc := 72) (v := 1) C dX7_call_72 (by decide) ?_
            refine X_goto (pc := 73) C 77 dX7_call_73 (by decide) ?_
            refine K_X7_230 (pc := 77) C (by assumption) (c_X7_requests l P _ _ _ _ h1 hM gx.2.2 _ _ _ _ gx.1 (Or.inl ⟨rfl, gx.2.1⟩)) ⟨Nat.le_of_ble_eq_true rfl, Nat.le_of_ble_eq_true rfl⟩ ⟨rfl, rfl⟩ ⟨Nat.zero_le _, Nat.zero_le _⟩ (Nat.le_of_ble_eq_true rfl) dX7_call_77 ?_
            exact X_iret (pc := 80) C (Nat.zero_le _) (Nat.zero_le _) dX7_call_80 ⟨by first | (rw [if_neg gg]) | (rw [if_pos rfl]), by first | (rw [if_neg gg]) | (rw [if_pos rfl, ub, if_pos h69]) | (rw [if_pos rfl, ub, if_neg h69])⟩
        · have gg := bz01 h51
          refine X_iconst (pc := 54) (v := 0) C dX7_call_54 (by decide) ?_
          exact X_iret (pc := 55) C (Nat.zero_le _) (Nat.zero_le _) dX7_call_55 ⟨by first | (rw [if_neg gg]) | (rw [if_pos rfl]), by first | (rw [if_neg gg]) | (rw [if_pos rfl, ub, if_pos h69]) | (rw [if_pos rfl, ub, if_neg h69])⟩
  · have g6 := bz00 h6
    refine X_aload_n (pc := 9) C 0 dX7_call_9 rfl rfl ?_
    refine X_iload_n (pc := 10) C 2 dX7_call_10 rfl rfl ?_
    refine K_X7_288 (pc := 11) C (by assumption) (c_X7_noUser l P _ _ _ _ h1 (mU S) (by have := hM.u15; omega) hM.u y) ⟨Nat.le_of_ble_eq_true rfl, Nat.le_of_ble_eq_true rfl⟩ ⟨rfl, rfl⟩ ⟨Nat.zero_le _, Nat.zero_le _⟩ (Nat.le_of_ble_eq_true rfl) dX7_call_11 ?_
    refine X_if_eq (pc := 14) C 21 dX7_call_14 (by decide) (fun h14 => ?_) (fun h14 => ?_)
    · have g14 := bz00 h14
      refine X_iconst (pc := 21) (v := 0) C dX7_call_21 (by decide) ?_
      refine X_iload_n (pc := 22) C 1 dX7_call_22 rfl rfl ?_
      refine X_iload_n (pc := 23) C 2 dX7_call_23 rfl rfl ?_
      refine X_icmp_ne (pc := 24) C 31 dX7_call_24 (by decide) (fun h24 => ?_) (fun h24 => ?_)
      · skip
        refine X_iconst (pc := 31) (v := 0) C dX7_call_31 (by decide) ?_
        refine X_aload_n (pc := 32) C 0 dX7_call_32 rfl rfl ?_
        refine G_X7_9 (pc := 33) C (by assumption) dX7_call_33 ?_
        refine X_iconst (pc := 36) (v := 5) C dX7_call_36 (by decide) ?_
        refine X_ialdN (j := 5) (pc := 37) C (by first | exact h1 _ (by decide) (by decide)) rfl (by omega) (by decide) dX7_call_37 ?_
        rw [mW_10]
        rw [hM.k]
        refine X_bipush (pc := 38) (v := 40) C dX7_call_38 (by decide) ?_
        refine X_icmp_ne (pc := 40) C 47 dX7_call_40 (by decide) (fun h40 => ?_) (fun h40 => ?_)
        · have g40 : ¬ mK S = 40 := fun q => h40 (by rw [q]; rfl)
          refine X_iconst (pc := 47) (v := 0) C dX7_call_47 (by decide) ?_
          refine K_X7_154 (pc := 48) C (by assumption) (c_X7_fails l P _ _ _ _ h1 _ _ _) ⟨Nat.le_of_ble_eq_true rfl, Nat.le_of_ble_eq_true rfl⟩ ⟨rfl, rfl⟩ ⟨Nat.zero_le _, Nat.zero_le _⟩ (Nat.le_of_ble_eq_true rfl) dX7_call_48 ?_
          rw [show mFl _ _ _ = (mThC S x y) from by first | (rw [mThC, if_neg (fun q => g6 q.1)]; rfl) | (rw [mThC, if_neg (fun q => g14 q.2)]; rfl) | (rw [mThC, if_pos ⟨g6, g14⟩, if_pos h24]; rfl) | (rw [mThC, if_pos ⟨g6, g14⟩, if_neg h24, if_neg g40]; rfl) | (rw [mThC, if_pos ⟨g6, g14⟩, if_neg h24, if_pos g40]; rfl)]
          refine X_if_eq (pc := 51) C 56 dX7_call_51 (by decide) (fun h51 => ?_) (fun h51 => ?_)
          · have gg := bz00 h51
            have gx := mThC_0 gg hM
            rw [gg]
            refine X_aload_n (pc := 56) C 0 dX7_call_56 rfl rfl ?_
            refine X_aload_n (pc := 57) C 0 dX7_call_57 rfl rfl ?_
            refine G_X7_9 (pc := 58) C (by assumption) dX7_call_58 ?_
            refine K_X7_267 (pc := 61) C (by assumption) (c_X7_remember l P _ _ _ _ h1 ch hc8 (by rw [upd_76]; exact hch)) ⟨Nat.le_of_ble_eq_true rfl, Nat.le_of_ble_eq_true rfl⟩ ⟨rfl, rfl⟩ ⟨Nat.zero_le _, Nat.zero_le _⟩ (Nat.le_of_ble_eq_true rfl) dX7_call_61 ?_
            refine X_aload_n (pc := 64) C 0 dX7_call_64 rfl rfl ?_
            refine X_iload_n (pc := 65) C 1 dX7_call_65 rfl rfl ?_
            refine X_iload_n (pc := 66) C 2 dX7_call_66 rfl rfl ?_
            refine X_iconst (pc := 67) (v := (-1)) C dX7_call_67 (by decide) ?_
            refine X_iload_n (pc := 68) C 3 dX7_call_68 rfl rfl ?_
            refine X_if_eq (pc := 69) C 76 dX7_call_69 (by decide) (fun h69 => ?_) (fun h69 => ?_)
            · skip
              refine X_iconst (pc := 76) (v := 0) C dX7_call_76 (by decide) ?_
              refine K_X7_230 (pc := 77) C (by assumption) (c_X7_requests l P _ _ _ _ h1 hM gx.2.2 _ _ _ _ gx.1 (Or.inl ⟨rfl, gx.2.1⟩)) ⟨Nat.le_of_ble_eq_true rfl, Nat.le_of_ble_eq_true rfl⟩ ⟨rfl, rfl⟩ ⟨Nat.zero_le _, Nat.zero_le _⟩ (Nat.le_of_ble_eq_true rfl) dX7_call_77 ?_
              exact X_iret (pc := 80) C (Nat.zero_le _) (Nat.zero_le _) dX7_call_80 ⟨by first | (rw [if_neg gg]) | (rw [if_pos rfl]), by first | (rw [if_neg gg]) | (rw [if_pos rfl, ub, if_pos h69]) | (rw [if_pos rfl, ub, if_neg h69])⟩
            · skip
              refine X_iconst (pc := 72) (v := 1) C dX7_call_72 (by decide) ?_
              refine X_goto (pc := 73) C 77 dX7_call_73 (by decide) ?_
              refine K_X7_230 (pc := 77) C (by assumption) (c_X7_requests l P _ _ _ _ h1 hM gx.2.2 _ _ _ _ gx.1 (Or.inl ⟨rfl, gx.2.1⟩)) ⟨Nat.le_of_ble_eq_true rfl, Nat.le_of_ble_eq_true rfl⟩ ⟨rfl, rfl⟩ ⟨Nat.zero_le _, Nat.zero_le _⟩ (Nat.le_of_ble_eq_true rfl) dX7_call_77 ?_
              exact X_iret (pc := 80) C (Nat.zero_le _) (Nat.zero_le _) dX7_call_80 ⟨by first | (rw [if_neg gg]) | (rw [if_pos rfl]), by first | (rw [if_neg gg]) | (rw [if_pos rfl, ub, if_pos h69]) | (rw [if_pos rfl, ub, if_neg h69])⟩
          · have gg := bz01 h51
            refine X_iconst (pc := 54) (v := 0) C dX7_call_54 (by decide) ?_
            exact X_iret (pc := 55) C (Nat.zero_le _) (Nat.zero_le _) dX7_call_55 ⟨by first | (rw [if_neg gg]) | (rw [if_pos rfl]), by first | (rw [if_neg gg]) | (rw [if_pos rfl, ub, if_pos h69]) | (rw [if_pos rfl, ub, if_neg h69])⟩
        · have g40 : mK S = 40 := neq (b := 40) h40 (by have := hM.k40; omega)
          refine X_iconst (pc := 43) (v := 1) C dX7_call_43 (by decide) ?_
          refine X_goto (pc := 44) C 48 dX7_call_44 (by decide) ?_
          refine K_X7_154 (pc := 48) C (by assumption) (c_X7_fails l P _ _ _ _ h1 _ _ _) ⟨Nat.le_of_ble_eq_true rfl, Nat.le_of_ble_eq_true rfl⟩ ⟨rfl, rfl⟩ ⟨Nat.zero_le _, Nat.zero_le _⟩ (Nat.le_of_ble_eq_true rfl) dX7_call_48 ?_
          rw [show mFl _ _ _ = (mThC S x y) from by first | (rw [mThC, if_neg (fun q => g6 q.1)]; rfl) | (rw [mThC, if_neg (fun q => g14 q.2)]; rfl) | (rw [mThC, if_pos ⟨g6, g14⟩, if_pos h24]; rfl) | (rw [mThC, if_pos ⟨g6, g14⟩, if_neg h24, if_neg g40]; rfl) | (rw [mThC, if_pos ⟨g6, g14⟩, if_neg h24, if_pos g40]; rfl)]
          refine X_if_eq (pc := 51) C 56 dX7_call_51 (by decide) (fun h51 => ?_) (fun h51 => ?_)
          · have gg := bz00 h51
            have gx := mThC_0 gg hM
            rw [gg]
            refine X_aload_n (pc := 56) C 0 dX7_call_56 rfl rfl ?_
            refine X_aload_n (pc := 57) C 0 dX7_call_57 rfl rfl ?_
            refine G_X7_9 (pc := 58) C (by assumption) dX7_call_58 ?_
            refine K_X7_267 (pc := 61) C (by assumption) (c_X7_remember l P _ _ _ _ h1 ch hc8 (by rw [upd_76]; exact hch)) ⟨Nat.le_of_ble_eq_true rfl, Nat.le_of_ble_eq_true rfl⟩ ⟨rfl, rfl⟩ ⟨Nat.zero_le _, Nat.zero_le _⟩ (Nat.le_of_ble_eq_true rfl) dX7_call_61 ?_
            refine X_aload_n (pc := 64) C 0 dX7_call_64 rfl rfl ?_
            refine X_iload_n (pc := 65) C 1 dX7_call_65 rfl rfl ?_
            refine X_iload_n (pc := 66) C 2 dX7_call_66 rfl rfl ?_
            refine X_iconst (pc := 67) (v := (-1)) C dX7_call_67 (by decide) ?_
            refine X_iload_n (pc := 68) C 3 dX7_call_68 rfl rfl ?_
            refine X_if_eq (pc := 69) C 76 dX7_call_69 (by decide) (fun h69 => ?_) (fun h69 => ?_)
            · skip
              refine X_iconst (pc := 76) (v := 0) C dX7_call_76 (by decide) ?_
              refine K_X7_230 (pc := 77) C (by assumption) (c_X7_requests l P _ _ _ _ h1 hM gx.2.2 _ _ _ _ gx.1 (Or.inl ⟨rfl, gx.2.1⟩)) ⟨Nat.le_of_ble_eq_true rfl, Nat.le_of_ble_eq_true rfl⟩ ⟨rfl, rfl⟩ ⟨Nat.zero_le _, Nat.zero_le _⟩ (Nat.le_of_ble_eq_true rfl) dX7_call_77 ?_
              exact X_iret (pc := 80) C (Nat.zero_le _) (Nat.zero_le _) dX7_call_80 ⟨by first | (rw [if_neg gg]) | (rw [if_pos rfl]), by first | (rw [if_neg gg]) | (rw [if_pos rfl, ub, if_pos h69]) | (rw [if_pos rfl, ub, if_neg h69])⟩
            · skip
              refine X_iconst (pc := 72) (v := 1) C dX7_call_72 (by decide) ?_
              refine X_goto (pc := 73) C 77 dX7_call_73 (by decide) ?_
              refine K_X7_230 (pc := 77) C (by assumption) (c_X7_requests l P _ _ _ _ h1 hM gx.2.2 _ _ _ _ gx.1 (Or.inl ⟨rfl, gx.2.1⟩)) ⟨Nat.le_of_ble_eq_true rfl, Nat.le_of_ble_eq_true rfl⟩ ⟨rfl, rfl⟩ ⟨Nat.zero_le _, Nat.zero_le _⟩ (Nat.le_of_ble_eq_true rfl) dX7_call_77 ?_
              exact X_iret (pc := 80) C (Nat.zero_le _) (Nat.zero_le _) dX7_call_80 ⟨by first | (rw [if_neg gg]) | (rw [if_pos rfl]), by first | (rw [if_neg gg]) | (rw [if_pos rfl, ub, if_pos h69]) | (rw [if_pos rfl, ub, if_neg h69])⟩
          · have gg := bz01 h51
            refine X_iconst (pc := 54) (v := 0) C dX7_call_54 (by decide) ?_
            exact X_iret (pc := 55) C (Nat.zero_le _) (Nat.zero_le _) dX7_call_55 ⟨by first | (rw [if_neg gg]) | (rw [if_pos rfl]), by first | (rw [if_neg gg]) | (rw [if_pos rfl, ub, if_pos h69]) | (rw [if_pos rfl, ub, if_neg h69])⟩
      · skip
        refine X_iconst (pc := 27) (v := 1) C dX7_call_27 (by decide) ?_
        refine X_goto (pc := 28) C 32 dX7_call_28 (by decide) ?_
        refine X_aload_n (pc := 32) C 0 dX7_call_32 rfl rfl ?_
        refine G_X7_9 (pc := 33) C (by assumption) dX7_call_33 ?_
        refine X_iconst (pc := 36) (v := 5) C dX7_call_36 (by decide) ?_
        refine X_ialdN (j := 5) (pc := 37) C (by first | exact h1 _ (by decide) (by decide)) rfl (by omega) (by decide) dX7_call_37 ?_
        rw [mW_10]
        rw [hM.k]
        refine X_bipush (pc := 38) (v := 40) C dX7_call_38 (by decide) ?_
        refine X_icmp_ne (pc := 40) C 47 dX7_call_40 (by decide) (fun h40 => ?_) (fun h40 => ?_)
        · have g40 : ¬ mK S = 40 := fun q => h40 (by rw [q]; rfl)
          refine X_iconst (pc := 47) (v := 0) C dX7_call_47 (by decide) ?_
          refine K_X7_154 (pc := 48) C (by assumption) (c_X7_fails l P _ _ _ _ h1 _ _ _) ⟨Nat.le_of_ble_eq_true rfl, Nat.le_of_ble_eq_true rfl⟩ ⟨rfl, rfl⟩ ⟨Nat.zero_le _, Nat.zero_le _⟩ (Nat.le_of_ble_eq_true rfl) dX7_call_48 ?_
          rw [show mFl _ _ _ = (mThC S x y) from by first | (rw [mThC, if_neg (fun q => g6 q.1)]; rfl) | (rw [mThC, if_neg (fun q => g14 q.2)]; rfl) | (rw [mThC, if_pos ⟨g6, g14⟩, if_pos h24]; rfl) | (rw [mThC, if_pos ⟨g6, g14⟩, if_neg h24, if_neg g40]; rfl) | (rw [mThC, if_pos ⟨g6, g14⟩, if_neg h24, if_pos g40]; rfl)]
          refine X_if_eq (pc := 51) C 56 dX7_call_51 (by decide) (fun h51 => ?_) (fun h51 => ?_)
          · have gg := bz00 h51
            have gx := mThC_0 gg hM
            rw [gg]
            refine X_aload_n (pc := 56) C 0 dX7_call_56 rfl rfl ?_
            refine X_aload_n (pc := 57) C 0 dX7_call_57 rfl rfl ?_
            refine G_X7_9 (pc := 58) C (by assumption) dX7_call_58 ?_
            refine K_X7_267 (pc := 61) C (by assumption) (c_X7_remember l P _ _ _ _ h1 ch hc8 (by rw [upd_76]; exact hch)) ⟨Nat.le_of_ble_eq_true rfl, Nat.le_of_ble_eq_true rfl⟩ ⟨rfl, rfl⟩ ⟨Nat.zero_le _, Nat.zero_le _⟩ (Nat.le_of_ble_eq_true rfl) dX7_call_61 ?_
            refine X_aload_n (pc := 64) C 0 dX7_call_64 rfl rfl ?_
            refine X_iload_n (pc := 65) C 1 dX7_call_65 rfl rfl ?_
            refine X_iload_n (pc := 66) C 2 dX7_call_66 rfl rfl ?_
            refine X_iconst (pc := 67) (v := (-1)) C dX7_call_67 (by decide) ?_
            refine X_iload_n (pc := 68) C 3 dX7_call_68 rfl rfl ?_
            refine X_if_eq (pc := 69) C 76 dX7_call_69 (by decide) (fun h69 => ?_) (fun h69 => ?_)
            · skip
              refine X_iconst (pc := 76) (v := 0) C dX7_call_76 (by decide) ?_
              refine K_X7_230 (pc := 77) C (by assumption) (c_X7_requests l P _ _ _ _ h1 hM gx.2.2 _ _ _ _ gx.1 (Or.inl ⟨rfl, gx.2.1⟩)) ⟨Nat.le_of_ble_eq_true rfl, Nat.le_of_ble_eq_true rfl⟩ ⟨rfl, rfl⟩ ⟨Nat.zero_le _, Nat.zero_le _⟩ (Nat.le_of_ble_eq_true rfl) dX7_call_77 ?_
              exact X_iret (pc := 80) C (Nat.zero_le _) (Nat.zero_le _) dX7_call_80 ⟨by first | (rw [if_neg gg]) | (rw [if_pos rfl]), by first | (rw [if_neg gg]) | (rw [if_pos rfl, ub, if_pos h69]) | (rw [if_pos rfl, ub, if_neg h69])⟩
            · skip
              refine X_iconst (pc := 72) (v := 1) C dX7_call_72 (by decide) ?_
              refine X_goto (pc := 73) C 77 dX7_call_73 (by decide) ?_
              refine K_X7_230 (pc := 77) C (by assumption) (c_X7_requests l P _ _ _ _ h1 hM gx.2.2 _ _ _ _ gx.1 (Or.inl ⟨rfl, gx.2.1⟩)) ⟨Nat.le_of_ble_eq_true rfl, Nat.le_of_ble_eq_true rfl⟩ ⟨rfl, rfl⟩ ⟨Nat.zero_le _, Nat.zero_le _⟩ (Nat.le_of_ble_eq_true rfl) dX7_call_77 ?_
              exact X_iret (pc := 80) C (Nat.zero_le _) (Nat.zero_le _) dX7_call_80 ⟨by first | (rw [if_neg gg]) | (rw [if_pos rfl]), by first | (rw [if_neg gg]) | (rw [if_pos rfl, ub, if_pos h69]) | (rw [if_pos rfl, ub, if_neg h69])⟩
          · have gg := bz01 h51
            refine X_iconst (pc := 54) (v := 0) C dX7_call_54 (by decide) ?_
            exact X_iret (pc := 55) C (Nat.zero_le _) (Nat.zero_le _) dX7_call_55 ⟨by first | (rw [if_neg gg]) | (rw [if_pos rfl]), by first | (rw [if_neg gg]) | (rw [if_pos rfl, ub, if_pos h69]) | (rw [if_pos rfl, ub, if_neg h69])⟩
        · have g40 : mK S = 40 := neq (b := 40) h40 (by have := hM.k40; omega)
          refine X_iconst (pc := 43) (v := 1) C dX7_call_43 (by decide) ?_
          refine X_goto (pc := 44) C 48 dX7_call_44 (by decide) ?_
          refine K_X7_154 (pc := 48) C (by assumption) (c_X7_fails l P _ _ _ _ h1 _ _ _) ⟨Nat.le_of_ble_eq_true rfl, Nat.le_of_ble_eq_true rfl⟩ ⟨rfl, rfl⟩ ⟨Nat.zero_le _, Nat.zero_le _⟩ (Nat.le_of_ble_eq_true rfl) dX7_call_48 ?_
          rw [show mFl _ _ _ = (mThC S x y) from by first | (rw [mThC, if_neg (fun q => g6 q.1)]; rfl) | (rw [mThC, if_neg (fun q => g14 q.2)]; rfl) | (rw [mThC, if_pos ⟨g6, g14⟩, if_pos h24]; rfl) | (rw [mThC, if_pos ⟨g6, g14⟩, if_neg h24, if_neg g40]; rfl) | (rw [mThC, if_pos ⟨g6, g14⟩, if_neg h24, if_pos g40]; rfl)]
          refine X_if_eq (pc := 51) C 56 dX7_call_51 (by decide) (fun h51 => ?_) (fun h51 => ?_)
          · have gg := bz00 h51
            have gx := mThC_0 gg hM
            rw [gg]
            refine X_aload_n (pc := 56) C 0 dX7_call_56 rfl rfl ?_
            refine X_aload_n (pc := 57) C 0 dX7_call_57 rfl rfl ?_
            refine G_X7_9 (pc := 58) C (by assumption) dX7_call_58 ?_
            refine K_X7_267 (pc := 61) C (by assumption) (c_X7_remember l P _ _ _ _ h1 ch hc8 (by rw [upd_76]; exact hch)) ⟨Nat.le_of_ble_eq_true rfl, Nat.le_of_ble_eq_true rfl⟩ ⟨rfl, rfl⟩ ⟨Nat.zero_le _, Nat.zero_le _⟩ (Nat.le_of_ble_eq_true rfl) dX7_call_61 ?_
            refine X_aload_n (pc := 64) C 0 dX7_call_64 rfl rfl ?_
            refine X_iload_n (pc := 65) C 1 dX7_call_65 rfl rfl ?_
            refine X_iload_n (pc := 66) C 2 dX7_call_66 rfl rfl ?_
            refine X_iconst (pc := 67) (v := (-1)) C dX7_call_67 (by decide) ?_
            refine X_iload_n (pc := 68) C 3 dX7_call_68 rfl rfl ?_
            refine X_if_eq (pc := 69) C 76 dX7_call_69 (by decide) (fun h69 => ?_) (fun h69 => ?_)
            · skip
              refine X_iconst (pc := 76) (v := 0) C dX7_call_76 (by decide) ?_
              refine K_X7_230 (pc := 77) C (by assumption) (c_X7_requests l P _ _ _ _ h1 hM gx.2.2 _ _ _ _ gx.1 (Or.inl ⟨rfl, gx.2.1⟩)) ⟨Nat.le_of_ble_eq_true rfl, Nat.le_of_ble_eq_true rfl⟩ ⟨rfl, rfl⟩ ⟨Nat.zero_le _, Nat.zero_le _⟩ (Nat.le_of_ble_eq_true rfl) dX7_call_77 ?_
              exact X_iret (pc := 80) C (Nat.zero_le _) (Nat.zero_le _) dX7_call_80 ⟨by first | (rw [if_neg gg]) | (rw [if_pos rfl]), by first | (rw [if_neg gg]) | (rw [if_pos rfl, ub, if_pos h69]) | (rw [if_pos rfl, ub, if_neg h69])⟩
            · skip
              refine X_iconst (pc := 72) (v := 1) C dX7_call_72 (by decide) ?_
              refine X_goto (pc := 73) C 77 dX7_call_73 (by decide) ?_
              refine K_X7_230 (pc := 77) C (by assumption) (c_X7_requests l P _ _ _ _ h1 hM gx.2.2 _ _ _ _ gx.1 (Or.inl ⟨rfl, gx.2.1⟩)) ⟨Nat.le_of_ble_eq_true rfl, Nat.le_of_ble_eq_true rfl⟩ ⟨rfl, rfl⟩ ⟨Nat.zero_le _, Nat.zero_le _⟩ (Nat.le_of_ble_eq_true rfl) dX7_call_77 ?_
              exact X_iret (pc := 80) C (Nat.zero_le _) (Nat.zero_le _) dX7_call_80 ⟨by first | (rw [if_neg gg]) | (rw [if_pos rfl]), by first | (rw [if_neg gg]) | (rw [if_pos rfl, ub, if_pos h69]) | (rw [if_pos rfl, ub, if_neg h69])⟩
          · have gg := bz01 h51
            refine X_iconst (pc := 54) (v := 0) C dX7_call_54 (by decide) ?_
            exact X_iret (pc := 55) C (Nat.zero_le _) (Nat.zero_le _) dX7_call_55 ⟨by first | (rw [if_neg gg]) | (rw [if_pos rfl]), by first | (rw [if_neg gg]) | (rw [if_pos rfl, ub, if_pos h69]) | (rw [if_pos rfl, ub, if_neg h69])⟩
    · have g14 := bz01 h14
      refine X_iconst (pc := 17) (v := 1) C dX7_call_17 (by decide) ?_
      refine X_goto (pc := 18) C 22 dX7_call_18 (by decide) ?_
      refine X_iload_n (pc := 22) C 1 dX7_call_22 rfl rfl ?_
      refine X_iload_n (pc := 23) C 2 dX7_call_23 rfl rfl ?_
      refine X_icmp_ne (pc := 24) C 31 dX7_call_24 (by decide) (fun h24 => ?_) (fun h24 => ?_)
      · skip
        refine X_iconst (pc := 31) (v := 0) C dX7_call_31 (by decide) ?_
        refine X_aload_n (pc := 32) C 0 dX7_call_32 rfl rfl ?_
        refine G_X7_9 (pc := 33) C (by assumption) dX7_call_33 ?_
        refine X_iconst (pc := 36) (v := 5) C dX7_call_36 (by decide) ?_
        refine X_ialdN (j := 5) (pc := 37) C (by first | exact h1 _ (by decide) (by decide)) rfl (by omega) (by decide) dX7_call_37 ?_
        rw [mW_10]
        rw [hM.k]
        refine X_bipush (pc := 38) (v := 40) C dX7_call_38 (by decide) ?_
        refine X_icmp_ne (pc := 40) C 47 dX7_call_40 (by decide) (fun h40 => ?_) (fun h40 => ?_)
        · have g40 : ¬ mK S = 40 := fun q => h40 (by rw [q]; rfl)
          refine X_iconst (pc := 47) (v := 0) C dX7_call_47 (by decide) ?_
          refine K_X7_154 (pc := 48) C (by assumption) (c_X7_fails l P _ _ _ _ h1 _ _ _) ⟨Nat.le_of_ble_eq_true rfl, Nat.le_of_ble_eq_true rfl⟩ ⟨rfl, rfl⟩ ⟨Nat.zero_le _, Nat.zero_le _⟩ (Nat.le_of_ble_eq_true rfl) dX7_call_48 ?_
          rw [show mFl _ _ _ = (mThC S x y) from by first | (rw [mThC, if_neg (fun q => g6 q.1)]; rfl) | (rw [mThC, if_neg (fun q => g14 q.2)]; rfl) | (rw [mThC, if_pos ⟨g6, g14⟩, if_pos h24]; rfl) | (rw [mThC, if_pos ⟨g6, g14⟩, if_neg h24, if_neg g40]; rfl) | (rw [mThC, if_pos ⟨g6, g14⟩, if_neg h24, if_pos g40]; rfl)]
          refine X_if_eq (pc := 51) C 56 dX7_call_51 (by decide) (fun h51 => ?_) (fun h51 => ?_)
          · have gg := bz00 h51
            have gx := mThC_0 gg hM
            rw [gg]
            refine X_aload_n (pc := 56) C 0 dX7_call_56 rfl rfl ?_
            refine X_aload_n (pc := 57) C 0 dX7_call_57 rfl rfl ?_
            refine G_X7_9 (pc := 58) C (by assumption) dX7_call_58 ?_
            refine K_X7_267 (pc := 61) C (by assumption) (c_X7_remember l P _ _ _ _ h1 ch hc8 (by rw [upd_76]; exact hch)) ⟨Nat.le_of_ble_eq_true rfl, Nat.le_of_ble_eq_true rfl⟩ ⟨rfl, rfl⟩ ⟨Nat.zero_le _, Nat.zero_le _⟩ (Nat.le_of_ble_eq_true rfl) dX7_call_61 ?_
            refine X_aload_n (pc := 64) C 0 dX7_call_64 rfl rfl ?_
            refine X_iload_n (pc := 65) C 1 dX7_call_65 rfl rfl ?_
            refine X_iload_n (pc := 66) C 2 dX7_call_66 rfl rfl ?_
            refine X_iconst (pc := 67) (v := (-1)) C dX7_call_67 (by decide) ?_
            refine X_iload_n (pc := 68) C 3 dX7_call_68 rfl rfl ?_
            refine X_if_eq (pc := 69) C 76 dX7_call_69 (by decide) (fun h69 => ?_) (fun h69 => ?_)
            · skip
              refine X_iconst (pc := 76) (v := 0) C dX7_call_76 (by decide) ?_
              refine K_X7_230 (pc := 77) C (by assumption) (c_X7_requests l P _ _ _ _ h1 hM gx.2.2 _ _ _ _ gx.1 (Or.inl ⟨rfl, gx.2.1⟩)) ⟨Nat.le_of_ble_eq_true rfl, Nat.le_of_ble_eq_true rfl⟩ ⟨rfl, rfl⟩ ⟨Nat.zero_le _, Nat.zero_le _⟩ (Nat.le_of_ble_eq_true rfl) dX7_call_77 ?_
              exact X_iret (pc := 80) C (Nat.zero_le _) (Nat.zero_le _) dX7_call_80 ⟨by first | (rw [if_neg gg]) | (rw [if_pos rfl]), by first | (rw [if_neg gg]) | (rw [if_pos rfl, ub, if_pos h69]) | (rw [if_pos rfl, ub, if_neg h69])⟩
            · skip
              refine X_iconst (pc := 72) (v := 1) C dX7_call_72 (by decide) ?_
              refine X_goto (pc := 73) C 77 dX7_call_73 (by decide) ?_
              refine K_X7_230 (pc := 77) C (by assumption) (c_X7_requests l P _ _ _ _ h1 hM gx.2.2 _ _ _ _ gx.1 (Or.inl ⟨rfl, gx.2.1⟩)) ⟨Nat.le_of_ble_eq_true rfl, Nat.le_of_ble_eq_true rfl⟩ ⟨rfl, rfl⟩ ⟨Nat.zero_le _, Nat.zero_le _⟩ (Nat.le_of_ble_eq_true rfl) dX7_call_77 ?_
              exact X_iret (pc := 80) C (Nat.zero_le _) (Nat.zero_le _) dX7_call_80 ⟨by first | (rw [if_neg gg]) | (rw [if_pos rfl]), by first | (rw [if_neg gg]) | (rw [if_pos rfl, ub, if_pos h69]) | (rw [if_pos rfl, ub, if_neg h69])⟩
          · have gg := bz01 h51
            refine X_iconst (pc := 54) (v := 0) C dX7_call_54 (by decide) ?_
            exact X_iret (pc := 55) C (Nat.zero_le _) (Nat.zero_le _) dX7_call_55 ⟨by first | (rw [if_neg gg]) | (rw [if_pos rfl]), by first | (rw [if_neg gg]) | (rw [if_pos rfl, ub, if_pos h69]) | (rw [if_pos rfl, ub, if_neg h69])⟩
        · have g40 : mK S = 40 := neq (b := 40) h40 (by have := hM.k40; omega)
          refine X_iconst (pc := 43) (v := 1) C dX7_call_43 (by decide) ?_
          refine X_goto (pc := 44) C 48 dX7_call_44 (by decide) ?_
          refine K_X7_154 (pc := 48) C (by assumption) (c_X7_fails l P _ _ _ _ h1 _ _ _) ⟨Nat.le_of_ble_eq_true rfl, Nat.le_of_ble_eq_true rfl⟩ ⟨rfl, rfl⟩ ⟨Nat.zero_le _, Nat.zero_le _⟩ (Nat.le_of_ble_eq_true rfl) dX7_call_48 ?_
          rw [show mFl _ _ _ = (mThC S x y) from by first | (rw [mThC, if_neg (fun q => g6 q.1)]; rfl) | (rw [mThC, if_neg (fun q => g14 q.2)]; rfl) | (rw [mThC, if_pos ⟨g6, g14⟩, if_pos h24]; rfl) | (rw [mThC, if_pos ⟨g6, g14⟩, if_neg h24, if_neg g40]; rfl) | (rw [mThC, if_pos ⟨g6, g14⟩, if_neg h24, if_pos g40]; rfl)]
          refine X_if_eq (pc := 51) C 56 dX7_call_51 (by decide) (fun h51 => ?_) (fun h51 => ?_)
          · have gg := bz00 h51
            have gx := mThC_0 gg hM
            rw [gg]
            refine X_aload_n (pc := 56) C 0 dX7_call_56 rfl rfl ?_
            refine X_aload_n (pc := 57) C 0 dX7_call_57 rfl rfl ?_
            refine G_X7_9 (pc := 58) C (by assumption) dX7_call_58 ?_
            refine K_X7_267 (pc := 61) C (by assumption) (c_X7_remember l P _ _ _ _ h1 ch hc8 (by rw [upd_76]; exact hch)) ⟨Nat.le_of_ble_eq_true rfl, Nat.le_of_ble_eq_true rfl⟩ ⟨rfl, rfl⟩ ⟨Nat.zero_le _, Nat.zero_le _⟩ (Nat.le_of_ble_eq_true rfl) dX7_call_61 ?_
            refine X_aload_n (pc := 64) C 0 dX7_call_64 rfl rfl ?_
            refine X_iload_n (pc := 65) C 1 dX7_call_65 rfl rfl ?_
            refine X_iload_n (pc := 66) C 2 dX7_call_66 rfl rfl ?_
            refine X_iconst (pc := 67) (v := (-1)) C dX7_call_67 (by decide) ?_
            refine X_iload_n (pc := 68) C 3 dX7_call_68 rfl rfl ?_
            refine X_if_eq (pc := 69) C 76 dX7_call_69 (by decide) (fun h69 => ?_) (fun h69 => ?_)
            · skip
              refine X_iconst (pc := 76) (v := 0) C dX7_call_76 (by decide) ?_
              refine K_X7_230 (pc := 77) C (by assumption) (c_X7_requests l P _ _ _ _ h1 hM gx.2.2 _ _ _ _ gx.1 (Or.inl ⟨rfl, gx.2.1⟩)) ⟨Nat.le_of_ble_eq_true rfl, Nat.le_of_ble_eq_true rfl⟩ ⟨rfl, rfl⟩ ⟨Nat.zero_le _, Nat.zero_le _⟩ (Nat.le_of_ble_eq_true rfl) dX7_call_77 ?_
              exact X_iret (pc := 80) C (Nat.zero_le _) (Nat.zero_le _) dX7_call_80 ⟨by first | (rw [if_neg gg]) | (rw [if_pos rfl]), by first | (rw [if_neg gg]) | (rw [if_pos rfl, ub, if_pos h69]) | (rw [if_pos rfl, ub, if_neg h69])⟩
            · skip
              refine X_iconst (pc := 72) (v := 1) C dX7_call_72 (by decide) ?_
              refine X_goto (pc := 73) C 77 dX7_call_73 (by decide) ?_
              refine K_X7_230 (pc := 77) C (by assumption) (c_X7_requests l P _ _ _ _ h1 hM gx.2.2 _ _ _ _ gx.1 (Or.inl ⟨rfl, gx.2.1⟩)) ⟨Nat.le_of_ble_eq_true rfl, Nat.le_of_ble_eq_true rfl⟩ ⟨rfl, rfl⟩ ⟨Nat.zero_le _, Nat.zero_le _⟩ (Nat.le_of_ble_eq_true rfl) dX7_call_77 ?_
              exact X_iret (pc := 80) C (Nat.zero_le _) (Nat.zero_le _) dX7_call_80 ⟨by first | (rw [if_neg gg]) | (rw [if_pos rfl]), by first | (rw [if_neg gg]) | (rw [if_pos rfl, ub, if_pos h69]) | (rw [if_pos rfl, ub, if_neg h69])⟩
          · have gg := bz01 h51
            refine X_iconst (pc := 54) (v := 0) C dX7_call_54 (by decide) ?_
            exact X_iret (pc := 55) C (Nat.zero_le _) (Nat.zero_le _) dX7_call_55 ⟨by first | (rw [if_neg gg]) | (rw [if_pos rfl]), by first | (rw [if_neg gg]) | (rw [if_pos rfl, ub, if_pos h69]) | (rw [if_pos rfl, ub, if_neg h69])⟩
      · skip
        refine X_iconst (pc := 27) (v := 1) C dX7_call_27 (by decide) ?_
        refine X_goto (pc := 28) C 32 dX7_call_28 (by decide) ?_
        refine X_aload_n (pc := 32) C 0 dX7_call_32 rfl rfl ?_
        refine G_X7_9 (pc := 33) C (by assumption) dX7_call_33 ?_
        refine X_iconst (pc := 36) (v := 5) C dX7_call_36 (by decide) ?_
        refine X_ialdN (j := 5) (pc := 37) C (by first | exact h1 _ (by decide) (by decide)) rfl (by omega) (by decide) dX7_call_37 ?_
        rw [mW_10]
        rw [hM.k]
        refine X_bipush (pc := 38) (v := 40) C dX7_call_38 (by decide) ?_
        refine X_icmp_ne (pc := 40) C 47 dX7_call_40 (by decide) (fun h40 => ?_) (fun h40 => ?_)
        · have g40 : ¬ mK S = 40 := fun q => h40 (by rw [q]; rfl)
          refine X_iconst (pc := 47) (v := 0) C dX7_call_47 (by decide) ?_
          refine K_X7_154 (pc := 48) C (by assumption) (c_X7_fails l P _ _ _ _ h1 _ _ _) ⟨Nat.le_of_ble_eq_true rfl, Nat.le_of_ble_eq_true rfl⟩ ⟨rfl, rfl⟩ ⟨Nat.zero_le _, Nat.zero_le _⟩ (Nat.le_of_ble_eq_true rfl) dX7_call_48 ?_
          rw [show mFl _ _ _ = (mThC S x y) from by first | (rw [mThC, if_neg (fun q => g6 q.1)]; rfl) | (rw [mThC, if_neg (fun q => g14 q.2)]; rfl) | (rw [mThC, if_pos ⟨g6, g14⟩, if_pos h24]; rfl) | (rw [mThC, if_pos ⟨g6, g14⟩, if_neg h24, if_neg g40]; rfl) | (rw [mThC, if_pos ⟨g6, g14⟩, if_neg h24, if_pos g40]; rfl)]
          refine X_if_eq (pc := 51) C 56 dX7_call_51 (by decide) (fun h51 => ?_) (fun h51 => ?_)
          · have gg := bz00 h51
            have gx := mThC_0 gg hM
            rw [gg]
            refine X_aload_n (pc := 56) C 0 dX7_call_56 rfl rfl ?_
            refine X_aload_n (pc := 57) C 0 dX7_call_57 rfl rfl ?_
            refine G_X7_9 (pc := 58) C (by assumption) dX7_call_58 ?_
            refine K_X7_267 (pc := 61) C (by assumption) (c_X7_remember l P _ _ _ _ h1 ch hc8 (by rw [upd_76]; exact hch)) ⟨Nat.le_of_ble_eq_true rfl, Nat.le_of_ble_eq_true rfl⟩ ⟨rfl, rfl⟩ ⟨Nat.zero_le _, Nat.zero_le _⟩ (Nat.le_of_ble_eq_true rfl) dX7_call_61 ?_
            refine X_aload_n (pc := 64) C 0 dX7_call_64 rfl rfl ?_
            refine X_iload_n (pc := 65) C 1 dX7_call_65 rfl rfl ?_
            refine X_iload_n (pc := 66) C 2 dX7_call_66 rfl rfl ?_
            refine X_iconst (pc := 67) (v := (-1)) C dX7_call_67 (by decide) ?_
            refine X_iload_n (pc := 68) C 3 dX7_call_68 rfl rfl ?_
            refine X_if_eq (pc := 69) C 76 dX7_call_69 (by decide) (fun h69 => ?_) (fun h69 => ?_)
            · skip
              refine X_iconst (pc := 76) (v := 0) C dX7_call_76 (by decide) ?_
              refine K_X7_230 (pc := 77) C (by assumption) (c_X7_requests l P _ _ _ _ h1 hM gx.2.2 _ _ _ _ gx.1 (Or.inl ⟨rfl, gx.2.1⟩)) ⟨Nat.le_of_ble_eq_true rfl, Nat.le_of_ble_eq_true rfl⟩ ⟨rfl, rfl⟩ ⟨Nat.zero_le _, Nat.zero_le _⟩ (Nat.le_of_ble_eq_true rfl) dX7_call_77 ?_
              exact X_iret (pc := 80) C (Nat.zero_le _) (Nat.zero_le _) dX7_call_80 ⟨by first | (rw [if_neg gg]) | (rw [if_pos rfl]), by first | (rw [if_neg gg]) | (rw [if_pos rfl, ub, if_pos h69]) | (rw [if_pos rfl, ub, if_neg h69])⟩
            · skip
              refine X_iconst (pc := 72) (v := 1) C dX7_call_72 (by decide) ?_
              refine X_goto (pc := 73) C 77 dX7_call_73 (by decide) ?_
              refine K_X7_230 (pc := 77) C (by assumption) (c_X7_requests l P _ _ _ _ h1 hM gx.2.2 _ _ _ _ gx.1 (Or.inl ⟨rfl, gx.2.1⟩)) ⟨Nat.le_of_ble_eq_true rfl, Nat.le_of_ble_eq_true rfl⟩ ⟨rfl, rfl⟩ ⟨Nat.zero_le _, Nat.zero_le _⟩ (Nat.le_of_ble_eq_true rfl) dX7_call_77 ?_
              exact X_iret (pc := 80) C (Nat.zero_le _) (Nat.zero_le _) dX7_call_80 ⟨by first | (rw [if_neg gg]) | (rw [if_pos rfl]), by first | (rw [if_neg gg]) | (rw [if_pos rfl, ub, if_pos h69]) | (rw [if_pos rfl, ub, if_neg h69])⟩
          · have gg := bz01 h51
            refine X_iconst (pc := 54) (v := 0) C dX7_call_54 (by decide) ?_
            exact X_iret (pc := 55) C (Nat.zero_le _) (Nat.zero_le _) dX7_call_55 ⟨by first | (rw [if_neg gg]) | (rw [if_pos rfl]), by first | (rw [if_neg gg]) | (rw [if_pos rfl, ub, if_pos h69]) | (rw [if_pos rfl, ub, if_neg h69])⟩
        · have g40 : mK S = 40 := neq (b := 40) h40 (by have := hM.k40; omega)
          refine X_iconst (pc := 43) (v := 1) C dX7_call_43 (by decide) ?_
          refine X_goto (pc := 44) C 48 dX7_call_44 (by decide) ?_
          refine K_X7_154 (pc := 48) C (by assumption) (c_X7_fails l P _ _ _ _ h1 _ _ _) ⟨Nat.le_of_ble_eq_true rfl, Nat.le_of_ble_eq_true rfl⟩ ⟨rfl, rfl⟩ ⟨Nat.zero_le _, Nat.zero_le _⟩ (Nat.le_of_ble_eq_true rfl) dX7_call_48 ?_
          rw [show mFl _ _ _ = (mThC S x y) from by first | (rw [mThC, if_neg (fun q => g6 q.1)]; rfl) | (rw [mThC, if_neg (fun q => g14 q.2)]; rfl) | (rw [mThC, if_pos ⟨g6, g14⟩, if_pos h24]; rfl) | (rw [mThC, if_pos ⟨g6, g14⟩, if_neg h24, if_neg g40]; rfl) | (rw [mThC, if_pos ⟨g6, g14⟩, if_neg h24, if_pos g40]; rfl)]
          refine X_if_eq (pc := 51) C 56 dX7_call_51 (by decide) (fun h51 => ?_) (fun h51 => ?_)
          · have gg := bz00 h51
            have gx := mThC_0 gg hM
            rw [gg]
            refine X_aload_n (pc := 56) C 0 dX7_call_56 rfl rfl ?_
            refine X_aload_n (pc := 57) C 0 dX7_call_57 rfl rfl ?_
            refine G_X7_9 (pc := 58) C (by assumption) dX7_call_58 ?_
            refine K_X7_267 (pc := 61) C (by assumption) (c_X7_remember l P _ _ _ _ h1 ch hc8 (by rw [upd_76]; exact hch)) ⟨Nat.le_of_ble_eq_true rfl, Nat.le_of_ble_eq_true rfl⟩ ⟨rfl, rfl⟩ ⟨Nat.zero_le _, Nat.zero_le _⟩ (Nat.le_of_ble_eq_true rfl) dX7_call_61 ?_
            refine X_aload_n (pc := 64) C 0 dX7_call_64 rfl rfl ?_
            refine X_iload_n (pc := 65) C 1 dX7_call_65 rfl rfl ?_
            refine X_iload_n (pc := 66) C 2 dX7_call_66 rfl rfl ?_
            refine X_iconst (pc := 67) (v := (-1)) C dX7_call_67 (by decide) ?_
            refine X_iload_n (pc := 68) C 3 dX7_call_68 rfl rfl ?_
            refine X_if_eq (pc := 69) C 76 dX7_call_69 (by decide) (fun h69 => ?_) (fun h69 => ?_)
            · skip
              refine X_iconst (pc := 76) (v := 0) C dX7_call_76 (by decide) ?_
              refine K_X7_230 (pc := 77) C (by assumption) (c_X7_requests l P _ _ _ _ h1 hM gx.2.2 _ _ _ _ gx.1 (Or.inl ⟨rfl, gx.2.1⟩)) ⟨Nat.le_of_ble_eq_true rfl, Nat.le_of_ble_eq_true rfl⟩ ⟨rfl, rfl⟩ ⟨Nat.zero_le _, Nat.zero_le _⟩ (Nat.le_of_ble_eq_true rfl) dX7_call_77 ?_
              exact X_iret (pc := 80) C (Nat.zero_le _) (Nat.zero_le _) dX7_call_80 ⟨by first | (rw [if_neg gg]) | (rw [if_pos rfl]), by first | (rw [if_neg gg]) | (rw [if_pos rfl, ub, if_pos h69]) | (rw [if_pos rfl, ub, if_neg h69])⟩
            · skip
              refine X_iconst (pc := 72) (v := 1) C dX7_call_72 (by decide) ?_
              refine X_goto (pc := 73) C 77 dX7_call_73 (by decide) ?_
              refine K_X7_230 (pc := 77) C (by assumption) (c_X7_requests l P _ _ _ _ h1 hM gx.2.2 _ _ _ _ gx.1 (Or.inl ⟨rfl, gx.2.1⟩)) ⟨Nat.le_of_ble_eq_true rfl, Nat.le_of_ble_eq_true rfl⟩ ⟨rfl, rfl⟩ ⟨Nat.zero_le _, Nat.zero_le _⟩ (Nat.le_of_ble_eq_true rfl) dX7_call_77 ?_
              exact X_iret (pc := 80) C (Nat.zero_le _) (Nat.zero_le _) dX7_call_80 ⟨by first | (rw [if_neg gg]) | (rw [if_pos rfl]), by first | (rw [if_neg gg]) | (rw [if_pos rfl, ub, if_pos h69]) | (rw [if_pos rfl, ub, if_neg h69])⟩
          · have gg := bz01 h51
            refine X_iconst (pc := 54) (v := 0) C dX7_call_54 (by decide) ?_
            exact X_iret (pc := 55) C (Nat.zero_le _) (Nat.zero_le _) dX7_call_55 ⟨by first | (rw [if_neg gg]) | (rw [if_pos rfl]), by first | (rw [if_neg gg]) | (rw [if_pos rfl, ub, if_pos h69]) | (rw [if_pos rfl, ub, if_neg h69])⟩

set_option maxRecDepth 100000 in
set_option maxHeartbeats 4000000 in
theorem c_X7_callTrunk (l : Launch) (P : XP) (τ : XS) (S F L : Nat → Int32) (h1 : xI1 P) (hM : MI S) (ch : Nat) (hc8 : ch ≤ 8) (hch : F 6 = nI ch) (x y u : Int32) : XF l yX7_callTrunk cX7_callTrunk 4 (some .int) rm_X7_callTrunk P [.ref (P.2.2.1 (.inr 9)), .int x, .int y, .int u] (mW τ S F L) (some (.int (if (mThT S x y) = 0 then nI (mK S) else 0))) (if (mThT S x y) = 0 then mW (mRw τ S ch) (mReq S x (-1) y (ub u)) (upd (upd F 7 0) 6 (nI (mNx ch))) L else mW τ S (upd F 7 ((mThT S x y))) L) := by
  refine XM.of (by decide +kernel) (Nat.le_of_ble_eq_true rfl) (fun p e s m args below meth c A C => ?_)
  replace C : XC p s m args meth c P A 4 RX7 cX7_callTrunk (some .int) := C
  refine XW.eq (lv' := [(0, _), (1, _), (2, _), (3, _)]) rfl rfl rfl ?_
  refine X_aload_n (pc := 0) C 0 dX7_callTrunk_0 rfl rfl ?_
  refine X_aload_n (pc := 1) C 0 dX7_callTrunk_1 rfl rfl ?_
  refine X_iload_n (pc := 2) C 1 dX7_callTrunk_2 rfl rfl ?_
  refine K_X7_288 (pc := 3) C (by assumption) (c_X7_noUser l P _ _ _ _ h1 (mU S) (by have := hM.u15; omega) hM.u x) ⟨Nat.le_of_ble_eq_true rfl, Nat.le_of_ble_eq_true rfl⟩ ⟨rfl, rfl⟩ ⟨Nat.zero_le _, Nat.zero_le _⟩ (Nat.le_of_ble_eq_true rfl) dX7_callTrunk_3 ?_
  refine X_if_ne (pc := 6) C 17 dX7_callTrunk_6 (by decide) (fun h6 => ?_) (fun h6 => ?_)
  · have g6 := bz01 h6
    refine X_iconst (pc := 17) (v := 1) C dX7_callTrunk_17 (by decide) ?_
    refine X_goto (pc := 18) C 22 dX7_callTrunk_18 (by decide) ?_
    refine X_aload_n (pc := 22) C 0 dX7_callTrunk_22 rfl rfl ?_
    refine G_X7_9 (pc := 23) C (by assumption) dX7_callTrunk_23 ?_
    refine X_iconst (pc := 26) (v := 5) C dX7_callTrunk_26 (by decide) ?_
    refine X_ialdN (j := 5) (pc := 27) C (by first | exact h1 _ (by decide) (by decide)) rfl (by omega) (by decide) dX7_callTrunk_27 ?_
    rw [mW_10]
    rw [hM.k]
    refine X_bipush (pc := 28) (v := 40) C dX7_callTrunk_28 (by decide) ?_
    refine X_icmp_ne (pc := 30) C 37 dX7_callTrunk_30 (by decide) (fun h30 => ?_) (fun h30 => ?_)
    · have g40 : ¬ mK S = 40 := fun q => h30 (by rw [q]; rfl)
      refine X_iconst (pc := 37) (v := 0) C dX7_callTrunk_37 (by decide) ?_
      refine X_iconst (pc := 38) (v := 0) C dX7_callTrunk_38 (by decide) ?_
      refine K_X7_154 (pc := 39) C (by assumption) (c_X7_fails l P _ _ _ _ h1 _ _ _) ⟨Nat.le_of_ble_eq_true rfl, Nat.le_of_ble_eq_true rfl⟩ ⟨rfl, rfl⟩ ⟨Nat.zero_le _, Nat.zero_le _⟩ (Nat.le_of_ble_eq_true rfl) dX7_callTrunk_39 ?_
      rw [show mFl _ _ _ = (mThT S x y) from by first | (rw [mThT, if_neg (fun q => g6 q.1)]; rfl) | (rw [mThT, if_neg (fun q => g14 q.2)]; rfl) | (rw [mThT, if_pos ⟨g6, g14⟩, if_neg g40]; rfl) | (rw [mThT, if_pos ⟨g6, g14⟩, if_pos g40]; rfl)]
      refine X_if_eq (pc := 42) C 47 dX7_callTrunk_42 (by decide) (fun h42 => ?_) (fun h42 => ?_)
      · have gg := bz00 h42
        have gx := mThT_0 gg hM
        rw [gg]
        refine X_aload_n (pc := 47) C 0 dX7_callTrunk_47 rfl rfl ?_
        refine X_aload_n (pc := 48) C 0 dX7_callTrunk_48 rfl rfl ?_
        refine G_X7_9 (pc := 49) C (by assumption) dX7_callTrunk_49 ?_
        refine K_X7_267 (pc := 52) C (by assumption) (c_X7_remember l P _ _ _ _ h1 ch hc8 (by rw [upd_76]; exact hch)) ⟨Nat.le_of_ble_eq_true rfl, Nat.le_of_ble_eq_true rfl⟩ ⟨rfl, rfl⟩ ⟨Nat.zero_le _, Nat.zero_le _⟩ (Nat.le_of_ble_eq_true rfl) dX7_callTrunk_52 ?_
        refine X_aload_n (pc := 55) C 0 dX7_callTrunk_55 rfl rfl ?_
        refine X_iload_n (pc := 56) C 1 dX7_callTrunk_56 rfl rfl ?_
        refine X_iconst (pc := 57) (v := (-1)) C dX7_callTrunk_57 (by decide) ?_
        refine X_iload_n (pc := 58) C 2 dX7_callTrunk_58 rfl rfl ?_
        refine X_iload_n (pc := 59) C 3 dX7_callTrunk_59 rfl rfl ?_
        refine X_if_eq (pc := 60) C 67 dX7_callTrunk_60 (by decide) (fun h60 => ?_) (fun h60 => ?_)
        · skip
          refine X_iconst (pc := 67) (v := 0) C dX7_callTrunk_67 (by decide) ?_
          refine K_X7_230 (pc := 68) C (by assumption) (c_X7_requests l P _ _ _ _ h1 hM gx.2.2 _ _ _ _ gx.1 (Or.inr ⟨rfl, gx.2.1⟩)) ⟨Nat.le_of_ble_eq_true rfl, Nat.le_of_ble_eq_true rfl⟩ ⟨rfl, rfl⟩ ⟨Nat.zero_le _, Nat.zero_le _⟩ (Nat.le_of_ble_eq_true rfl) dX7_callTrunk_68 ?_
          exact X_iret (pc := 71) C (Nat.zero_le _) (Nat.zero_le _) dX7_callTrunk_71 ⟨by first | (rw [if_neg gg]) | (rw [if_pos rfl]), by first | (rw [if_neg gg]) | (rw [if_pos rfl, ub, if_pos h60]) | (rw [if_pos rfl, ub, if_neg h60])⟩
        · skip
          refine X_iconst (pc := 63) (v := 1) C dX7_callTrunk_63 (by decide) ?_
          refine X_goto (pc := 64) C 68 dX7_callTrunk_64 (by decide) ?_
          refine K_X7_230 (pc := 68) C (by assumption) (c_X7_requests l P _ _ _ _ h1 hM gx.2.2 _ _ _ _ gx.1 (Or.inr ⟨rfl, gx.2.1⟩)) ⟨Nat.le_of_ble_eq_true rfl, Nat.le_of_ble_eq_true rfl⟩ ⟨rfl, rfl⟩ ⟨Nat.zero_le _, Nat.zero_le _⟩ (Nat.le_of_ble_eq_true rfl) dX7_callTrunk_68 ?_
          exact X_iret (pc := 71) C (Nat.zero_le _) (Nat.zero_le _) dX7_callTrunk_71 ⟨by first | (rw [if_neg gg]) | (rw [if_pos rfl]), by first | (rw [if_neg gg]) | (rw [if_pos rfl, ub, if_pos h60]) | (rw [if_pos rfl, ub, if_neg h60])⟩
      · have gg := bz01 h42
        refine X_iconst (pc := 45) (v := 0) C dX7_callTrunk_45 (by decide) ?_
        exact X_iret (pc := 46) C (Nat.zero_le _) (Nat.zero_le _) dX7_callTrunk_46 ⟨by first | (rw [if_neg gg]) | (rw [if_pos rfl]), by first | (rw [if_neg gg]) | (rw [if_pos rfl, ub, if_pos h60]) | (rw [if_pos rfl, ub, if_neg h60])⟩
    · have g40 : mK S = 40 := neq (b := 40) h30 (by have := hM.k40; omega)
      refine X_iconst (pc := 33) (v := 1) C dX7_callTrunk_33 (by decide) ?_
      refine X_goto (pc := 34) C 38 dX7_callTrunk_34 (by decide) ?_
      refine X_iconst (pc := 38) (v := 0) C dX7_callTrunk_38 (by decide) ?_
      refine K_X7_154 (pc := 39) C (by assumption) (c_X7_fails l P _ _ _ _ h1 _ _ _) ⟨Nat.le_of_ble_eq_true rfl, Nat.le_of_ble_eq_true rfl⟩ ⟨rfl, rfl⟩ ⟨Nat.zero_le _, Nat.zero_le _⟩ (Nat.le_of_ble_eq_true rfl) dX7_callTrunk_39 ?_
      rw [show mFl _ _ _ = (mThT S x y) from by first | (rw [mThT, if_neg (fun q => g6 q.1)]; rfl) | (rw [mThT, if_neg (fun q => g14 q.2)]; rfl) | (rw [mThT, if_pos ⟨g6, g14⟩, if_neg g40]; rfl) | (rw [mThT, if_pos ⟨g6, g14⟩, if_pos g40]; rfl)]
      refine X_if_eq (pc := 42) C 47 dX7_callTrunk_42 (by decide) (fun h42 => ?_) (fun h42 => ?_)
      · have gg := bz00 h42
        have gx := mThT_0 gg hM
        rw [gg]
        refine X_aload_n (pc := 47) C 0 dX7_callTrunk_47 rfl rfl ?_
        refine X_aload_n (pc := 48) C 0 dX7_callTrunk_48 rfl rfl ?_
        refine G_X7_9 (pc := 49) C (by assumption) dX7_callTrunk_49 ?_
        refine K_X7_267 (pc := 52) C (by assumption) (c_X7_remember l P _ _ _ _ h1 ch hc8 (by rw [upd_76]; exact hch)) ⟨Nat.le_of_ble_eq_true rfl, Nat.le_of_ble_eq_true rfl⟩ ⟨rfl, rfl⟩ ⟨Nat.zero_le _, Nat.zero_le _⟩ (Nat.le_of_ble_eq_true rfl) dX7_callTrunk_52 ?_
        refine X_aload_n (pc := 55) C 0 dX7_callTrunk_55 rfl rfl ?_
        refine X_iload_n (pc := 56) C 1 dX7_callTrunk_56 rfl rfl ?_
        refine X_iconst (pc := 57) (v := (-1)) C dX7_callTrunk_57 (by decide) ?_
        refine X_iload_n (pc := 58) C 2 dX7_callTrunk_58 rfl rfl ?_
        refine X_iload_n (pc := 59) C 3 dX7_callTrunk_59 rfl rfl ?_
        refine X_if_eq (pc := 60) C 67 dX7_callTrunk_60 (by decide) (fun h60 => ?_) (fun h60 => ?_)
        · skip
          refine X_iconst (pc := 67) (v := 0) C dX7_callTrunk_67 (by decide) ?_
          refine K_X7_230 (pc := 68) C (by assumption) (c_X7_requests l P _ _ _ _ h1 hM gx.2.2 _ _ _ _ gx.1 (Or.inr ⟨rfl, gx.2.1⟩)) ⟨Nat.le_of_ble_eq_true rfl, Nat.le_of_ble_eq_true rfl⟩ ⟨rfl, rfl⟩ ⟨Nat.zero_le _, Nat.zero_le _⟩ (Nat.le_of_ble_eq_true rfl) dX7_callTrunk_68 ?_
          exact X_iret (pc := 71) C (Nat.zero_le _) (Nat.zero_le _) dX7_callTrunk_71 ⟨by first | (rw [if_neg gg]) | (rw [if_pos rfl]), by first | (rw [if_neg gg]) | (rw [if_pos rfl, ub, if_pos h60]) | (rw [if_pos rfl, ub, if_neg h60])⟩
        · skip
          refine X_iconst (pc := 63) (v := 1) C dX7_callTrunk_63 (by decide) ?_
          refine X_goto (pc := 64) C 68 dX7_callTrunk_64 (by decide) ?_
          refine K_X7_230 (pc := 68) C (by assumption) (c_X7_requests l P _ _ _ _ h1 hM gx.2.2 _ _ _ _ gx.1 (Or.inr ⟨rfl, gx.2.1⟩)) ⟨Nat.le_of_ble_eq_true rfl, Nat.le_of_ble_eq_true rfl⟩ ⟨rfl, rfl⟩ ⟨Nat.zero_le _, Nat.zero_le _⟩ (Nat.le_of_ble_eq_true rfl) dX7_callTrunk_68 ?_
          exact X_iret (pc := 71) C (Nat.zero_le _) (Nat.zero_le _) dX7_callTrunk_71 ⟨by first | (rw [if_neg gg]) | (rw [if_pos rfl]), by first | (rw [if_neg gg]) | (rw [if_pos rfl, ub, if_pos h60]) | (rw [if_pos rfl, ub, if_neg h60])⟩
      · have gg := bz01 h42
        refine X_iconst (pc := 45) (v := 0) C dX7_callTrunk_45 (by decide) ?_
        exact X_iret (pc := 46) C (Nat.zero_le _) (Nat.zero_le _) dX7_callTrunk_46 ⟨by first | (rw [if_neg gg]) | (rw [if_pos rfl]), by first | (rw [if_neg gg]) | (rw [if_pos rfl, ub, if_pos h60]) | (rw [if_pos rfl, ub, if_neg h60])⟩
  · have g6 := bz00 h6
    refine X_aload_n (pc := 9) C 0 dX7_callTrunk_9 rfl rfl ?_
    refine X_iload_n (pc := 10) C 2 dX7_callTrunk_10 rfl rfl ?_
    refine K_X7_291 (pc := 11) C (by assumption) (c_X7_noTrunk l P _ _ _ _ h1 (mT S) (by have := hM.t4; omega) hM.t y) ⟨Nat.le_of_ble_eq_true rfl, Nat.le_of_ble_eq_true rfl⟩ ⟨rfl, rfl⟩ ⟨Nat.zero_le _, Nat.zero_le _⟩ (Nat.le_of_ble_eq_true rfl) dX7_callTrunk_11 ?_
    refine X_if_eq (pc := 14) C 21 dX7_callTrunk_14 (by decide) (fun h14 => ?_) (fun h14 => ?_)
    · have g14 := bz00 h14
      refine X_iconst (pc := 21) (v := 0) C dX7_callTrunk_21 (by decide) ?_
      refine X_aload_n (pc := 22) C 0 dX7_callTrunk_22 rfl rfl ?_
      refine G_X7_9 (pc := 23) C (by assumption) dX7_callTrunk_23 ?_
      refine X_iconst (pc := 26) (v := 5) C dX7_callTrunk_26 (by decide) ?_
      refine X_ialdN (j := 5) (pc := 27) C (by first | exact h1 _ (by decide) (by decide)) rfl (by omega) (by decide) dX7_callTrunk_27 ?_
      rw [mW_10]
      rw [hM.k]
      refine X_bipush (pc := 28) (v := 40) C dX7_callTrunk_28 (by decide) ?_
      refine X_icmp_ne (pc := 30) C 37 dX7_callTrunk_30 (by decide) (fun h30 => ?_) (fun h30 => ?_)
      · have g40 : ¬ mK S = 40 := fun q => h30 (by rw [q]; rfl)
        refine X_iconst (pc := 37) (v := 0) C dX7_callTrunk_37 (by decide) ?_
        refine X_iconst (pc := 38) (v := 0) C dX7_callTrunk_38 (by decide) ?_
        refine K_X7_154 (pc := 39) C (by assumption) (c_X7_fails l P _ _ _ _ h1 _ _ _) ⟨Nat.le_of_ble_eq_true rfl, Nat.le_of_ble_eq_true rfl⟩ ⟨rfl, rfl⟩ ⟨Nat.zero_le _, Nat.zero_le _⟩ (Nat.le_of_ble_eq_true rfl) dX7_callTrunk_39 ?_
        rw [show mFl _ _ _ = (mThT S x y) from by first | (rw [mThT, if_neg (fun q => g6 q.1)]; rfl) | (rw [mThT, if_neg (fun q => g14 q.2)]; rfl) | (rw [mThT, if_pos ⟨g6, g14⟩, if_neg g40]; rfl) | (rw [mThT, if_pos ⟨g6, g14⟩, if_pos g40]; rfl)]
        refine X_if_eq (pc := 42) C 47 dX7_callTrunk_42 (by decide) (fun h42 => ?_) (fun h42 => ?_)
        · have gg := bz00 h42
          have gx := mThT_0 gg hM
          rw [gg]
          refine X_aload_n (pc := 47) C 0 dX7_callTrunk_47 rfl rfl ?_
          refine X_aload_n (pc := 48) C 0 dX7_callTrunk_48 rfl rfl ?_
          refine G_X7_9 (pc := 49) C (by assumption) dX7_callTrunk_49 ?_
          refine K_X7_267 (pc := 52) C (by assumption) (c_X7_remember l P _ _ _ _ h1 ch hc8 (by rw [upd_76]; exact hch)) ⟨Nat.le_of_ble_eq_true rfl, Nat.le_of_ble_eq_true rfl⟩ ⟨rfl, rfl⟩ ⟨Nat.zero_le _, Nat.zero_le _⟩ (Nat.le_of_ble_eq_true rfl) dX7_callTrunk_52 ?_
          refine X_aload_n (pc := 55) C 0 dX7_callTrunk_55 rfl rfl ?_
          refine X_iload_n (pc := 56) C 1 dX7_callTrunk_56 rfl rfl ?_
          refine X_iconst (pc := 57) (v := (-1)) C dX7_callTrunk_57 (by decide) ?_
          refine X_iload_n (pc := 58) C 2 dX7_callTrunk_58 rfl rfl ?_
          refine X_iload_n (pc := 59) C 3 dX7_callTrunk_59 rfl rfl ?_
          refine X_if_eq (pc := 60) C 67 dX7_callTrunk_60 (by decide) (fun h60 => ?_) (fun h60 => ?_)
          · skip
            refine X_iconst (pc := 67) (v := 0) C dX7_callTrunk_67 (by decide) ?_
            refine K_X7_230 (pc := 68) C (by assumption) (c_X7_requests l P _ _ _ _ h1 hM gx.2.2 _ _ _ _ gx.1 (Or.inr ⟨rfl, gx.2.1⟩)) ⟨Nat.le_of_ble_eq_true rfl, Nat.le_of_ble_eq_true rfl⟩ ⟨rfl, rfl⟩ ⟨Nat.zero_le _, Nat.zero_le _⟩ (Nat.le_of_ble_eq_true rfl) dX7_callTrunk_68 ?_
            exact X_iret (pc := 71) C (Nat.zero_le _) (Nat.zero_le _) dX7_callTrunk_71 ⟨by first | (rw [if_neg gg]) | (rw [if_pos rfl]), by first | (rw [if_neg gg]) | (rw [if_pos rfl, ub, if_pos h60]) | (rw [if_pos rfl, ub, if_neg h60])⟩
          · skip
            refine X_iconst (pc := 63) (v := 1) C dX7_callTrunk_63 (by decide) ?_
            refine X_goto (pc := 64) C 68 dX7_callTrunk_64 (by decide) ?_
            refine K_X7_230 (pc := 68) C (by assumption) (c_X7_requests l P _ _ _ _ h1 hM gx.2.2 _ _ _ _ gx.1 (Or.inr ⟨rfl, gx.2.1⟩)) ⟨Nat.le_of_ble_eq_true rfl, Nat.le_of_ble_eq_true rfl⟩ ⟨rfl, rfl⟩ ⟨Nat.zero_le _, Nat.zero_le _⟩ (Nat.le_of_ble_eq_true rfl) dX7_callTrunk_68 ?_
            exact X_iret (pc := 71) C (Nat.zero_le _) (Nat.zero_le _) dX7_callTrunk_71 ⟨by first | (rw [if_neg gg]) | (rw [if_pos rfl]), by first | (rw [if_neg gg]) | (rw [if_pos rfl, ub, if_pos h60]) | (rw [if_pos rfl, ub, if_neg h60])⟩
        · have gg := bz01 h42
          refine X_iconst (pc := 45) (v := 0) C dX7_callTrunk_45 (by decide) ?_
          exact X_iret (pc := 46) C (Nat.zero_le _) (Nat.zero_le _) dX7_callTrunk_46 ⟨by first | (rw [if_neg gg]) | (rw [if_pos rfl]), by first | (rw [if_neg gg]) | (rw [if_pos rfl, ub, if_pos h60]) | (rw [if_pos rfl, ub, if_neg h60])⟩
      · have g40 : mK S = 40 := neq (b := 40) h30 (by have := hM.k40; omega)
        refine X_iconst (pc := 33) (v := 1) C dX7_callTrunk_33 (by decide) ?_
        refine X_goto (pc := 34) C 38 dX7_callTrunk_34 (by decide) ?_
        refine X_iconst (pc := 38) (v := 0) C dX7_callTrunk_38 (by decide) ?_
        refine K_X7_154 (pc := 39) C (by assumption) (c_X7_fails l P _ _ _ _ h1 _ _ _) ⟨Nat.le_of_ble_eq_true rfl, Nat.le_of_ble_eq_true rfl⟩ ⟨rfl, rfl⟩ ⟨Nat.zero_le _, Nat.zero_le _⟩ (Nat.le_of_ble_eq_true rfl) dX7_callTrunk_39 ?_
        rw [show mFl _ _ _ = (mThT S x y) from by first | (rw [mThT, if_neg (fun q => g6 q.1)]; rfl) | (rw [mThT, if_neg (fun q => g14 q.2)]; rfl) | (rw [mThT, if_pos ⟨g6, g14⟩, if_neg g40]; rfl) | (rw [mThT, if_pos ⟨g6, g14⟩, if_pos g40]; rfl)]
        refine X_if_eq (pc := 42) C 47 dX7_callTrunk_42 (by decide) (fun h42 => ?_) (fun h42 => ?_)
        · have gg := bz00 h42
          have gx := mThT_0 gg hM
          rw [gg]
          refine X_aload_n (pc := 47) C 0 dX7_callTrunk_47 rfl rfl ?_
          refine X_aload_n (pc := 48) C 0 dX7_callTrunk_48 rfl rfl ?_
          refine G_X7_9 (pc := 49) C (by assumption) dX7_callTrunk_49 ?_
          refine K_X7_267 (pc := 52) C (by assumption) (c_X7_remember l P _ _ _ _ h1 ch hc8 (by rw [upd_76]; exact hch)) ⟨Nat.le_of_ble_eq_true rfl, Nat.le_of_ble_eq_true rfl⟩ ⟨rfl, rfl⟩ ⟨Nat.zero_le _, Nat.zero_le _⟩ (Nat.le_of_ble_eq_true rfl) dX7_callTrunk_52 ?_
          refine X_aload_n (pc := 55) C 0 dX7_callTrunk_55 rfl rfl ?_
          refine X_iload_n (pc := 56) C 1 dX7_callTrunk_56 rfl rfl ?_
          refine X_iconst (pc := 57) (v := (-1)) C dX7_callTrunk_57 (by decide) ?_
          refine X_iload_n (pc := 58) C 2 dX7_callTrunk_58 rfl rfl ?_
          refine X_iload_n (pc := 59) C 3 dX7_callTrunk_59 rfl rfl ?_
          refine X_if_eq (pc := 60) C 67 dX7_callTrunk_60 (by decide) (fun h60 => ?_) (fun h60 => ?_)
          · skip
            refine X_iconst (pc := 67) (v := 0) C dX7_callTrunk_67 (by decide) ?_
            refine K_X7_230 (pc := 68) C (by assumption) (c_X7_requests l P _ _ _ _ h1 hM gx.2.2 _ _ _ _ gx.1 (Or.inr ⟨rfl, gx.2.1⟩)) ⟨Nat.le_of_ble_eq_true rfl, Nat.le_of_ble_eq_true rfl⟩ ⟨rfl, rfl⟩ ⟨Nat.zero_le _, Nat.zero_le _⟩ (Nat.le_of_ble_eq_true rfl) dX7_callTrunk_68 ?_
            exact X_iret (pc := 71) C (Nat.zero_le _) (Nat.zero_le _) dX7_callTrunk_71 ⟨by first | (rw [if_neg gg]) | (rw [if_pos rfl]), by first | (rw [if_neg gg]) | (rw [if_pos rfl, ub, if_pos h60]) | (rw [if_pos rfl, ub, if_neg h60])⟩
          · skip
            refine X_iconst (pc := 63) (v := 1) C dX7_callTrunk_63 (by decide) ?_
            refine X_goto (pc := 64) C 68 dX7_callTrunk_64 (by decide) ?_
            refine K_X7_230 (pc := 68) C (by assumption) (c_X7_requests l P _ _ _ _ h1 hM gx.2.2 _ _ _ _ gx.1 (Or.inr ⟨rfl, gx.2.1⟩)) ⟨Nat.le_of_ble_eq_true rfl, Nat.le_of_ble_eq_true rfl⟩ ⟨rfl, rfl⟩ ⟨Nat.zero_le _, Nat.zero_le _⟩ (Nat.le_of_ble_eq_true rfl) dX7_callTrunk_68 ?_
            exact X_iret (pc := 71) C (Nat.zero_le _) (Nat.zero_le _) dX7_callTrunk_71 ⟨by first | (rw [if_neg gg]) | (rw [if_pos rfl]), by first | (rw [if_neg gg]) | (rw [if_pos rfl, ub, if_pos h60]) | (rw [if_pos rfl, ub, if_neg h60])⟩
        · have gg := bz01 h42
          refine X_iconst (pc := 45) (v := 0) C dX7_callTrunk_45 (by decide) ?_
          exact X_iret (pc := 46) C (Nat.zero_le _) (Nat.zero_le _) dX7_callTrunk_46 ⟨by first | (rw [if_neg gg]) | (rw [if_pos rfl]), by first | (rw [if_neg gg]) | (rw [if_pos rfl, ub, if_pos h60]) | (rw [if_pos rfl, ub, if_neg h60])⟩
    · have g14 := bz01 h14
      refine X_iconst (pc := 17) (v := 1) C dX7_callTrunk_17 (by decide) ?_
      refine X_goto (pc := 18) C 22 dX7_callTrunk_18 (by decide) ?_
      refine X_aload_n (pc := 22) C 0 dX7_callTrunk_22 rfl rfl ?_
      refine G_X7_9 (pc := 23) C (by assumption) dX7_callTrunk_23 ?_
      refine X_iconst (pc := 26) (v := 5) C dX7_callTrunk_26 (by decide) ?_
      refine X_ialdN (j := 5) (pc := 27) C (by first | exact h1 _ (by decide) (by decide)) rfl (by omega) (by decide) dX7_callTrunk_27 ?_
      rw [mW_10]
      rw [hM.k]
      refine X_bipush (pc := 28) (v := 40) C dX7_callTrunk_28 (by decide) ?_
      refine X_icmp_ne (pc := 30) C 37 dX7_callTrunk_30 (by decide) (fun h30 => ?_) (fun h30 => ?_)
      · have g40 : ¬ mK S = 40 := fun q => h30 (by rw [q]; rfl)
        refine X_iconst (pc := 37) (v := 0) C dX7_callTrunk_37 (by decide) ?_
        refine X_iconst (pc := 38) (v := 0) C dX7_callTrunk_38 (by decide) ?_
        refine K_X7_154 (pc := 39) C (by assumption) (c_X7_fails l P _ _ _ _ h1 _ _ _) ⟨Nat.le_of_ble_eq_true rfl, Nat.le_of_ble_eq_true rfl⟩ ⟨rfl, rfl⟩ ⟨Nat.zero_le _, Nat.zero_le _⟩ (Nat.le_of_ble_eq_true rfl) dX7_callTrunk_39 ?_
        rw [show mFl _ _ _ = (mThT S x y) from by first | (rw [mThT, if_neg (fun q => g6 q.1)]; rfl) | (rw [mThT, if_neg (fun q => g14 q.2)]; rfl) | (rw [mThT, if_pos ⟨g6, g14⟩, if_neg g40]; rfl) | (rw [mThT, if_pos ⟨g6, g14⟩, if_pos g40]; rfl)]
        refine X_if_eq (pc := 42) C 47 dX7_callTrunk_42 (by decide) (fun h42 => ?_) (fun h42 => ?_)
        · have gg := bz00 h42
          have gx := mThT_0 gg hM
          rw [gg]
          refine X_aload_n (pc := 47) C 0 dX7_callTrunk_47 rfl rfl ?_
          refine X_aload_n (pc := 48) C 0 dX7_callTrunk_48 rfl rfl ?_
          refine G_X7_9 (pc := 49) C (by assumption) dX7_callTrunk_49 ?_
          refine K_X7_267 (pc := 52) C (by assumption) (c_X7_remember l P _ _ _ _ h1 ch hc8 (by rw [upd_76]; exact hch)) ⟨Nat.le_of_ble_eq_true rfl, Nat.le_of_ble_eq_true rfl⟩ ⟨rfl, rfl⟩ ⟨Nat.zero_le _, Nat.zero_le _⟩ (Nat.le_of_ble_eq_true rfl) dX7_callTrunk_52 ?_
          refine X_aload_n (pc := 55) C 0 dX7_callTrunk_55 rfl rfl ?_
          refine X_iload_n (pc := 56) C 1 dX7_callTrunk_56 rfl rfl ?_
          refine X_iconst (pc := 57) (v := (-1)) C dX7_callTrunk_57 (by decide) ?_
          refine X_iload_n (pc := 58) C 2 dX7_callTrunk_58 rfl rfl ?_
          refine X_iload_n (pc := 59) C 3 dX7_callTrunk_59 rfl rfl ?_
          refine X_if_eq (pc := 60) C 67 dX7_callTrunk_60 (by decide) (fun h60 => ?_) (fun h60 => ?_)
          · skip
            refine X_iconst (pc := 67) (v := 0) C dX7_callTrunk_67 (by decide) ?_
            refine K_X7_230 (pc := 68) C (by assumption) (c_X7_requests l P _ _ _ _ h1 hM gx.2.2 _ _ _ _ gx.1 (Or.inr ⟨rfl, gx.2.1⟩)) ⟨Nat.le_of_ble_eq_true rfl, Nat.le_of_ble_eq_true rfl⟩ ⟨rfl, rfl⟩ ⟨Nat.zero_le _, Nat.zero_le _⟩ (Nat.le_of_ble_eq_true rfl) dX7_callTrunk_68 ?_
            exact X_iret (pc := 71) C (Nat.zero_le _) (Nat.zero_le _) dX7_callTrunk_71 ⟨by first | (rw [if_neg gg]) | (rw [if_pos rfl]), by first | (rw [if_neg gg]) | (rw [if_pos rfl, ub, if_pos h60]) | (rw [if_pos rfl, ub, if_neg h60])⟩
          · skip
            refine X_iconst (pc := 63) (v := 1) C dX7_callTrunk_63 (by decide) ?_
            refine X_goto (pc := 64) C 68 dX7_callTrunk_64 (by decide) ?_
            refine K_X7_230 (pc := 68) C (by assumption) (c_X7_requests l P _ _ _ _ h1 hM gx.2.2 _ _ _ _ gx.1 (Or.inr ⟨rfl, gx.2.1⟩)) ⟨Nat.le_of_ble_eq_true rfl, Nat.le_of_ble_eq_true rfl⟩ ⟨rfl, rfl⟩ ⟨Nat.zero_le _, Nat.zero_le _⟩ (Nat.le_of_ble_eq_true rfl) dX7_callTrunk_68 ?_
            exact X_iret (pc := 71) C (Nat.zero_le _) (Nat.zero_le _) dX7_callTrunk_71 ⟨by first | (rw [if_neg gg]) | (rw [if_pos rfl]), by first | (rw [if_neg gg]) | (rw [if_pos rfl, ub, if_pos h60]) | (rw [if_pos rfl, ub, if_neg h60])⟩
        · have gg := bz01 h42
          refine X_iconst (pc := 45) (v := 0) C dX7_callTrunk_45 (by decide) ?_
          exact X_iret (pc := 46) C (Nat.zero_le _) (Nat.zero_le _) dX7_callTrunk_46 ⟨by first | (rw [if_neg gg]) | (rw [if_pos rfl]), by first | (rw [if_neg gg]) | (rw [if_pos rfl, ub, if_pos h60]) | (rw [if_pos rfl, ub, if_neg h60])⟩
      · have g40 : mK S = 40 := neq (b := 40) h30 (by have := hM.k40; omega)
        refine X_iconst (pc := 33) (v := 1) C dX7_callTrunk_33 (by decide) ?_
        refine X_goto (pc := 34) C 38 dX7_callTrunk_34 (by decide) ?_
        refine X_iconst (pc := 38) (v := 0) C dX7_callTrunk_38 (by decide) ?_
        refine K_X7_154 (pc := 39) C (by assumption) (c_X7_fails l P _ _ _ _ h1 _ _ _) ⟨Nat.le_of_ble_eq_true rfl, Nat.le_of_ble_eq_true rfl⟩ ⟨rfl, rfl⟩ ⟨Nat.zero_le _, Nat.zero_le _⟩ (Nat.le_of_ble_eq_true rfl) dX7_callTrunk_39 ?_
        rw [show mFl _ _ _ = (mThT S x y) from by first | (rw [mThT, if_neg (fun q => g6 q.1)]; rfl) | (rw [mThT, if_neg (fun q => g14 q.2)]; rfl) | (rw [mThT, if_pos ⟨g6, g14⟩, if_neg g40]; rfl) | (rw [mThT, if_pos ⟨g6, g14⟩, if_pos g40]; rfl)]
        refine X_if_eq (pc := 42) C 47 dX7_callTrunk_42 (by decide) (fun h42 => ?_) (fun h42 => ?_)
        · have gg := bz00 h42
          have gx := mThT_0 gg hM
          rw [gg]
          refine X_aload_n (pc := 47) C 0 dX7_callTrunk_47 rfl rfl ?_
          refine X_aload_n (pc := 48) C 0 dX7_callTrunk_48 rfl rfl ?_
          refine G_X7_9 (pc := 49) C (by assumption) dX7_callTrunk_49 ?_
          refine K_X7_267 (pc := 52) C (by assumption) (c_X7_remember l P _ _ _ _ h1 ch hc8 (by rw [upd_76]; exact hch)) ⟨Nat.le_of_ble_eq_true rfl, Nat.le_of_ble_eq_true rfl⟩ ⟨rfl, rfl⟩ ⟨Nat.zero_le _, Nat.zero_le _⟩ (Nat.le_of_ble_eq_true rfl) dX7_callTrunk_52 ?_
          refine X_aload_n (pc := 55) C 0 dX7_callTrunk_55 rfl rfl ?_
          refine X_iload_n (pc := 56) C 1 dX7_callTrunk_56 rfl rfl ?_
          refine X_iconst (pc := 57) (v := (-1)) C dX7_callTrunk_57 (by decide) ?_
          refine X_iload_n (pc := 58) C 2 dX7_callTrunk_58 rfl rfl ?_
          refine X_iload_n (pc := 59) C 3 dX7_callTrunk_59 rfl rfl ?_
          refine X_if_eq (pc := 60) C 67 dX7_callTrunk_60 (by decide) (fun h60 => ?_) (fun h60 => ?_)
          · skip
            refine X_iconst (pc := 67) (v := 0) C dX7_callTrunk_67 (by decide) ?_
            refine K_X7_230 (pc := 68) C (by assumption) (c_X7_requests l P _ _ _ _ h1 hM gx.2.2 _ _ _ _ gx.1 (Or.inr ⟨rfl, gx.2.1⟩)) ⟨Nat.le_of_ble_eq_true rfl, Nat.le_of_ble_eq_true rfl⟩ ⟨rfl, rfl⟩ ⟨Nat.zero_le _, Nat.zero_le _⟩ (Nat.le_of_ble_eq_true rfl) dX7_callTrunk_68 ?_
            exact X_iret (pc := 71) C (Nat.zero_le _) (Nat.zero_le _) dX7_callTrunk_71 ⟨by first | (rw [if_neg gg]) | (rw [if_pos rfl]), by first | (rw [if_neg gg]) | (rw [if_pos rfl, ub, if_pos h60]) | (rw [if_pos rfl, ub, if_neg h60])⟩
          · skip
            refine X_iconst (pc := 63) (v := 1) C dX7_callTrunk_63 (by decide) ?_
            refine X_goto (pc := 64) C 68 dX7_callTrunk_64 (by decide) ?_
            refine K_X7_230 (pc := 68) C (by assumption) (c_X7_requests l P _ _ _ _ h1 hM gx.2.2 _ _ _ _ gx.1 (Or.inr ⟨rfl, gx.2.1⟩)) ⟨Nat.le_of_ble_eq_true rfl, Nat.le_of_ble_eq_true rfl⟩ ⟨rfl, rfl⟩ ⟨Nat.zero_le _, Nat.zero_le _⟩ (Nat.le_of_ble_eq_true rfl) dX7_callTrunk_68 ?_
            exact X_iret (pc := 71) C (Nat.zero_le _) (Nat.zero_le _) dX7_callTrunk_71 ⟨by first | (rw [if_neg gg]) | (rw [if_pos rfl]), by first | (rw [if_neg gg]) | (rw [if_pos rfl, ub, if_pos h60]) | (rw [if_pos rfl, ub, if_neg h60])⟩
        · have gg := bz01 h42
          refine X_iconst (pc := 45) (v := 0) C dX7_callTrunk_45 (by decide) ?_
          exact X_iret (pc := 46) C (Nat.zero_le _) (Nat.zero_le _) dX7_callTrunk_46 ⟨by first | (rw [if_neg gg]) | (rw [if_pos rfl]), by first | (rw [if_neg gg]) | (rw [if_pos rfl, ub, if_pos h60]) | (rw [if_pos rfl, ub, if_neg h60])⟩

theorem mThE_0 {S : Nat → Int32} {x : Int32} (h : mThE S x = 0) : xok x (mK S) ∧ ¬ 2 ≤ sC S 4 (cN x) := by
  unfold mThE at h
  by_cases g : xok x (mK S)
  · rw [if_pos g] at h
    by_cases g1 : 2 ≤ sC S 4 (cN x)
    · rw [if_pos g1] at h; exact absurd h (by decide)
    · exact ⟨g, g1⟩
  · rw [if_neg g] at h; exact absurd h (by decide)
theorem mThM_0 {S : Nat → Int32} {x v : Int32} (h : mThM S x v = 0) : xok x (mU S) ∧ 0 ≤ v ∧ v ≤ 9 := by
  unfold mThM at h
  by_cases g : xok x (mU S)
  · rw [if_pos g] at h
    by_cases g1 : 0 ≤ v ∧ v ≤ 9
    · exact ⟨g, g1⟩
    · rw [if_neg g1] at h; exact absurd h (by decide)
  · rw [if_neg g] at h; exact absurd h (by decide)
set_option maxRecDepth 100000 in
set_option maxHeartbeats 4000000 in
theorem c_X7_end (l : Launch) (P : XP) (τ : XS) (S F L : Nat → Int32) (h1 : xI1 P) (hM : MI S) (ch : Nat) (hc8 : ch ≤ 8) (hch : F 6 = nI ch) (x : Int32) : XF l yX7_end cX7_end 3 (some .int) rm_X7_end P [.ref (P.2.2.1 (.inr 9)), .int x] (mW τ S F L) (some (.int (if (mThE S x) = 0 then nI (mFin S (cN x)).2 else 0))) (if (mThE S x) = 0 then mW (mRw τ S ch) (mFin S (cN x)).1 (upd (upd F 7 0) 6 (nI (mNx ch))) L else mW τ S (upd F 7 ((mThE S x))) L) := by
  refine XM.of (by decide +kernel) (Nat.le_of_ble_eq_true rfl) (fun p e s m args below meth c A C => ?_)
  replace C : XC p s m args meth c P A 3 RX7 cX7_end (some .int) := C
  refine XW.eq (lv' := [(0, _), (1, _)]) rfl rfl rfl ?_
  refine X_aload_n (pc := 0) C 0 dX7_end_0 rfl rfl ?_
  refine X_iload_n (pc := 1) C 1 dX7_end_1 rfl rfl ?_
  refine K_X7_294 (pc := 2) C (by assumption) (c_X7_noCall l P _ _ _ _ h1 (mK S) (by have := hM.k40; omega) hM.k x) ⟨Nat.le_of_ble_eq_true rfl, Nat.le_of_ble_eq_true rfl⟩ ⟨rfl, rfl⟩ ⟨Nat.zero_le _, Nat.zero_le _⟩ (Nat.le_of_ble_eq_true rfl) dX7_end_2 ?_
  refine X_istore_n (pc := 5) (lv1 := [(0, _), (1, _), (2, _)]) C 2 dX7_end_5 rfl (by decide) rfl ?_
  refine X_aload_n (pc := 6) C 0 dX7_end_6 rfl rfl ?_
  refine X_iload_n (pc := 7) C 2 dX7_end_7 rfl rfl ?_
  refine X_iload_n (pc := 8) C 2 dX7_end_8 rfl rfl ?_
  refine X_if_ne (pc := 9) C 24 dX7_end_9 (by decide) (fun h9 => ?_) (fun h9 => ?_)
  · have g9 := bz01 h9
    refine X_iconst (pc := 24) (v := 0) C dX7_end_24 (by decide) ?_
    refine X_iconst (pc := 25) (v := 0) C dX7_end_25 (by decide) ?_
    refine K_X7_154 (pc := 26) C (by assumption) (c_X7_fails l P _ _ _ _ h1 _ _ _) ⟨Nat.le_of_ble_eq_true rfl, Nat.le_of_ble_eq_true rfl⟩ ⟨rfl, rfl⟩ ⟨Nat.zero_le _, Nat.zero_le _⟩ (Nat.le_of_ble_eq_true rfl) dX7_end_26 ?_
    rw [show mFl _ _ _ = (mThE S x) from by first | (rw [mThE, if_neg g9, if_neg g9]; rfl) | (rw [mThE, if_pos g9, if_neg g17, if_pos g9]; rfl) | (rw [mThE, if_pos g9, if_pos g17, if_pos g9]; rfl)]
    refine X_if_eq (pc := 29) C 34 dX7_end_29 (by decide) (fun h29 => ?_) (fun h29 => ?_)
    · have gg := bz00 h29
      have gy := mThE_0 gg
      have gz := xok_c gy.1 (by have := hM.k40; omega)
      rw [gg]
      refine X_aload_n (pc := 34) C 0 dX7_end_34 rfl rfl ?_
      refine X_aload_n (pc := 35) C 0 dX7_end_35 rfl rfl ?_
      refine G_X7_9 (pc := 36) C (by assumption) dX7_end_36 ?_
      refine K_X7_267 (pc := 39) C (by assumption) (c_X7_remember l P _ _ _ _ h1 ch hc8 (by rw [upd_76]; exact hch)) ⟨Nat.le_of_ble_eq_true rfl, Nat.le_of_ble_eq_true rfl⟩ ⟨rfl, rfl⟩ ⟨Nat.zero_le _, Nat.zero_le _⟩ (Nat.le_of_ble_eq_true rfl) dX7_end_39 ?_
      refine X_aload_n (pc := 42) C 0 dX7_end_42 rfl rfl ?_
      refine X_iload_n (pc := 43) C 1 dX7_end_43 rfl rfl ?_
      refine K_X7_250 (pc := 44) C (by assumption) (c_X7_finishes l P _ _ _ _ h1 hM _ gz.1 _ gz.2) ⟨Nat.le_of_ble_eq_true rfl, Nat.le_of_ble_eq_true rfl⟩ ⟨rfl, rfl⟩ ⟨Nat.zero_le _, Nat.zero_le _⟩ (Nat.le_of_ble_eq_true rfl) dX7_end_44 ?_
      exact X_iret (pc := 47) C (Nat.zero_le _) (Nat.zero_le _) dX7_end_47 ⟨by first | (rw [if_neg gg]) | (rw [if_pos gg]) | (rw [if_pos rfl]), by first | (rw [if_neg gg]) | (rw [if_pos gg]) | (rw [if_pos rfl])⟩
    · have gg := bz01 h29
      refine X_iconst (pc := 32) (v := 0) C dX7_end_32 (by decide) ?_
      exact X_iret (pc := 33) C (Nat.zero_le _) (Nat.zero_le _) dX7_end_33 ⟨by first | (rw [if_neg gg]) | (rw [if_pos gg]) | (rw [if_pos rfl]), by first | (rw [if_neg gg]) | (rw [if_pos gg]) | (rw [if_pos rfl])⟩
  · have g9 := bz00 h9
    have gx := xok_c g9 (by have := hM.k40; omega)
    have g40 := hM.k40
    refine X_aload_n (pc := 12) C 0 dX7_end_12 rfl rfl ?_
    refine X_iload_n (pc := 13) C 1 dX7_end_13 rfl rfl ?_
    refine K_X7_247 (pc := 14) C (by assumption) (c_X7_isOver l P _ _ _ _ h1 _ (by omega) _ gx.2) ⟨Nat.le_of_ble_eq_true rfl, Nat.le_of_ble_eq_true rfl⟩ ⟨rfl, rfl⟩ ⟨Nat.zero_le _, Nat.zero_le _⟩ (Nat.le_of_ble_eq_true rfl) dX7_end_14 ?_
    refine X_if_eq (pc := 17) C 24 dX7_end_17 (by decide) (fun h17 => ?_) (fun h17 => ?_)
    · have g17 := bz0 h17
      refine X_iconst (pc := 24) (v := 0) C dX7_end_24 (by decide) ?_
      refine X_iconst (pc := 25) (v := 0) C dX7_end_25 (by decide) ?_
      refine K_X7_154 (pc := 26) C (by assumption) (c_X7_fails l P _ _ _ _ h1 _ _ _) ⟨Nat.le_of_ble_eq_true rfl, Nat.le_of_ble_eq_true rfl⟩ ⟨rfl, rfl⟩ ⟨Nat.zero_le _, Nat.zero_le _⟩ (Nat.le_of_ble_eq_true rfl) dX7_end_26 ?_
      rw [show mFl _ _ _ = (mThE S x) from by first | (rw [mThE, if_neg g9, if_neg g9]; rfl) | (rw [mThE, if_pos g9, if_neg g17, if_pos g9]; rfl) | (rw [mThE, if_pos g9, if_pos g17, if_pos g9]; rfl)]
      refine X_if_eq (pc := 29) C 34 dX7_end_29 (by decide) (fun h29 => ?_) (fun h29 => ?_)
      · have gg := bz00 h29
        have gy := mThE_0 gg
        have gz := xok_c gy.1 (by have := hM.k40; omega)
        rw [gg]
        refine X_aload_n (pc := 34) C 0 dX7_end_34 rfl rfl ?_
        refine X_aload_n (pc := 35) C 0 dX7_end_35 rfl rfl ?_
        refine G_X7_9 (pc := 36) C (by assumption) dX7_end_36 ?_
        refine K_X7_267 (pc := 39) C (by assumption) (c_X7_remember l P _ _ _ _ h1 ch hc8 (by rw [upd_76]; exact hch)) ⟨Nat.le_of_ble_eq_true rfl, Nat.le_of_ble_eq_true rfl⟩ ⟨rfl, rfl⟩ ⟨Nat.zero_le _, Nat.zero_le _⟩ (Nat.le_of_ble_eq_true rfl) dX7_end_39 ?_
        refine X_aload_n (pc := 42) C 0 dX7_end_42 rfl rfl ?_
        refine X_iload_n (pc := 43) C 1 dX7_end_43 rfl rfl ?_
        refine K_X7_250 (pc := 44) C (by assumption) (c_X7_finishes l P _ _ _ _ h1 hM _ gz.1 _ gz.2) ⟨Nat.le_of_ble_eq_true rfl, Nat.le_of_ble_eq_true rfl⟩ ⟨rfl, rfl⟩ ⟨Nat.zero_le _, Nat.zero_le _⟩ (Nat.le_of_ble_eq_true rfl) dX7_end_44 ?_
        exact X_iret (pc := 47) C (Nat.zero_le _) (Nat.zero_le _) dX7_end_47 ⟨by first | (rw [if_neg gg]) | (rw [if_pos gg]) | (rw [if_pos rfl]), by first | (rw [if_neg gg]) | (rw [if_pos gg]) | (rw [if_pos rfl])⟩
      · have gg := bz01 h29
        refine X_iconst (pc := 32) (v := 0) C dX7_end_32 (by decide) ?_
        exact X_iret (pc := 33) C (Nat.zero_le _) (Nat.zero_le _) dX7_end_33 ⟨by first | (rw [if_neg gg]) | (rw [if_pos gg]) | (rw [if_pos rfl]), by first | (rw [if_neg gg]) | (rw [if_pos gg]) | (rw [if_pos rfl])⟩
    · have g17 := bz1 h17
      refine X_iconst (pc := 20) (v := 1) C dX7_end_20 (by decide) ?_
      refine X_goto (pc := 21) C 25 dX7_end_21 (by decide) ?_
      refine X_iconst (pc := 25) (v := 0) C dX7_end_25 (by decide) ?_
      refine K_X7_154 (pc := 26) C (by assumption) (c_X7_fails l P _ _ _ _ h1 _ _ _) ⟨Nat.le_of_ble_eq_true rfl, Nat.le_of_ble_eq_true rfl⟩ ⟨rfl, rfl⟩ ⟨Nat.zero_le _, Nat.zero_le _⟩ (Nat.le_of_ble_eq_true rfl) dX7_end_26 ?_
      rw [show mFl _ _ _ = (mThE S x) from by first | (rw [mThE, if_neg g9, if_neg g9]; rfl) | (rw [mThE, if_pos g9, if_neg g17, if_pos g9]; rfl) | (rw [mThE, if_pos g9, if_pos g17, if_pos g9]; rfl)]
      refine X_if_eq (pc := 29) C 34 dX7_end_29 (by decide) (fun h29 => ?_) (fun h29 => ?_)
      · have gg := bz00 h29
        have gy := mThE_0 gg
        have gz := xok_c gy.1 (by have := hM.k40; omega)
        rw [gg]
        refine X_aload_n (pc := 34) C 0 dX7_end_34 rfl rfl ?_
        refine X_aload_n (pc := 35) C 0 dX7_end_35 rfl rfl ?_
        refine G_X7_9 (pc := 36) C (by assumption) dX7_end_36 ?_
        refine K_X7_267 (pc := 39) C (by assumption) (c_X7_remember l P _ _ _ _ h1 ch hc8 (by rw [upd_76]; exact hch)) ⟨Nat.le_of_ble_eq_true rfl, Nat.le_of_ble_eq_true rfl⟩ ⟨rfl, rfl⟩ ⟨Nat.zero_le _, Nat.zero_le _⟩ (Nat.le_of_ble_eq_true rfl) dX7_end_39 ?_
        refine X_aload_n (pc := 42) C 0 dX7_end_42 rfl rfl ?_
        refine X_iload_n (pc := 43) C 1 dX7_end_43 rfl rfl ?_
        refine K_X7_250 (pc := 44) C (by assumption) (c_X7_finishes l P _ _ _ _ h1 hM _ gz.1 _ gz.2) ⟨Nat.le_of_ble_eq_true rfl, Nat.le_of_ble_eq_true rfl⟩ ⟨rfl, rfl⟩ ⟨Nat.zero_le _, Nat.zero_le _⟩ (Nat.le_of_ble_eq_true rfl) dX7_end_44 ?_
        exact X_iret (pc := 47) C (Nat.zero_le _) (Nat.zero_le _) dX7_end_47 ⟨by first | (rw [if_neg gg]) | (rw [if_pos gg]) | (rw [if_pos rfl]), by first | (rw [if_neg gg]) | (rw [if_pos gg]) | (rw [if_pos rfl])⟩
      · have gg := bz01 h29
        refine X_iconst (pc := 32) (v := 0) C dX7_end_32 (by decide) ?_
        exact X_iret (pc := 33) C (Nat.zero_le _) (Nat.zero_le _) dX7_end_33 ⟨by first | (rw [if_neg gg]) | (rw [if_pos gg]) | (rw [if_pos rfl]), by first | (rw [if_neg gg]) | (rw [if_pos gg]) | (rw [if_pos rfl])⟩

theorem c_X7_setsMoodX (l : Launch) (P : XP) (τ : XS) (S F L : Nat → Int32) (h1 : xI1 P) (x : Int32) (hx : xok x 15) (v : Int32) : XF l yX7_setsMood cX7_setsMood 4 (some .int) rm_X7_setsMood P [.ref (P.2.2.1 (.inr 9)), .int x, .int v] (mW τ S F L) (some (.int (sU S 2 (cN x)))) (mW τ (upd S (10 + 12 * cN x + 2) v) F L) := by
  obtain ⟨j, hj, rfl⟩ := xok_of hx
  rw [cN, nI_clamp (n31 (by omega))]
  exact c_X7_setsMood l P τ S F L h1 j hj v
set_option maxRecDepth 100000 in
set_option maxHeartbeats 4000000 in
theorem c_X7_setCuriosity (l : Launch) (P : XP) (τ : XS) (S F L : Nat → Int32) (h1 : xI1 P) (hM : MI S) (ch : Nat) (hc8 : ch ≤ 8) (hch : F 6 = nI ch) (x y : Int32) : XF l yX7_setCuriosity cX7_setCuriosity 3 (some .int) rm_X7_setCuriosity P [.ref (P.2.2.1 (.inr 9)), .int x, .int y] (mW τ S F L) (some (.int (if (mThM S x y) = 0 then sU S 2 (cN x) else 0))) (if (mThM S x y) = 0 then mW (mRw τ S ch) (upd S (10 + 12 * cN x + 2) y) (upd (upd F 7 0) 6 (nI (mNx ch))) L else mW τ S (upd F 7 ((mThM S x y))) L) := by
  refine XM.of (by decide +kernel) (Nat.le_of_ble_eq_true rfl) (fun p e s m args below meth c A C => ?_)
  replace C : XC p s m args meth c P A 3 RX7 cX7_setCuriosity (some .int) := C
  refine XW.eq (lv' := [(0, _), (1, _), (2, _)]) rfl rfl rfl ?_
  refine X_aload_n (pc := 0) C 0 dX7_setCuriosity_0 rfl rfl ?_
  refine X_aload_n (pc := 1) C 0 dX7_setCuriosity_1 rfl rfl ?_
  refine X_iload_n (pc := 2) C 1 dX7_setCuriosity_2 rfl rfl ?_
  refine K_X7_288 (pc := 3) C (by assumption) (c_X7_noUser l P _ _ _ _ h1 (mU S) (by have := hM.u15; omega) hM.u x) ⟨Nat.le_of_ble_eq_true rfl, Nat.le_of_ble_eq_true rfl⟩ ⟨rfl, rfl⟩ ⟨Nat.zero_le _, Nat.zero_le _⟩ (Nat.le_of_ble_eq_true rfl) dX7_setCuriosity_3 ?_
  refine X_iload_n (pc := 6) C 2 dX7_setCuriosity_6 rfl rfl ?_
  refine X_iconst (pc := 7) (v := 0) C dX7_setCuriosity_7 (by decide) ?_
  refine X_bipush (pc := 8) (v := 9) C dX7_setCuriosity_8 (by decide) ?_
  refine K_X7_80 (pc := 10) C (c_X7_isIn l P _ _ _ _) ⟨Nat.le_of_ble_eq_true rfl, Nat.le_of_ble_eq_true rfl⟩ ⟨rfl, rfl⟩ ⟨Nat.zero_le _, Nat.zero_le _⟩ (Nat.le_of_ble_eq_true rfl) dX7_setCuriosity_10 ?_
  refine X_if_ne (pc := 13) C 20 dX7_setCuriosity_13 (by decide) (fun h13 => ?_) (fun h13 => ?_)
  · have g13 := bz1 h13
    refine X_iconst (pc := 20) (v := 0) C dX7_setCuriosity_20 (by decide) ?_
    refine X_iconst (pc := 21) (v := 0) C dX7_setCuriosity_21 (by decide) ?_
    refine K_X7_154 (pc := 22) C (by assumption) (c_X7_fails l P _ _ _ _ h1 _ _ _) ⟨Nat.le_of_ble_eq_true rfl, Nat.le_of_ble_eq_true rfl⟩ ⟨rfl, rfl⟩ ⟨Nat.zero_le _, Nat.zero_le _⟩ (Nat.le_of_ble_eq_true rfl) dX7_setCuriosity_22 ?_
    rw [show mFl _ _ _ = (mThM S x y) from by by_cases g0 : xok x (mU S) <;> simp [mThM, mFl, g0, g13]]
    refine X_if_eq (pc := 25) C 30 dX7_setCuriosity_25 (by decide) (fun h25 => ?_) (fun h25 => ?_)
    · have gg := bz00 h25
      have gy := mThM_0 gg
      rw [gg]
      refine X_aload_n (pc := 30) C 0 dX7_setCuriosity_30 rfl rfl ?_
      refine X_aload_n (pc := 31) C 0 dX7_setCuriosity_31 rfl rfl ?_
      refine G_X7_9 (pc := 32) C (by assumption) dX7_setCuriosity_32 ?_
      refine K_X7_267 (pc := 35) C (by assumption) (c_X7_remember l P _ _ _ _ h1 ch hc8 (by rw [upd_76]; exact hch)) ⟨Nat.le_of_ble_eq_true rfl, Nat.le_of_ble_eq_true rfl⟩ ⟨rfl, rfl⟩ ⟨Nat.zero_le _, Nat.zero_le _⟩ (Nat.le_of_ble_eq_true rfl) dX7_setCuriosity_35 ?_
      refine X_aload_n (pc := 38) C 0 dX7_setCuriosity_38 rfl rfl ?_
      refine X_iload_n (pc := 39) C 1 dX7_setCuriosity_39 rfl rfl ?_
      refine X_iload_n (pc := 40) C 2 dX7_setCuriosity_40 rfl rfl ?_
      refine K_X7_261 (pc := 41) C (by assumption) (c_X7_setsMoodX l P _ _ _ _ h1 _ (xok_mono gy.1 hM.u15) y) ⟨Nat.le_of_ble_eq_true rfl, Nat.le_of_ble_eq_true rfl⟩ ⟨rfl, rfl⟩ ⟨Nat.zero_le _, Nat.zero_le _⟩ (Nat.le_of_ble_eq_true rfl) dX7_setCuriosity_41 ?_
      exact X_iret (pc := 44) C (Nat.zero_le _) (Nat.zero_le _) dX7_setCuriosity_44 ⟨by first | (rw [if_neg gg]) | (rw [if_pos gg]) | (rw [if_pos rfl]), by first | (rw [if_neg gg]) | (rw [if_pos gg]) | (rw [if_pos rfl])⟩
    · have gg := bz01 h25
      refine X_iconst (pc := 28) (v := 0) C dX7_setCuriosity_28 (by decide) ?_
      exact X_iret (pc := 29) C (Nat.zero_le _) (Nat.zero_le _) dX7_setCuriosity_29 ⟨by first | (rw [if_neg gg]) | (rw [if_pos gg]) | (rw [if_pos rfl]), by first | (rw [if_neg gg]) | (rw [if_pos gg]) | (rw [if_pos rfl])⟩
  · have g13 := bz0 h13
    refine X_iconst (pc := 16) (v := 1) C dX7_setCuriosity_16 (by decide) ?_
    refine X_goto (pc := 17) C 21 dX7_setCuriosity_17 (by decide) ?_
    refine X_iconst (pc := 21) (v := 0) C dX7_setCuriosity_21 (by decide) ?_
    refine K_X7_154 (pc := 22) C (by assumption) (c_X7_fails l P _ _ _ _ h1 _ _ _) ⟨Nat.le_of_ble_eq_true rfl, Nat.le_of_ble_eq_true rfl⟩ ⟨rfl, rfl⟩ ⟨Nat.zero_le _, Nat.zero_le _⟩ (Nat.le_of_ble_eq_true rfl) dX7_setCuriosity_22 ?_
    rw [show mFl _ _ _ = (mThM S x y) from by by_cases g0 : xok x (mU S) <;> simp [mThM, mFl, g0, g13]]
    refine X_if_eq (pc := 25) C 30 dX7_setCuriosity_25 (by decide) (fun h25 => ?_) (fun h25 => ?_)
    · have gg := bz00 h25
      have gy := mThM_0 gg
      rw [gg]
      refine X_aload_n (pc := 30) C 0 dX7_setCuriosity_30 rfl rfl ?_
      refine X_aload_n (pc := 31) C 0 dX7_setCuriosity_31 rfl rfl ?_
      refine G_X7_9 (pc := 32) C (by assumption) dX7_setCuriosity_32 ?_
      refine K_X7_267 (pc := 35) C (by assumption) (c_X7_remember l P _ _ _ _ h1 ch hc8 (by rw [upd_76]; exact hch)) ⟨Nat.le_of_ble_eq_true rfl, Nat.le_of_ble_eq_true rfl⟩ ⟨rfl, rfl⟩ ⟨Nat.zero_le _, Nat.zero_le _⟩ (Nat.le_of_ble_eq_true rfl) dX7_setCuriosity_35 ?_
      refine X_aload_n (pc := 38) C 0 dX7_setCuriosity_38 rfl rfl ?_
      refine X_iload_n (pc := 39) C 1 dX7_setCuriosity_39 rfl rfl ?_
      refine X_iload_n (pc := 40) C 2 dX7_setCuriosity_40 rfl rfl ?_
      refine K_X7_261 (pc := 41) C (by assumption) (c_X7_setsMoodX l P _ _ _ _ h1 _ (xok_mono gy.1 hM.u15) y) ⟨Nat.le_of_ble_eq_true rfl, Nat.le_of_ble_eq_true rfl⟩ ⟨rfl, rfl⟩ ⟨Nat.zero_le _, Nat.zero_le _⟩ (Nat.le_of_ble_eq_true rfl) dX7_setCuriosity_41 ?_
      exact X_iret (pc := 44) C (Nat.zero_le _) (Nat.zero_le _) dX7_setCuriosity_44 ⟨by first | (rw [if_neg gg]) | (rw [if_pos gg]) | (rw [if_pos rfl]), by first | (rw [if_neg gg]) | (rw [if_pos gg]) | (rw [if_pos rfl])⟩
    · have gg := bz01 h25
      refine X_iconst (pc := 28) (v := 0) C dX7_setCuriosity_28 (by decide) ?_
      exact X_iret (pc := 29) C (Nat.zero_le _) (Nat.zero_le _) dX7_setCuriosity_29 ⟨by first | (rw [if_neg gg]) | (rw [if_pos gg]) | (rw [if_pos rfl]), by first | (rw [if_neg gg]) | (rw [if_pos gg]) | (rw [if_pos rfl])⟩

set_option maxRecDepth 100000 in
set_option maxHeartbeats 4000000 in
theorem c_X7_waitFor (l : Launch) (P : XP) (τ : XS) (S F L : Nat → Int32) (h1 : xI1 P) (ch : Nat) (hc8 : ch ≤ 8) (hch : F 6 = nI ch) (x : Int32) : XF l yX7_waitFor cX7_waitFor 3 (some .int) rm_X7_waitFor P [.ref (P.2.2.1 (.inr 9)), .int x] (mW τ S F L) (some (.int (if (mThW S x) = 0 then S 0 + x else 0))) (if (mThW S x) = 0 then mW (mRw τ S ch) (upd S 0 (S 0 + x)) (upd (upd F 7 0) 6 (nI (mNx ch))) L else mW τ S (upd F 7 ((mThW S x))) L) := by
  refine XM.of (by decide +kernel) (Nat.le_of_ble_eq_true rfl) (fun p e s m args below meth c A C => ?_)
  replace C : XC p s m args meth c P A 3 RX7 cX7_waitFor (some .int) := C
  refine XW.eq (lv' := [(0, _), (1, _)]) rfl rfl rfl ?_
  refine X_iload_n (pc := 0) C 1 dX7_waitFor_0 rfl rfl ?_
  refine X_iconst (pc := 1) (v := 1) C dX7_waitFor_1 (by decide) ?_
  refine X_sipush (pc := 2) (v := 9999) C dX7_waitFor_2 (by decide) ?_
  refine K_X7_80 (pc := 5) C (c_X7_isIn l P _ _ _ _) ⟨Nat.le_of_ble_eq_true rfl, Nat.le_of_ble_eq_true rfl⟩ ⟨rfl, rfl⟩ ⟨Nat.zero_le _, Nat.zero_le _⟩ (Nat.le_of_ble_eq_true rfl) dX7_waitFor_5 ?_
  refine X_if_ne (pc := 8) C 15 dX7_waitFor_8 (by decide) (fun h8 => ?_) (fun h8 => ?_)
  · have g8 := bz1 h8
    refine X_iconst (pc := 15) (v := 0) C dX7_waitFor_15 (by decide) ?_
    refine X_istore_n (pc := 16) (lv1 := [(0, _), (1, _), (2, _)]) C 2 dX7_waitFor_16 rfl (by decide) rfl ?_
    refine X_aload_n (pc := 17) C 0 dX7_waitFor_17 rfl rfl ?_
    refine X_iload_n (pc := 18) C 2 dX7_waitFor_18 rfl rfl ?_
    refine X_iload_n (pc := 19) C 2 dX7_waitFor_19 rfl rfl ?_
    refine X_if_ne (pc := 20) C 40 dX7_waitFor_20 (by decide) (fun h20 => ?_) (fun h20 => ?_)
    · exact absurd h20 (by decide)
    · skip
      refine X_aload_n (pc := 23) C 0 dX7_waitFor_23 rfl rfl ?_
      refine G_X7_9 (pc := 24) C (by assumption) dX7_waitFor_24 ?_
      refine X_iconst (pc := 27) (v := 0) C dX7_waitFor_27 (by decide) ?_
      refine X_ialdN (j := 0) (pc := 28) C (by first | exact h1 _ (by decide) (by decide)) rfl (by omega) (by decide) dX7_waitFor_28 ?_
      rw [mW_10]
      refine X_iload_n (pc := 29) C 1 dX7_waitFor_29 rfl rfl ?_
      refine X_iadd (pc := 30) C dX7_waitFor_30 ?_
      refine X_ldc (pc := 31) C m_k_X7_255 dX7_waitFor_31 ?_
      refine X_icmp_le (pc := 33) C 40 dX7_waitFor_33 (by decide) (fun h33 => ?_) (fun h33 => ?_)
      · skip
        refine X_iconst (pc := 40) (v := 0) C dX7_waitFor_40 (by decide) ?_
        refine X_iconst (pc := 41) (v := 0) C dX7_waitFor_41 (by decide) ?_
        refine K_X7_154 (pc := 42) C (by assumption) (c_X7_fails l P _ _ _ _ h1 _ _ _) ⟨Nat.le_of_ble_eq_true rfl, Nat.le_of_ble_eq_true rfl⟩ ⟨rfl, rfl⟩ ⟨Nat.zero_le _, Nat.zero_le _⟩ (Nat.le_of_ble_eq_true rfl) dX7_waitFor_42 ?_
        rw [show mFl _ _ _ = (mThW S x) from by first | (rw [mThW, if_neg g8]; rfl) | (rw [mThW, if_pos g8, if_pos h33]; rfl) | (rw [mThW, if_pos g8, if_neg h33]; rfl)]
        refine X_if_eq (pc := 45) C 50 dX7_waitFor_45 (by decide) (fun h45 => ?_) (fun h45 => ?_)
        · have gg := bz00 h45
          rw [gg]
          refine X_aload_n (pc := 50) C 0 dX7_waitFor_50 rfl rfl ?_
          refine X_aload_n (pc := 51) C 0 dX7_waitFor_51 rfl rfl ?_
          refine G_X7_9 (pc := 52) C (by assumption) dX7_waitFor_52 ?_
          refine K_X7_267 (pc := 55) C (by assumption) (c_X7_remember l P _ _ _ _ h1 ch hc8 (by rw [upd_76]; exact hch)) ⟨Nat.le_of_ble_eq_true rfl, Nat.le_of_ble_eq_true rfl⟩ ⟨rfl, rfl⟩ ⟨Nat.zero_le _, Nat.zero_le _⟩ (Nat.le_of_ble_eq_true rfl) dX7_waitFor_55 ?_
          refine X_aload_n (pc := 58) C 0 dX7_waitFor_58 rfl rfl ?_
          refine X_iload_n (pc := 59) C 1 dX7_waitFor_59 rfl rfl ?_
          refine K_X7_256 (pc := 60) C (by assumption) (c_X7_waits l P _ _ _ _ h1 _) ⟨Nat.le_of_ble_eq_true rfl, Nat.le_of_ble_eq_true rfl⟩ ⟨rfl, rfl⟩ ⟨Nat.zero_le _, Nat.zero_le _⟩ (Nat.le_of_ble_eq_true rfl) dX7_waitFor_60 ?_
          exact X_iret (pc := 63) C (Nat.zero_le _) (Nat.zero_le _) dX7_waitFor_63 ⟨by first | (rw [if_neg gg]) | (rw [if_pos gg]) | (rw [if_pos rfl]), by first | (rw [if_neg gg]) | (rw [if_pos gg]) | (rw [if_pos rfl])⟩
        · have gg := bz01 h45
          refine X_iconst (pc := 48) (v := 0) C dX7_waitFor_48 (by decide) ?_
          exact X_iret (pc := 49) C (Nat.zero_le _) (Nat.zero_le _) dX7_waitFor_49 ⟨by first | (rw [if_neg gg]) | (rw [if_pos gg]) | (rw [if_pos rfl]), by first | (rw [if_neg gg]) | (rw [if_pos gg]) | (rw [if_pos rfl])⟩
      · skip
        refine X_iconst (pc := 36) (v := 1) C dX7_waitFor_36 (by decide) ?_
        refine X_goto (pc := 37) C 41 dX7_waitFor_37 (by decide) ?_
        refine X_iconst (pc := 41) (v := 0) C dX7_waitFor_41 (by decide) ?_
        refine K_X7_154 (pc := 42) C (by assumption) (c_X7_fails l P _ _ _ _ h1 _ _ _) ⟨Nat.le_of_ble_eq_true rfl, Nat.le_of_ble_eq_true rfl⟩ ⟨rfl, rfl⟩ ⟨Nat.zero_le _, Nat.zero_le _⟩ (Nat.le_of_ble_eq_true rfl) dX7_waitFor_42 ?_
        rw [show mFl _ _ _ = (mThW S x) from by first | (rw [mThW, if_neg g8]; rfl) | (rw [mThW, if_pos g8, if_pos h33]; rfl) | (rw [mThW, if_pos g8, if_neg h33]; rfl)]
        refine X_if_eq (pc := 45) C 50 dX7_waitFor_45 (by decide) (fun h45 => ?_) (fun h45 => ?_)
        · have gg := bz00 h45
          rw [gg]
          refine X_aload_n (pc := 50) C 0 dX7_waitFor_50 rfl rfl ?_
          refine X_aload_n (pc := 51) C 0 dX7_waitFor_51 rfl rfl ?_
          refine G_X7_9 (pc := 52) C (by assumption) dX7_waitFor_52 ?_
          refine K_X7_267 (pc := 55) C (by assumption) (c_X7_remember l P _ _ _ _ h1 ch hc8 (by rw [upd_76]; exact hch)) ⟨Nat.le_of_ble_eq_true rfl, Nat.le_of_ble_eq_true rfl⟩ ⟨rfl, rfl⟩ ⟨Nat.zero_le _, Nat.zero_le _⟩ (Nat.le_of_ble_eq_true rfl) dX7_waitFor_55 ?_
          refine X_aload_n (pc := 58) C 0 dX7_waitFor_58 rfl rfl ?_
          refine X_iload_n (pc := 59) C 1 dX7_waitFor_59 rfl rfl ?_
          refine K_X7_256 (pc := 60) C (by assumption) (c_X7_waits l P _ _ _ _ h1 _) ⟨Nat.le_of_ble_eq_true rfl, Nat.le_of_ble_eq_true rfl⟩ ⟨rfl, rfl⟩ ⟨Nat.zero_le _, Nat.zero_le _⟩ (Nat.le_of_ble_eq_true rfl) dX7_waitFor_60 ?_
          exact X_iret (pc := 63) C (Nat.zero_le _) (Nat.zero_le _) dX7_waitFor_63 ⟨by first | (rw [if_neg gg]) | (rw [if_pos gg]) | (rw [if_pos rfl]), by first | (rw [if_neg gg]) | (rw [if_pos gg]) | (rw [if_pos rfl])⟩
        · have gg := bz01 h45
          refine X_iconst (pc := 48) (v := 0) C dX7_waitFor_48 (by decide) ?_
          exact X_iret (pc := 49) C (Nat.zero_le _) (Nat.zero_le _) dX7_waitFor_49 ⟨by first | (rw [if_neg gg]) | (rw [if_pos gg]) | (rw [if_pos rfl]), by first | (rw [if_neg gg]) | (rw [if_pos gg]) | (rw [if_pos rfl])⟩
  · have g8 := bz0 h8
    refine X_iconst (pc := 11) (v := 1) C dX7_waitFor_11 (by decide) ?_
    refine X_goto (pc := 12) C 16 dX7_waitFor_12 (by decide) ?_
    refine X_istore_n (pc := 16) (lv1 := [(0, _), (1, _), (2, _)]) C 2 dX7_waitFor_16 rfl (by decide) rfl ?_
    refine X_aload_n (pc := 17) C 0 dX7_waitFor_17 rfl rfl ?_
    refine X_iload_n (pc := 18) C 2 dX7_waitFor_18 rfl rfl ?_
    refine X_iload_n (pc := 19) C 2 dX7_waitFor_19 rfl rfl ?_
    refine X_if_ne (pc := 20) C 40 dX7_waitFor_20 (by decide) (fun h20 => ?_) (fun h20 => ?_)
    · skip
      refine X_iconst (pc := 40) (v := 0) C dX7_waitFor_40 (by decide) ?_
      refine X_iconst (pc := 41) (v := 0) C dX7_waitFor_41 (by decide) ?_
      refine K_X7_154 (pc := 42) C (by assumption) (c_X7_fails l P _ _ _ _ h1 _ _ _) ⟨Nat.le_of_ble_eq_true rfl, Nat.le_of_ble_eq_true rfl⟩ ⟨rfl, rfl⟩ ⟨Nat.zero_le _, Nat.zero_le _⟩ (Nat.le_of_ble_eq_true rfl) dX7_waitFor_42 ?_
      rw [show mFl _ _ _ = (mThW S x) from by first | (rw [mThW, if_neg g8]; rfl) | (rw [mThW, if_pos g8, if_pos h33]; rfl) | (rw [mThW, if_pos g8, if_neg h33]; rfl)]
      refine X_if_eq (pc := 45) C 50 dX7_waitFor_45 (by decide) (fun h45 => ?_) (fun h45 => ?_)
      · have gg := bz00 h45
        rw [gg]
        refine X_aload_n (pc := 50) C 0 dX7_waitFor_50 rfl rfl ?_
        refine X_aload_n (pc := 51) C 0 dX7_waitFor_51 rfl rfl ?_
        refine G_X7_9 (pc := 52) C (by assumption) dX7_waitFor_52 ?_
        refine K_X7_267 (pc := 55) C (by assumption) (c_X7_remember l P _ _ _ _ h1 ch hc8 (by rw [upd_76]; exact hch)) ⟨Nat.le_of_ble_eq_true rfl, Nat.le_of_ble_eq_true rfl⟩ ⟨rfl, rfl⟩ ⟨Nat.zero_le _, Nat.zero_le _⟩ (Nat.le_of_ble_eq_true rfl) dX7_waitFor_55 ?_
        refine X_aload_n (pc := 58) C 0 dX7_waitFor_58 rfl rfl ?_
        refine X_iload_n (pc := 59) C 1 dX7_waitFor_59 rfl rfl ?_
        refine K_X7_256 (pc := 60) C (by assumption) (c_X7_waits l P _ _ _ _ h1 _) ⟨Nat.le_of_ble_eq_true rfl, Nat.le_of_ble_eq_true rfl⟩ ⟨rfl, rfl⟩ ⟨Nat.zero_le _, Nat.zero_le _⟩ (Nat.le_of_ble_eq_true rfl) dX7_waitFor_60 ?_
        exact X_iret (pc := 63) C (Nat.zero_le _) (Nat.zero_le _) dX7_waitFor_63 ⟨by first | (rw [if_neg gg]) | (rw [if_pos gg]) | (rw [if_pos rfl]), by first | (rw [if_neg gg]) | (rw [if_pos gg]) | (rw [if_pos rfl])⟩
      · have gg := bz01 h45
        refine X_iconst (pc := 48) (v := 0) C dX7_waitFor_48 (by decide) ?_
        exact X_iret (pc := 49) C (Nat.zero_le _) (Nat.zero_le _) dX7_waitFor_49 ⟨by first | (rw [if_neg gg]) | (rw [if_pos gg]) | (rw [if_pos rfl]), by first | (rw [if_neg gg]) | (rw [if_pos gg]) | (rw [if_pos rfl])⟩
    · exact absurd h20 (by decide)

set_option maxRecDepth 100000 in
set_option maxHeartbeats 4000000 in
theorem c_X7_undo (l : Launch) (P : XP) (τ : XS) (S F L : Nat → Int32) (h1 : xI1 P) (ch : Nat) (hc8 : ch ≤ 8) (hch : F 6 = nI ch) : XF l yX7_undo cX7_undo 1 (some .int) rm_X7_undo P [.ref (P.2.2.1 (.inr 9))] (mW τ S F L) (some (.int (if (if ch = 0 then (1 : Int32) else 0) = 0 then nI (ch - 1) else 0))) (if (if ch = 0 then (1 : Int32) else 0) = 0 then mW τ (va_cpy (τ.1 (.inr 12)) S ((ch - 1) * 550) 0 550) (upd (upd F 7 0) 6 (nI (ch - 1))) L else mW τ S (upd F 7 ((if ch = 0 then (1 : Int32) else 0))) L) := by
  refine XM.of (by decide +kernel) (Nat.le_of_ble_eq_true rfl) (fun p e s m args below meth c A C => ?_)
  replace C : XC p s m args meth c P A 1 RX7 cX7_undo (some .int) := C
  refine XW.eq (lv' := [(0, _)]) rfl rfl rfl ?_
  refine X_aload_n (pc := 0) C 0 dX7_undo_0 rfl rfl ?_
  refine X_aload_n (pc := 1) C 0 dX7_undo_1 rfl rfl ?_
  refine G_X7_64 (pc := 2) C (by assumption) dX7_undo_2 ?_
  rw [mW_9]
  rw [hch]
  refine X_if_ne (pc := 5) C 12 dX7_undo_5 (by decide) (fun h5 => ?_) (fun h5 => ?_)
  · have g5 : ¬ ch = 0 := fun q => h5 (by rw [q]; rfl)
    refine X_iconst (pc := 12) (v := 0) C dX7_undo_12 (by decide) ?_
    refine X_iconst (pc := 13) (v := 0) C dX7_undo_13 (by decide) ?_
    refine X_iconst (pc := 14) (v := 0) C dX7_undo_14 (by decide) ?_
    refine K_X7_154 (pc := 15) C (by assumption) (c_X7_fails l P _ _ _ _ h1 _ _ _) ⟨Nat.le_of_ble_eq_true rfl, Nat.le_of_ble_eq_true rfl⟩ ⟨rfl, rfl⟩ ⟨Nat.zero_le _, Nat.zero_le _⟩ (Nat.le_of_ble_eq_true rfl) dX7_undo_15 ?_
    rw [show mFl _ _ _ = (if ch = 0 then (1 : Int32) else 0) from by first | (rw [if_pos g5]; rfl) | (rw [if_neg g5]; rfl)]
    refine X_if_eq (pc := 18) C 23 dX7_undo_18 (by decide) (fun h18 => ?_) (fun h18 => ?_)
    · have gg := bz00 h18
      have g0 : ¬ ch = 0 := fun q => by rw [if_pos q] at gg; exact absurd gg (by decide)
      rw [gg]
      refine X_aload_n (pc := 23) C 0 dX7_undo_23 rfl rfl ?_
      refine X_dup (pc := 24) C dX7_undo_24 rfl ?_
      refine G_X7_64 (pc := 25) C (by assumption) dX7_undo_25 ?_
      rw [mW_9]
      rw [upd_76, hch]
      refine X_iconst (pc := 28) (v := 1) C dX7_undo_28 (by decide) ?_
      refine X_isub (pc := 29) C dX7_undo_29 ?_
      rw [show nI ch - (1 : Int32) = nI (ch - 1) from by rw [show ch = (ch - 1) + 1 by omega, nI_pred]; rfl]
      refine U_X7_64 (pc := 30) C (by assumption) dX7_undo_30 ?_
      rw [mW_u9]
      refine X_aload_n (pc := 33) C 0 dX7_undo_33 rfl rfl ?_
      refine G_X7_16 (pc := 34) C (by assumption) dX7_undo_34 ?_
      refine X_aload_n (pc := 37) C 0 dX7_undo_37 rfl rfl ?_
      refine G_X7_64 (pc := 38) C (by assumption) dX7_undo_38 ?_
      rw [mW_9]
      rw [upd_at]
      refine X_sipush (pc := 41) (v := 550) C dX7_undo_41 (by decide) ?_
      refine X_imul (pc := 44) C dX7_undo_44 ?_
      rw [m550]
      refine X_aload_n (pc := 45) C 0 dX7_undo_45 rfl rfl ?_
      refine G_X7_9 (pc := 46) C (by assumption) dX7_undo_46 ?_
      refine X_iconst (pc := 49) (v := 0) C dX7_undo_49 (by decide) ?_
      refine K_X7_76 (pc := 50) C (c_X7_copy l P _ (sp := ((ch - 1) * 550)) (dp := 0) (h1 12 (by decide) (by decide)) (h1 10 (by decide) (by decide)) rfl rfl (by omega) (by decide) (by decide) (by decide)) ⟨Nat.le_of_ble_eq_true rfl, Nat.le_of_ble_eq_true rfl⟩ ⟨rfl, rfl⟩ ⟨Nat.zero_le _, Nat.zero_le _⟩ (Nat.le_of_ble_eq_true rfl) dX7_undo_50 ?_
      refine XW.eq (σ' := mW τ (va_cpy (τ.1 (.inr 12)) S ((ch - 1) * 550) 0 550) (upd (upd F 7 0) 6 (nI (ch - 1))) L) (by rw [mW_10, mW_o (i := .inr 12) (by decide) (by decide) (by decide), mW_A10]) rfl rfl ?_
      refine X_aload_n (pc := 53) C 0 dX7_undo_53 rfl rfl ?_
      refine G_X7_64 (pc := 54) C (by assumption) dX7_undo_54 ?_
      rw [mW_9]
      rw [upd_at]
      exact X_iret (pc := 57) C (Nat.zero_le _) (Nat.zero_le _) dX7_undo_57 ⟨by first | (rw [if_neg gg]) | (rw [if_pos gg]) | (rw [if_pos rfl]), by first | (rw [if_neg gg]) | (rw [if_pos gg]) | (rw [if_pos rfl])⟩
    · have gg := bz01 h18
      refine X_iconst (pc := 21) (v := 0) C dX7_undo_21 (by decide) ?_
      exact X_iret (pc := 22) C (Nat.zero_le _) (Nat.zero_le _) dX7_undo_22 ⟨by first | (rw [if_neg gg]) | (rw [if_pos gg]) | (rw [if_pos rfl]), by first | (rw [if_neg gg]) | (rw [if_pos gg]) | (rw [if_pos rfl])⟩
  · have g5 : ch = 0 := neq (b := 0) h5
    refine X_iconst (pc := 8) (v := 1) C dX7_undo_8 (by decide) ?_
    refine X_goto (pc := 9) C 13 dX7_undo_9 (by decide) ?_
    refine X_iconst (pc := 13) (v := 0) C dX7_undo_13 (by decide) ?_
    refine X_iconst (pc := 14) (v := 0) C dX7_undo_14 (by decide) ?_
    refine K_X7_154 (pc := 15) C (by assumption) (c_X7_fails l P _ _ _ _ h1 _ _ _) ⟨Nat.le_of_ble_eq_true rfl, Nat.le_of_ble_eq_true rfl⟩ ⟨rfl, rfl⟩ ⟨Nat.zero_le _, Nat.zero_le _⟩ (Nat.le_of_ble_eq_true rfl) dX7_undo_15 ?_
    rw [show mFl _ _ _ = (if ch = 0 then (1 : Int32) else 0) from by first | (rw [if_pos g5]; rfl) | (rw [if_neg g5]; rfl)]
    refine X_if_eq (pc := 18) C 23 dX7_undo_18 (by decide) (fun h18 => ?_) (fun h18 => ?_)
    · have gg := bz00 h18
      have g0 : ¬ ch = 0 := fun q => by rw [if_pos q] at gg; exact absurd gg (by decide)
      rw [gg]
      refine X_aload_n (pc := 23) C 0 dX7_undo_23 rfl rfl ?_
      refine X_dup (pc := 24) C dX7_undo_24 rfl ?_
      refine G_X7_64 (pc := 25) C (by assumption) dX7_undo_25 ?_
      rw [mW_9]
      rw [upd_76, hch]
      refine X_iconst (pc := 28) (v := 1) C dX7_undo_28 (by decide) ?_
      refine X_isub (pc := 29) C dX7_undo_29 ?_
      rw [show nI ch - (1 : Int32) = nI (ch - 1) from by rw [show ch = (ch - 1) + 1 by omega, nI_pred]; rfl]
      refine U_X7_64 (pc := 30) C (by assumption) dX7_undo_30 ?_
      rw [mW_u9]
      refine X_aload_n (pc := 33) C 0 dX7_undo_33 rfl rfl ?_
      refine G_X7_16 (pc := 34) C (by assumption) dX7_undo_34 ?_
      refine X_aload_n (pc := 37) C 0 dX7_undo_37 rfl rfl ?_
      refine G_X7_64 (pc := 38) C (by assumption) dX7_undo_38 ?_
      rw [mW_9]
      rw [upd_at]
      refine X_sipush (pc := 41) (v := 550) C dX7_undo_41 (by decide) ?_
      refine X_imul (pc := 44) C dX7_undo_44 ?_
      rw [m550]
      refine X_aload_n (pc := 45) C 0 dX7_undo_45 rfl rfl ?_
      refine G_X7_9 (pc := 46) C (by assumption) dX7_undo_46 ?_
      refine X_iconst (pc := 49) (v := 0) C dX7_undo_49 (by decide) ?_
      refine K_X7_76 (pc := 50) C (c_X7_copy l P _ (sp := ((ch - 1) * 550)) (dp := 0) (h1 12 (by decide) (by decide)) (h1 10 (by decide) (by decide)) rfl rfl (by omega) (by decide) (by decide) (by decide)) ⟨Nat.le_of_ble_eq_true rfl, Nat.le_of_ble_eq_true rfl⟩ ⟨rfl, rfl⟩ ⟨Nat.zero_le _, Nat.zero_le _⟩ (Nat.le_of_ble_eq_true rfl) dX7_undo_50 ?_
      refine XW.eq (σ' := mW τ (va_cpy (τ.1 (.inr 12)) S ((ch - 1) * 550) 0 550) (upd (upd F 7 0) 6 (nI (ch - 1))) L) (by rw [mW_10, mW_o (i := .inr 12) (by decide) (by decide) (by decide), mW_A10]) rfl rfl ?_
      refine X_aload_n (pc := 53) C 0 dX7_undo_53 rfl rfl ?_
      refine G_X7_64 (pc := 54) C (by assumption) dX7_undo_54 ?_
      rw [mW_9]
      rw [upd_at]
      exact X_iret (pc := 57) C (Nat.zero_le _) (Nat.zero_le _) dX7_undo_57 ⟨by first | (rw [if_neg gg]) | (rw [if_pos gg]) | (rw [if_pos rfl]), by first | (rw [if_neg gg]) | (rw [if_pos gg]) | (rw [if_pos rfl])⟩
    · have gg := bz01 h18
      refine X_iconst (pc := 21) (v := 0) C dX7_undo_21 (by decide) ?_
      exact X_iret (pc := 22) C (Nat.zero_le _) (Nat.zero_le _) dX7_undo_22 ⟨by first | (rw [if_neg gg]) | (rw [if_pos gg]) | (rw [if_pos rfl]), by first | (rw [if_neg gg]) | (rw [if_pos gg]) | (rw [if_pos rfl])⟩

set_option maxRecDepth 100000 in
set_option maxHeartbeats 4000000 in
theorem c_X7_save (l : Launch) (P : XP) (τ : XS) (S F L : Nat → Int32) (h1 : xI1 P) (x : Int32) : XF l yX7_save cX7_save 2 (some .int) rm_X7_save P [.ref (P.2.2.1 (.inr 9)), .int x] (mW τ S F L) (some (.int (if (if xok x 2 then (0 : Int32) else 1) = 0 then S 0 else 0))) (if (if xok x 2 then (0 : Int32) else 1) = 0 then mW (xu (xA τ (.inr 13) (va_cpy S (τ.1 (.inr 13)) 0 (cN x * 550) 550)) (.inr 15) (cN x) 1) S (upd F 7 0) L else mW τ S (upd F 7 ((if xok x 2 then (0 : Int32) else 1))) L) := by
  refine XM.of (by decide +kernel) (Nat.le_of_ble_eq_true rfl) (fun p e s m args below meth c A C => ?_)
  replace C : XC p s m args meth c P A 2 RX7 cX7_save (some .int) := C
  refine XW.eq (lv' := [(0, _), (1, _)]) rfl rfl rfl ?_
  refine X_aload_n (pc := 0) C 0 dX7_save_0 rfl rfl ?_
  refine X_iload_n (pc := 1) C 1 dX7_save_1 rfl rfl ?_
  refine X_iconst (pc := 2) (v := 0) C dX7_save_2 (by decide) ?_
  refine X_iconst (pc := 3) (v := 1) C dX7_save_3 (by decide) ?_
  refine K_X7_80 (pc := 4) C (c_X7_isIn l P _ _ _ _) ⟨Nat.le_of_ble_eq_true rfl, Nat.le_of_ble_eq_true rfl⟩ ⟨rfl, rfl⟩ ⟨Nat.zero_le _, Nat.zero_le _⟩ (Nat.le_of_ble_eq_true rfl) dX7_save_4 ?_
  rw [mIn_2]
  refine X_if_ne (pc := 7) C 14 dX7_save_7 (by decide) (fun h7 => ?_) (fun h7 => ?_)
  · have g7 := bz1 h7
    refine X_iconst (pc := 14) (v := 0) C dX7_save_14 (by decide) ?_
    refine X_iconst (pc := 15) (v := 0) C dX7_save_15 (by decide) ?_
    refine X_iconst (pc := 16) (v := 0) C dX7_save_16 (by decide) ?_
    refine K_X7_154 (pc := 17) C (by assumption) (c_X7_fails l P _ _ _ _ h1 _ _ _) ⟨Nat.le_of_ble_eq_true rfl, Nat.le_of_ble_eq_true rfl⟩ ⟨rfl, rfl⟩ ⟨Nat.zero_le _, Nat.zero_le _⟩ (Nat.le_of_ble_eq_true rfl) dX7_save_17 ?_
    rw [show mFl _ _ _ = (if xok x 2 then (0 : Int32) else 1) from by first | (rw [if_pos g7]; rfl) | (rw [if_neg g7]; rfl)]
    refine X_if_eq (pc := 20) C 25 dX7_save_20 (by decide) (fun h20 => ?_) (fun h20 => ?_)
    · have gg := bz00 h20
      have g0 : xok x 2 := Classical.byContradiction fun q => by rw [if_neg q] at gg; exact absurd gg (by decide)
      obtain ⟨j, hj, rfl⟩ := xok_of g0
      rw [gg, cN, nI_clamp (n31 (by omega))]
      refine X_aload_n (pc := 25) C 0 dX7_save_25 rfl rfl ?_
      refine G_X7_9 (pc := 26) C (by assumption) dX7_save_26 ?_
      refine X_iconst (pc := 29) (v := 0) C dX7_save_29 (by decide) ?_
      refine X_aload_n (pc := 30) C 0 dX7_save_30 rfl rfl ?_
      refine G_X7_19 (pc := 31) C (by assumption) dX7_save_31 ?_
      refine X_iload_n (pc := 34) C 1 dX7_save_34 rfl rfl ?_
      refine X_sipush (pc := 35) (v := 550) C dX7_save_35 (by decide) ?_
      refine X_imul (pc := 38) C dX7_save_38 ?_
      rw [m550]
      refine K_X7_76 (pc := 39) C (c_X7_copy l P _ (sp := 0) (dp := (j * 550)) (h1 10 (by decide) (by decide)) (h1 13 (by decide) (by decide)) rfl rfl (by decide) (by omega) (by decide) (by decide)) ⟨Nat.le_of_ble_eq_true rfl, Nat.le_of_ble_eq_true rfl⟩ ⟨rfl, rfl⟩ ⟨Nat.zero_le _, Nat.zero_le _⟩ (Nat.le_of_ble_eq_true rfl) dX7_save_39 ?_
      refine XW.eq (σ' := mW (xA τ (.inr 13) (va_cpy S (τ.1 (.inr 13)) 0 (j * 550) 550)) S (upd F 7 0) L) (by rw [mW_10, mW_o (i := .inr 13) (by decide) (by decide) (by decide), mW_Ao (by decide) (by decide) (by decide)]) rfl rfl ?_
      refine X_aload_n (pc := 42) C 0 dX7_save_42 rfl rfl ?_
      refine G_X7_25 (pc := 43) C (by assumption) dX7_save_43 ?_
      refine X_iload_n (pc := 46) C 1 dX7_save_46 rfl rfl ?_
      refine X_iconst (pc := 47) (v := 1) C dX7_save_47 (by decide) ?_
      refine X_zastN (pc := 48) C (by first | exact h1 _ (by decide) (by decide)) rfl (by omega) (by decide) rfl dX7_save_48 ?_
      rw [mW_uo (j := .inr 15) (by decide) (by decide) (by decide)]
      refine X_aload_n (pc := 49) C 0 dX7_save_49 rfl rfl ?_
      refine G_X7_9 (pc := 50) C (by assumption) dX7_save_50 ?_
      refine X_iconst (pc := 53) (v := 0) C dX7_save_53 (by decide) ?_
      refine X_ialdN (j := 0) (pc := 54) C (by first | exact h1 _ (by decide) (by decide)) rfl (by omega) (by decide) dX7_save_54 ?_
      rw [mW_10]
      exact X_iret (pc := 55) C (Nat.zero_le _) (Nat.zero_le _) dX7_save_55 ⟨by first | (rw [if_neg gg]) | (rw [if_pos gg]) | (rw [if_pos rfl]), by first | (rw [if_neg gg]) | (rw [if_pos gg]) | (rw [if_pos rfl])⟩
    · have gg := bz01 h20
      refine X_iconst (pc := 23) (v := 0) C dX7_save_23 (by decide) ?_
      exact X_iret (pc := 24) C (Nat.zero_le _) (Nat.zero_le _) dX7_save_24 ⟨by first | (rw [if_neg gg]) | (rw [if_pos gg]) | (rw [if_pos rfl]), by first | (rw [if_neg gg]) | (rw [if_pos gg]) | (rw [if_pos rfl])⟩
  · have g7 := bz0 h7
    refine X_iconst (pc := 10) (v := 1) C dX7_save_10 (by decide) ?_
    refine X_goto (pc := 11) C 15 dX7_save_11 (by decide) ?_
    refine X_iconst (pc := 15) (v := 0) C dX7_save_15 (by decide) ?_
    refine X_iconst (pc := 16) (v := 0) C dX7_save_16 (by decide) ?_
    refine K_X7_154 (pc := 17) C (by assumption) (c_X7_fails l P _ _ _ _ h1 _ _ _) ⟨Nat.le_of_ble_eq_true rfl, Nat.le_of_ble_eq_true rfl⟩ ⟨rfl, rfl⟩ ⟨Nat.zero_le _, Nat.zero_le _⟩ (Nat.le_of_ble_eq_true rfl) dX7_save_17 ?_
    rw [show mFl _ _ _ = (if xok x 2 then (0 : Int32) else 1) from by first | (rw [if_pos g7]; rfl) | (rw [if_neg g7]; rfl)]
    refine X_if_eq (pc := 20) C 25 dX7_save_20 (by decide) (fun h20 => ?_) (fun h20 => ?_)
    · have gg := bz00 h20
      have g0 : xok x 2 := Classical.byContradiction fun q => by rw [if_neg q] at gg; exact absurd gg (by decide)
      obtain ⟨j, hj, rfl⟩ := xok_of g0
      rw [gg, cN, nI_clamp (n31 (by omega))]
      refine X_aload_n (pc := 25) C 0 dX7_save_25 rfl rfl ?_
      refine G_X7_9 (pc := 26) C (by assumption) dX7_save_26 ?_
      refine X_iconst (pc := 29) (v := 0) C dX7_save_29 (by decide) ?_
      refine X_aload_n (pc := 30) C 0 dX7_save_30 rfl rfl ?_
      refine G_X7_19 (pc := 31) C (by assumption) dX7_save_31 ?_
      refine X_iload_n (pc := 34) C 1 dX7_save_34 rfl rfl ?_
      refine X_sipush (pc := 35) (v := 550) C dX7_save_35 (by decide) ?_
      refine X_imul (pc := 38) C dX7_save_38 ?_
      rw [m550]
      refine K_X7_76 (pc := 39) C (c_X7_copy l P _ (sp := 0) (dp := (j * 550)) (h1 10 (by decide) (by decide)) (h1 13 (by decide) (by decide)) rfl rfl (by decide) (by omega) (by decide) (by decide)) ⟨Nat.le_of_ble_eq_true rfl, Nat.le_of_ble_eq_true rfl⟩ ⟨rfl, rfl⟩ ⟨Nat.zero_le _, Nat.zero_le _⟩ (Nat.le_of_ble_eq_true rfl) dX7_save_39 ?_
      refine XW.eq (σ' := mW (xA τ (.inr 13) (va_cpy S (τ.1 (.inr 13)) 0 (j * 550) 550)) S (upd F 7 0) L) (by rw [mW_10, mW_o (i := .inr 13) (by decide) (by decide) (by decide), mW_Ao (by decide) (by decide) (by decide)]) rfl rfl ?_
      refine X_aload_n (pc := 42) C 0 dX7_save_42 rfl rfl ?_
      refine G_X7_25 (pc := 43) C (by assumption) dX7_save_43 ?_
      refine X_iload_n (pc := 46) C 1 dX7_save_46 rfl rfl ?_
      refine X_iconst (pc := 47) (v := 1) C dX7_save_47 (by decide) ?_
      refine X_zastN (pc := 48) C (by first | exact h1 _ (by decide) (by decide)) rfl (by omega) (by decide) rfl dX7_save_48 ?_
      rw [mW_uo (j := .inr 15) (by decide) (by decide) (by decide)]
      refine X_aload_n (pc := 49) C 0 dX7_save_49 rfl rfl ?_
      refine G_X7_9 (pc := 50) C (by assumption) dX7_save_50 ?_
      refine X_iconst (pc := 53) (v := 0) C dX7_save_53 (by decide) ?_
      refine X_ialdN (j := 0) (pc := 54) C (by first | exact h1 _ (by decide) (by decide)) rfl (by omega) (by decide) dX7_save_54 ?_
      rw [mW_10]
      exact X_iret (pc := 55) C (Nat.zero_le _) (Nat.zero_le _) dX7_save_55 ⟨by first | (rw [if_neg gg]) | (rw [if_pos gg]) | (rw [if_pos rfl]), by first | (rw [if_neg gg]) | (rw [if_pos gg]) | (rw [if_pos rfl])⟩
    · have gg := bz01 h20
      refine X_iconst (pc := 23) (v := 0) C dX7_save_23 (by decide) ?_
      exact X_iret (pc := 24) C (Nat.zero_le _) (Nat.zero_le _) dX7_save_24 ⟨by first | (rw [if_neg gg]) | (rw [if_pos gg]) | (rw [if_pos rfl]), by first | (rw [if_neg gg]) | (rw [if_pos gg]) | (rw [if_pos rfl])⟩

theorem mThR_0 {τ : XS} {x : Int32} (h : mThR τ x = 0) : xok x 2 := by
  unfold mThR at h
  by_cases g : xok x 2
  · exact g
  · rw [if_neg g] at h; exact absurd h (by decide)
set_option maxRecDepth 100000 in
set_option maxHeartbeats 4000000 in
theorem c_X7_restore (l : Launch) (P : XP) (τ : XS) (S F L : Nat → Int32) (h1 : xI1 P) (ch : Nat) (hc8 : ch ≤ 8) (hch : F 6 = nI ch) (x : Int32) : XF l yX7_restore cX7_restore 3 (some .int) rm_X7_restore P [.ref (P.2.2.1 (.inr 9)), .int x] (mW τ S F L) (some (.int (if (mThR τ x) = 0 then (va_cpy (τ.1 (.inr 13)) S (cN x * 550) 0 550) 0 else 0))) (if (mThR τ x) = 0 then mW (mRw τ S ch) (va_cpy (τ.1 (.inr 13)) S (cN x * 550) 0 550) (upd (upd F 7 0) 6 (nI (mNx ch))) L else mW τ S (upd F 7 ((mThR τ x))) L) := by
  refine XM.of (by decide +kernel) (Nat.le_of_ble_eq_true rfl) (fun p e s m args below meth c A C => ?_)
  replace C : XC p s m args meth c P A 3 RX7 cX7_restore (some .int) := C
  refine XW.eq (lv' := [(0, _), (1, _)]) rfl rfl rfl ?_
  by_cases g0 : xok x 2
  · obtain ⟨j, hj, rfl⟩ := xok_of g0
    refine X_iload_n (pc := 0) C 1 dX7_restore_0 rfl rfl ?_
    refine X_iconst (pc := 1) (v := 0) C dX7_restore_1 (by decide) ?_
    refine X_iconst (pc := 2) (v := 1) C dX7_restore_2 (by decide) ?_
    refine K_X7_80 (pc := 3) C (c_X7_isIn l P _ _ _ _) ⟨Nat.le_of_ble_eq_true rfl, Nat.le_of_ble_eq_true rfl⟩ ⟨rfl, rfl⟩ ⟨Nat.zero_le _, Nat.zero_le _⟩ (Nat.le_of_ble_eq_true rfl) dX7_restore_3 ?_
    rw [mIn_2]
    refine X_if_ne (pc := 6) C 13 dX7_restore_6 (by decide) (fun h6 => ?_) (fun h6 => ?_)
    · skip
      refine X_iconst (pc := 13) (v := 0) C dX7_restore_13 (by decide) ?_
      refine X_istore_n (pc := 14) (lv1 := [(0, _), (1, _), (2, _)]) C 2 dX7_restore_14 rfl (by decide) rfl ?_
      refine X_aload_n (pc := 15) C 0 dX7_restore_15 rfl rfl ?_
      refine X_iload_n (pc := 16) C 2 dX7_restore_16 rfl rfl ?_
      refine X_iload_n (pc := 17) C 2 dX7_restore_17 rfl rfl ?_
      refine X_if_ne (pc := 18) C 34 dX7_restore_18 (by decide) (fun h18 => ?_) (fun h18 => ?_)
      · exact absurd h18 (by decide)
      · skip
        refine X_aload_n (pc := 21) C 0 dX7_restore_21 rfl rfl ?_
        refine G_X7_25 (pc := 22) C (by assumption) dX7_restore_22 ?_
        refine X_iload_n (pc := 25) C 1 dX7_restore_25 rfl rfl ?_
        refine X_zaldN (pc := 26) C (by first | exact h1 _ (by decide) (by decide)) rfl (by omega) (by decide) dX7_restore_26 ?_
        rw [mW_o (i := .inr 15) (by decide) (by decide) (by decide)]
        refine X_if_ne (pc := 27) C 34 dX7_restore_27 (by decide) (fun h27 => ?_) (fun h27 => ?_)
        · skip
          refine X_iconst (pc := 34) (v := 0) C dX7_restore_34 (by decide) ?_
          refine X_iconst (pc := 35) (v := 0) C dX7_restore_35 (by decide) ?_
          refine K_X7_154 (pc := 36) C (by assumption) (c_X7_fails l P _ _ _ _ h1 _ _ _) ⟨Nat.le_of_ble_eq_true rfl, Nat.le_of_ble_eq_true rfl⟩ ⟨rfl, rfl⟩ ⟨Nat.zero_le _, Nat.zero_le _⟩ (Nat.le_of_ble_eq_true rfl) dX7_restore_36 ?_
          rw [show mFl _ _ _ = mThR τ (nI j) from by first | (rw [mThR, if_pos g0, cN, nI_clamp (n31 (by omega)), if_neg h27]; rfl) | (rw [mThR, if_pos g0, cN, nI_clamp (n31 (by omega)), if_pos h27]; rfl)]
          refine X_if_eq (pc := 39) C 44 dX7_restore_39 (by decide) (fun h39 => ?_) (fun h39 => ?_)
          · have gg := bz00 h39
            rw [gg, cN, nI_clamp (n31 (by omega))]
            refine X_aload_n (pc := 44) C 0 dX7_restore_44 rfl rfl ?_
            refine X_aload_n (pc := 45) C 0 dX7_restore_45 rfl rfl ?_
            refine G_X7_9 (pc := 46) C (by assumption) dX7_restore_46 ?_
            refine K_X7_267 (pc := 49) C (by assumption) (c_X7_remember l P _ _ _ _ h1 ch hc8 (by rw [upd_76]; exact hch)) ⟨Nat.le_of_ble_eq_true rfl, Nat.le_of_ble_eq_true rfl⟩ ⟨rfl, rfl⟩ ⟨Nat.zero_le _, Nat.zero_le _⟩ (Nat.le_of_ble_eq_true rfl) dX7_restore_49 ?_
            refine X_aload_n (pc := 52) C 0 dX7_restore_52 rfl rfl ?_
            refine G_X7_19 (pc := 53) C (by assumption) dX7_restore_53 ?_
            refine X_iload_n (pc := 56) C 1 dX7_restore_56 rfl rfl ?_
            refine X_sipush (pc := 57) (v := 550) C dX7_restore_57 (by decide) ?_
            refine X_imul (pc := 60) C dX7_restore_60 ?_
            rw [m550]
            refine X_aload_n (pc := 61) C 0 dX7_restore_61 rfl rfl ?_
            refine G_X7_9 (pc := 62) C (by assumption) dX7_restore_62 ?_
            refine X_iconst (pc := 65) (v := 0) C dX7_restore_65 (by decide) ?_
            refine K_X7_76 (pc := 66) C (c_X7_copy l P _ (sp := (j * 550)) (dp := 0) (h1 13 (by decide) (by decide)) (h1 10 (by decide) (by decide)) rfl rfl (by omega) (by decide) (by decide) (by decide)) ⟨Nat.le_of_ble_eq_true rfl, Nat.le_of_ble_eq_true rfl⟩ ⟨rfl, rfl⟩ ⟨Nat.zero_le _, Nat.zero_le _⟩ (Nat.le_of_ble_eq_true rfl) dX7_restore_66 ?_
            refine XW.eq (σ' := mW (mRw τ S ch) (va_cpy (τ.1 (.inr 13)) S (j * 550) 0 550) (upd (upd F 7 0) 6 (nI (mNx ch))) L) (by rw [mW_10, mW_o (i := .inr 13) (by decide) (by decide) (by decide), mRw, xA_ne _ _ (show (Sum.inr 13 : XI) ≠ .inr 12 by decide), mW_A10]) rfl rfl ?_
            refine X_aload_n (pc := 69) C 0 dX7_restore_69 rfl rfl ?_
            refine G_X7_9 (pc := 70) C (by assumption) dX7_restore_70 ?_
            refine X_iconst (pc := 73) (v := 0) C dX7_restore_73 (by decide) ?_
            refine X_ialdN (j := 0) (pc := 74) C (by first | exact h1 _ (by decide) (by decide)) rfl (by omega) (by decide) dX7_restore_74 ?_
            rw [mW_10]
            exact X_iret (pc := 75) C (Nat.zero_le _) (Nat.zero_le _) dX7_restore_75 ⟨by first | (rw [if_neg gg]) | (rw [if_pos gg]) | (rw [if_pos rfl]), by first | (rw [if_neg gg]) | (rw [if_pos gg]) | (rw [if_pos rfl])⟩
          · have gg := bz01 h39
            refine X_iconst (pc := 42) (v := 0) C dX7_restore_42 (by decide) ?_
            exact X_iret (pc := 43) C (Nat.zero_le _) (Nat.zero_le _) dX7_restore_43 ⟨by first | (rw [if_neg gg]) | (rw [if_pos gg]) | (rw [if_pos rfl]), by first | (rw [if_neg gg]) | (rw [if_pos gg]) | (rw [if_pos rfl])⟩
        · skip
          refine X_iconst (pc := 30) (v := 1) C dX7_restore_30 (by decide) ?_
          refine X_goto (pc := 31) C 35 dX7_restore_31 (by decide) ?_
          refine X_iconst (pc := 35) (v := 0) C dX7_restore_35 (by decide) ?_
          refine K_X7_154 (pc := 36) C (by assumption) (c_X7_fails l P _ _ _ _ h1 _ _ _) ⟨Nat.le_of_ble_eq_true rfl, Nat.le_of_ble_eq_true rfl⟩ ⟨rfl, rfl⟩ ⟨Nat.zero_le _, Nat.zero_le _⟩ (Nat.le_of_ble_eq_true rfl) dX7_restore_36 ?_
          rw [show mFl _ _ _ = mThR τ (nI j) from by first | (rw [mThR, if_pos g0, cN, nI_clamp (n31 (by omega)), if_neg h27]; rfl) | (rw [mThR, if_pos g0, cN, nI_clamp (n31 (by omega)), if_pos h27]; rfl)]
          refine X_if_eq (pc := 39) C 44 dX7_restore_39 (by decide) (fun h39 => ?_) (fun h39 => ?_)
          · have gg := bz00 h39
            rw [gg, cN, nI_clamp (n31 (by omega))]
            refine X_aload_n (pc := 44) C 0 dX7_restore_44 rfl rfl ?_
            refine X_aload_n (pc := 45) C 0 dX7_restore_45 rfl rfl ?_
            refine G_X7_9 (pc := 46) C (by assumption) dX7_restore_46 ?_
            refine K_X7_267 (pc := 49) C (by assumption) (c_X7_remember l P _ _ _ _ h1 ch hc8 (by rw [upd_76]; exact hch)) ⟨Nat.le_of_ble_eq_true rfl, Nat.le_of_ble_eq_true rfl⟩ ⟨rfl, rfl⟩ ⟨Nat.zero_le _, Nat.zero_le _⟩ (Nat.le_of_ble_eq_true rfl) dX7_restore_49 ?_
            refine X_aload_n (pc := 52) C 0 dX7_restore_52 rfl rfl ?_
            refine G_X7_19 (pc := 53) C (by assumption) dX7_restore_53 ?_
            refine X_iload_n (pc := 56) C 1 dX7_restore_56 rfl rfl ?_
            refine X_sipush (pc := 57) (v := 550) C dX7_restore_57 (by decide) ?_
            refine X_imul (pc := 60) C dX7_restore_60 ?_
            rw [m550]
            refine X_aload_n (pc := 61) C 0 dX7_restore_61 rfl rfl ?_
            refine G_X7_9 (pc := 62) C (by assumption) dX7_restore_62 ?_
            refine X_iconst (pc := 65) (v := 0) C dX7_restore_65 (by decide) ?_
            refine K_X7_76 (pc := 66) C (c_X7_copy l P _ (sp := (j * 550)) (dp := 0) (h1 13 (by decide) (by decide)) (h1 10 (by decide) (by decide)) rfl rfl (by omega) (by decide) (by decide) (by decide)) ⟨Nat.le_of_ble_eq_true rfl, Nat.le_of_ble_eq_true rfl⟩ ⟨rfl, rfl⟩ ⟨Nat.zero_le _, Nat.zero_le _⟩ (Nat.le_of_ble_eq_true rfl) dX7_restore_66 ?_
            refine XW.eq (σ' := mW (mRw τ S ch) (va_cpy (τ.1 (.inr 13)) S (j * 550) 0 550) (upd (upd F 7 0) 6 (nI (mNx ch))) L) (by rw [mW_10, mW_o (i := .inr 13) (by decide) (by decide) (by decide), mRw, xA_ne _ _ (show (Sum.inr 13 : XI) ≠ .inr 12 by decide), mW_A10]) rfl rfl ?_
            refine X_aload_n (pc := 69) C 0 dX7_restore_69 rfl rfl ?_
            refine G_X7_9 (pc := 70) C (by assumption) dX7_restore_70 ?_
            refine X_iconst (pc := 73) (v := 0) C dX7_restore_73 (by decide) ?_
            refine X_ialdN (j := 0) (pc := 74) C (by first | exact h1 _ (by decide) (by decide)) rfl (by omega) (by decide) dX7_restore_74 ?_
            rw [mW_10]
            exact X_iret (pc := 75) C (Nat.zero_le _) (Nat.zero_le _) dX7_restore_75 ⟨by first | (rw [if_neg gg]) | (rw [if_pos gg]) | (rw [if_pos rfl]), by first | (rw [if_neg gg]) | (rw [if_pos gg]) | (rw [if_pos rfl])⟩
          · have gg := bz01 h39
            refine X_iconst (pc := 42) (v := 0) C dX7_restore_42 (by decide) ?_
            exact X_iret (pc := 43) C (Nat.zero_le _) (Nat.zero_le _) dX7_restore_43 ⟨by first | (rw [if_neg gg]) | (rw [if_pos gg]) | (rw [if_pos rfl]), by first | (rw [if_neg gg]) | (rw [if_pos gg]) | (rw [if_pos rfl])⟩
    · exact absurd g0 (bz0 h6)
  · skip
    refine X_iload_n (pc := 0) C 1 dX7_restore_0 rfl rfl ?_
    refine X_iconst (pc := 1) (v := 0) C dX7_restore_1 (by decide) ?_
    refine X_iconst (pc := 2) (v := 1) C dX7_restore_2 (by decide) ?_
    refine K_X7_80 (pc := 3) C (c_X7_isIn l P _ _ _ _) ⟨Nat.le_of_ble_eq_true rfl, Nat.le_of_ble_eq_true rfl⟩ ⟨rfl, rfl⟩ ⟨Nat.zero_le _, Nat.zero_le _⟩ (Nat.le_of_ble_eq_true rfl) dX7_restore_3 ?_
    rw [mIn_2]
    refine X_if_ne (pc := 6) C 13 dX7_restore_6 (by decide) (fun h6 => ?_) (fun h6 => ?_)
    · exact absurd (bz1 h6) g0
    · skip
      refine X_iconst (pc := 9) (v := 1) C dX7_restore_9 (by decide) ?_
      refine X_goto (pc := 10) C 14 dX7_restore_10 (by decide) ?_
      refine X_istore_n (pc := 14) (lv1 := [(0, _), (1, _), (2, _)]) C 2 dX7_restore_14 rfl (by decide) rfl ?_
      refine X_aload_n (pc := 15) C 0 dX7_restore_15 rfl rfl ?_
      refine X_iload_n (pc := 16) C 2 dX7_restore_16 rfl rfl ?_
      refine X_iload_n (pc := 17) C 2 dX7_restore_17 rfl rfl ?_
      refine X_if_ne (pc := 18) C 34 dX7_restore_18 (by decide) (fun h18 => ?_) (fun h18 => ?_)
      · skip
        refine X_iconst (pc := 34) (v := 0) C dX7_restore_34 (by decide) ?_
        refine X_iconst (pc := 35) (v := 0) C dX7_restore_35 (by decide) ?_
        refine K_X7_154 (pc := 36) C (by assumption) (c_X7_fails l P _ _ _ _ h1 _ _ _) ⟨Nat.le_of_ble_eq_true rfl, Nat.le_of_ble_eq_true rfl⟩ ⟨rfl, rfl⟩ ⟨Nat.zero_le _, Nat.zero_le _⟩ (Nat.le_of_ble_eq_true rfl) dX7_restore_36 ?_
        rw [show mFl _ _ _ = mThR τ x from by rw [mThR, if_neg g0]; rfl]
        refine X_if_eq (pc := 39) C 44 dX7_restore_39 (by decide) (fun h39 => ?_) (fun h39 => ?_)
        · exact absurd (mThR_0 (bz00 h39)) g0
        · have gg := bz01 h39
          refine X_iconst (pc := 42) (v := 0) C dX7_restore_42 (by decide) ?_
          exact X_iret (pc := 43) C (Nat.zero_le _) (Nat.zero_le _) dX7_restore_43 ⟨by first | (rw [if_neg gg]) | (rw [if_pos gg]) | (rw [if_pos rfl]), by first | (rw [if_neg gg]) | (rw [if_pos gg]) | (rw [if_pos rfl])⟩
      · exact absurd h18 (by decide)

set_option maxRecDepth 100000 in
set_option maxHeartbeats 4000000 in
theorem c_X7_startsIfEnded (l : Launch) (P : XP) (τ : XS) (S F L : Nat → Int32) (h1 : xI1 P) (hM : MI S) (x : Int32) : XF l yX7_startsIfEnded cX7_startsIfEnded 3 (some .int) rm_X7_startsIfEnded P [.ref (P.2.2.1 (.inr 9)), .int x] (mW τ S F L) (some (.int (if xok x (mK S) ∧ ¬ 2 ≤ sC S 4 (cN x) then nI (mFin S (cN x)).2 else 0))) (if xok x (mK S) ∧ ¬ 2 ≤ sC S 4 (cN x) then mW (xA τ (.inr 11) (va_cpy S (τ.1 (.inr 11)) 0 0 550)) (va_cpy (va_cpy S (τ.1 (.inr 11)) 0 0 550) (mFin S (cN x)).1 0 0 550) (upd F 7 0) L else mW τ S (upd F 7 (if xok x (mK S) then 0 else 1)) L) := by
  refine XM.of (by decide +kernel) (Nat.le_of_ble_eq_true rfl) (fun p e s m args below meth c A C => ?_)
  replace C : XC p s m args meth c P A 3 RX7 cX7_startsIfEnded (some .int) := C
  refine XW.eq (lv' := [(0, _), (1, _)]) rfl rfl rfl ?_
  refine X_aload_n (pc := 0) C 0 dX7_startsIfEnded_0 rfl rfl ?_
  refine X_iload_n (pc := 1) C 1 dX7_startsIfEnded_1 rfl rfl ?_
  refine K_X7_312 (pc := 2) C (by assumption) (c_X7_isBadCall l P _ _ _ _ h1 (mK S) (by have := hM.k40; omega) hM.k x) ⟨Nat.le_of_ble_eq_true rfl, Nat.le_of_ble_eq_true rfl⟩ ⟨rfl, rfl⟩ ⟨Nat.zero_le _, Nat.zero_le _⟩ (Nat.le_of_ble_eq_true rfl) dX7_startsIfEnded_2 ?_
  refine X_if_ne (pc := 5) C 16 dX7_startsIfEnded_5 (by decide) (fun h5 => ?_) (fun h5 => ?_)
  · have g5 := bz01 h5
    refine X_iconst (pc := 16) (v := 0) C dX7_startsIfEnded_16 (by decide) ?_
    exact X_iret (pc := 17) C (Nat.zero_le _) (Nat.zero_le _) dX7_startsIfEnded_17 ⟨by rw [if_neg (fun q => g5 q.1)], by rw [if_neg (c := xok x (mK S) ∧ ¬ 2 ≤ sC S 4 (cN x)) (fun q => g5 q.1)]⟩
  · have g5 := bz00 h5
    have gx := xok_c g5 (by have := hM.k40; omega)
    have g40 := hM.k40
    refine X_aload_n (pc := 8) C 0 dX7_startsIfEnded_8 rfl rfl ?_
    refine X_iload_n (pc := 9) C 1 dX7_startsIfEnded_9 rfl rfl ?_
    refine K_X7_247 (pc := 10) C (by assumption) (c_X7_isOver l P _ _ _ _ h1 _ (by omega) _ gx.2) ⟨Nat.le_of_ble_eq_true rfl, Nat.le_of_ble_eq_true rfl⟩ ⟨rfl, rfl⟩ ⟨Nat.zero_le _, Nat.zero_le _⟩ (Nat.le_of_ble_eq_true rfl) dX7_startsIfEnded_10 ?_
    refine X_if_eq (pc := 13) C 18 dX7_startsIfEnded_13 (by decide) (fun h13 => ?_) (fun h13 => ?_)
    · have g13 := bz0 h13
      refine X_aload_n (pc := 18) C 0 dX7_startsIfEnded_18 rfl rfl ?_
      refine G_X7_9 (pc := 19) C (by assumption) dX7_startsIfEnded_19 ?_
      refine X_iconst (pc := 22) (v := 0) C dX7_startsIfEnded_22 (by decide) ?_
      refine X_aload_n (pc := 23) C 0 dX7_startsIfEnded_23 rfl rfl ?_
      refine G_X7_13 (pc := 24) C (by assumption) dX7_startsIfEnded_24 ?_
      refine X_iconst (pc := 27) (v := 0) C dX7_startsIfEnded_27 (by decide) ?_
      refine K_X7_76 (pc := 28) C (c_X7_copy l P _ (sp := 0) (dp := 0) (h1 10 (by decide) (by decide)) (h1 11 (by decide) (by decide)) rfl rfl (by decide) (by decide) (by decide) (by decide)) ⟨Nat.le_of_ble_eq_true rfl, Nat.le_of_ble_eq_true rfl⟩ ⟨rfl, rfl⟩ ⟨Nat.zero_le _, Nat.zero_le _⟩ (Nat.le_of_ble_eq_true rfl) dX7_startsIfEnded_28 ?_
      refine XW.eq (σ' := mW (xA τ (.inr 11) (va_cpy S (τ.1 (.inr 11)) 0 0 550)) S (upd F 7 0) L) (by rw [mW_10, mW_o (i := .inr 11) (by decide) (by decide) (by decide), mW_Ao (by decide) (by decide) (by decide), if_pos g5]) rfl rfl ?_
      refine X_aload_n (pc := 31) C 0 dX7_startsIfEnded_31 rfl rfl ?_
      refine X_iload_n (pc := 32) C 1 dX7_startsIfEnded_32 rfl rfl ?_
      refine K_X7_250 (pc := 33) C (by assumption) (c_X7_finishes l P _ _ _ _ h1 hM _ gx.1 _ gx.2) ⟨Nat.le_of_ble_eq_true rfl, Nat.le_of_ble_eq_true rfl⟩ ⟨rfl, rfl⟩ ⟨Nat.zero_le _, Nat.zero_le _⟩ (Nat.le_of_ble_eq_true rfl) dX7_startsIfEnded_33 ?_
      refine X_istore_n (pc := 36) (lv1 := [(0, _), (1, _), (2, _)]) C 2 dX7_startsIfEnded_36 rfl (by decide) rfl ?_
      refine X_aload_n (pc := 37) C 0 dX7_startsIfEnded_37 rfl rfl ?_
      refine G_X7_13 (pc := 38) C (by assumption) dX7_startsIfEnded_38 ?_
      refine X_iconst (pc := 41) (v := 0) C dX7_startsIfEnded_41 (by decide) ?_
      refine X_aload_n (pc := 42) C 0 dX7_startsIfEnded_42 rfl rfl ?_
      refine G_X7_9 (pc := 43) C (by assumption) dX7_startsIfEnded_43 ?_
      refine X_iconst (pc := 46) (v := 0) C dX7_startsIfEnded_46 (by decide) ?_
      refine K_X7_76 (pc := 47) C (c_X7_copy l P _ (sp := 0) (dp := 0) (h1 11 (by decide) (by decide)) (h1 10 (by decide) (by decide)) rfl rfl (by decide) (by decide) (by decide) (by decide)) ⟨Nat.le_of_ble_eq_true rfl, Nat.le_of_ble_eq_true rfl⟩ ⟨rfl, rfl⟩ ⟨Nat.zero_le _, Nat.zero_le _⟩ (Nat.le_of_ble_eq_true rfl) dX7_startsIfEnded_47 ?_
      refine XW.eq (σ' := mW (xA τ (.inr 11) (va_cpy S (τ.1 (.inr 11)) 0 0 550)) (va_cpy (va_cpy S (τ.1 (.inr 11)) 0 0 550) (mFin S (cN x)).1 0 0 550) (upd F 7 0) L) (by rw [mW_10, mW_o (i := .inr 11) (by decide) (by decide) (by decide), xA_self, mW_A10]) rfl rfl ?_
      refine X_iload_n (pc := 50) C 2 dX7_startsIfEnded_50 rfl rfl ?_
      exact X_iret (pc := 51) C (Nat.zero_le _) (Nat.zero_le _) dX7_startsIfEnded_51 ⟨by rw [if_pos ⟨g5, g13⟩], by rw [if_pos (c := xok x (mK S) ∧ ¬ 2 ≤ sC S 4 (cN x)) ⟨g5, g13⟩]⟩
    · have g13 := bz1 h13
      refine X_iconst (pc := 16) (v := 0) C dX7_startsIfEnded_16 (by decide) ?_
      exact X_iret (pc := 17) C (Nat.zero_le _) (Nat.zero_le _) dX7_startsIfEnded_17 ⟨by rw [if_neg (fun q => q.2 g13)], by rw [if_neg (c := xok x (mK S) ∧ ¬ 2 ≤ sC S 4 (cN x)) (fun q => q.2 g13)]⟩

set_option maxRecDepth 100000 in
set_option maxHeartbeats 4000000 in
theorem c_X7_truncateInput (l : Launch) (P : XP) (τ : XS) (S F L : Nat → Int32) (h1 : xI1 P) (x : Int32) : XF l yX7_truncateInput cX7_truncateInput 2 (some .int) rm_X7_truncateInput P [.ref (P.2.2.1 (.inr 9)), .int x] (mW τ S F L) (some (.int (if (if 0 ≤ x ∧ x ≤ F 10 then (0 : Int32) else 1) = 0 then x else 0))) (if (if 0 ≤ x ∧ x ≤ F 10 then (0 : Int32) else 1) = 0 then mW τ S (upd (upd F 7 0) 10 x) L else mW τ S (upd F 7 ((if 0 ≤ x ∧ x ≤ F 10 then (0 : Int32) else 1))) L) := by
  refine XM.of (by decide +kernel) (Nat.le_of_ble_eq_true rfl) (fun p e s m args below meth c A C => ?_)
  replace C : XC p s m args meth c P A 2 RX7 cX7_truncateInput (some .int) := C
  refine XW.eq (lv' := [(0, _), (1, _)]) rfl rfl rfl ?_
  refine X_aload_n (pc := 0) C 0 dX7_truncateInput_0 rfl rfl ?_
  refine X_iload_n (pc := 1) C 1 dX7_truncateInput_1 rfl rfl ?_
  refine X_iconst (pc := 2) (v := 0) C dX7_truncateInput_2 (by decide) ?_
  refine X_aload_n (pc := 3) C 0 dX7_truncateInput_3 rfl rfl ?_
  refine G_X7_54 (pc := 4) C (by assumption) dX7_truncateInput_4 ?_
  rw [mW_9]
  refine K_X7_80 (pc := 7) C (c_X7_isIn l P _ _ _ _) ⟨Nat.le_of_ble_eq_true rfl, Nat.le_of_ble_eq_true rfl⟩ ⟨rfl, rfl⟩ ⟨Nat.zero_le _, Nat.zero_le _⟩ (Nat.le_of_ble_eq_true rfl) dX7_truncateInput_7 ?_
  refine X_if_ne (pc := 10) C 17 dX7_truncateInput_10 (by decide) (fun h10 => ?_) (fun h10 => ?_)
  · have g10 := bz1 h10
    refine X_iconst (pc := 17) (v := 0) C dX7_truncateInput_17 (by decide) ?_
    refine X_iconst (pc := 18) (v := 0) C dX7_truncateInput_18 (by decide) ?_
    refine X_iconst (pc := 19) (v := 0) C dX7_truncateInput_19 (by decide) ?_
    refine K_X7_154 (pc := 20) C (by assumption) (c_X7_fails l P _ _ _ _ h1 _ _ _) ⟨Nat.le_of_ble_eq_true rfl, Nat.le_of_ble_eq_true rfl⟩ ⟨rfl, rfl⟩ ⟨Nat.zero_le _, Nat.zero_le _⟩ (Nat.le_of_ble_eq_true rfl) dX7_truncateInput_20 ?_
    rw [show mFl _ _ _ = (if 0 ≤ x ∧ x ≤ F 10 then (0 : Int32) else 1) from by first | (rw [if_pos g10]; rfl) | (rw [if_neg g10]; rfl)]
    refine X_if_eq (pc := 23) C 28 dX7_truncateInput_23 (by decide) (fun h23 => ?_) (fun h23 => ?_)
    · have gg := bz00 h23
      rw [gg]
      refine X_aload_n (pc := 28) C 0 dX7_truncateInput_28 rfl rfl ?_
      refine X_iload_n (pc := 29) C 1 dX7_truncateInput_29 rfl rfl ?_
      refine U_X7_54 (pc := 30) C (by assumption) dX7_truncateInput_30 ?_
      rw [mW_u9]
      refine X_iload_n (pc := 33) C 1 dX7_truncateInput_33 rfl rfl ?_
      exact X_iret (pc := 34) C (Nat.zero_le _) (Nat.zero_le _) dX7_truncateInput_34 ⟨by first | (rw [if_neg gg]) | (rw [if_pos gg]) | (rw [if_pos rfl]), by first | (rw [if_neg gg]) | (rw [if_pos gg]) | (rw [if_pos rfl])⟩
    · have gg := bz01 h23
      refine X_iconst (pc := 26) (v := 0) C dX7_truncateInput_26 (by decide) ?_
      exact X_iret (pc := 27) C (Nat.zero_le _) (Nat.zero_le _) dX7_truncateInput_27 ⟨by first | (rw [if_neg gg]) | (rw [if_pos gg]) | (rw [if_pos rfl]), by first | (rw [if_neg gg]) | (rw [if_pos gg]) | (rw [if_pos rfl])⟩
  · have g10 := bz0 h10
    refine X_iconst (pc := 13) (v := 1) C dX7_truncateInput_13 (by decide) ?_
    refine X_goto (pc := 14) C 18 dX7_truncateInput_14 (by decide) ?_
    refine X_iconst (pc := 18) (v := 0) C dX7_truncateInput_18 (by decide) ?_
    refine X_iconst (pc := 19) (v := 0) C dX7_truncateInput_19 (by decide) ?_
    refine K_X7_154 (pc := 20) C (by assumption) (c_X7_fails l P _ _ _ _ h1 _ _ _) ⟨Nat.le_of_ble_eq_true rfl, Nat.le_of_ble_eq_true rfl⟩ ⟨rfl, rfl⟩ ⟨Nat.zero_le _, Nat.zero_le _⟩ (Nat.le_of_ble_eq_true rfl) dX7_truncateInput_20 ?_
    rw [show mFl _ _ _ = (if 0 ≤ x ∧ x ≤ F 10 then (0 : Int32) else 1) from by first | (rw [if_pos g10]; rfl) | (rw [if_neg g10]; rfl)]
    refine X_if_eq (pc := 23) C 28 dX7_truncateInput_23 (by decide) (fun h23 => ?_) (fun h23 => ?_)
    · have gg := bz00 h23
      rw [gg]
      refine X_aload_n (pc := 28) C 0 dX7_truncateInput_28 rfl rfl ?_
      refine X_iload_n (pc := 29) C 1 dX7_truncateInput_29 rfl rfl ?_
      refine U_X7_54 (pc := 30) C (by assumption) dX7_truncateInput_30 ?_
      rw [mW_u9]
      refine X_iload_n (pc := 33) C 1 dX7_truncateInput_33 rfl rfl ?_
      exact X_iret (pc := 34) C (Nat.zero_le _) (Nat.zero_le _) dX7_truncateInput_34 ⟨by first | (rw [if_neg gg]) | (rw [if_pos gg]) | (rw [if_pos rfl]), by first | (rw [if_neg gg]) | (rw [if_pos gg]) | (rw [if_pos rfl])⟩
    · have gg := bz01 h23
      refine X_iconst (pc := 26) (v := 0) C dX7_truncateInput_26 (by decide) ?_
      exact X_iret (pc := 27) C (Nat.zero_le _) (Nat.zero_le _) dX7_truncateInput_27 ⟨by first | (rw [if_neg gg]) | (rw [if_pos gg]) | (rw [if_pos rfl]), by first | (rw [if_neg gg]) | (rw [if_pos gg]) | (rw [if_pos rfl])⟩

set_option maxRecDepth 100000 in
set_option maxHeartbeats 4000000 in
theorem c_X7_four (l : Launch) (P : XP) (τ : XS) (S F L : Nat → Int32) (h1 : xI1 P) (n : Nat) (hn : n + 4 ≤ 700) (hn9 : F 10 = nI n) (v : Int32) : XF l yX7_four cX7_four 3 none rm_X7_four P [.ref (P.2.2.1 (.inr 9)), .int v] (mW τ S F L) (none) (mW (mPut4 τ n v) S (upd F 10 (nI (n + 4))) L) := by
  refine XM.of (by decide +kernel) (Nat.le_of_ble_eq_true rfl) (fun p e s m args below meth c A C => ?_)
  replace C : XC p s m args meth c P A 3 RX7 cX7_four none := C
  refine XW.eq (lv' := [(0, _), (1, _)]) rfl rfl rfl ?_
  refine X_bipush (pc := 0) (v := 24) C dX7_four_0 (by decide) ?_
  refine X_istore_n (pc := 2) (lv1 := [(0, _), (1, _), (2, _)]) C 2 dX7_four_2 rfl (by decide) rfl ?_
  refine X_iload_n (pc := 3) C 2 dX7_four_3 rfl rfl ?_
  refine X_if_lt (pc := 4) C 39 dX7_four_4 (by decide) (fun h4 => ?_) (fun h4 => ?_)
  · exact absurd h4 (by decide)
  · skip
    refine X_aload_n (pc := 7) C 0 dX7_four_7 rfl rfl ?_
    refine G_X7_29 (pc := 8) C (by assumption) dX7_four_8 ?_
    refine X_aload_n (pc := 11) C 0 dX7_four_11 rfl rfl ?_
    refine G_X7_54 (pc := 12) C (by assumption) dX7_four_12 ?_
    rw [mW_9]
    first | rw [upd_at] | rw [hn9]
    refine X_iload_n (pc := 15) C 1 dX7_four_15 rfl rfl ?_
    refine X_iload_n (pc := 16) C 2 dX7_four_16 rfl rfl ?_
    refine X_ishr (pc := 17) C dX7_four_17 ?_
    refine X_sipush (pc := 18) (v := 255) C dX7_four_18 (by decide) ?_
    refine X_iand (pc := 21) C dX7_four_21 ?_
    refine X_iastN (pc := 22) C (by first | exact h1 _ (by decide) (by decide)) rfl (by omega) (by decide) dX7_four_22 ?_
    rw [mW_uo (j := .inr 16) (by decide) (by decide) (by decide)]
    refine X_aload_n (pc := 23) C 0 dX7_four_23 rfl rfl ?_
    refine X_dup (pc := 24) C dX7_four_24 rfl ?_
    refine G_X7_54 (pc := 25) C (by assumption) dX7_four_25 ?_
    rw [mW_9]
    first | rw [upd_at] | rw [hn9]
    refine X_iconst (pc := 28) (v := 1) C dX7_four_28 (by decide) ?_
    refine X_iadd (pc := 29) C dX7_four_29 ?_
    rw [nI_1]
    refine U_X7_54 (pc := 30) C (by assumption) dX7_four_30 ?_
    rw [mW_u9]
    try rw [upd_upd]
    refine X_iinc (pc := 33) (kk := (-8)) (lv1 := [(0, _), (1, _), (2, _)]) C dX7_four_33 rfl (by decide) (by decide) rfl ?_
    first | rw [i24] | rw [i16] | rw [i8_] | skip
    refine X_goto (pc := 36) C 3 dX7_four_36 (by decide) ?_
    refine X_iload_n (pc := 3) C 2 dX7_four_3 rfl rfl ?_
    refine X_if_lt (pc := 4) C 39 dX7_four_4 (by decide) (fun h4 => ?_) (fun h4 => ?_)
    · exact absurd h4 (by decide)
    · skip
      refine X_aload_n (pc := 7) C 0 dX7_four_7 rfl rfl ?_
      refine G_X7_29 (pc := 8) C (by assumption) dX7_four_8 ?_
      refine X_aload_n (pc := 11) C 0 dX7_four_11 rfl rfl ?_
      refine G_X7_54 (pc := 12) C (by assumption) dX7_four_12 ?_
      rw [mW_9]
      first | rw [upd_at] | rw [hn9]
      refine X_iload_n (pc := 15) C 1 dX7_four_15 rfl rfl ?_
      refine X_iload_n (pc := 16) C 2 dX7_four_16 rfl rfl ?_
      refine X_ishr (pc := 17) C dX7_four_17 ?_
      refine X_sipush (pc := 18) (v := 255) C dX7_four_18 (by decide) ?_
      refine X_iand (pc := 21) C dX7_four_21 ?_
      refine X_iastN (pc := 22) C (by first | exact h1 _ (by decide) (by decide)) rfl (by omega) (by decide) dX7_four_22 ?_
      rw [mW_uo (j := .inr 16) (by decide) (by decide) (by decide)]
      refine X_aload_n (pc := 23) C 0 dX7_four_23 rfl rfl ?_
      refine X_dup (pc := 24) C dX7_four_24 rfl ?_
      refine G_X7_54 (pc := 25) C (by assumption) dX7_four_25 ?_
      rw [mW_9]
      first | rw [upd_at] | rw [hn9]
      refine X_iconst (pc := 28) (v := 1) C dX7_four_28 (by decide) ?_
      refine X_iadd (pc := 29) C dX7_four_29 ?_
      rw [nI_1]
      refine U_X7_54 (pc := 30) C (by assumption) dX7_four_30 ?_
      rw [mW_u9]
      try rw [upd_upd]
      refine X_iinc (pc := 33) (kk := (-8)) (lv1 := [(0, _), (1, _), (2, _)]) C dX7_four_33 rfl (by decide) (by decide) rfl ?_
      first | rw [i24] | rw [i16] | rw [i8_] | skip
      refine X_goto (pc := 36) C 3 dX7_four_36 (by decide) ?_
      refine X_iload_n (pc := 3) C 2 dX7_four_3 rfl rfl ?_
      refine X_if_lt (pc := 4) C 39 dX7_four_4 (by decide) (fun h4 => ?_) (fun h4 => ?_)
      · exact absurd h4 (by decide)
      · skip
        refine X_aload_n (pc := 7) C 0 dX7_four_7 rfl rfl ?_
        refine G_X7_29 (pc := 8) C (by assumption) dX7_four_8 ?_
        refine X_aload_n (pc := 11) C 0 dX7_four_11 rfl rfl ?_
        refine G_X7_54 (pc := 12) C (by assumption) dX7_four_12 ?_
        rw [mW_9]
        first | rw [upd_at] | rw [hn9]
        refine X_iload_n (pc := 15) C 1 dX7_four_15 rfl rfl ?_
        refine X_iload_n (pc := 16) C 2 dX7_four_16 rfl rfl ?_
        refine X_ishr (pc := 17) C dX7_four_17 ?_
        refine X_sipush (pc := 18) (v := 255) C dX7_four_18 (by decide) ?_
        refine X_iand (pc := 21) C dX7_four_21 ?_
        refine X_iastN (pc := 22) C (by first | exact h1 _ (by decide) (by decide)) rfl (by omega) (by decide) dX7_four_22 ?_
        rw [mW_uo (j := .inr 16) (by decide) (by decide) (by decide)]
        refine X_aload_n (pc := 23) C 0 dX7_four_23 rfl rfl ?_
        refine X_dup (pc := 24) C dX7_four_24 rfl ?_
        refine G_X7_54 (pc := 25) C (by assumption) dX7_four_25 ?_
        rw [mW_9]
        first | rw [upd_at] | rw [hn9]
        refine X_iconst (pc := 28) (v := 1) C dX7_four_28 (by decide) ?_
        refine X_iadd (pc := 29) C dX7_four_29 ?_
        rw [nI_1]
        refine U_X7_54 (pc := 30) C (by assumption) dX7_four_30 ?_
        rw [mW_u9]
        try rw [upd_upd]
        refine X_iinc (pc := 33) (kk := (-8)) (lv1 := [(0, _), (1, _), (2, _)]) C dX7_four_33 rfl (by decide) (by decide) rfl ?_
        first | rw [i24] | rw [i16] | rw [i8_] | skip
        refine X_goto (pc := 36) C 3 dX7_four_36 (by decide) ?_
        refine X_iload_n (pc := 3) C 2 dX7_four_3 rfl rfl ?_
        refine X_if_lt (pc := 4) C 39 dX7_four_4 (by decide) (fun h4 => ?_) (fun h4 => ?_)
        · exact absurd h4 (by decide)
        · skip
          refine X_aload_n (pc := 7) C 0 dX7_four_7 rfl rfl ?_
          refine G_X7_29 (pc := 8) C (by assumption) dX7_four_8 ?_
          refine X_aload_n (pc := 11) C 0 dX7_four_11 rfl rfl ?_
          refine G_X7_54 (pc := 12) C (by assumption) dX7_four_12 ?_
          rw [mW_9]
          first | rw [upd_at] | rw [hn9]
          refine X_iload_n (pc := 15) C 1 dX7_four_15 rfl rfl ?_
          refine X_iload_n (pc := 16) C 2 dX7_four_16 rfl rfl ?_
          refine X_ishr (pc := 17) C dX7_four_17 ?_
          refine X_sipush (pc := 18) (v := 255) C dX7_four_18 (by decide) ?_
          refine X_iand (pc := 21) C dX7_four_21 ?_
          refine X_iastN (pc := 22) C (by first | exact h1 _ (by decide) (by decide)) rfl (by omega) (by decide) dX7_four_22 ?_
          rw [mW_uo (j := .inr 16) (by decide) (by decide) (by decide)]
          refine X_aload_n (pc := 23) C 0 dX7_four_23 rfl rfl ?_
          refine X_dup (pc := 24) C dX7_four_24 rfl ?_
          refine G_X7_54 (pc := 25) C (by assumption) dX7_four_25 ?_
          rw [mW_9]
          first | rw [upd_at] | rw [hn9]
          refine X_iconst (pc := 28) (v := 1) C dX7_four_28 (by decide) ?_
          refine X_iadd (pc := 29) C dX7_four_29 ?_
          rw [nI_1]
          refine U_X7_54 (pc := 30) C (by assumption) dX7_four_30 ?_
          rw [mW_u9]
          try rw [upd_upd]
          refine X_iinc (pc := 33) (kk := (-8)) (lv1 := [(0, _), (1, _), (2, _)]) C dX7_four_33 rfl (by decide) (by decide) rfl ?_
          first | rw [i24] | rw [i16] | rw [i8_] | skip
          refine X_goto (pc := 36) C 3 dX7_four_36 (by decide) ?_
          refine X_iload_n (pc := 3) C 2 dX7_four_3 rfl rfl ?_
          refine X_if_lt (pc := 4) C 39 dX7_four_4 (by decide) (fun h4 => ?_) (fun h4 => ?_)
          · skip
            exact X_vret (pc := 39) C (Nat.zero_le _) (Nat.zero_le _) dX7_four_39 ⟨rfl, rfl⟩
          · exact absurd h4 (by decide)

set_option maxRecDepth 100000 in
set_option maxHeartbeats 4000000 in
theorem c_X7_append (l : Launch) (P : XP) (τ : XS) (S F L : Nat → Int32) (h1 : xI1 P) (n : Nat) (hn : n ≤ 700) (hn9 : F 10 = nI n) (a b d f g : Int32) : XF l yX7_append cX7_append 6 (some .int) rm_X7_append P [.ref (P.2.2.1 (.inr 9)), .int a, .int b, .int d, .int f, .int g] (mW τ S F L) (some (.int (if n + 20 ≤ 700 then nI (n + 20) else -1))) (if n + 20 ≤ 700 then mW (mPut4 (mPut4 (mPut4 (mPut4 (mPut4 τ n a) (n + 4) b) (n + 8) d) (n + 12) f) (n + 16) g) S (upd (upd F 7 0) 10 (nI (n + 20))) L else mW τ S (upd F 7 0) L) := by
  refine XM.of (by decide +kernel) (Nat.le_of_ble_eq_true rfl) (fun p e s m args below meth c A C => ?_)
  replace C : XC p s m args meth c P A 6 RX7 cX7_append (some .int) := C
  refine XW.eq (lv' := [(0, _), (1, _), (2, _), (3, _), (4, _), (5, _)]) rfl rfl rfl ?_
  refine X_aload_n (pc := 0) C 0 dX7_append_0 rfl rfl ?_
  refine X_iconst (pc := 1) (v := 0) C dX7_append_1 (by decide) ?_
  refine U_X7_67 (pc := 2) C (by assumption) dX7_append_2 ?_
  rw [mW_u9]
  refine X_aload_n (pc := 5) C 0 dX7_append_5 rfl rfl ?_
  refine G_X7_54 (pc := 6) C (by assumption) dX7_append_6 ?_
  rw [mW_9]
  rw [upd_ne (by decide), hn9]
  refine X_bipush (pc := 9) (v := 20) C dX7_append_9 (by decide) ?_
  refine X_iadd (pc := 11) C dX7_append_11 ?_
  rw [show nI n + (20 : Int32) = nI (n + 20) from nI_add n 20]
  refine X_sipush (pc := 12) (v := 700) C dX7_append_12 (by decide) ?_
  refine X_icmp_le (pc := 15) C 20 dX7_append_15 (by decide) (fun h15 => ?_) (fun h15 => ?_)
  · have g15 := nle (b := 700) h15
    refine X_aload_n (pc := 20) C 0 dX7_append_20 rfl rfl ?_
    refine X_iload_n (pc := 21) C 1 dX7_append_21 rfl rfl ?_
    refine K_X7_151 (pc := 22) C (by assumption) (c_X7_four l P _ _ _ _ h1 n (by omega) ((upd_ne (by decide)).trans hn9) _) ⟨Nat.le_of_ble_eq_true rfl, Nat.le_of_ble_eq_true rfl⟩ ⟨rfl, rfl⟩ ⟨Nat.zero_le _, Nat.zero_le _⟩ (Nat.le_of_ble_eq_true rfl) dX7_append_22 ?_
    refine X_aload_n (pc := 25) C 0 dX7_append_25 rfl rfl ?_
    refine X_iload_n (pc := 26) C 2 dX7_append_26 rfl rfl ?_
    refine K_X7_151 (pc := 27) C (by assumption) (c_X7_four l P _ _ _ _ h1 (n + 4) (by omega) (by first | exact upd_at | exact (upd_ne (by decide)).trans hn9) _) ⟨Nat.le_of_ble_eq_true rfl, Nat.le_of_ble_eq_true rfl⟩ ⟨rfl, rfl⟩ ⟨Nat.zero_le _, Nat.zero_le _⟩ (Nat.le_of_ble_eq_true rfl) dX7_append_27 ?_
    refine X_aload_n (pc := 30) C 0 dX7_append_30 rfl rfl ?_
    refine X_iload_n (pc := 31) C 3 dX7_append_31 rfl rfl ?_
    refine K_X7_151 (pc := 32) C (by assumption) (c_X7_four l P _ _ _ _ h1 (n + 8) (by omega) (by first | exact upd_at | exact (upd_ne (by decide)).trans hn9) _) ⟨Nat.le_of_ble_eq_true rfl, Nat.le_of_ble_eq_true rfl⟩ ⟨rfl, rfl⟩ ⟨Nat.zero_le _, Nat.zero_le _⟩ (Nat.le_of_ble_eq_true rfl) dX7_append_32 ?_
    refine X_aload_n (pc := 35) C 0 dX7_append_35 rfl rfl ?_
    refine X_iload (pc := 36) C dX7_append_36 rfl ?_
    refine K_X7_151 (pc := 38) C (by assumption) (c_X7_four l P _ _ _ _ h1 (n + 12) (by omega) (by first | exact upd_at | exact (upd_ne (by decide)).trans hn9) _) ⟨Nat.le_of_ble_eq_true rfl, Nat.le_of_ble_eq_true rfl⟩ ⟨rfl, rfl⟩ ⟨Nat.zero_le _, Nat.zero_le _⟩ (Nat.le_of_ble_eq_true rfl) dX7_append_38 ?_
    refine X_aload_n (pc := 41) C 0 dX7_append_41 rfl rfl ?_
    refine X_iload (pc := 42) C dX7_append_42 rfl ?_
    refine K_X7_151 (pc := 44) C (by assumption) (c_X7_four l P _ _ _ _ h1 (n + 16) (by omega) (by first | exact upd_at | exact (upd_ne (by decide)).trans hn9) _) ⟨Nat.le_of_ble_eq_true rfl, Nat.le_of_ble_eq_true rfl⟩ ⟨rfl, rfl⟩ ⟨Nat.zero_le _, Nat.zero_le _⟩ (Nat.le_of_ble_eq_true rfl) dX7_append_44 ?_
    refine X_aload_n (pc := 47) C 0 dX7_append_47 rfl rfl ?_
    refine G_X7_54 (pc := 48) C (by assumption) dX7_append_48 ?_
    rw [mW_9]
    rw [upd_at]
    exact X_iret (pc := 51) C (Nat.zero_le _) (Nat.zero_le _) dX7_append_51 ⟨by first | (rw [if_neg (show ¬ n + 20 ≤ 700 by omega)]) | (rw [if_pos (show n + 20 ≤ 700 by omega)]), by first | (rw [if_neg (show ¬ n + 20 ≤ 700 by omega)]) | (rw [if_pos (show n + 20 ≤ 700 by omega)]; simp only [upd_upd])⟩
  · have g15 := nnle (b := 700) h15
    refine X_iconst (pc := 18) (v := (-1)) C dX7_append_18 (by decide) ?_
    exact X_iret (pc := 19) C (Nat.zero_le _) (Nat.zero_le _) dX7_append_19 ⟨by first | (rw [if_neg (show ¬ n + 20 ≤ 700 by omega)]) | (rw [if_pos (show n + 20 ≤ 700 by omega)]), by first | (rw [if_neg (show ¬ n + 20 ≤ 700 by omega)]) | (rw [if_pos (show n + 20 ≤ 700 by omega)]; simp only [upd_upd])⟩

end XP34

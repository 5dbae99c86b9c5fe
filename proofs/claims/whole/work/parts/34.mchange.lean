/-! THE REFERENCE: what is changed -/
theorem upd_upd {f : Nat → Int32} {k : Nat} {a b : Int32} : upd (upd f k a) k b = upd f k b := by
  funext n
  by_cases h : n = k <;> simp [upd, h]
theorem xA_xA {σ : XS} {i : XI} {f g : Nat → Int32} : xA (xA σ i f) i g = xA σ i g := by
  refine mW_ext (fun j => ?_) rfl
  unfold xA
  by_cases h : j = i <;> simp [h]
theorem upd_76 {f : Nat → Int32} {a : Int32} : upd f 7 a 6 = f 6 := upd_ne (by decide)
theorem m550 (c : Nat) : nI c * 550 = nI (c * 550) := nI_m c 550
theorem mW_uo {τ : XS} {S F L : Nat → Int32} {j : XI} {k : Nat} {v : Int32} (h : j ≠ .inr 10) (h2 : j ≠ .inr 9) (h3 : j ≠ .inr 18) : xu (mW τ S F L) j k v = mW (xu τ j k v) S F L := by rw [xu, mW_o h h2 h3, mW_Ao h h2 h3]; rfl
def mNx (ch : Nat) : Nat := if ch = 8 then 8 else ch + 1
/-- the kept rows with f behind them -/
def mRem (K f : Nat → Int32) (ch : Nat) : Nat → Int32 := if ch = 8 then va_cpy f (va_cpy K K 550 0 3850) 0 3850 550 else va_cpy f K 0 (ch * 550) 550
/-- .. the world with them -/
def mRw (τ : XS) (f : Nat → Int32) (ch : Nat) : XS := xA τ (.inr 12) (mRem (τ.1 (.inr 12)) f ch)
def ub (u : Int32) : Int32 := if u = 0 then 0 else 1
def mThC (S : Nat → Int32) (x y : Int32) : Int32 := if xok x (mU S) ∧ xok y (mU S) then (if x = y then 2 else if mK S = 40 then 3 else 0) else 1
def mThT (S : Nat → Int32) (x y : Int32) : Int32 := if xok x (mU S) ∧ xok y (mT S) then (if mK S = 40 then 2 else 0) else 1
def mThE (S : Nat → Int32) (x : Int32) : Int32 := if xok x (mK S) then (if 2 ≤ sC S 4 (cN x) then 2 else 0) else 1
def mThW (S : Nat → Int32) (v : Int32) : Int32 := if 1 ≤ v ∧ v ≤ 9999 then (if S 0 + v ≤ 999999 then 0 else 2) else 1
def mThM (S : Nat → Int32) (x v : Int32) : Int32 := if xok x (mU S) then (if 0 ≤ v ∧ v ≤ 9 then 0 else 2) else 1
def mThR (τ : XS) (x : Int32) : Int32 := if xok x 2 then (if τ.1 (.inr 15) (cN x) = 0 then 2 else 0) else 1
theorem mIn_2 (x : Int32) : mIn x 0 1 = if xok x 2 then 1 else 0 := mIn_ok (n := 2) (by decide)
theorem mIn_b {x a b : Int32} : mIn x a b = if a ≤ x ∧ x ≤ b then 1 else 0 := rfl
theorem i24 : (24 : Int32) + -8 = 16 := by decide
theorem i16 : (16 : Int32) + -8 = 8 := by decide
theorem i8_ : (8 : Int32) + -8 = 0 := by decide
def mPut4 (τ : XS) (n : Nat) (v : Int32) : XS := xu (xu (xu (xu τ (.inr 16) n (v >>> ((24 : Int32) &&& 31) &&& 255)) (.inr 16) (n + 1) (v >>> ((16 : Int32) &&& 31) &&& 255)) (.inr 16) (n + 2) (v >>> ((8 : Int32) &&& 31) &&& 255)) (.inr 16) (n + 3) (v >>> ((0 : Int32) &&& 31) &&& 255)
section XP34
variable {p : Program} {l : Launch} {e : Env} {R : Room} {s : State} {m : MethodId} {args : Array Value} {below : List Frame} {meth : Method} {c : Code} {P : XP} {A : Nat → Prop} {nL cells slots : Nat} {Q : State → Prop} {cc : ByteArray} {ret : Option FieldType} {σ : XS} {pc : Nat} {lv : List (Nat × Value)} {st : List Value}
set_option maxRecDepth 100000 in
set_option maxHeartbeats 4000000 in
theorem c_X7_copy (l : Launch) (P : XP) (σ : XS) {i j : XI} {n0 n1 sp dp : Nat} (hi : i ∈ P.2.2.2.1) (hj : j ∈ P.2.2.2.1) (hs : xsh i = .inr (0, n0)) (hs1 : xsh j = .inr (0, n1)) (h4 : sp + 550 ≤ n0) (h5 : dp + 550 ≤ n1) (hn0 : n0 < 2 ^ 31) (hn1 : n1 < 2 ^ 31) : XF l yX7_copy cX7_copy 4 none rm_X7_copy P [.ref (P.2.2.1 i), .int (nI sp), .ref (P.2.2.1 j), .int (nI dp)] σ (none) (xA σ j (va_cpy (σ.1 i) (σ.1 j) sp dp 550)) := by
  refine XM.of (by decide +kernel) (Nat.le_of_ble_eq_true rfl) (fun p e s m args below meth c A C => ?_)
  replace C : XC p s m args meth c P A 4 RX7 cX7_copy none := C
  refine XW.eq (lv' := [(0, _), (1, _), (2, _), (3, _)]) rfl rfl rfl ?_
  refine X_aload_n (pc := 0) C 0 dX7_copy_0 rfl rfl ?_
  refine X_iload_n (pc := 1) C 1 dX7_copy_1 rfl rfl ?_
  refine X_aload_n (pc := 2) C 2 dX7_copy_2 rfl rfl ?_
  refine X_iload_n (pc := 3) C 3 dX7_copy_3 rfl rfl ?_
  refine X_sipush (pc := 4) (v := 550) C dX7_copy_4 (by decide) ?_
  refine X_copyi (sp := sp) (dp := dp) (n := 550) (pc := 7) C hi hj hs hs1 m_m_X7_70 h4 h5 hn0 hn1 (Nat.le_of_ble_eq_true rfl) (Nat.le_of_ble_eq_true rfl) dX7_copy_7 ?_
  exact X_vret (pc := 10) C (Nat.zero_le _) (Nat.zero_le _) dX7_copy_10 ⟨rfl, rfl⟩

set_option maxRecDepth 100000 in
set_option maxHeartbeats 4000000 in
theorem c_X7_remember (l : Launch) (P : XP) (τ : XS) (S F L : Nat → Int32) (h1 : xI1 P) (ch : Nat) (hc8 : ch ≤ 8) (hch : F 6 = nI ch) : XF l yX7_remember cX7_remember 2 none rm_X7_remember P [.ref (P.2.2.1 (.inr 9)), .ref (P.2.2.1 (.inr 10))] (mW τ S F L) (none) (mW (mRw τ S ch) S (upd F 6 (nI (mNx ch))) L) := by
  refine XM.of (by decide +kernel) (Nat.le_of_ble_eq_true rfl) (fun p e s m args below meth c A C => ?_)
  replace C : XC p s m args meth c P A 2 RX7 cX7_remember none := C
  refine XW.eq (lv' := [(0, _), (1, _)]) rfl rfl rfl ?_
  refine X_aload_n (pc := 0) C 0 dX7_remember_0 rfl rfl ?_
  refine G_X7_64 (pc := 1) C (by assumption) dX7_remember_1 ?_
  rw [mW_9]
  rw [hch]
  refine X_bipush (pc := 4) (v := 8) C dX7_remember_4 (by decide) ?_
  refine X_icmp_ne (pc := 6) C 37 dX7_remember_6 (by decide) (fun h6 => ?_) (fun h6 => ?_)
  · have g8 : ¬ ch = 8 := fun q => h6 (by rw [q]; rfl)
    refine X_aload_n (pc := 37) C 1 dX7_remember_37 rfl rfl ?_
    refine X_iconst (pc := 38) (v := 0) C dX7_remember_38 (by decide) ?_
    refine X_aload_n (pc := 39) C 0 dX7_remember_39 rfl rfl ?_
    refine G_X7_16 (pc := 40) C (by assumption) dX7_remember_40 ?_
    refine X_aload_n (pc := 43) C 0 dX7_remember_43 rfl rfl ?_
    refine G_X7_64 (pc := 44) C (by assumption) dX7_remember_44 ?_
    rw [mW_9]
    rw [hch]
    refine X_sipush (pc := 47) (v := 550) C dX7_remember_47 (by decide) ?_
    refine X_imul (pc := 50) C dX7_remember_50 ?_
    rw [m550]
    refine K_X7_76 (pc := 51) C (c_X7_copy l P _ (sp := 0) (dp := (ch * 550)) (h1 10 (by decide) (by decide)) (h1 12 (by decide) (by decide)) rfl rfl (by decide) (by omega) (by decide) (by decide)) ⟨Nat.le_of_ble_eq_true rfl, Nat.le_of_ble_eq_true rfl⟩ ⟨rfl, rfl⟩ ⟨Nat.zero_le _, Nat.zero_le _⟩ (Nat.le_of_ble_eq_true rfl) dX7_remember_51 ?_
    refine XW.eq (σ' := mW (mRw τ S ch) S F L) (by rw [mW_10, mW_o (i := .inr 12) (by decide) (by decide) (by decide), mW_Ao (by decide) (by decide) (by decide), mRw, mRem, if_neg g8]) rfl rfl ?_
    refine X_aload_n (pc := 54) C 0 dX7_remember_54 rfl rfl ?_
    refine X_dup (pc := 55) C dX7_remember_55 rfl ?_
    refine G_X7_64 (pc := 56) C (by assumption) dX7_remember_56 ?_
    rw [mW_9]
    rw [hch]
    refine X_iconst (pc := 59) (v := 1) C dX7_remember_59 (by decide) ?_
    refine X_iadd (pc := 60) C dX7_remember_60 ?_
    rw [nI_1]
    refine U_X7_64 (pc := 61) C (by assumption) dX7_remember_61 ?_
    rw [mW_u9]
    exact X_vret (pc := 64) C (Nat.zero_le _) (Nat.zero_le _) dX7_remember_64 ⟨rfl, by rw [mNx, if_neg g8]⟩
  · have g8 : ch = 8 := neq (b := 8) h6
    refine X_aload_n (pc := 9) C 0 dX7_remember_9 rfl rfl ?_
    refine G_X7_16 (pc := 10) C (by assumption) dX7_remember_10 ?_
    refine X_sipush (pc := 13) (v := 550) C dX7_remember_13 (by decide) ?_
    refine X_aload_n (pc := 16) C 0 dX7_remember_16 rfl rfl ?_
    refine G_X7_16 (pc := 17) C (by assumption) dX7_remember_17 ?_
    refine X_iconst (pc := 20) (v := 0) C dX7_remember_20 (by decide) ?_
    refine X_sipush (pc := 21) (v := 3850) C dX7_remember_21 (by decide) ?_
    refine X_copyi (sp := 550) (dp := 0) (n := 3850) (pc := 24) C (by first | exact h1 _ (by decide) (by decide)) (by first | exact h1 _ (by decide) (by decide)) rfl rfl m_m_X7_70 (by decide) (by decide) (by decide) (by decide) (Nat.le_of_ble_eq_true rfl) (Nat.le_of_ble_eq_true rfl) dX7_remember_24 ?_
    refine XW.eq (σ' := mW (xA τ (.inr 12) (va_cpy (τ.1 (.inr 12)) (τ.1 (.inr 12)) 550 0 3850)) S F L) (by rw [mW_o (i := .inr 12) (by decide) (by decide) (by decide), mW_Ao (by decide) (by decide) (by decide)]) rfl rfl ?_
    refine X_aload_n (pc := 27) C 0 dX7_remember_27 rfl rfl ?_
    refine X_dup (pc := 28) C dX7_remember_28 rfl ?_
    refine G_X7_64 (pc := 29) C (by assumption) dX7_remember_29 ?_
    rw [mW_9]
    rw [hch]
    refine X_iconst (pc := 32) (v := 1) C dX7_remember_32 (by decide) ?_
    refine X_isub (pc := 33) C dX7_remember_33 ?_
    rw [show nI ch - (1 : Int32) = nI 7 from by rw [g8]; rfl]
    refine U_X7_64 (pc := 34) C (by assumption) dX7_remember_34 ?_
    rw [mW_u9]
    refine X_aload_n (pc := 37) C 1 dX7_remember_37 rfl rfl ?_
    refine X_iconst (pc := 38) (v := 0) C dX7_remember_38 (by decide) ?_
    refine X_aload_n (pc := 39) C 0 dX7_remember_39 rfl rfl ?_
    refine G_X7_16 (pc := 40) C (by assumption) dX7_remember_40 ?_
    refine X_aload_n (pc := 43) C 0 dX7_remember_43 rfl rfl ?_
    refine G_X7_64 (pc := 44) C (by assumption) dX7_remember_44 ?_
    rw [mW_9]
    rw [upd_at]
    refine X_sipush (pc := 47) (v := 550) C dX7_remember_47 (by decide) ?_
    refine X_imul (pc := 50) C dX7_remember_50 ?_
    rw [show nI 7 * (550 : Int32) = nI 3850 from by decide]
    refine K_X7_76 (pc := 51) C (c_X7_copy l P _ (sp := 0) (dp := 3850) (h1 10 (by decide) (by decide)) (h1 12 (by decide) (by decide)) rfl rfl (by decide) (by decide) (by decide) (by decide)) ⟨Nat.le_of_ble_eq_true rfl, Nat.le_of_ble_eq_true rfl⟩ ⟨rfl, rfl⟩ ⟨Nat.zero_le _, Nat.zero_le _⟩ (Nat.le_of_ble_eq_true rfl) dX7_remember_51 ?_
    refine XW.eq (σ' := mW (mRw τ S ch) S (upd F 6 (nI 7)) L) (by rw [mW_10, mW_o (i := .inr 12) (by decide) (by decide) (by decide), mW_Ao (by decide) (by decide) (by decide), xA_self, mRw, mRem, if_pos g8, xA_xA]) rfl rfl ?_
    refine X_aload_n (pc := 54) C 0 dX7_remember_54 rfl rfl ?_
    refine X_dup (pc := 55) C dX7_remember_55 rfl ?_
    refine G_X7_64 (pc := 56) C (by assumption) dX7_remember_56 ?_
    rw [mW_9]
    rw [upd_at]
    refine X_iconst (pc := 59) (v := 1) C dX7_remember_59 (by decide) ?_
    refine X_iadd (pc := 60) C dX7_remember_60 ?_
    rw [nI_1]
    refine U_X7_64 (pc := 61) C (by assumption) dX7_remember_61 ?_
    rw [mW_u9]
    rw [upd_upd]
    exact X_vret (pc := 64) C (Nat.zero_le _) (Nat.zero_le _) dX7_remember_64 ⟨rfl, by rw [mNx, if_pos g8]⟩

set_option maxRecDepth 100000 in
set_option maxHeartbeats 4000000 in
theorem c_X7_remember14 (l : Launch) (P : XP) (τ : XS) (S F L : Nat → Int32) (h1 : xI1 P) (ch : Nat) (hc8 : ch ≤ 8) (hch : F 6 = nI ch) : XF l yX7_remember cX7_remember 2 none rm_X7_remember P [.ref (P.2.2.1 (.inr 9)), .ref (P.2.2.1 (.inr 14))] (mW τ S F L) (none) (mW (mRw τ (τ.1 (.inr 14)) ch) S (upd F 6 (nI (mNx ch))) L) := by
  refine XM.of (by decide +kernel) (Nat.le_of_ble_eq_true rfl) (fun p e s m args below meth c A C => ?_)
  replace C : XC p s m args meth c P A 2 RX7 cX7_remember none := C
  refine XW.eq (lv' := [(0, _), (1, _)]) rfl rfl rfl ?_
  refine X_aload_n (pc := 0) C 0 dX7_remember_0 rfl rfl ?_
  refine G_X7_64 (pc := 1) C (by assumption) dX7_remember_1 ?_
  rw [mW_9]
  rw [hch]
  refine X_bipush (pc := 4) (v := 8) C dX7_remember_4 (by decide) ?_
  refine X_icmp_ne (pc := 6) C 37 dX7_remember_6 (by decide) (fun h6 => ?_) (fun h6 => ?_)
  · have g8 : ¬ ch = 8 := fun q => h6 (by rw [q]; rfl)
    refine X_aload_n (pc := 37) C 1 dX7_remember_37 rfl rfl ?_
    refine X_iconst (pc := 38) (v := 0) C dX7_remember_38 (by decide) ?_
    refine X_aload_n (pc := 39) C 0 dX7_remember_39 rfl rfl ?_
    refine G_X7_16 (pc := 40) C (by assumption) dX7_remember_40 ?_
    refine X_aload_n (pc := 43) C 0 dX7_remember_43 rfl rfl ?_
    refine G_X7_64 (pc := 44) C (by assumption) dX7_remember_44 ?_
    rw [mW_9]
    rw [hch]
    refine X_sipush (pc := 47) (v := 550) C dX7_remember_47 (by decide) ?_
    refine X_imul (pc := 50) C dX7_remember_50 ?_
    rw [m550]
    refine K_X7_76 (pc := 51) C (c_X7_copy l P _ (sp := 0) (dp := (ch * 550)) (h1 14 (by decide) (by decide)) (h1 12 (by decide) (by decide)) rfl rfl (by decide) (by omega) (by decide) (by decide)) ⟨Nat.le_of_ble_eq_true rfl, Nat.le_of_ble_eq_true rfl⟩ ⟨rfl, rfl⟩ ⟨Nat.zero_le _, Nat.zero_le _⟩ (Nat.le_of_ble_eq_true rfl) dX7_remember_51 ?_
    refine XW.eq (σ' := mW (mRw τ (τ.1 (.inr 14)) ch) S F L) (by rw [mW_o (i := .inr 14) (by decide) (by decide) (by decide), mW_o (i := .inr 12) (by decide) (by decide) (by decide), mW_Ao (by decide) (by decide) (by decide), mRw, mRem, if_neg g8]) rfl rfl ?_
    refine X_aload_n (pc := 54) C 0 dX7_remember_54 rfl rfl ?_
    refine X_dup (pc := 55) C dX7_remember_55 rfl ?_
    refine G_X7_64 (pc := 56) C (by assumption) dX7_remember_56 ?_
    rw [mW_9]
    rw [hch]
    refine X_iconst (pc := 59) (v := 1) C dX7_remember_59 (by decide) ?_
    refine X_iadd (pc := 60) C dX7_remember_60 ?_
    rw [nI_1]
    refine U_X7_64 (pc := 61) C (by assumption) dX7_remember_61 ?_
    rw [mW_u9]
    exact X_vret (pc := 64) C (Nat.zero_le _) (Nat.zero_le _) dX7_remember_64 ⟨rfl, by rw [mNx, if_neg g8]⟩
  · have g8 : ch = 8 := neq (b := 8) h6
    refine X_aload_n (pc := 9) C 0 dX7_remember_9 rfl rfl ?_
    refine G_X7_16 (pc := 10) C (by assumption) dX7_remember_10 ?_
    refine X_sipush (pc := 13) (v := 550) C dX7_remember_13 (by decide) ?_
    refine X_aload_n (pc := 16) C 0 dX7_remember_16 rfl rfl ?_
    refine G_X7_16 (pc := 17) C (by assumption) dX7_remember_17 ?_
    refine X_iconst (pc := 20) (v := 0) C dX7_remember_20 (by decide) ?_
    refine X_sipush (pc := 21) (v := 3850) C dX7_remember_21 (by decide) ?_
    refine X_copyi (sp := 550) (dp := 0) (n := 3850) (pc := 24) C (by first | exact h1 _ (by decide) (by decide)) (by first | exact h1 _ (by decide) (by decide)) rfl rfl m_m_X7_70 (by decide) (by decide) (by decide) (by decide) (Nat.le_of_ble_eq_true rfl) (Nat.le_of_ble_eq_true rfl) dX7_remember_24 ?_
    refine XW.eq (σ' := mW (xA τ (.inr 12) (va_cpy (τ.1 (.inr 12)) (τ.1 (.inr 12)) 550 0 3850)) S F L) (by rw [mW_o (i := .inr 12) (by decide) (by decide) (by decide), mW_Ao (by decide) (by decide) (by decide)]) rfl rfl ?_
    refine X_aload_n (pc := 27) C 0 dX7_remember_27 rfl rfl ?_
    refine X_dup (pc := 28) C dX7_remember_28 rfl ?_
    refine G_X7_64 (pc := 29) C (by assumption) dX7_remember_29 ?_
    rw [mW_9]
    rw [hch]
    refine X_iconst (pc := 32) (v := 1) C dX7_remember_32 (by decide) ?_
    refine X_isub (pc := 33) C dX7_remember_33 ?_
    rw [show nI ch - (1 : Int32) = nI 7 from by rw [g8]; rfl]
    refine U_X7_64 (pc := 34) C (by assumption) dX7_remember_34 ?_
    rw [mW_u9]
    refine X_aload_n (pc := 37) C 1 dX7_remember_37 rfl rfl ?_
    refine X_iconst (pc := 38) (v := 0) C dX7_remember_38 (by decide) ?_
    refine X_aload_n (pc := 39) C 0 dX7_remember_39 rfl rfl ?_
    refine G_X7_16 (pc := 40) C (by assumption) dX7_remember_40 ?_
    refine X_aload_n (pc := 43) C 0 dX7_remember_43 rfl rfl ?_
    refine G_X7_64 (pc := 44) C (by assumption) dX7_remember_44 ?_
    rw [mW_9]
    rw [upd_at]
    refine X_sipush (pc := 47) (v := 550) C dX7_remember_47 (by decide) ?_
    refine X_imul (pc := 50) C dX7_remember_50 ?_
    rw [show nI 7 * (550 : Int32) = nI 3850 from by decide]
    refine K_X7_76 (pc := 51) C (c_X7_copy l P _ (sp := 0) (dp := 3850) (h1 14 (by decide) (by decide)) (h1 12 (by decide) (by decide)) rfl rfl (by decide) (by decide) (by decide) (by decide)) ⟨Nat.le_of_ble_eq_true rfl, Nat.le_of_ble_eq_true rfl⟩ ⟨rfl, rfl⟩ ⟨Nat.zero_le _, Nat.zero_le _⟩ (Nat.le_of_ble_eq_true rfl) dX7_remember_51 ?_
    refine XW.eq (σ' := mW (mRw τ (τ.1 (.inr 14)) ch) S (upd F 6 (nI 7)) L) (by rw [mW_o (i := .inr 14) (by decide) (by decide) (by decide), xA_ne _ _ (show (Sum.inr 14 : XI) ≠ .inr 12 by decide), mW_o (i := .inr 12) (by decide) (by decide) (by decide), mW_Ao (by decide) (by decide) (by decide), xA_self, mRw, mRem, if_pos g8, xA_xA]) rfl rfl ?_
    refine X_aload_n (pc := 54) C 0 dX7_remember_54 rfl rfl ?_
    refine X_dup (pc := 55) C dX7_remember_55 rfl ?_
    refine G_X7_64 (pc := 56) C (by assumption) dX7_remember_56 ?_
    rw [mW_9]
    rw [upd_at]
    refine X_iconst (pc := 59) (v := 1) C dX7_remember_59 (by decide) ?_
    refine X_iadd (pc := 60) C dX7_remember_60 ?_
    rw [nI_1]
    refine U_X7_64 (pc := 61) C (by assumption) dX7_remember_61 ?_
    rw [mW_u9]
    rw [upd_upd]
    exact X_vret (pc := 64) C (Nat.zero_le _) (Nat.zero_le _) dX7_remember_64 ⟨rfl, by rw [mNx, if_pos g8]⟩

theorem mThC_0 {S : Nat → Int32} {x y : Int32} (h : mThC S x y = 0) (hM : MI S) : xok x (mU S) ∧ xok y (mU S) ∧ mK S < 40 := by
  unfold mThC at h
  have := hM.k40
  by_cases g : xok x (mU S) ∧ xok y (mU S)
  · rw [if_pos g] at h
    by_cases g1 : x = y
    · rw [if_pos g1] at h; exact absurd h (by decide)
    · rw [if_neg g1] at h
      by_cases g2 : mK S = 40
      · rw [if_pos g2] at h; exact absurd h (by decide)
      · exact ⟨g.1, g.2, by omega⟩
  · rw [if_neg g] at h; exact absurd h (by decide)
theorem mThT_0 {S : Nat → Int32} {x y : Int32} (h : mThT S x y = 0) (hM : MI S) : xok x (mU S) ∧ xok y (mT S) ∧ mK S < 40 := by
  unfold mThT at h
  have := hM.k40
  by_cases g : xok x (mU S) ∧ xok y (mT S)
  · rw [if_pos g] at h
    by_cases g2 : mK S = 40
    · rw [if_pos g2] at h; exact absurd h (by decide)
    · exact ⟨g.1, g.2, by omega⟩
  · rw [if_neg g] at h; exact absurd h (by decide)
set_option maxRecDepth 100000 in
set_option maxHeartbeats 4000000 in
theorem c_X7_call (l : Launch) (P : XP) (τ : XS) (S F L : Nat → Int32) (h1 : xI1 P) (hM : MI S) (ch : Nat) (hc8 : ch ≤ 8) (hch : F 6 = nI ch) (x y u : Int32) : XF l yX7_call cX7_call 4 (some .int) rm_X7_call P [.ref (P.2.2.1 (.inr 9)), .int x, .int y, .int u] (mW τ S F L) (some (.int (if (mThC S x y) = 0 then nI (mK S) else 0))) (if (mThC S x y) = 0 then mW (mRw τ S ch) (mReq S x y (-1) (ub u)) (upd (upd F 7 0) 6 (nI (mNx ch))) L else mW τ S (upd F 7 ((mThC S x y))) L) := by
  refine XM.of (by decide +kernel) (Nat.le_of_ble_eq_true rfl) (fun p e s m args below meth c A C => ?_)
  replace C : XC p s m args meth c P A 4 RX7 cX7_call (some .int) := C
  refine XW.eq (lv' := [(0, _), (1, _), (2, _), (3, _)]) rfl rfl rfl ?_
  refine X_aload_n (pc := 0) C 0 dX7_call_0 rfl rfl ?_
  refine X_aload_n (pc := 1) C 0 dX7_call_1 rfl rfl ?_
  refine X_iload_n (pc := 2) C 1 dX7_call_2 rfl rfl ?_
  refine K_X7_288 (pc := 3) C (by assumption) (c_X7_noUser l P _ _ _ _ h1 (mU S) (by have := hM.u15; omega) hM.u x) ⟨Nat.le_of_ble_eq_true rfl, Nat.le_of_ble_eq_true rfl⟩ ⟨rfl, rfl⟩ ⟨Nat.zero_le _, Nat.zero_le _⟩ (Nat.le_of_ble_eq_true rfl) dX7_call_3 ?_
  refine X_if_ne (pc := 6) C 17 dX7_call_6 (by decide) (fun h6 => ?_) (fun h6 => ?_)
  · have g6 := bz01 h6
    refine X_iconst (pc := 17) (v := 1) C dX7_call_17 (by decide) ?_
    refine X_goto (pc := 18) C 22 dX7_call_18 (by decide) ?_
    refine X_iload_n (pc := 22) C 1 dX7_call_22 rfl rfl ?_
    refine X_iload_n (pc := 23) C 2 dX7_call_23 rfl rfl ?_
    refine X_icmp_ne (pc := 24) C 31 dX7_call_24 (by decide) (fun h24 => ?_) (fun h24 => ?_)
    · skip
      refine X_iconst (pc := 31) (v := 0) C dX7_call_31 (by decide) ?_
      refine X_aload_n (pc := 32) C 0 dX7_call_32 rfl rfl ?_
      refine G_X7_9 (pc := 33) C (by assumption) dX7_call_33 ?_
      refine X_iconst (pc := 36) (v := 5) C dX7_call_36 (by decide) ?_
      refine X_ialdN (j := 5) (pc := 37) C (by first | exact h1 _ (by decide) (by decide)) rfl (by omega) (by decide) dX7_call_37 ?_
      rw [mW_10]
      rw [hM.k]
      refine X_bipush (pc := 38) (v := 40) C dX7_call_38 (by decide) ?_
      refine X_icmp_ne (pc := 40) C 47 dX7_call_40 (by decide) (fun h40 => ?_) (fun h40 => ?_)
      · have g40 : ¬ mK S = 40 := fun q => h40 (by rw [q]; rfl)
        refine X_iconst (pc := 47) (v := 0) C dX7_call_47 (by decide) ?_
        refine K_X7_154 (pc := 48) C (by assumption) (c_X7_fails l P _ _ _ _ h1 _ _ _) ⟨Nat.le_of_ble_eq_true rfl, Nat.le_of_ble_eq_true rfl⟩ ⟨rfl, rfl⟩ ⟨Nat.zero_le _, Nat.zero_le _⟩ (Nat.le_of_ble_eq_true rfl) dX7_call_48 ?_
        rw [show mFl _ _ _ = (mThC S x y) from by first | (rw [mThC, if_neg (fun q => g6 q.1)]; rfl) | (rw [mThC, if_neg (fun q => g14 q.2)]; rfl) | (rw [mThC, if_pos ⟨g6, g14⟩, if_pos h24]; rfl) | (rw [mThC, if_pos ⟨g6, g14⟩, if_neg h24, if_neg g40]; rfl) | (rw [mThC, if_pos ⟨g6, g14⟩, if_neg h24, if_pos g40]; rfl)]
        refine X_if_eq (pc := 51) C 56 dX7_call_51 (by decide) (fun h51 => ?_) (fun h51 => ?_)
        · have gg := bz00 h51
          have gx := mThC_0 gg hM
          rw [gg]
          refine X_aload_n (pc := 56) C 0 dX7_call_56 rfl rfl ?_
          refine X_aload_n (pc := 57) C 0 dX7_call_57 rfl rfl ?_
          refine G_X7_9 (pc := 58) C (by assumption) dX7_call_58 ?_
          refine K_X7_267 (pc := 61) C (by assumption) (c_X7_remember l P _ _ _ _ h1 ch hc8 (by rw [upd_76]; exact hch)) ⟨Nat.le_of_ble_eq_true rfl, Nat.le_of_ble_eq_true rfl⟩ ⟨rfl, rfl⟩ ⟨Nat.zero_le _, Nat.zero_le _⟩ (Nat.le_of_ble_eq_true rfl) dX7_call_61 ?_
          refine X_aload_n (pc := 64) C 0 dX7_call_64 rfl rfl ?_
          refine X_iload_n (pc := 65) C 1 dX7_call_65 rfl rfl ?_
          refine X_iload_n (pc := 66) C 2 dX7_call_66 rfl rfl ?_
          refine X_iconst (pc := 67) (v := (-1)) C dX7_call_67 (by decide) ?_
          refine X_iload_n (pc := 68) C 3 dX7_call_68 rfl rfl ?_
          refine X_if_eq (pc := 69) C 76 dX7_call_69 (by decide) (fun h69 => ?_) (fun h69 => ?_)
          · skip
            refine X_iconst (pc := 76) (v := 0) C dX7_call_76 (by decide) ?_
            refine K_X7_230 (pc := 77) C (by assumption) (c_X7_requests l P _ _ _ _ h1 hM gx.2.2 _ _ _ _ gx.1 (Or.inl ⟨rfl, gx.2.1⟩)) ⟨Nat.le_of_ble_eq_true rfl, Nat.le_of_ble_eq_true rfl⟩ ⟨rfl, rfl⟩ ⟨Nat.zero_le _, Nat.zero_le _⟩ (Nat.le_of_ble_eq_true rfl) dX7_call_77 ?_
            exact X_iret (pc := 80) C (Nat.zero_le _) (Nat.zero_le _) dX7_call_80 ⟨by first | (rw [if_neg gg]) | (rw [if_pos rfl]), by first | (rw [if_neg gg]) | (rw [if_pos rfl, ub, if_pos h69]) | (rw [if_pos rfl, ub, if_neg h69])⟩
          · skip
            refine X_iconst (pc := 72) (v := 1) C dX7_call_72 (by decide) ?_
            refine X_goto (pc := 73) C 77 dX7_call_73 (by decide) ?_
            refine K_X7_230 (pc := 77) C (by assumption) (c_X7_requests l P _ _ _ _ h1 hM gx.2.2 _ _ _ _ gx.1 (Or.inl ⟨rfl, gx.2.1⟩)) ⟨Nat.le_of_ble_eq_true rfl, Nat.le_of_ble_eq_true rfl⟩ ⟨rfl, rfl⟩ ⟨Nat.zero_le _, Nat.zero_le _⟩ (Nat.le_of_ble_eq_true rfl) dX7_call_77 ?_
            exact X_iret (pc := 80) C (Nat.zero_le _) (Nat.zero_le _) dX7_call_80 ⟨by first | (rw [if_neg gg]) | (rw [if_pos rfl]), by first | (rw [if_neg gg]) | (rw [if_pos rfl, ub, if_pos h69]) | (rw [if_pos rfl, ub, if_neg h69])⟩
        · have gg := bz01 h51
          refine X_iconst (pc := 54) (v := 0) C dX7_call_54 (by decide) ?_
          exact X_iret (pc := 55) C (Nat.zero_le _) (Nat.zero_le _) dX7_call_55 ⟨by first | (rw [if_neg gg]) | (rw [if_pos rfl]), by first | (rw [if_neg gg]) | (rw [if_pos rfl, ub, if_pos h69]) | (rw [if_pos rfl, ub, if_neg h69])⟩
      · have g40 : mK S = 40 := neq (b := 40) h40 (by have := hM.k40; omega)
        refine X_iconst (pc := 43) (v := 1) C dX7_call_43 (by decide) ?_
        refine X_goto (pc := 44) C 48 dX7_call_44 (by decide) ?_
        refine K_X7_154 (pc := 48) C (by assumption) (c_X7_fails l P _ _ _ _ h1 _ _ _) ⟨Nat.le_of_ble_eq_true rfl, Nat.le_of_ble_eq_true rfl⟩ ⟨rfl, rfl⟩ ⟨Nat.zero_le _, Nat.zero_le _⟩ (Nat.le_of_ble_eq_true rfl) dX7_call_48 ?_
        rw [show mFl _ _ _ = (mThC S x y) from by first | (rw [mThC, if_neg (fun q => g6 q.1)]; rfl) | (rw [mThC, if_neg (fun q => g14 q.2)]; rfl) | (rw [mThC, if_pos ⟨g6, g14⟩, if_pos h24]; rfl) | (rw [mThC, if_pos ⟨g6, g14⟩, if_neg h24, if_neg g40]; rfl) | (rw [mThC, if_pos ⟨g6, g14⟩, if_neg h24, if_pos g40]; rfl)]
        refine X_if_eq (pc := 51) C 56 dX7_call_51 (by decide) (fun h51 => ?_) (fun h51 => ?_)
        · have gg := bz00 h51
          have gx := mThC_0 gg hM
          rw [gg]
          refine X_aload_n (pc := 56) C 0 dX7_call_56 rfl rfl ?_
          refine X_aload_n (pc := 57) C 0 dX7_call_57 rfl rfl ?_
          refine G_X7_9 (pc := 58) C (by assumption) dX7_call_58 ?_
          refine K_X7_267 (pc := 61) C (by assumption) (c_X7_remember l P _ _ _ _ h1 ch hc8 (by rw [upd_76]; exact hch)) ⟨Nat.le_of_ble_eq_true rfl, Nat.le_of_ble_eq_true rfl⟩ ⟨rfl, rfl⟩ ⟨Nat.zero_le _, Nat.zero_le _⟩ (Nat.le_of_ble_eq_true rfl) dX7_call_61 ?_
          refine X_aload_n (pc := 64) C 0 dX7_call_64 rfl rfl ?_
          refine X_iload_n (pc := 65) C 1 dX7_call_65 rfl rfl ?_
          refine X_iload_n (pc := 66) C 2 dX7_call_66 rfl rfl ?_
          refine X_iconst (pc := 67) (v := (-1)) C dX7_call_67 (by decide) ?_
          refine X_iload_n (pc := 68) C 3 dX7_call_68 rfl rfl ?_
          refine X_if_eq (pc := 69) C 76 dX7_call_69 (by decide) (fun h69 => ?_) (fun h69 => ?_)
          · skip
            refine X_iconst (pc := 76) (v := 0) C dX7_call_76 (by decide) ?_
            refine K_X7_230 (pc := 77) C (by assumption) (c_X7_requests l P _ _ _ _ h1 hM gx.2.2 _ _ _ _ gx.1 (Or.inl ⟨rfl, gx.2.1⟩)) ⟨Nat.le_of_ble_eq_true rfl, Nat.le_of_ble_eq_true rfl⟩ ⟨rfl, rfl⟩ ⟨Nat.zero_le _, Nat.zero_le _⟩ (Nat.le_of_ble_eq_true rfl) dX7_call_77 ?_
            exact X_iret (pc := 80) C (Nat.zero_le _) (Nat.zero_le _) dX7_call_80 ⟨by first | (rw [if_neg gg]) | (rw [if_pos rfl]), by first | (rw [if_neg gg]) | (rw [if_pos rfl, ub, if_pos h69]) | (rw [if_pos rfl, ub, if_neg h69])⟩
          · skip
            refine X_iconst (pc := 72) (v := 1) C dX7_call_72 (by decide) ?_
            refine X_goto (pc := 73) C 77 dX7_call_73 (by decide) ?_
            refine K_X7_230 (pc := 77) C (by assumption) (c_X7_requests l P _ _ _ _ h1 hM gx.2.2 _ _ _ _ gx.1 (Or.inl ⟨rfl, gx.2.1⟩)) ⟨Nat.le_of_ble_eq_true rfl, Nat.le_of_ble_eq_true rfl⟩ ⟨rfl, rfl⟩ ⟨Nat.zero_le _, Nat.zero_le _⟩ (Nat.le_of_ble_eq_true rfl) dX7_call_77 ?_
            exact X_iret (pc := 80) C (Nat.zero_le _) (Nat.zero_le _) dX7_call_80 ⟨by first | (rw [if_neg gg]) | (rw [if_pos rfl]), by first | (rw [if_neg gg]) | (rw [if_pos rfl, ub, if_pos h69]) | (rw [if_pos rfl, ub, if_neg h69])⟩
        · have gg := bz01 h51
          refine X_iconst (pc := 54) (v := 0) C dX7_call_54 (by decide) ?_
          exact X_iret (pc := 55) C (Nat.zero_le _) (Nat.zero_le _) dX7_call_55 ⟨by first | (rw [if_neg gg]) | (rw [if_pos rfl]), by first | (rw [if_neg gg]) | (rw [if_pos rfl, ub, if_pos h69]) | (rw [if_pos rfl, ub, if_neg h69])⟩
    · skip
      refine X_iconst (pc := 27) (v := 1) C dX7_call_27 (by decide) ?_
      refine X_goto (pc := 28) C 32 dX7_call_28 (by decide) ?_
      refine X_aload_n (pc := 32) C 0 dX7_call_32 rfl rfl ?_
      refine G_X7_9 (pc := 33) C (by assumption) dX7_call_33 ?_
      refine X_iconst (pc := 36) (v := 5) C dX7_call_36 (by decide) ?_
      refine X_ialdN (j := 5) (pc := 37) C (by first | exact h1 _ (by decide) (by decide)) rfl (by omega) (by decide) dX7_call_37 ?_
      rw [mW_10]
      rw [hM.k]
      refine X_bipush (pc := 38) (v := 40) C dX7_call_38 (by decide) ?_
      refine X_icmp_ne (pc := 40) C 47 dX7_call_40 (by decide) (fun h40 => ?_) (fun h40 => ?_)
      · have g40 : ¬ mK S = 40 := fun q => h40 (by rw [q]; rfl)
        refine X_iconst (pc := 47) (v := 0) C dX7_call_47 (by decide) ?_
        refine K_X7_154 (pc := 48) C (by assumption) (c_X7_fails l P _ _ _ _ h1 _ _ _) ⟨Nat.le_of_ble_eq_true rfl, Nat.le_of_ble_eq_true rfl⟩ ⟨rfl, rfl⟩ ⟨Nat.zero_le _, Nat.zero_le _⟩ (Nat.le_of_ble_eq_true rfl) dX7_call_48 ?_
        rw [show mFl _ _ _ = (mThC S x y) from by first | (rw [mThC, if_neg (fun q => g6 q.1)]; rfl) | (rw [mThC, if_neg (fun q => g14 q.2)]; rfl) | (rw [mThC, if_pos ⟨g6, g14⟩, if_pos h24]; rfl) | (rw [mThC, if_pos ⟨g6, g14⟩, if_neg h24, if_neg g40]; rfl) | (rw [mThC, if_pos ⟨g6, g14⟩, if_neg h24, if_pos g40]; rfl)]
        refine X_if_eq (pc := 51) C 56 dX7_call_51 (by decide) (fun h51 => ?_) (fun h51 => ?_)
        · have gg := bz00 h51
          have gx := mThC_0 gg hM
          rw [gg]
          refine X_aload_n (pc := 56) C 0 dX7_call_56 rfl rfl ?_
          refine X_aload_n (pc := 57) C 0 dX7_call_57 rfl rfl ?_
          refine G_X7_9 (pc := 58) C (by assumption) dX7_call_58 ?_
          refine K_X7_267 (pc := 61) C (by assumption) (c_X7_remember l P _ _ _ _ h1 ch hc8 (by rw [upd_76]; exact hch)) ⟨Nat.le_of_ble_eq_true rfl, Nat.le_of_ble_eq_true rfl⟩ ⟨rfl, rfl⟩ ⟨Nat.zero_le _, Nat.zero_le _⟩ (Nat.le_of_ble_eq_true rfl) dX7_call_61 ?_
          refine X_aload_n (pc := 64) C 0 dX7_call_64 rfl rfl ?_
          refine X_iload_n (pc := 65) C 1 dX7_call_65 rfl rfl ?_
          refine X_iload_n (pc := 66) C 2 dX7_call_66 rfl rfl ?_
          refine X_iconst (pc := 67) (v := (-1)) C dX7_call_67 (by decide) ?_
          refine X_iload_n (pc := 68) C 3 dX7_call_68 rfl rfl ?_
          refine X_if_eq (pc := 69) C 76 dX7_call_69 (by decide) (fun h69 => ?_) (fun h69 => ?_)
          · skip
            refine X_iconst (pc := 76) (v := 0) C dX7_call_76 (by decide) ?_
            refine K_X7_230 (pc := 77) C (by assumption) (c_X7_requests l P _ _ _ _ h1 hM gx.2.2 _ _ _ _ gx.1 (Or.inl ⟨rfl, gx.2.1⟩)) ⟨Nat.le_of_ble_eq_true rfl, Nat.le_of_ble_eq_true rfl⟩ ⟨rfl, rfl⟩ ⟨Nat.zero_le _, Nat.zero_le _⟩ (Nat.le_of_ble_eq_true rfl) dX7_call_77 ?_
            exact X_iret (pc := 80) C (Nat.zero_le _) (Nat.zero_le _) dX7_call_80 ⟨by first | (rw [if_neg gg]) | (rw [if_pos rfl]), by first | (rw [if_neg gg]) | (rw [if_pos rfl, ub, if_pos h69]) | (rw [if_pos rfl, ub, if_neg h69])⟩
          · skip
            refine X_iconst (pc := 72) (v := 1) C dX7_call_72 (by decide) ?_
            refine X_goto (pc := 73) C 77 dX7_call_73 (by decide) ?_
            refine K_X7_230 (pc := 77) C (by assumption) (c_X7_requests l P _ _ _ _ h1 hM gx.2.2 _ _ _ _ gx.1 (Or.inl ⟨rfl, gx.2.1⟩)) ⟨Nat.le_of_ble_eq_true rfl, Nat.le_of_ble_eq_true rfl⟩ ⟨rfl, rfl⟩ ⟨Nat.zero_le _, Nat.zero_le _⟩ (Nat.le_of_ble_eq_true rfl) dX7_call_77 ?_
            exact X_iret (pc := 80) C (Nat.zero_le _) (Nat.zero_le _) dX7_call_80 ⟨by first | (rw [if_neg gg]) | (rw [if_pos rfl]), by first | (rw [if_neg gg]) | (rw [if_pos rfl, ub, if_pos h69]) | (rw [if_pos rfl, ub, if_neg h69])⟩
        · have gg := bz01 h51
          refine X_iconst (pc := 54) (v := 0) C dX7_call_54 (by decide) ?_
          exact X_iret (pc := 55) C (Nat.zero_le _) (Nat.zero_le _) dX7_call_55 ⟨by first | (rw [if_neg gg]) | (rw [if_pos rfl]), by first | (rw [if_neg gg]) | (rw [if_pos rfl, ub, if_pos h69]) | (rw [if_pos rfl, ub, if_neg h69])⟩
      · have g40 : mK S = 40 := neq (b := 40) h40 (by have := hM.k40; omega)
        refine X_iconst (pc := 43) (v := 1) C dX7_call_43 (by decide) ?_
        refine X_goto (pc := 44) C 48 dX7_call_44 (by decide) ?_
        refine K_X7_154 (pc := 48) C (by assumption) (c_X7_fails l P _ _ _ _ h1 _ _ _) ⟨Nat.le_of_ble_eq_true rfl, Nat.le_of_ble_eq_true rfl⟩ ⟨rfl, rfl⟩ ⟨Nat.zero_le _, Nat.zero_le _⟩ (Nat.le_of_ble_eq_true rfl) dX7_call_48 ?_
        rw [show mFl _ _ _ = (mThC S x y) from by first | (rw [mThC, if_neg (fun q => g6 q.1)]; rfl) | (rw [mThC, if_neg (fun q => g14 q.2)]; rfl) | (rw [mThC, if_pos ⟨g6, g14⟩, if_pos h24]; rfl) | (rw [mThC, if_pos ⟨g6, g14⟩, if_neg h24, if_neg g40]; rfl) | (rw [mThC, if_pos ⟨g6, g14⟩, if_neg h24, if_pos g40]; rfl)]
        refine X_if_eq (pc := 51) C 56 dX7_call_51 (by decide) (fun h51 => ?_) (fun h51 => ?_)
        · have gg := bz00 h51
          have gx := mThC_0 gg hM
          rw [gg]
          refine X_aload_n (pc := 56) C 0 dX7_call_56 rfl rfl ?_
          refine X_aload_n (pc := 57) C 0 dX7_call_57 rfl rfl ?_
          refine G_X7_9 (pc := 58) C (by assumption) dX7_call_58 ?_
          refine K_X7_267 (pc := 61) C (by assumption) (c_X7_remember l P _ _ _ _ h1 ch hc8 (by rw [upd_76]; exact hch)) ⟨Nat.le_of_ble_eq_true rfl, Nat.le_of_ble_eq_true rfl⟩ ⟨rfl, rfl⟩ ⟨Nat.zero_le _, Nat.zero_le _⟩ (Nat.le_of_ble_eq_true rfl) dX7_call_61 ?_
          refine X_aload_n (pc := 64) C 0 dX7_call_64 rfl rfl ?_
          refine X_iload_n (pc := 65) C 1 dX7_call_65 rfl rfl ?_
          refine X_iload_n (pc := 66) C 2 dX7_call_66 rfl rfl ?_
          refine X_iconst (pc := 67) (v := (-1)) C dX7_call_67 (by decide) ?_
          refine X_iload_n (pc := 68) C 3 dX7_call_68 rfl rfl ?_
          refine X_if_eq (pc := 69) C 76 dX7_call_69 (by decide) (fun h69 => ?_) (fun h69 => ?_)
          · skip
            refine X_iconst (pc := 76) (v := 0) C dX7_call_76 (by decide) ?_
            refine K_X7_230 (pc := 77) C (by assumption) (c_X7_requests l P _ _ _ _ h1 hM gx.2.2 _ _ _ _ gx.1 (Or.inl ⟨rfl, gx.2.1⟩)) ⟨Nat.le_of_ble_eq_true rfl, Nat.le_of_ble_eq_true rfl⟩ ⟨rfl, rfl⟩ ⟨Nat.zero_le _, Nat.zero_le _⟩ (Nat.le_of_ble_eq_true rfl) dX7_call_77 ?_
            exact X_iret (pc := 80) C (Nat.zero_le _) (Nat.zero_le _) dX7_call_80 ⟨by first | (rw [if_neg gg]) | (rw [if_pos rfl]), by first | (rw [if_neg gg]) | (rw [if_pos rfl, ub, if_pos h69]) | (rw [if_pos rfl, ub, if_neg h69])⟩
          · skip
            refine X_iconst (pc := 72) (v := 1) C dX7_call_72 (by decide) ?_
            refine X_goto (pc := 73) C 77 dX7_call_73 (by decide) ?_
            refine K_X7_230 (pc := 77) C (by assumption) (c_X7_requests l P _ _ _ _ h1 hM gx.2.2 _ _ _ _ gx.1 (Or.inl ⟨rfl, gx.2.1⟩)) ⟨Nat.le_of_ble_eq_true rfl, Nat.le_of_ble_eq_true rfl⟩ ⟨rfl, rfl⟩ ⟨Nat.zero_le _, Nat.zero_le _⟩ (Nat.le_of_ble_eq_true rfl) dX7_call_77 ?_
            exact X_iret (pc := 80) C (Nat.zero_le _) (Nat.zero_le _) dX7_call_80 ⟨by first | (rw [if_neg gg]) | (rw [if_pos rfl]), by first | (rw [if_neg gg]) | (rw [if_pos rfl, ub, if_pos h69]) | (rw [if_pos rfl, ub, if_neg h69])⟩
        · have gg := bz01 h51
          refine X_iconst (pc := 54) (v := 0) C dX7_call_54 (by decide) ?_
          exact X_iret (pc := 55) C (Nat.zero_le _) (Nat.zero_le _) dX7_call_55 ⟨by first | (rw [if_neg gg]) | (rw [if_pos rfl]), by first | (rw [if_neg gg]) | (rw [if_pos rfl, ub, if_pos h69]) | (rw [if_pos rfl, ub, if_neg h69])⟩
  · have g6 := bz00 h6
    refine X_aload_n (pc := 9) C 0 dX7_call_9 rfl rfl ?_
    refine X_iload_n (pc := 10) C 2 dX7_call_10 rfl rfl ?_
    refine K_X7_288 (pc := 11) C (by assumption) (c_X7_noUser l P _ _ _ _ h1 (mU S) (by have := hM.u15; omega) hM.u y) ⟨Nat.le_of_ble_eq_true rfl, Nat.le_of_ble_eq_true rfl⟩ ⟨rfl, rfl⟩ ⟨Nat.zero_le _, Nat.zero_le _⟩ (Nat.le_of_ble_eq_true rfl) dX7_call_11 ?_
    refine X_if_eq (pc := 14) C 21 dX7_call_14 (by decide) (fun h14 => ?_) (fun h14 => ?_)
    · have g14 := bz00 h14
      refine X_iconst (pc := 21) (v := 0) C dX7_call_21 (by decide) ?_
      refine X_iload_n (pc := 22) C 1 dX7_call_22 rfl rfl ?_
      refine X_iload_n (pc := 23) C 2 dX7_call_23 rfl rfl ?_
      refine X_icmp_ne (pc := 24) C 31 dX7_call_24 (by decide) (fun h24 => ?_) (fun h24 => ?_)
      · skip
        refine X_iconst (pc := 31) (v := 0) C dX7_call_31 (by decide) ?_
        refine X_aload_n (pc := 32) C 0 dX7_call_32 rfl rfl ?_
        refine G_X7_9 (pc := 33) C (by assumption) dX7_call_33 ?_
        refine X_iconst (pc := 36) (v := 5) C dX7_call_36 (by decide) ?_
        refine X_ialdN (j := 5) (pc := 37) C (by first | exact h1 _ (by decide) (by decide)) rfl (by omega) (by decide) dX7_call_37 ?_
        rw [mW_10]
        rw [hM.k]
        refine X_bipush (pc := 38) (v := 40) C dX7_call_38 (by decide) ?_
        refine X_icmp_ne (pc := 40) C 47 dX7_call_40 (by decide) (fun h40 => ?_) (fun h40 => ?_)
        · have g40 : ¬ mK S = 40 := fun q => h40 (by rw [q]; rfl)
          refine X_iconst (pc := 47) (v := 0) C dX7_call_47 (by decide) ?_
          refine K_X7_154 (pc := 48) C (by assumption) (c_X7_fails l P _ _ _ _ h1 _ _ _) ⟨Nat.le_of_ble_eq_true rfl, Nat.le_of_ble_eq_true rfl⟩ ⟨rfl, rfl⟩ ⟨Nat.zero_le _, Nat.zero_le _⟩ (Nat.le_of_ble_eq_true rfl) dX7_call_48 ?_
          rw [show mFl _ _ _ = (mThC S x y) from by first | (rw [mThC, if_neg (fun q => g6 q.1)]; rfl) | (rw [mThC, if_neg (fun q => g14 q.2)]; rfl) | (rw [mThC, if_pos ⟨g6, g14⟩, if_pos h24]; rfl) | (rw [mThC, if_pos ⟨g6, g14⟩, if_neg h24, if_neg g40]; rfl) | (rw [mThC, if_pos ⟨g6, g14⟩, if_neg h24, if_pos g40]; rfl)]
          refine X_if_eq (pc := 51) C 56 dX7_call_51 (by decide) (fun h51 => ?_) (fun h51 => ?_)
          · have gg := bz00 h51
            have gx := mThC_0 gg hM
            rw [gg]
            refine X_aload_n (pc := 56) C 0 dX7_call_56 rfl rfl ?_
            refine X_aload_n (pc := 57) C 0 dX7_call_57 rfl rfl ?_
            refine G_X7_9 (pc := 58) C (by assumption) dX7_call_58 ?_
            refine K_X7_267 (pc := 61) C (by assumption) (c_X7_remember l P _ _ _ _ h1 ch hc8 (by rw [upd_76]; exact hch)) ⟨Nat.le_of_ble_eq_true rfl, Nat.le_of_ble_eq_true rfl⟩ ⟨rfl, rfl⟩ ⟨Nat.zero_le _, Nat.zero_le _⟩ (Nat.le_of_ble_eq_true rfl) dX7_call_61 ?_
            refine X_aload_n (pc := 64) C 0 dX7_call_64 rfl rfl ?_
            refine X_iload_n (pc := 65) C 1 dX7_call_65 rfl rfl ?_
            refine X_iload_n (pc := 66) C 2 dX7_call_66 rfl rfl ?_
            refine X_iconst (pc := 67) (v := (-1)) C dX7_call_67 (by decide) ?_
            refine X_iload_n (pc := 68) C 3 dX7_call_68 rfl rfl ?_
            refine X_if_eq (pc := 69) C 76 dX7_call_69 (by decide) (fun h69 => ?_) (fun h69 => ?_)
            · skip
              refine X_iconst (pc := 76) (v := 0) C dX7_call_76 (by decide) ?_
              refine K_X7_230 (pc := 77) C (by assumption) (c_X7_requests l P _ _ _ _ h1 hM gx.2.2 _ _ _ _ gx.1 (Or.inl ⟨rfl, gx.2.1⟩)) ⟨Nat.le_of_ble_eq_true rfl, Nat.le_of_ble_eq_true rfl⟩ ⟨rfl, rfl⟩ ⟨Nat.zero_le _, Nat.zero_le _⟩ (Nat.le_of_ble_eq_true rfl) dX7_call_77 ?_
              exact X_iret (pc := 80) C (Nat.zero_le _) (Nat.zero_le _) dX7_call_80 ⟨by first | (rw [if_neg gg]) | (rw [if_pos rfl]), by first | (rw [if_neg gg]) | (rw [if_pos rfl, ub, if_pos h69]) | (rw [if_pos rfl, ub, if_neg h69])⟩
            · skip
              refine X_iconst (pc := 72) (v := 1) C dX7_call_72 (by decide) ?_
              refine X_goto (pc := 73) C 77 dX7_call_73 (by decide) ?_
              refine K_X7_230 (pc := 77) C (by assumption) (c_X7_requests l P _ _ _ _ h1 hM gx.2.2 _ _ _ _ gx.1 (Or.inl ⟨rfl, gx.2.1⟩)) ⟨Nat.le_of_ble_eq_true rfl, Nat.le_of_ble_eq_true rfl⟩ ⟨rfl, rfl⟩ ⟨Nat.zero_le _, Nat.zero_le _⟩ (Nat.le_of_ble_eq_true rfl) dX7_call_77 ?_
              exact X_iret (pc := 80) C (Nat.zero_le _) (Nat.zero_le _) dX7_call_80 ⟨by first | (rw [if_neg gg]) | (rw [if_pos rfl]), by first | (rw [if_neg gg]) | (rw [if_pos rfl, ub, if_pos h69]) | (rw [if_pos rfl, ub, if_neg h69])⟩
          · have gg := bz01 h51
            refine X_iconst (pc := 54) (v := 0) C dX7_call_54 (by decide) ?_
            exact X_iret (pc := 55) C (Nat.zero_le _) (Nat.zero_le _) dX7_call_55 ⟨by first | (rw [if_neg gg]) | (rw [if_pos rfl]), by first | (rw [if_neg gg]) | (rw [if_pos rfl, ub, if_pos h69]) | (rw [if_pos rfl, ub, if_neg h69])⟩
        · have g40 : mK S = 40 := neq (b := 40) h40 (by have := hM.k40; omega)
          refine X_iconst (pc := 43) (v := 1) C dX7_call_43 (by decide) ?_
          refine X_goto (pc := 44) C 48 dX7_call_44 (by decide) ?_
          refine K_X7_154 (pc := 48) C (by assumption) (c_X7_fails l P _ _ _ _ h1 _ _ _) ⟨Nat.le_of_ble_eq_true rfl, Nat.le_of_ble_eq_true rfl⟩ ⟨rfl, rfl⟩ ⟨Nat.zero_le _, Nat.zero_le _⟩ (Nat.le_of_ble_eq_true rfl) dX7_call_48 ?_
          rw [show mFl _ _ _ = (mThC S x y) from by first | (rw [mThC, if_neg (fun q => g6 q.1)]; rfl) | (rw [mThC, if_neg (fun q => g14 q.2)]; rfl) | (rw [mThC, if_pos ⟨g6, g14⟩, if_pos h24]; rfl) | (rw [mThC, if_pos ⟨g6, g14⟩, if_neg h24, if_neg g40]; rfl) | (rw [mThC, if_pos ⟨g6, g14⟩, if_neg h24, if_pos g40]; rfl)]
          refine X_if_eq (pc := 51) C 56 dX7_call_51 (by decide) (fun h51 => ?_) (fun h51 => ?_)
          · have gg := bz00 h51
            have gx := mThC_0 gg hM
            rw [gg]
            refine X_aload_n (pc := 56) C 0 dX7_call_56 rfl rfl ?_
            refine X_aload_n (pc := 57) C 0 dX7_call_57 rfl rfl ?_
            refine G_X7_9 (pc := 58) C (by assumption) dX7_call_58 ?_
            refine K_X7_267 (pc := 61) C (by assumption) (c_X7_remember l P _ _ _ _ h1 ch hc8 (by rw [upd_76]; exact hch)) ⟨Nat.le_of_ble_eq_true rfl, Nat.le_of_ble_eq_true rfl⟩ ⟨rfl, rfl⟩ ⟨Nat.zero_le _, Nat.zero_le _⟩ (Nat.le_of_ble_eq_true rfl) dX7_call_61 ?_
            refine X_aload_n (pc := 64) C 0 dX7_call_64 rfl rfl ?_
            refine X_iload_n (pc := 65) C 1 dX7_call_65 rfl rfl ?_
            refine X_iload_n (pc := 66) C 2 dX7_call_66 rfl rfl ?_
            refine X_iconst (pc := 67) (v := (-1)) C dX7_call_67 (by decide) ?_
            refine X_iload_n (pc := 68) C 3 dX7_call_68 rfl rfl ?_
            refine X_if_eq (pc := 69) C 76 dX7_call_69 (by decide) (fun h69 => ?_) (fun h69 => ?_)
            · skip
              refine X_iconst (pc := 76) (v := 0) C dX7_call_76 (by decide) ?_
              refine K_X7_230 (pc := 77) C (by assumption) (c_X7_requests l P _ _ _ _ h1 hM gx.2.2 _ _ _ _ gx.1 (Or.inl ⟨rfl, gx.2.1⟩)) ⟨Nat.le_of_ble_eq_true rfl, Nat.le_of_ble_eq_true rfl⟩ ⟨rfl, rfl⟩ ⟨Nat.zero_le _, Nat.zero_le _⟩ (Nat.le_of_ble_eq_true rfl) dX7_call_77 ?_
              exact X_iret (pc := 80) C (Nat.zero_le _) (Nat.zero_le _) dX7_call_80 ⟨by first | (rw [if_neg gg]) | (rw [if_pos rfl]), by first | (rw [if_neg gg]) | (rw [if_pos rfl, ub, if_pos h69]) | (rw [if_pos rfl, ub, if_neg h69])⟩
            · skip
              refine X_iconst (pc := 72) (v := 1) C dX7_call_72 (by decide) ?_
              refine X_goto (pc := 73) C 77 dX7_call_73 (by decide) ?_
              refine K_X7_230 (pc := 77) C (by assumption) (c_X7_requests l P _ _ _ _ h1 hM gx.2.2 _ _ _ _ gx.1 (Or.inl ⟨rfl, gx.2.1⟩)) ⟨Nat.le_of_ble_eq_true rfl, Nat.le_of_ble_eq_true rfl⟩ ⟨rfl, rfl⟩ ⟨Nat.zero_le _, Nat.zero_le _⟩ (Nat.le_of_ble_eq_true rfl) dX7_call_77 ?_
              exact X_iret (pc := 80) C (Nat.zero_le _) (Nat.zero_le _) dX7_call_80 ⟨by first | (rw [if_neg gg]) | (rw [if_pos rfl]), by first | (rw [if_neg gg]) | (rw [if_pos rfl, ub, if_pos h69]) | (rw [if_pos rfl, ub, if_neg h69])⟩
          · have gg := bz01 h51
            refine X_iconst (pc := 54) (v := 0) C dX7_call_54 (by decide) ?_
            exact X_iret (pc := 55) C (Nat.zero_le _) (Nat.zero_le _) dX7_call_55 ⟨by first | (rw [if_neg gg]) | (rw [if_pos rfl]), by first | (rw [if_neg gg]) | (rw [if_pos rfl, ub, if_pos h69]) | (rw [if_pos rfl, ub, if_neg h69])⟩
      · skip
        refine X_iconst (pc := 27) (v := 1) C dX7_call_27 (by decide) ?_
        refine X_goto (pc := 28) C 32 dX7_call_28 (by decide) ?_
        refine X_aload_n (pc := 32) C 0 dX7_call_32 rfl rfl ?_
        refine G_X7_9 (pc := 33) C (by assumption) dX7_call_33 ?_
        refine X_iconst (pc := 36) (v := 5) C dX7_call_36 (by decide) ?_
        refine X_ialdN (j := 5) (pc := 37) C (by first | exact h1 _ (by decide) (by decide)) rfl (by omega) (by decide) dX7_call_37 ?_
        rw [mW_10]
        rw [hM.k]
        refine X_bipush (pc := 38) (v := 40) C dX7_call_38 (by decide) ?_
        refine X_icmp_ne (pc := 40) C 47 dX7_call_40 (by decide) (fun h40 => ?_) (fun h40 => ?_)
        · have g40 : ¬ mK S = 40 := fun q => h40 (by rw [q]; rfl)
          refine X_iconst (pc := 47) (v := 0) C dX7_call_47 (by decide) ?_
          refine K_X7_154 (pc := 48) C (by assumption) (c_X7_fails l P _ _ _ _ h1 _ _ _) ⟨Nat.le_of_ble_eq_true rfl, Nat.le_of_ble_eq_true rfl⟩ ⟨rfl, rfl⟩ ⟨Nat.zero_le _, Nat.zero_le _⟩ (Nat.le_of_ble_eq_true rfl) dX7_call_48 ?_
          rw [show mFl _ _ _ = (mThC S x y) from by first | (rw [mThC, if_neg (fun q => g6 q.1)]; rfl) | (rw [mThC, if_neg (fun q => g14 q.2)]; rfl) | (rw [mThC, if_pos ⟨g6, g14⟩, if_pos h24]; rfl) | (rw [mThC, if_pos ⟨g6, g14⟩, if_neg h24, if_neg g40]; rfl) | (rw [mThC, if_pos ⟨g6, g14⟩, if_neg h24, if_pos g40]; rfl)]
          refine X_if_eq (pc := 51) C 56 dX7_call_51 (by decide) (fun h51 => ?_) (fun h51 => ?_)
          · have gg := bz00 h51
            have gx := mThC_0 gg hM
            rw [gg]
            refine X_aload_n (pc := 56) C 0 dX7_call_56 rfl rfl ?_
            refine X_aload_n (pc := 57) C 0 dX7_call_57 rfl rfl ?_
            refine G_X7_9 (pc := 58) C (by assumption) dX7_call_58 ?_
            refine K_X7_267 (pc := 61) C (by assumption) (c_X7_remember l P _ _ _ _ h1 ch hc8 (by rw [upd_76]; exact hch)) ⟨Nat.le_of_ble_eq_true rfl, Nat.le_of_ble_eq_true rfl⟩ ⟨rfl, rfl⟩ ⟨Nat.zero_le _, Nat.zero_le _⟩ (Nat.le_of_ble_eq_true rfl) dX7_call_61 ?_
            refine X_aload_n (pc := 64) C 0 dX7_call_64 rfl rfl ?_
            refine X_iload_n (pc := 65) C 1 dX7_call_65 rfl rfl ?_
            refine X_iload_n (pc := 66) C 2 dX7_call_66 rfl rfl ?_
            refine X_iconst (pc := 67) (v := (-1)) C dX7_call_67 (by decide) ?_
            refine X_iload_n (pc := 68) C 3 dX7_call_68 rfl rfl ?_
            refine X_if_eq (pc := 69) C 76 dX7_call_69 (by decide) (fun h69 => ?_) (fun h69 => ?_)
            · skip
              refine X_iconst (pc := 76) (v := 0) C dX7_call_76 (by decide) ?_
              refine K_X7_230 (pc := 77) C (by assumption) (c_X7_requests l P _ _ _ _ h1 hM gx.2.2 _ _ _ _ gx.1 (Or.inl ⟨rfl, gx.2.1⟩)) ⟨Nat.le_of_ble_eq_true rfl, Nat.le_of_ble_eq_true rfl⟩ ⟨rfl, rfl⟩ ⟨Nat.zero_le _, Nat.zero_le _⟩ (Nat.le_of_ble_eq_true rfl) dX7_call_77 ?_
              exact X_iret (pc := 80) C (Nat.zero_le _) (Nat.zero_le _) dX7_call_80 ⟨by first | (rw [if_neg gg]) | (rw [if_pos rfl]), by first | (rw [if_neg gg]) | (rw [if_pos rfl, ub, if_pos h69]) | (rw [if_pos rfl, ub, if_neg h69])⟩
            · skip
              refine X_iconst (pc := 72) (v := 1) C dX7_call_72 (by decide) ?_
              refine X_goto (pc := 73) C 77 dX7_call_73 (by decide) ?_
              refine K_X7_230 (pc := 77) C (by assumption) (c_X7_requests l P _ _ _ _ h1 hM gx.2.2 _ _ _ _ gx.1 (Or.inl ⟨rfl, gx.2.1⟩)) ⟨Nat.le_of_ble_eq_true rfl, Nat.le_of_ble_eq_true rfl⟩ ⟨rfl, rfl⟩ ⟨Nat.zero_le _, Nat.zero_le _⟩ (Nat.le_of_ble_eq_true rfl) dX7_call_77 ?_
              exact X_iret (pc := 80) C (Nat.zero_le _) (Nat.zero_le _) dX7_call_80 ⟨by first | (rw [if_neg gg]) | (rw [if_pos rfl]), by first | (rw [if_neg gg]) | (rw [if_pos rfl, ub, if_pos h69]) | (rw [if_pos rfl, ub, if_neg h69])⟩
          · have gg := bz01 h51
            refine X_iconst (pc := 54) (v := 0) C dX7_call_54 (by decide) ?_
            exact X_iret (pc := 55) C (Nat.zero_le _) (Nat.zero_le _) dX7_call_55 ⟨by first | (rw [if_neg gg]) | (rw [if_pos rfl]), by first | (rw [if_neg gg]) | (rw [if_pos rfl, ub, if_pos h69]) | (rw [if_pos rfl, ub, if_neg h69])⟩
        · have g40 : mK S = 40 := neq (b := 40) h40 (by have := hM.k40; omega)
          refine X_iconst (pc := 43) (v := 1) C dX7_call_43 (by decide) ?_
          refine X_goto (pc := 44) C 48 dX7_call_44 (by decide) ?_
          refine K_X7_154 (pc := 48) C (by assumption) (c_X7_fails l P _ _ _ _ h1 _ _ _) ⟨Nat.le_of_ble_eq_true rfl, Nat.le_of_ble_eq_true rfl⟩ ⟨rfl, rfl⟩ ⟨Nat.zero_le _, Nat.zero_le _⟩ (Nat.le_of_ble_eq_true rfl) dX7_call_48 ?_
          rw [show mFl _ _ _ = (mThC S x y) from by first | (rw [mThC, if_neg (fun q => g6 q.1)]; rfl) | (rw [mThC, if_neg (fun q => g14 q.2)]; rfl) | (rw [mThC, if_pos ⟨g6, g14⟩, if_pos h24]; rfl) | (rw [mThC, if_pos ⟨g6, g14⟩, if_neg h24, if_neg g40]; rfl) | (rw [mThC, if_pos ⟨g6, g14⟩, if_neg h24, if_pos g40]; rfl)]
          refine X_if_eq (pc := 51) C 56 dX7_call_51 (by decide) (fun h51 => ?_) (fun h51 => ?_)
          · have gg := bz00 h51
            have gx := mThC_0 gg hM
            rw [gg]
            refine X_aload_n (pc := 56) C 0 dX7_call_56 rfl rfl ?_
            refine X_aload_n (pc := 57) C 0 dX7_call_57 rfl rfl ?_
            refine G_X7_9 (pc := 58) C (by assumption) dX7_call_58 ?_
            refine K_X7_267 (pc := 61) C (by assumption) (c_X7_remember l P _ _ _ _ h1 ch hc8 (by rw [upd_76]; exact hch)) ⟨Nat.le_of_ble_eq_true rfl, Nat.le_of_ble_eq_true rfl⟩ ⟨rfl, rfl⟩ ⟨Nat.zero_le _, Nat.zero_le _⟩ (Nat.le_of_ble_eq_true rfl) dX7_call_61 ?_
            refine X_aload_n (pc := 64) C 0 dX7_call_64 rfl rfl ?_
            refine X_iload_n (pc := 65) C 1 dX7_call_65 rfl rfl ?_
            refine X_iload_n (pc := 66) C 2 dX7_call_66 rfl rfl ?_
            refine X_iconst (pc := 67) (v := (-1)) C dX7_call_67 (by decide) ?_
            refine X_iload_n (pc := 68) C 3 dX7_call_68 rfl rfl ?_
            refine X_if_eq (pc := 69) C 76 dX7_call_69 (by decide) (fun h69 => ?_) (fun h69 => ?_)
            · skip
              refine X_iconst (pc := 76) (v := 0) C dX7_call_76 (by decide) ?_
              refine K_X7_230 (pc := 77) C (by assumption) (c_X7_requests l P _ _ _ _ h1 hM gx.2.2 _ _ _ _ gx.1 (Or.inl ⟨rfl, gx.2.1⟩)) ⟨Nat.le_of_ble_eq_true rfl, Nat.le_of_ble_eq_true rfl⟩ ⟨rfl, rfl⟩ ⟨Nat.zero_le _, Nat.zero_le _⟩ (Nat.le_of_ble_eq_true rfl) dX7_call_77 ?_
              exact X_iret (pc := 80) C (Nat.zero_le _) (Nat.zero_le _) dX7_call_80 ⟨by first | (rw [if_neg gg]) | (rw [if_pos rfl]), by first | (rw [if_neg gg]) | (rw [if_pos rfl, ub, if_pos h69]) | (rw [if_pos rfl, ub, if_neg h69])⟩
            · skip
              refine X_iconst (pc := 72) (v := 1) C dX7_call_72 (by decide) ?_
              refine X_goto (pc := 73) C 77 dX7_call_73 (by decide) ?_
              refine K_X7_230 (pc := 77) C (by assumption) (c_X7_requests l P _ _ _ _ h1 hM gx.2.2 _ _ _ _ gx.1 (Or.inl ⟨rfl, gx.2.1⟩)) ⟨Nat.le_of_ble_eq_true rfl, Nat.le_of_ble_eq_true rfl⟩ ⟨rfl, rfl⟩ ⟨Nat.zero_le _, Nat.zero_le _⟩ (Nat.le_of_ble_eq_true rfl) dX7_call_77 ?_
              exact X_iret (pc := 80) C (Nat.zero_le _) (Nat.zero_le _) dX7_call_80 ⟨by first | (rw [if_neg gg]) | (rw [if_pos rfl]), by first | (rw [if_neg gg]) | (rw [if_pos rfl, ub, if_pos h69]) | (rw [if_pos rfl, ub, if_neg h69])⟩
          · have gg := bz01 h51
            refine X_iconst (pc := 54) (v := 0) C dX7_call_54 (by decide) ?_
            exact X_iret (pc := 55) C (Nat.zero_le _) (Nat.zero_le _) dX7_call_55 ⟨by first | (rw [if_neg gg]) | (rw [if_pos rfl]), by first | (rw [if_neg gg]) | (rw [if_pos rfl, ub, if_pos h69]) | (rw [if_pos rfl, ub, if_neg h69])⟩
    · have g14 := bz01 h14
      refine X_iconst (pc := 17) (v := 1) C dX7_call_17 (by decide) ?_
      refine X_goto (pc := 18) C 22 dX7_call_18 (by decide) ?_
      refine X_iload_n (pc := 22) C 1 dX7_call_22 rfl rfl ?_
      refine X_iload_n (pc := 23) C 2 dX7_call_23 rfl rfl ?_
      refine X_icmp_ne (pc := 24) C 31 dX7_call_24 (by decide) (fun h24 => ?_) (fun h24 => ?_)
      · skip
        refine X_iconst (pc := 31) (v := 0) C dX7_call_31 (by decide) ?_
        refine X_aload_n (pc := 32) C 0 dX7_call_32 rfl rfl ?_
        refine G_X7_9 (pc := 33) C (by assumption) dX7_call_33 ?_
        refine X_iconst (pc := 36) (v := 5) C dX7_call_36 (by decide) ?_
        refine X_ialdN (j := 5) (pc := 37) C (by first | exact h1 _ (by decide) (by decide)) rfl (by omega) (by decide) dX7_call_37 ?_
        rw [mW_10]
        rw [hM.k]
        refine X_bipush (pc := 38) (v := 40) C dX7_call_38 (by decide) ?_
        refine X_icmp_ne (pc := 40) C 47 dX7_call_40 (by decide) (fun h40 => ?_) (fun h40 => ?_)
        · have g40 : ¬ mK S = 40 := fun q => h40 (by rw [q]; rfl)
          refine X_iconst (pc := 47) (v := 0) C dX7_call_47 (by decide) ?_
          refine K_X7_154 (pc := 48) C (by assumption) (c_X7_fails l P _ _ _ _ h1 _ _ _) ⟨Nat.le_of_ble_eq_true rfl, Nat.le_of_ble_eq_true rfl⟩ ⟨rfl, rfl⟩ ⟨Nat.zero_le _, Nat.zero_le _⟩ (Nat.le_of_ble_eq_true rfl) dX7_call_48 ?_
          rw [show mFl _ _ _ = (mThC S x y) from by first | (rw [mThC, if_neg (fun q => g6 q.1)]; rfl) | (rw [mThC, if_neg (fun q => g14 q.2)]; rfl) | (rw [mThC, if_pos ⟨g6, g14⟩, if_pos h24]; rfl) | (rw [mThC, if_pos ⟨g6, g14⟩, if_neg h24, if_neg g40]; rfl) | (rw [mThC, if_pos ⟨g6, g14⟩, if_neg h24, if_pos g40]; rfl)]
          refine X_if_eq (pc := 51) C 56 dX7_call_51 (by decide) (fun h51 => ?_) (fun h51 => ?_)
          · have gg := bz00 h51
            have gx := mThC_0 gg hM
            rw [gg]
            refine X_aload_n (pc := 56) C 0 dX7_call_56 rfl rfl ?_
            refine X_aload_n (pc := 57) C 0 dX7_call_57 rfl rfl ?_
            refine G_X7_9 (pc := 58) C (by assumption) dX7_call_58 ?_
            refine K_X7_267 (pc := 61) C (by assumption) (c_X7_remember l P _ _ _ _ h1 ch hc8 (by rw [upd_76]; exact hch)) ⟨Nat.le_of_ble_eq_true rfl, Nat.le_of_ble_eq_true rfl⟩ ⟨rfl, rfl⟩ ⟨Nat.zero_le _, Nat.zero_le _⟩ (Nat.le_of_ble_eq_true rfl) dX7_call_61 ?_
            refine X_aload_n (pc := 64) C 0 dX7_call_64 rfl rfl ?_
            refine X_iload_n (pc := 65) C 1 dX7_call_65 rfl rfl ?_
            refine X_iload_n (pc := 66) C 2 dX7_call_66 rfl rfl ?_
            refine X_iconst (pc := 67) (v := (-1)) C dX7_call_67 (by decide) ?_
            refine X_iload_n (pc := 68) C 3 dX7_call_68 rfl rfl ?_
            refine X_if_eq (pc := 69) C 76 dX7_call_69 (by decide) (fun h69 => ?_) (fun h69 => ?_)
            · skip
              refine X_iconst (pc := 76) (v := 0) C dX7_call_76 (by decide) ?_
              refine K_X7_230 (pc := 77) C (by assumption) (c_X7_requests l P _ _ _ _ h1 hM gx.2.2 _ _ _ _ gx.1 (Or.inl ⟨rfl, gx.2.1⟩)) ⟨Nat.le_of_ble_eq_true rfl, Nat.le_of_ble_eq_true rfl⟩ ⟨rfl, rfl⟩ ⟨Nat.zero_le _, Nat.zero_le _⟩ (Nat.le_of_ble_eq_true rfl) dX7_call_77 ?_
              exact X_iret (pc := 80) C (Nat.zero_le _) (Nat.zero_le _) dX7_call_80 ⟨by first | (rw [if_neg gg]) | (rw [if_pos rfl]), by first | (rw [if_neg gg]) | (rw [if_pos rfl, ub, if_pos h69]) | (rw [if_pos rfl, ub, if_neg h69])⟩
            · skip
              refine X_iconst (pc := 72) (v := 1) C dX7_call_72 (by decide) ?_
              refine X_goto (pc := 73) C 77 dX7_call_73 (by decide) ?_
              refine K_X7_230 (pc := 77) C (by assumption) (c_X7_requests l P _ _ _ _ h1 hM gx.2.2 _ _ _ _ gx.1 (Or.inl ⟨rfl, gx.2.1⟩)) ⟨Nat.le_of_ble_eq_true rfl, Nat.le_of_ble_eq_true rfl⟩ ⟨rfl, rfl⟩ ⟨Nat.zero_le _, Nat.zero_le _⟩ (Nat.le_of_ble_eq_true rfl) dX7_call_77 ?_
              exact X_iret (pc := 80) C (Nat.zero_le _) (Nat.zero_le _) dX7_call_80 ⟨by first | (rw [if_neg gg]) | (rw [if_pos rfl]), by first | (rw [if_neg gg]) | (rw [if_pos rfl, ub, if_pos h69]) | (rw [if_pos rfl, ub, if_neg h69])⟩
          · have gg := bz01 h51
            refine X_iconst (pc := 54) (v := 0) C dX7_call_54 (by decide) ?_
            exact X_iret (pc := 55) C (Nat.zero_le _) (Nat.zero_le _) dX7_call_55 ⟨by first | (rw [if_neg gg]) | (rw [if_pos rfl]), by first | (rw [if_neg gg]) | (rw [if_pos rfl, ub, if_pos h69]) | (rw [if_pos rfl, ub, if_neg h69])⟩
        · have g40 : mK S = 40 := neq (b := 40) h40 (by have := hM.k40; omega)
          refine X_iconst (pc := 43) (v := 1) C dX7_call_43 (by decide) ?_
          refine X_goto (pc := 44) C 48 dX7_call_44 (by decide) ?_
          refine K_X7_154 (pc := 48) C (by assumption) (c_X7_fails l P _ _ _ _ h1 _ _ _) ⟨Nat.le_of_ble_eq_true rfl, Nat.le_of_ble_eq_true rfl⟩ ⟨rfl, rfl⟩ ⟨Nat.zero_le _, Nat.zero_le _⟩ (Nat.le_of_ble_eq_true rfl) dX7_call_48 ?_
          rw [show mFl _ _ _ = (mThC S x y) from by first | (rw [mThC, if_neg (fun q => g6 q.1)]; rfl) | (rw [mThC, if_neg (fun q => g14 q.2)]; rfl) | (rw [mThC, if_pos ⟨g6, g14⟩, if_pos h24]; rfl) | (rw [mThC, if_pos ⟨g6, g14⟩, if_neg h24, if_neg g40]; rfl) | (rw [mThC, if_pos ⟨g6, g14⟩, if_neg h24, if_pos g40]; rfl)]
          refine X_if_eq (pc := 51) C 56 dX7_call_51 (by decide) (fun h51 => ?_) (fun h51 => ?_)
          · have gg := bz00 h51
            have gx := mThC_0 gg hM
            rw [gg]
            refine X_aload_n (pc := 56) C 0 dX7_call_56 rfl rfl ?_
            refine X_aload_n (pc := 57) C 0 dX7_call_57 rfl rfl ?_
            refine G_X7_9 (pc := 58) C (by assumption) dX7_call_58 ?_
            refine K_X7_267 (pc := 61) C (by assumption) (c_X7_remember l P _ _ _ _ h1 ch hc8 (by rw [upd_76]; exact hch)) ⟨Nat.le_of_ble_eq_true rfl, Nat.le_of_ble_eq_true rfl⟩ ⟨rfl, rfl⟩ ⟨Nat.zero_le _, Nat.zero_le _⟩ (Nat.le_of_ble_eq_true rfl) dX7_call_61 ?_
            refine X_aload_n (pc := 64) C 0 dX7_call_64 rfl rfl ?_
            refine X_iload_n (pc := 65) C 1 dX7_call_65 rfl rfl ?_
            refine X_iload_n (pc := 66) C 2 dX7_call_66 rfl rfl ?_
            refine X_iconst (pc := 67) (v := (-1)) C dX7_call_67 (by decide) ?_
            refine X_iload_n (pc := 68) C 3 dX7_call_68 rfl rfl ?_
            refine X_if_eq (pc := 69) C 76 dX7_call_69 (by decide) (fun h69 => ?_) (fun h69 => ?_)
            · skip
              refine X_iconst (pc := 76) (v := 0) C dX7_call_76 (by decide) ?_
              refine K_X7_230 (pc := 77) C (by assumption) (c_X7_requests l P _ _ _ _ h1 hM gx.2.2 _ _ _ _ gx.1 (Or.inl ⟨rfl, gx.2.1⟩)) ⟨Nat.le_of_ble_eq_true rfl, Nat.le_of_ble_eq_true rfl⟩ ⟨rfl, rfl⟩ ⟨Nat.zero_le _, Nat.zero_le _⟩ (Nat.le_of_ble_eq_true rfl) dX7_call_77 ?_
              exact X_iret (pc := 80) C (Nat.zero_le _) (Nat.zero_le _) dX7_call_80 ⟨by first | (rw [if_neg gg]) | (rw [if_pos rfl]), by first | (rw [if_neg gg]) | (rw [if_pos rfl, ub, if_pos h69]) | (rw [if_pos rfl, ub, if_neg h69])⟩
            · skip
              refine X_iconst (pc := 72) (v := 1) C dX7_call_72 (by decide) ?_
              refine X_goto (pc := 73) C 77 dX7_call_73 (by decide) ?_
              refine K_X7_230 (pc := 77) C (by assumption) (c_X7_requests l P _ _ _ _ h1 hM gx.2.2 _ _ _ _ gx.1 (Or.inl ⟨rfl, gx.2.1⟩)) ⟨Nat.le_of_ble_eq_true rfl, Nat.le_of_ble_eq_true rfl⟩ ⟨rfl, rfl⟩ ⟨Nat.zero_le _, Nat.zero_le _⟩ (Nat.le_of_ble_eq_true rfl) dX7_call_77 ?_
              exact X_iret (pc := 80) C (Nat.zero_le _) (Nat.zero_le _) dX7_call_80 ⟨by first | (rw [if_neg gg]) | (rw [if_pos rfl]), by first | (rw [if_neg gg]) | (rw [if_pos rfl, ub, if_pos h69]) | (rw [if_pos rfl, ub, if_neg h69])⟩
          · have gg := bz01 h51
            refine X_iconst (pc := 54) (v := 0) C dX7_call_54 (by decide) ?_
            exact X_iret (pc := 55) C (Nat.zero_le _) (Nat.zero_le _) dX7_call_55 ⟨by first | (rw [if_neg gg]) | (rw [if_pos rfl]), by first | (rw [if_neg gg]) | (rw [if_pos rfl, ub, if_pos h69]) | (rw [if_pos rfl, ub, if_neg h69])⟩
      · skip
        refine X_iconst (pc := 27) (v := 1) C dX7_call_27 (by decide) ?_
        refine X_goto (pc := 28) C 32 dX7_call_28 (by decide) ?_
        refine X_aload_n (pc := 32) C 0 dX7_call_32 rfl rfl ?_
        refine G_X7_9 (pc := 33) C (by assumption) dX7_call_33 ?_
        refine X_iconst (pc := 36) (v := 5) C dX7_call_36 (by decide) ?_
        refine X_ialdN (j := 5) (pc := 37) C (by first | exact h1 _ (by decide) (by decide)) rfl (by omega) (by decide) dX7_call_37 ?_
        rw [mW_10]
        rw [hM.k]
        refine X_bipush (pc := 38) (v := 40) C dX7_call_38 (by decide) ?_
        refine X_icmp_ne (pc := 40) C 47 dX7_call_40 (by decide) (fun h40 => ?_) (fun h40 => ?_)
        · have g40 : ¬ mK S = 40 := fun q => h40 (by rw [q]; rfl)
          refine X_iconst (pc := 47) (v := 0) C dX7_call_47 (by decide) ?_
          refine K_X7_154 (pc := 48) C (by assumption) (c_X7_fails l P _ _ _ _ h1 _ _ _) ⟨Nat.le_of_ble_eq_true rfl, Nat.le_of_ble_eq_true rfl⟩ ⟨rfl, rfl⟩ ⟨Nat.zero_le _, Nat.zero_le _⟩ (Nat.le_of_ble_eq_true rfl) dX7_call_48 ?_
          rw [show mFl _ _ _ = (mThC S x y) from by first | (rw [mThC, if_neg (fun q => g6 q.1)]; rfl) | (rw [mThC, if_neg (fun q => g14 q.2)]; rfl) | (rw [mThC, if_pos ⟨g6, g14⟩, if_pos h24]; rfl) | (rw [mThC, if_pos ⟨g6, g14⟩, if_neg h24, if_neg g40]; rfl) | (rw [mThC, if_pos ⟨g6, g14⟩, if_neg h24, if_pos g40]; rfl)]
          refine X_if_eq (pc := 51) C 56 dX7_call_51 (by decide) (fun h51 => ?_) (fun h51 => ?_)
          · have gg := bz00 h51
            have gx := mThC_0 gg hM
            rw [gg]
            refine X_aload_n (pc := 56) C 0 dX7_call_56 rfl rfl ?_
            refine X_aload_n (pc := 57) C 0 dX7_call_57 rfl rfl ?_
            refine G_X7_9 (pc := 58) C (by assumption) dX7_call_58 ?_
            refine K_X7_267 (pc := 61) C (by assumption) (c_X7_remember l P _ _ _ _ h1 ch hc8 (by rw [upd_76]; exact hch)) ⟨Nat.le_of_ble_eq_true rfl, Nat.le_of_ble_eq_true rfl⟩ ⟨rfl, rfl⟩ ⟨Nat.zero_le _, Nat.zero_le _⟩ (Nat.le_of_ble_eq_true rfl) dX7_call_61 ?_
            refine X_aload_n (pc := 64) C 0 dX7_call_64 rfl rfl ?_
            refine X_iload_n (pc := 65) C 1 dX7_call_65 rfl rfl ?_
            refine X_iload_n (pc := 66) C 2 dX7_call_66 rfl rfl ?_
            refine X_iconst (pc := 67) (v := (-1)) C dX7_call_67 (by decide) ?_
            refine X_iload_n (pc := 68) C 3 dX7_call_68 rfl rfl ?_
            refine X_if_eq (pc := 69) C 76 dX7_call_69 (by decide) (fun h69 => ?_) (fun h69 => ?_)
            · skip
              refine X_iconst (pc := 76) (v := 0) C dX7_call_76 (by decide) ?_
              refine K_X7_230 (pc := 77) C (by assumption) (c_X7_requests l P _ _ _ _ h1 hM gx.2.2 _ _ _ _ gx.1 (Or.inl ⟨rfl, gx.2.1⟩)) ⟨Nat.le_of_ble_eq_true rfl, Nat.le_of_ble_eq_true rfl⟩ ⟨rfl, rfl⟩ ⟨Nat.zero_le _, Nat.zero_le _⟩ (Nat.le_of_ble_eq_true rfl) dX7_call_77 ?_
              exact X_iret (pc := 80) C (Nat.zero_le _) (Nat.zero_le _) dX7_call_80 ⟨by first | (rw [if_neg gg]) | (rw [if_pos rfl]), by first | (rw [if_neg gg]) | (rw [if_pos rfl, ub, if_pos h69]) | (rw [if_pos rfl, ub, if_neg h69])⟩
            · skip
              refine X_iconst (pc := 72) (v := 1) C dX7_call_72 (by decide) ?_
              refine X_goto (pc := 73) C 77 dX7_call_73 (by decide) ?_
              refine K_X7_230 (pc := 77) C (by assumption) (c_X7_requests l P _ _ _ _ h1 hM gx.2.2 _ _ _ _ gx.1 (Or.inl ⟨rfl, gx.2.1⟩)) ⟨Nat.le_of_ble_eq_true rfl, Nat.le_of_ble_eq_true rfl⟩ ⟨rfl, rfl⟩ ⟨Nat.zero_le _, Nat.zero_le _⟩ (Nat.le_of_ble_eq_true rfl) dX7_call_77 ?_
              exact X_iret (pc := 80) C (Nat.zero_le _) (Nat.zero_le _) dX7_call_80 ⟨by first | (rw [if_neg gg]) | (rw [if_pos rfl]), by first | (rw [if_neg gg]) | (rw [if_pos rfl, ub, if_pos h69]) | (rw [if_pos rfl, ub, if_neg h69])⟩
          · have gg := bz01 h51
            refine X_iconst (pc := 54) (v := 0) C dX7_call_54 (by decide) ?_
            exact X_iret (pc := 55) C (Nat.zero_le _) (Nat.zero_le _) dX7_call_55 ⟨by first | (rw [if_neg gg]) | (rw [if_pos rfl]), by first | (rw [if_neg gg]) | (rw [if_pos rfl, ub, if_pos h69]) | (rw [if_pos rfl, ub, if_neg h69])⟩
        · have g40 : mK S = 40 := neq (b := 40) h40 (by have := hM.k40; omega)
          refine X_iconst (pc := 43) (v := 1) C dX7_call_43 (by decide) ?_
          refine X_goto (pc := 44) C 48 dX7_call_44 (by decide) ?_
          refine K_X7_154 (pc := 48) C (by assumption) (c_X7_fails l P _ _ _ _ h1 _ _ _) ⟨Nat.le_of_ble_eq_true rfl, Nat.le_of_ble_eq_true rfl⟩ ⟨rfl, rfl⟩ ⟨Nat.zero_le _, Nat.zero_le _⟩ (Nat.le_of_ble_eq_true rfl) dX7_call_48 ?_
          rw [show mFl _ _ _ = (mThC S x y) from by first | (rw [mThC, if_neg (fun q => g6 q.1)]; rfl) | (rw [mThC, if_neg (fun q => g14 q.2)]; rfl) | (rw [mThC, if_pos ⟨g6, g14⟩, if_pos h24]; rfl) | (rw [mThC, if_pos ⟨g6, g14⟩, if_neg h24, if_neg g40]; rfl) | (rw [mThC, if_pos ⟨g6, g14⟩, if_neg h24, if_pos g40]; rfl)]
          refine X_if_eq (pc := 51) C 56 dX7_call_51 (by decide) (fun h51 => ?_) (fun h51 => ?_)
          · have gg := bz00 h51
            have gx := mThC_0 gg hM
            rw [gg]
            refine X_aload_n (pc := 56) C 0 dX7_call_56 rfl rfl ?_
            refine X_aload_n (pc := 57) C 0 dX7_call_57 rfl rfl ?_
            refine G_X7_9 (pc := 58) C (by assumption) dX7_call_58 ?_
            refine K_X7_267 (pc := 61) C (by assumption) (c_X7_remember l P _ _ _ _ h1 ch hc8 (by rw [upd_76]; exact hch)) ⟨Nat.le_of_ble_eq_true rfl, Nat.le_of_ble_eq_true rfl⟩ ⟨rfl, rfl⟩ ⟨Nat.zero_le _, Nat.zero_le _⟩ (Nat.le_of_ble_eq_true rfl) dX7_call_61 ?_
            refine X_aload_n (pc := 64) C 0 dX7_call_64 rfl rfl ?_
            refine X_iload_n (pc := 65) C 1 dX7_call_65 rfl rfl ?_
            refine X_iload_n (pc := 66) C 2 dX7_call_66 rfl rfl ?_
            refine X_iconst (pc := 67) (v := (-1)) C dX7_call_67 (by decide) ?_
            refine X_iload_n (pc := 68) C 3 dX7_call_68 rfl rfl ?_
            refine X_if_eq (pc := 69) C 76 dX7_call_69 (by decide) (fun h69 => ?_) (fun h69 => ?_)
            · skip
              refine X_iconst (pc := 76) (v := 0) C dX7_call_76 (by decide) ?_
              refine K_X7_230 (pc := 77) C (by assumption) (c_X7_requests l P _ _ _ _ h1 hM gx.2.2 _ _ _ _ gx.1 (Or.inl ⟨rfl, gx.2.1⟩)) ⟨Nat.le_of_ble_eq_true rfl, Nat.le_of_ble_eq_true rfl⟩ ⟨rfl, rfl⟩ ⟨Nat.zero_le _, Nat.zero_le _⟩ (Nat.le_of_ble_eq_true rfl) dX7_call_77 ?_
              exact X_iret (pc := 80) C (Nat.zero_le _) (Nat.zero_le _) dX7_call_80 ⟨by first | (rw [if_neg gg]) | (rw [if_pos rfl]), by first | (rw [if_neg gg]) | (rw [if_pos rfl, ub, if_pos h69]) | (rw [if_pos rfl, ub, if_neg h69])⟩
            · skip
              refine X_iconst (pc := 72) (v := 1) C dX7_call_72 (by decide) ?_
              refine X_goto (pc := 73) C 77 dX7_call_73 (by decide) ?_
              refine K_X7_230 (pc := 77) C (by assumption) (c_X7_requests l P _ _ _ _ h1 hM gx.2.2 _ _ _ _ gx.1 (Or.inl ⟨rfl, gx.2.1⟩)) ⟨Nat.le_of_ble_eq_true rfl, Nat.le_of_ble_eq_true rfl⟩ ⟨rfl, rfl⟩ ⟨Nat.zero_le _, Nat.zero_le _⟩ (Nat.le_of_ble_eq_true rfl) dX7_call_77 ?_
              exact X_iret (pc := 80) C (Nat.zero_le _) (Nat.zero_le _) dX7_call_80 ⟨by first | (rw [if_neg gg]) | (rw [if_pos rfl]), by first | (rw [if_neg gg]) | (rw [if_pos rfl, ub, if_pos h69]) | (rw [if_pos rfl, ub, if_neg h69])⟩
          · have gg := bz01 h51
            refine X_iconst (pc := 54) (v := 0) C dX7_call_54 (by decide) ?_
            exact X_iret (pc := 55) C (Nat.zero_le _) (Nat.zero_le _) dX7_call_55 ⟨by first | (rw [if_neg gg]) | (rw [if_pos rfl]), by first | (rw [if_neg gg]) | (rw [if_pos rfl, ub, if_pos h69]) | (rw [if_pos rfl, ub, if_neg h69])⟩

set_option maxRecDepth 100000 in
set_option maxHeartbeats 4000000 in
theorem c_X7_callTrunk (l : Launch) (P : XP) (τ : XS) (S F L : Nat → Int32) (h1 : xI1 P) (hM : MI S) (ch : Nat) (hc8 : ch ≤ 8) (hch : F 6 = nI ch) (x y u : Int32) : XF l yX7_callTrunk cX7_callTrunk 4 (some .int) rm_X7_callTrunk P [.ref (P.2.2.1 (.inr 9)), .int x, .int y, .int u] (mW τ S F L) (some (.int (if (mThT S x y) = 0 then nI (mK S) else 0))) (if (mThT S x y) = 0 then mW (mRw τ S ch) (mReq S x (-1) y (ub u)) (upd (upd F 7 0) 6 (nI (mNx ch))) L else mW τ S (upd F 7 ((mThT S x y))) L) := by
  refine XM.of (by decide +kernel) (Nat.le_of_ble_eq_true rfl) (fun p e s m args below meth c A C => ?_)
  replace C : XC p s m args meth c P A 4 RX7 cX7_callTrunk (some .int) := C
  refine XW.eq (lv' := [(0, _), (1, _), (2, _), (3, _)]) rfl rfl rfl ?_
  refine X_aload_n (pc := 0) C 0 dX7_callTrunk_0 rfl rfl ?_
  refine X_aload_n (pc := 1) C 0 dX7_callTrunk_1 rfl rfl ?_
  refine X_iload_n (pc := 2) C 1 dX7_callTrunk_2 rfl rfl ?_
  refine K_X7_288 (pc := 3) C (by assumption) (c_X7_noUser l P _ _ _ _ h1 (mU S) (by have := hM.u15; omega) hM.u x) ⟨Nat.le_of_ble_eq_true rfl, Nat.le_of_ble_eq_true rfl⟩ ⟨rfl, rfl⟩ ⟨Nat.zero_le _, Nat.zero_le _⟩ (Nat.le_of_ble_eq_true rfl) dX7_callTrunk_3 ?_
  refine X_if_ne (pc := 6) C 17 dX7_callTrunk_6 (by decide) (fun h6 => ?_) (fun h6 => ?_)
  · have g6 := bz01 h6
    refine X_iconst (pc := 17) (v := 1) C dX7_callTrunk_17 (by decide) ?_
    refine X_goto (pc := 18) C 22 dX7_callTrunk_18 (by decide) ?_
    refine X_aload_n (pc := 22) C 0 dX7_callTrunk_22 rfl rfl ?_
    refine G_X7_9 (pc := 23) C (by assumption) dX7_callTrunk_23 ?_
    refine X_iconst (pc := 26) (v := 5) C dX7_callTrunk_26 (by decide) ?_
    refine X_ialdN (j := 5) (pc := 27) C (by first | exact h1 _ (by decide) (by decide)) rfl (by omega) (by decide) dX7_callTrunk_27 ?_
    rw [mW_10]
    rw [hM.k]
    refine X_bipush (pc := 28) (v := 40) C dX7_callTrunk_28 (by decide) ?_
    refine X_icmp_ne (pc := 30) C 37 dX7_callTrunk_30 (by decide) (fun h30 => ?_) (fun h30 => ?_)
    · have g40 : ¬ mK S = 40 := fun q => h30 (by rw [q]; rfl)
      refine X_iconst (pc := 37) (v := 0) C dX7_callTrunk_37 (by decide) ?_
      refine X_iconst (pc := 38) (v := 0) C dX7_callTrunk_38 (by decide) ?_
      refine K_X7_154 (pc := 39) C (by assumption) (c_X7_fails l P _ _ _ _ h1 _ _ _) ⟨Nat.le_of_ble_eq_true rfl, Nat.le_of_ble_eq_true rfl⟩ ⟨rfl, rfl⟩ ⟨Nat.zero_le _, Nat.zero_le _⟩ (Nat.le_of_ble_eq_true rfl) dX7_callTrunk_39 ?_
      rw [show mFl _ _ _ = (mThT S x y) from by first | (rw [mThT, if_neg (fun q => g6 q.1)]; rfl) | (rw [mThT, if_neg (fun q => g14 q.2)]; rfl) | (rw [mThT, if_pos ⟨g6, g14⟩, if_neg g40]; rfl) | (rw [mThT, if_pos ⟨g6, g14⟩, if_pos g40]; rfl)]
      refine X_if_eq (pc := 42) C 47 dX7_callTrunk_42 (by decide) (fun h42 => ?_) (fun h42 => ?_)
      · have gg := bz00 h42
        have gx := mThT_0 gg hM
        rw [gg]
        refine X_aload_n (pc := 47) C 0 dX7_callTrunk_47 rfl rfl ?_
        refine X_aload_n (pc := 48) C 0 dX7_callTrunk_48 rfl rfl ?_
        refine G_X7_9 (pc := 49) C (by assumption) dX7_callTrunk_49 ?_
        refine K_X7_267 (pc := 52) C (by assumption) (c_X7_remember l P _ _ _ _ h1 ch hc8 (by rw [upd_76]; exact hch)) ⟨Nat.le_of_ble_eq_true rfl, Nat.le_of_ble_eq_true rfl⟩ ⟨rfl, rfl⟩ ⟨Nat.zero_le _, Nat.zero_le _⟩ (Nat.le_of_ble_eq_true rfl) dX7_callTrunk_52 ?_
        refine X_aload_n (pc := 55) C 0 dX7_callTrunk_55 rfl rfl ?_
        refine X_iload_n (pc := 56) C 1 dX7_callTrunk_56 rfl rfl ?_
        refine X_iconst (pc := 57) (v := (-1)) C dX7_callTrunk_57 (by decide) ?_
        refine X_iload_n (pc := 58) C 2 dX7_callTrunk_58 rfl rfl ?_
        refine X_iload_n (pc := 59) C 3 dX7_callTrunk_59 rfl rfl ?_
        refine X_if_eq (pc := 60) C 67 dX7_callTrunk_60 (by decide) (fun h60 => ?_) (fun h60 => ?_)
        · skip
          refine X_iconst (pc := 67) (v := 0) C dX7_callTrunk_67 (by decide) ?_
          refine K_X7_230 (pc := 68) C (by assumption) (c_X7_requests l P _ _ _ _ h1 hM gx.2.2 _ _ _ _ gx.1 (Or.inr ⟨rfl, gx.2.1⟩)) ⟨Nat.le_of_ble_eq_true rfl, Nat.le_of_ble_eq_true rfl⟩ ⟨rfl, rfl⟩ ⟨Nat.zero_le _, Nat.zero_le _⟩ (Nat.le_of_ble_eq_true rfl) dX7_callTrunk_68 ?_
          exact X_iret (pc := 71) C (Nat.zero_le _) (Nat.zero_le _) dX7_callTrunk_71 ⟨by first | (rw [if_neg gg]) | (rw [if_pos rfl]), by first | (rw [if_neg gg]) | (rw [if_pos rfl, ub, if_pos h60]) | (rw [if_pos rfl, ub, if_neg h60])⟩
        · skip
          refine X_iconst (pc := 63) (v := 1) C dX7_callTrunk_63 (by decide) ?_
          refine X_goto (pc := 64) C 68 dX7_callTrunk_64 (by decide) ?_
          refine K_X7_230 (pc := 68) C (by assumption) (c_X7_requests l P _ _ _ _ h1 hM gx.2.2 _ _ _ _ gx.1 (Or.inr ⟨rfl, gx.2.1⟩)) ⟨Nat.le_of_ble_eq_true rfl, Nat.le_of_ble_eq_true rfl⟩ ⟨rfl, rfl⟩ ⟨Nat.zero_le _, Nat.zero_le _⟩ (Nat.le_of_ble_eq_true rfl) dX7_callTrunk_68 ?_
          exact X_iret (pc := 71) C (Nat.zero_le _) (Nat.zero_le _) dX7_callTrunk_71 ⟨by first | (rw [if_neg gg]) | (rw [if_pos rfl]), by first | (rw [if_neg gg]) | (rw [if_pos rfl, ub, if_pos h60]) | (rw [if_pos rfl, ub, if_neg h60])⟩
      · have gg := bz01 h42
        refine X_iconst (pc := 45) (v := 0) C dX7_callTrunk_45 (by decide) ?_
        exact X_iret (pc := 46) C (Nat.zero_le _) (Nat.zero_le _) dX7_callTrunk_46 ⟨by first | (rw [if_neg gg]) | (rw [if_pos rfl]), by first | (rw [if_neg gg]) | (rw [if_pos rfl, ub, if_pos h60]) | (rw [if_pos rfl, ub, if_neg h60])⟩
    · have g40 : mK S = 40 := neq (b := 40) h30 (by have := hM.k40; omega)
      refine X_iconst (pc := 33) (v := 1) C dX7_callTrunk_33 (by decide) ?_
      refine X_goto (pc := 34) C 38 dX7_callTrunk_34 (by decide) ?_
      refine X_iconst (pc := 38) (v := 0) C dX7_callTrunk_38 (by decide) ?_
      refine K_X7_154 (pc := 39) C (by assumption) (c_X7_fails l P _ _ _ _ h1 _ _ _) ⟨Nat.le_of_ble_eq_true rfl, Nat.le_of_ble_eq_true rfl⟩ ⟨rfl, rfl⟩ ⟨Nat.zero_le _, Nat.zero_le _⟩ (Nat.le_of_ble_eq_true rfl) dX7_callTrunk_39 ?_
      rw [show mFl _ _ _ = (mThT S x y) from by first | (rw [mThT, if_neg (fun q => g6 q.1)]; rfl) | (rw [mThT, if_neg (fun q => g14 q.2)]; rfl) | (rw [mThT, if_pos ⟨g6, g14⟩, if_neg g40]; rfl) | (rw [mThT, if_pos ⟨g6, g14⟩, if_pos g40]; rfl)]
      refine X_if_eq (pc := 42) C 47 dX7_callTrunk_42 (by decide) (fun h42 => ?_) (fun h42 => ?_)
      · have gg := bz00 h42
        have gx := mThT_0 gg hM
        rw [gg]
        refine X_aload_n (pc := 47) C 0 dX7_callTrunk_47 rfl rfl ?_
        refine X_aload_n (pc := 48) C 0 dX7_callTrunk_48 rfl rfl ?_
        refine G_X7_9 (pc := 49) C (by assumption) dX7_callTrunk_49 ?_
        refine K_X7_267 (pc := 52) C (by assumption) (c_X7_remember l P _ _ _ _ h1 ch hc8 (by rw [upd_76]; exact hch)) ⟨Nat.le_of_ble_eq_true rfl, Nat.le_of_ble_eq_true rfl⟩ ⟨rfl, rfl⟩ ⟨Nat.zero_le _, Nat.zero_le _⟩ (Nat.le_of_ble_eq_true rfl) dX7_callTrunk_52 ?_
        refine X_aload_n (pc := 55) C 0 dX7_callTrunk_55 rfl rfl ?_
        refine X_iload_n (pc := 56) C 1 dX7_callTrunk_56 rfl rfl ?_
        refine X_iconst (pc := 57) (v := (-1)) C dX7_callTrunk_57 (by decide) ?_
        refine X_iload_n (pc := 58) C 2 dX7_callTrunk_58 rfl rfl ?_
        refine X_iload_n (pc := 59) C 3 dX7_callTrunk_59 rfl rfl ?_
        refine X_if_eq (pc := 60) C 67 dX7_callTrunk_60 (by decide) (fun h60 => ?_) (fun h60 => ?_)
        · skip
          refine X_iconst (pc := 67) (v := 0) C dX7_callTrunk_67 (by decide) ?_
          refine K_X7_230 (pc := 68) C (by assumption) (c_X7_requests l P _ _ _ _ h1 hM gx.2.2 _ _ _ _ gx.1 (Or.inr ⟨rfl, gx.2.1⟩)) ⟨Nat.le_of_ble_eq_true rfl, Nat.le_of_ble_eq_true rfl⟩ ⟨rfl, rfl⟩ ⟨Nat.zero_le _, Nat.zero_le _⟩ (Nat.le_of_ble_eq_true rfl) dX7_callTrunk_68 ?_
          exact X_iret (pc := 71) C (Nat.zero_le _) (Nat.zero_le _) dX7_callTrunk_71 ⟨by first | (rw [if_neg gg]) | (rw [if_pos rfl]), by first | (rw [if_neg gg]) | (rw [if_pos rfl, ub, if_pos h60]) | (rw [if_pos rfl, ub, if_neg h60])⟩
        · skip
          refine X_iconst (pc := 63) (v := 1) C dX7_callTrunk_63 (by decide) ?_
          refine X_goto (pc := 64) C 68 dX7_callTrunk_64 (by decide) ?_
          refine K_X7_230 (pc := 68) C (by assumption) (c_X7_requests l P _ _ _ _ h1 hM gx.2.2 _ _ _ _ gx.1 (Or.inr ⟨rfl, gx.2.1⟩)) ⟨Nat.le_of_ble_eq_true rfl, Nat.le_of_ble_eq_true rfl⟩ ⟨rfl, rfl⟩ ⟨Nat.zero_le _, Nat.zero_le _⟩ (Nat.le_of_ble_eq_true rfl) dX7_callTrunk_68 ?_
          exact X_iret (pc := 71) C (Nat.zero_le _) (Nat.zero_le _) dX7_callTrunk_71 ⟨by first | (rw [if_neg gg]) | (rw [if_pos rfl]), by first | (rw [if_neg gg]) | (rw [if_pos rfl, ub, if_pos h60]) | (rw [if_pos rfl, ub, if_neg h60])⟩
      · have gg := bz01 h42
        refine X_iconst (pc := 45) (v := 0) C dX7_callTrunk_45 (by decide) ?_
        exact X_iret (pc := 46) C (Nat.zero_le _) (Nat.zero_le _) dX7_callTrunk_46 ⟨by first | (rw [if_neg gg]) | (rw [if_pos rfl]), by first | (rw [if_neg gg]) | (rw [if_pos rfl, ub, if_pos h60]) | (rw [if_pos rfl, ub, if_neg h60])⟩
  · have g6 := bz00 h6
    refine X_aload_n (pc := 9) C 0 dX7_callTrunk_9 rfl rfl ?_
    refine X_iload_n (pc := 10) C 2 dX7_callTrunk_10 rfl rfl ?_
    refine K_X7_291 (pc := 11) C (by assumption) (c_X7_noTrunk l P _ _ _ _ h1 (mT S) (by have := hM.t4; omega) hM.t y) ⟨Nat.le_of_ble_eq_true rfl, Nat.le_of_ble_eq_true rfl⟩ ⟨rfl, rfl⟩ ⟨Nat.zero_le _, Nat.zero_le _⟩ (Nat.le_of_ble_eq_true rfl) dX7_callTrunk_11 ?_
    refine X_if_eq (pc := 14) C 21 dX7_callTrunk_14 (by decide) (fun h14 => ?_) (fun h14 => ?_)
    · have g14 := bz00 h14
      refine X_iconst (pc := 21) (v := 0) C dX7_callTrunk_21 (by decide) ?_
      refine X_aload_n (pc := 22) C 0 dX7_callTrunk_22 rfl rfl ?_
      refine G_X7_9 (pc := 23) C (by assumption) dX7_callTrunk_23 ?_
      refine X_iconst (pc := 26) (v := 5) C dX7_callTrunk_26 (by decide) ?_
      refine X_ialdN (j := 5) (pc := 27) C (by first | exact h1 _ (by decide) (by decide)) rfl (by omega) (by decide) dX7_callTrunk_27 ?_
      rw [mW_10]
      rw [hM.k]
      refine X_bipush (pc := 28) (v := 40) C dX7_callTrunk_28 (by decide) ?_
      refine X_icmp_ne (pc := 30) C 37 dX7_callTrunk_30 (by decide) (fun h30 => ?_) (fun h30 => ?_)
      · have g40 : ¬ mK S = 40 := fun q => h30 (by rw [q]; rfl)
        refine X_iconst (pc := 37) (v := 0) C dX7_callTrunk_37 (by decide) ?_
        refine X_iconst (pc := 38) (v := 0) C dX7_callTrunk_38 (by decide) ?_
        refine K_X7_154 (pc := 39) C (by assumption) (c_X7_fails l P _ _ _ _ h1 _ _ _) ⟨Nat.le_of_ble_eq_true rfl, Nat.le_of_ble_eq_true rfl⟩ ⟨rfl, rfl⟩ ⟨Nat.zero_le _, Nat.zero_le _⟩ (Nat.le_of_ble_eq_true rfl) dX7_callTrunk_39 ?_
        rw [show mFl _ _ _ = (mThT S x y) from by first | (rw [mThT, if_neg (fun q => g6 q.1)]; rfl) | (rw [mThT, if_neg (fun q => g14 q.2)]; rfl) | (rw [mThT, if_pos ⟨g6, g14⟩, if_neg g40]; rfl) | (rw [mThT, if_pos ⟨g6, g14⟩, if_pos g40]; rfl)]
        refine X_if_eq (pc := 42) C 47 dX7_callTrunk_42 (by decide) (fun h42 => ?_) (fun h42 => ?_)
        · have gg := bz00 h42
          have gx := mThT_0 gg hM
          rw [gg]
          refine X_aload_n (pc := 47) C 0 dX7_callTrunk_47 rfl rfl ?_
          refine X_aload_n (pc := 48) C 0 dX7_callTrunk_48 rfl rfl ?_
          refine G_X7_9 (pc := 49) C (by assumption) dX7_callTrunk_49 ?_
          refine K_X7_267 (pc := 52) C (by assumption) (c_X7_remember l P _ _ _ _ h1 ch hc8 (by rw [upd_76]; exact hch)) ⟨Nat.le_of_ble_eq_true rfl, Nat.le_of_ble_eq_true rfl⟩ ⟨rfl, rfl⟩ ⟨Nat.zero_le _, Nat.zero_le _⟩ (Nat.le_of_ble_eq_true rfl) dX7_callTrunk_52 ?_
          refine X_aload_n (pc := 55) C 0 dX7_callTrunk_55 rfl rfl ?_
          refine X_iload_n (pc := 56) C 1 dX7_callTrunk_56 rfl rfl ?_
          refine X_iconst (pc := 57) (v := (-1)) C dX7_callTrunk_57 (by decide) ?_
          refine X_iload_n (pc := 58) C 2 dX7_callTrunk_58 rfl rfl ?_
          refine X_iload_n (pc := 59) C 3 dX7_callTrunk_59 rfl rfl ?_
          refine X_if_eq (pc := 60) C 67 dX7_callTrunk_60 (by decide) (fun h60 => ?_) (fun h60 => ?_)
          · skip
            refine X_iconst (pc := 67) (v := 0) C dX7_callTrunk_67 (by decide) ?_
            refine K_X7_230 (pc := 68) C (by assumption) (c_X7_requests l P _ _ _ _ h1 hM gx.2.2 _ _ _ _ gx.1 (Or.inr ⟨rfl, gx.2.1⟩)) ⟨Nat.le_of_ble_eq_true rfl, Nat.le_of_ble_eq_true rfl⟩ ⟨rfl, rfl⟩ ⟨Nat.zero_le _, Nat.zero_le _⟩ (Nat.le_of_ble_eq_true rfl) dX7_callTrunk_68 ?_
            exact X_iret (pc := 71) C (Nat.zero_le _) (Nat.zero_le _) dX7_callTrunk_71 ⟨by first | (rw [if_neg gg]) | (rw [if_pos rfl]), by first | (rw [if_neg gg]) | (rw [if_pos rfl, ub, if_pos h60]) | (rw [if_pos rfl, ub, if_neg h60])⟩
          · skip
            refine X_iconst (pc := 63) (v := 1) C dX7_callTrunk_63 (by decide) ?_
            refine X_goto (pc := 64) C 68 dX7_callTrunk_64 (by decide) ?_
            refine K_X7_230 (pc := 68) C (by assumption) (c_X7_requests l P _ _ _ _ h1 hM gx.2.2 _ _ _ _ gx.1 (Or.inr ⟨rfl, gx.2.1⟩)) ⟨Nat.le_of_ble_eq_true rfl, Nat.le_of_ble_eq_true rfl⟩ ⟨rfl, rfl⟩ ⟨Nat.zero_le _, Nat.zero_le _⟩ (Nat.le_of_ble_eq_true rfl) dX7_callTrunk_68 ?_
            exact X_iret (pc := 71) C (Nat.zero_le _) (Nat.zero_le _) dX7_callTrunk_71 ⟨by first | (rw [if_neg gg]) | (rw [if_pos rfl]), by first | (rw [if_neg gg]) | (rw [if_pos rfl, ub, if_pos h60]) | (rw [if_pos rfl, ub, if_neg h60])⟩
        · have gg := bz01 h42
          refine X_iconst (pc := 45) (v := 0) C dX7_callTrunk_45 (by decide) ?_
          exact X_iret (pc := 46) C (Nat.zero_le _) (Nat.zero_le _) dX7_callTrunk_46 ⟨by first | (rw [if_neg gg]) | (rw [if_pos rfl]), by first | (rw [if_neg gg]) | (rw [if_pos rfl, ub, if_pos h60]) | (rw [if_pos rfl, ub, if_neg h60])⟩
      · have g40 : mK S = 40 := neq (b := 40) h30 (by have := hM.k40; omega)
        refine X_iconst (pc := 33) (v := 1) C dX7_callTrunk_33 (by decide) ?_
        refine X_goto (pc := 34) C 38 dX7_callTrunk_34 (by decide) ?_
        refine X_iconst (pc := 38) (v := 0) C dX7_callTrunk_38 (by decide) ?_
        refine K_X7_154 (pc := 39) C (by assumption) (c_X7_fails l P _ _ _ _ h1 _ _ _) ⟨Nat.le_of_ble_eq_true rfl, Nat.le_of_ble_eq_true rfl⟩ ⟨rfl, rfl⟩ ⟨Nat.zero_le _, Nat.zero_le _⟩ (Nat.le_of_ble_eq_true rfl) dX7_callTrunk_39 ?_
        rw [show mFl _ _ _ = (mThT S x y) from by first | (rw [mThT, if_neg (fun q => g6 q.1)]; rfl) | (rw [mThT, if_neg (fun q => g14 q.2)]; rfl) | (rw [mThT, if_pos ⟨g6, g14⟩, if_neg g40]; rfl) | (rw [mThT, if_pos ⟨g6, g14⟩, if_pos g40]; rfl)]
        refine X_if_eq (pc := 42) C 47 dX7_callTrunk_42 (by decide) (fun h42 => ?_) (fun h42 => ?_)
        · have gg := bz00 h42
          have gx := mThT_0 gg hM
          rw [gg]
          refine X_aload_n (pc := 47) C 0 dX7_callTrunk_47 rfl rfl ?_
          refine X_aload_n (pc := 48) C 0 dX7_callTrunk_48 rfl rfl ?_
          refine G_X7_9 (pc := 49) C (by assumption) dX7_callTrunk_49 ?_
          refine K_X7_267 (pc := 52) C (by assumption) (c_X7_remember l P _ _ _ _ h1 ch hc8 (by rw [upd_76]; exact hch)) ⟨Nat.le_of_ble_eq_true rfl, Nat.le_of_ble_eq_true rfl⟩ ⟨rfl, rfl⟩ ⟨Nat.zero_le _, Nat.zero_le _⟩ (Nat.le_of_ble_eq_true rfl) dX7_callTrunk_52 ?_
          refine X_aload_n (pc := 55) C 0 dX7_callTrunk_55 rfl rfl ?_
          refine X_iload_n (pc := 56) C 1 dX7_callTrunk_56 rfl rfl ?_
          refine X_iconst (pc := 57) (v := (-1)) C dX7_callTrunk_57 (by decide) ?_
          refine X_iload_n (pc := 58) C 2 dX7_callTrunk_58 rfl rfl ?_
          refine X_iload_n (pc := 59) C 3 dX7_callTrunk_59 rfl rfl ?_
          refine X_if_eq (pc := 60) C 67 dX7_callTrunk_60 (by decide) (fun h60 => ?_) (fun h60 => ?_)
          · skip
            refine X_iconst (pc := 67) (v := 0) C dX7_callTrunk_67 (by decide) ?_
            refine K_X7_230 (pc := 68) C (by assumption) (c_X7_requests l P _ _ _ _ h1 hM gx.2.2 _ _ _ _ gx.1 (Or.inr ⟨rfl, gx.2.1⟩)) ⟨Nat.le_of_ble_eq_true rfl, Nat.le_of_ble_eq_true rfl⟩ ⟨rfl, rfl⟩ ⟨Nat.zero_le _, Nat.zero_le _⟩ (Nat.le_of_ble_eq_true rfl) dX7_callTrunk_68 ?_
            exact X_iret (pc := 71) C (Nat.zero_le _) (Nat.zero_le _) dX7_callTrunk_71 ⟨by first | (rw [if_neg gg]) | (rw [if_pos rfl]), by first | (rw [if_neg gg]) | (rw [if_pos rfl, ub, if_pos h60]) | (rw [if_pos rfl, ub, if_neg h60])⟩
          · skip
            refine X_iconst (pc := 63) (v := 1) C dX7_callTrunk_63 (by decide) ?_
            refine X_goto (pc := 64) C 68 dX7_callTrunk_64 (by decide) ?_
            refine K_X7_230 (pc := 68) C (by assumption) (c_X7_requests l P _ _ _ _ h1 hM gx.2.2 _ _ _ _ gx.1 (Or.inr ⟨rfl, gx.2.1⟩)) ⟨Nat.le_of_ble_eq_true rfl, Nat.le_of_ble_eq_true rfl⟩ ⟨rfl, rfl⟩ ⟨Nat.zero_le _, Nat.zero_le _⟩ (Nat.le_of_ble_eq_true rfl) dX7_callTrunk_68 ?_
            exact X_iret (pc := 71) C (Nat.zero_le _) (Nat.zero_le _) dX7_callTrunk_71 ⟨by first | (rw [if_neg gg]) | (rw [if_pos rfl]), by first | (rw [if_neg gg]) | (rw [if_pos rfl, ub, if_pos h60]) | (rw [if_pos rfl, ub, if_neg h60])⟩
        · have gg := bz01 h42
          refine X_iconst (pc := 45) (v := 0) C dX7_callTrunk_45 (by decide) ?_
          exact X_iret (pc := 46) C (Nat.zero_le _) (Nat.zero_le _) dX7_callTrunk_46 ⟨by first | (rw [if_neg gg]) | (rw [if_pos rfl]), by first | (rw [if_neg gg]) | (rw [if_pos rfl, ub, if_pos h60]) | (rw [if_pos rfl, ub, if_neg h60])⟩
    · have g14 := bz01 h14
      refine X_iconst (pc := 17) (v := 1) C dX7_callTrunk_17 (by decide) ?_
      refine X_goto (pc := 18) C 22 dX7_callTrunk_18 (by decide) ?_
      refine X_aload_n (pc := 22) C 0 dX7_callTrunk_22 rfl rfl ?_
      refine G_X7_9 (pc := 23) C (by assumption) dX7_callTrunk_23 ?_
      refine X_iconst (pc := 26) (v := 5) C dX7_callTrunk_26 (by decide) ?_
      refine X_ialdN (j := 5) (pc := 27) C (by first | exact h1 _ (by decide) (by decide)) rfl (by omega) (by decide) dX7_callTrunk_27 ?_
      rw [mW_10]
      rw [hM.k]
      refine X_bipush (pc := 28) (v := 40) C dX7_callTrunk_28 (by decide) ?_
      refine X_icmp_ne (pc := 30) C 37 dX7_callTrunk_30 (by decide) (fun h30 => ?_) (fun h30 => ?_)
      · have g40 : ¬ mK S = 40 := fun q => h30 (by rw [q]; rfl)
        refine X_iconst (pc := 37) (v := 0) C dX7_callTrunk_37 (by decide) ?_
        refine X_iconst (pc := 38) (v := 0) C dX7_callTrunk_38 (by decide) ?_
        refine K_X7_154 (pc := 39) C (by assumption) (c_X7_fails l P _ _ _ _ h1 _ _ _) ⟨Nat.le_of_ble_eq_true rfl, Nat.le_of_ble_eq_true rfl⟩ ⟨rfl, rfl⟩ ⟨Nat.zero_le _, Nat.zero_le _⟩ (Nat.le_of_ble_eq_true rfl) dX7_callTrunk_39 ?_
        rw [show mFl _ _ _ = (mThT S x y) from by first | (rw [mThT, if_neg (fun q => g6 q.1)]; rfl) | (rw [mThT, if_neg (fun q => g14 q.2)]; rfl) | (rw [mThT, if_pos ⟨g6, g14⟩, if_neg g40]; rfl) | (rw [mThT, if_pos ⟨g6, g14⟩, if_pos g40]; rfl)]
        refine X_if_eq (pc := 42) C 47 dX7_callTrunk_42 (by decide) (fun h42 => ?_) (fun h42 => ?_)
        · have gg := bz00 h42
          have gx := mThT_0 gg hM
          rw [gg]
          refine X_aload_n (pc := 47) C 0 dX7_callTrunk_47 rfl rfl ?_
          refine X_aload_n (pc := 48) C 0 dX7_callTrunk_48 rfl rfl ?_
          refine G_X7_9 (pc := 49) C (by assumption) dX7_callTrunk_49 ?_
          refine K_X7_267 (pc := 52) C (by assumption) (c_X7_remember l P _ _ _ _ h1 ch hc8 (by rw [upd_76]; exact hch)) ⟨Nat.le_of_ble_eq_true rfl, Nat.le_of_ble_eq_true rfl⟩ ⟨rfl, rfl⟩ ⟨Nat.zero_le _, Nat.zero_le _⟩ (Nat.le_of_ble_eq_true rfl) dX7_callTrunk_52 ?_
          refine X_aload_n (pc := 55) C 0 dX7_callTrunk_55 rfl rfl ?_
          refine X_iload_n (pc := 56) C 1 dX7_callTrunk_56 rfl rfl ?_
          refine X_iconst (pc := 57) (v := (-1)) C dX7_callTrunk_57 (by decide) ?_
          refine X_iload_n (pc := 58) C 2 dX7_callTrunk_58 rfl rfl ?_
          refine X_iload_n (pc := 59) C 3 dX7_callTrunk_59 rfl rfl ?_
          refine X_if_eq (pc := 60) C 67 dX7_callTrunk_60 (by decide) (fun h60 => ?_) (fun h60 => ?_)
          · skip
            refine X_iconst (pc := 67) (v := 0) C dX7_callTrunk_67 (by decide) ?_
            refine K_X7_230 (pc := 68) C (by assumption) (c_X7_requests l P _ _ _ _ h1 hM gx.2.2 _ _ _ _ gx.1 (Or.inr ⟨rfl, gx.2.1⟩)) ⟨Nat.le_of_ble_eq_true rfl, Nat.le_of_ble_eq_true rfl⟩ ⟨rfl, rfl⟩ ⟨Nat.zero_le _, Nat.zero_le _⟩ (Nat.le_of_ble_eq_true rfl) dX7_callTrunk_68 ?_
            exact X_iret (pc := 71) C (Nat.zero_le _) (Nat.zero_le _) dX7_callTrunk_71 ⟨by first | (rw [if_neg gg]) | (rw [if_pos rfl]), by first | (rw [if_neg gg]) | (rw [if_pos rfl, ub, if_pos h60]) | (rw [if_pos rfl, ub, if_neg h60])⟩
          · skip
            refine X_iconst (pc := 63) (v := 1) C dX7_callTrunk_63 (by decide) ?_
            refine X_goto (pc := 64) C 68 dX7_callTrunk_64 (by decide) ?_
            refine K_X7_230 (pc := 68) C (by assumption) (c_X7_requests l P _ _ _ _ h1 hM gx.2.2 _ _ _ _ gx.1 (Or.inr ⟨rfl, gx.2.1⟩)) ⟨Nat.le_of_ble_eq_true rfl, Nat.le_of_ble_eq_true rfl⟩ ⟨rfl, rfl⟩ ⟨Nat.zero_le _, Nat.zero_le _⟩ (Nat.le_of_ble_eq_true rfl) dX7_callTrunk_68 ?_
            exact X_iret (pc := 71) C (Nat.zero_le _) (Nat.zero_le _) dX7_callTrunk_71 ⟨by first | (rw [if_neg gg]) | (rw [if_pos rfl]), by first | (rw [if_neg gg]) | (rw [if_pos rfl, ub, if_pos h60]) | (rw [if_pos rfl, ub, if_neg h60])⟩
        · have gg := bz01 h42
          refine X_iconst (pc := 45) (v := 0) C dX7_callTrunk_45 (by decide) ?_
          exact X_iret (pc := 46) C (Nat.zero_le _) (Nat.zero_le _) dX7_callTrunk_46 ⟨by first | (rw [if_neg gg]) | (rw [if_pos rfl]), by first | (rw [if_neg gg]) | (rw [if_pos rfl, ub, if_pos h60]) | (rw [if_pos rfl, ub, if_neg h60])⟩
      · have g40 : mK S = 40 := neq (b := 40) h30 (by have := hM.k40; omega)
        refine X_iconst (pc := 33) (v := 1) C dX7_callTrunk_33 (by decide) ?_
        refine X_goto (pc := 34) C 38 dX7_callTrunk_34 (by decide) ?_
        refine X_iconst (pc := 38) (v := 0) C dX7_callTrunk_38 (by decide) ?_
        refine K_X7_154 (pc := 39) C (by assumption) (c_X7_fails l P _ _ _ _ h1 _ _ _) ⟨Nat.le_of_ble_eq_true rfl, Nat.le_of_ble_eq_true rfl⟩ ⟨rfl, rfl⟩ ⟨Nat.zero_le _, Nat.zero_le _⟩ (Nat.le_of_ble_eq_true rfl) dX7_callTrunk_39 ?_
        rw [show mFl _ _ _ = (mThT S x y) from by first | (rw [mThT, if_neg (fun q => g6 q.1)]; rfl) | (rw [mThT, if_neg (fun q => g14 q.2)]; rfl) | (rw [mThT, if_pos ⟨g6, g14⟩, if_neg g40]; rfl) | (rw [mThT, if_pos ⟨g6, g14⟩, if_pos g40]; rfl)]
        refine X_if_eq (pc := 42) C 47 dX7_callTrunk_42 (by decide) (fun h42 => ?_) (fun h42 => ?_)
        · have gg := bz00 h42
          have gx := mThT_0 gg hM
          rw [gg]
          refine X_aload_n (pc := 47) C 0 dX7_callTrunk_47 rfl rfl ?_
          refine X_aload_n (pc := 48) C 0 dX7_callTrunk_48 rfl rfl ?_
          refine G_X7_9 (pc := 49) C (by assumption) dX7_callTrunk_49 ?_
          refine K_X7_267 (pc := 52) C (by assumption) (c_X7_remember l P _ _ _ _ h1 ch hc8 (by rw [upd_76]; exact hch)) ⟨Nat.le_of_ble_eq_true rfl, Nat.le_of_ble_eq_true rfl⟩ ⟨rfl, rfl⟩ ⟨Nat.zero_le _, Nat.zero_le _⟩ (Nat.le_of_ble_eq_true rfl) dX7_callTrunk_52 ?_
          refine X_aload_n (pc := 55) C 0 dX7_callTrunk_55 rfl rfl ?_
          refine X_iload_n (pc := 56) C 1 dX7_callTrunk_56 rfl rfl ?_
          refine X_iconst (pc := 57) (v := (-1)) C dX7_callTrunk_57 (by decide) ?_
          refine X_iload_n (pc := 58) C 2 dX7_callTrunk_58 rfl rfl ?_
          refine X_iload_n (pc := 59) C 3 dX7_callTrunk_59 rfl rfl ?_
          refine X_if_eq (pc := 60) C 67 dX7_callTrunk_60 (by decide) (fun h60 => ?_) (fun h60 => ?_)
          · skip
            refine X_iconst (pc := 67) (v := 0) C dX7_callTrunk_67 (by decide) ?_
            refine K_X7_230 (pc := 68) C (by assumption) (c_X7_requests l P _ _ _ _ h1 hM gx.2.2 _ _ _ _ gx.1 (Or.inr ⟨rfl, gx.2.1⟩)) ⟨Nat.le_of_ble_eq_true rfl, Nat.le_of_ble_eq_true rfl⟩ ⟨rfl, rfl⟩ ⟨Nat.zero_le _, Nat.zero_le _⟩ (Nat.le_of_ble_eq_true rfl) dX7_callTrunk_68 ?_
            exact X_iret (pc := 71) C (Nat.zero_le _) (Nat.zero_le _) dX7_callTrunk_71 ⟨by first | (rw [if_neg gg]) | (rw [if_pos rfl]), by first | (rw [if_neg gg]) | (rw [if_pos rfl, ub, if_pos h60]) | (rw [if_pos rfl, ub, if_neg h60])⟩
          · skip
            refine X_iconst (pc := 63) (v := 1) C dX7_callTrunk_63 (by decide) ?_
            refine X_goto (pc := 64) C 68 dX7_callTrunk_64 (by decide) ?_
            refine K_X7_230 (pc := 68) C (by assumption) (c_X7_requests l P _ _ _ _ h1 hM gx.2.2 _ _ _ _ gx.1 (Or.inr ⟨rfl, gx.2.1⟩)) ⟨Nat.le_of_ble_eq_true rfl, Nat.le_of_ble_eq_true rfl⟩ ⟨rfl, rfl⟩ ⟨Nat.zero_le _, Nat.zero_le _⟩ (Nat.le_of_ble_eq_true rfl) dX7_callTrunk_68 ?_
            exact X_iret (pc := 71) C (Nat.zero_le _) (Nat.zero_le _) dX7_callTrunk_71 ⟨by first | (rw [if_neg gg]) | (rw [if_pos rfl]), by first | (rw [if_neg gg]) | (rw [if_pos rfl, ub, if_pos h60]) | (rw [if_pos rfl, ub, if_neg h60])⟩
        · have gg := bz01 h42
          refine X_iconst (pc := 45) (v := 0) C dX7_callTrunk_45 (by decide) ?_
          exact X_iret (pc := 46) C (Nat.zero_le _) (Nat.zero_le _) dX7_callTrunk_46 ⟨by first | (rw [if_neg gg]) | (rw [if_pos rfl]), by first | (rw [if_neg gg]) | (rw [if_pos rfl, ub, if_pos h60]) | (rw [if_pos rfl, ub, if_neg h60])⟩

theorem mThE_0 {S : Nat → Int32} {x : Int32} (h : mThE S x = 0) : xok x (mK S) ∧ ¬ 2 ≤ sC S 4 (cN x) := by
  unfold mThE at h
  by_cases g : xok x (mK S)
  · rw [if_pos g] at h
    by_cases g1 : 2 ≤ sC S 4 (cN x)
    · rw [if_pos g1] at h; exact absurd h (by decide)
    · exact ⟨g, g1⟩
  · rw [if_neg g] at h; exact absurd h (by decide)
theorem mThM_0 {S : Nat → Int32} {x v : Int32} (h : mThM S x v = 0) : xok x (mU S) ∧ 0 ≤ v ∧ v ≤ 9 := by
  unfold mThM at h
  by_cases g : xok x (mU S)
  · rw [if_pos g] at h
    by_cases g1 : 0 ≤ v ∧ v ≤ 9
    · exact ⟨g, g1⟩
    · rw [if_neg g1] at h; exact absurd h (by decide)
  · rw [if_neg g] at h; exact absurd h (by decide)
set_option maxRecDepth 100000 in
set_option maxHeartbeats 4000000 in
theorem c_X7_end (l : Launch) (P : XP) (τ : XS) (S F L : Nat → Int32) (h1 : xI1 P) (hM : MI S) (ch : Nat) (hc8 : ch ≤ 8) (hch : F 6 = nI ch) (x : Int32) : XF l yX7_end cX7_end 3 (some .int) rm_X7_end P [.ref (P.2.2.1 (.inr 9)), .int x] (mW τ S F L) (some (.int (if (mThE S x) = 0 then nI (mFin S (cN x)).2 else 0))) (if (mThE S x) = 0 then mW (mRw τ S ch) (mFin S (cN x)).1 (upd (upd F 7 0) 6 (nI (mNx ch))) L else mW τ S (upd F 7 ((mThE S x))) L) := by
  refine XM.of (by decide +kernel) (Nat.le_of_ble_eq_true rfl) (fun p e s m args below meth c A C => ?_)
  replace C : XC p s m args meth c P A 3 RX7 cX7_end (some .int) := C
  refine XW.eq (lv' := [(0, _), (1, _)]) rfl rfl rfl ?_
  refine X_aload_n (pc := 0) C 0 dX7_end_0 rfl rfl ?_
  refine X_iload_n (pc := 1) C 1 dX7_end_1 rfl rfl ?_
  refine K_X7_294 (pc := 2) C (by assumption) (c_X7_noCall l P _ _ _ _ h1 (mK S) (by have := hM.k40; omega) hM.k x) ⟨Nat.le_of_ble_eq_true rfl, Nat.le_of_ble_eq_true rfl⟩ ⟨rfl, rfl⟩ ⟨Nat.zero_le _, Nat.zero_le _⟩ (Nat.le_of_ble_eq_true rfl) dX7_end_2 ?_
  refine X_istore_n (pc := 5) (lv1 := [(0, _), (1, _), (2, _)]) C 2 dX7_end_5 rfl (by decide) rfl ?_
  refine X_aload_n (pc := 6) C 0 dX7_end_6 rfl rfl ?_
  refine X_iload_n (pc := 7) C 2 dX7_end_7 rfl rfl ?_
  refine X_iload_n (pc := 8) C 2 dX7_end_8 rfl rfl ?_
  refine X_if_ne (pc := 9) C 24 dX7_end_9 (by decide) (fun h9 => ?_) (fun h9 => ?_)
  · have g9 := bz01 h9
    refine X_iconst (pc := 24) (v := 0) C dX7_end_24 (by decide) ?_
    refine X_iconst (pc := 25) (v := 0) C dX7_end_25 (by decide) ?_
    refine K_X7_154 (pc := 26) C (by assumption) (c_X7_fails l P _ _ _ _ h1 _ _ _) ⟨Nat.le_of_ble_eq_true rfl, Nat.le_of_ble_eq_true rfl⟩ ⟨rfl, rfl⟩ ⟨Nat.zero_le _, Nat.zero_le _⟩ (Nat.le_of_ble_eq_true rfl) dX7_end_26 ?_
    rw [show mFl _ _ _ = (mThE S x) from by first | (rw [mThE, if_neg g9, if_neg g9]; rfl) | (rw [mThE, if_pos g9, if_neg g17, if_pos g9]; rfl) | (rw [mThE, if_pos g9, if_pos g17, if_pos g9]; rfl)]
    refine X_if_eq (pc := 29) C 34 dX7_end_29 (by decide) (fun h29 => ?_) (fun h29 => ?_)
    · have gg := bz00 h29
      have gy := mThE_0 gg
      have gz := xok_c gy.1 (by have := hM.k40; omega)
      rw [gg]
      refine X_aload_n (pc := 34) C 0 dX7_end_34 rfl rfl ?_
      refine X_aload_n (pc := 35) C 0 dX7_end_35 rfl rfl ?_
      refine G_X7_9 (pc := 36) C (by assumption) dX7_end_36 ?_
      refine K_X7_267 (pc := 39) C (by assumption) (c_X7_remember l P _ _ _ _ h1 ch hc8 (by rw [upd_76]; exact hch)) ⟨Nat.le_of_ble_eq_true rfl, Nat.le_of_ble_eq_true rfl⟩ ⟨rfl, rfl⟩ ⟨Nat.zero_le _, Nat.zero_le _⟩ (Nat.le_of_ble_eq_true rfl) dX7_end_39 ?_
      refine X_aload_n (pc := 42) C 0 dX7_end_42 rfl rfl ?_
      refine X_iload_n (pc := 43) C 1 dX7_end_43 rfl rfl ?_
      refine K_X7_250 (pc := 44) C (by assumption) (c_X7_finishes l P _ _ _ _ h1 hM _ gz.1 _ gz.2) ⟨Nat.le_of_ble_eq_true rfl, Nat.le_of_ble_eq_true rfl⟩ ⟨rfl, rfl⟩ ⟨Nat.zero_le _, Nat.zero_le _⟩ (Nat.le_of_ble_eq_true rfl) dX7_end_44 ?_
      exact X_iret (pc := 47) C (Nat.zero_le _) (Nat.zero_le _) dX7_end_47 ⟨by first | (rw [if_neg gg]) | (rw [if_pos rfl]), by first | (rw [if_neg gg]) | (rw [if_pos rfl])⟩
    · have gg := bz01 h29
      refine X_iconst (pc := 32) (v := 0) C dX7_end_32 (by decide) ?_
      exact X_iret (pc := 33) C (Nat.zero_le _) (Nat.zero_le _) dX7_end_33 ⟨by first | (rw [if_neg gg]) | (rw [if_pos rfl]), by first | (rw [if_neg gg]) | (rw [if_pos rfl])⟩
  · have g9 := bz00 h9
    have gx := xok_c g9 (by have := hM.k40; omega)
    have g40 := hM.k40
    refine X_aload_n (pc := 12) C 0 dX7_end_12 rfl rfl ?_
    refine X_iload_n (pc := 13) C 1 dX7_end_13 rfl rfl ?_
    refine K_X7_247 (pc := 14) C (by assumption) (c_X7_isOver l P _ _ _ _ h1 _ (by omega) _ gx.2) ⟨Nat.le_of_ble_eq_true rfl, Nat.le_of_ble_eq_true rfl⟩ ⟨rfl, rfl⟩ ⟨Nat.zero_le _, Nat.zero_le _⟩ (Nat.le_of_ble_eq_true rfl) dX7_end_14 ?_
    refine X_if_eq (pc := 17) C 24 dX7_end_17 (by decide) (fun h17 => ?_) (fun h17 => ?_)
    · have g17 := bz0 h17
      refine X_iconst (pc := 24) (v := 0) C dX7_end_24 (by decide) ?_
      refine X_iconst (pc := 25) (v := 0) C dX7_end_25 (by decide) ?_
      refine K_X7_154 (pc := 26) C (by assumption) (c_X7_fails l P _ _ _ _ h1 _ _ _) ⟨Nat.le_of_ble_eq_true rfl, Nat.le_of_ble_eq_true rfl⟩ ⟨rfl, rfl⟩ ⟨Nat.zero_le _, Nat.zero_le _⟩ (Nat.le_of_ble_eq_true rfl) dX7_end_26 ?_
      rw [show mFl _ _ _ = (mThE S x) from by first | (rw [mThE, if_neg g9, if_neg g9]; rfl) | (rw [mThE, if_pos g9, if_neg g17, if_pos g9]; rfl) | (rw [mThE, if_pos g9, if_pos g17, if_pos g9]; rfl)]
      refine X_if_eq (pc := 29) C 34 dX7_end_29 (by decide) (fun h29 => ?_) (fun h29 => ?_)
      · have gg := bz00 h29
        have gy := mThE_0 gg
        have gz := xok_c gy.1 (by have := hM.k40; omega)
        rw [gg]
        refine X_aload_n (pc := 34) C 0 dX7_end_34 rfl rfl ?_
        refine X_aload_n (pc := 35) C 0 dX7_end_35 rfl rfl ?_
        refine G_X7_9 (pc := 36) C (by assumption) dX7_end_36 ?_
        refine K_X7_267 (pc := 39) C (by assumption) (c_X7_remember l P _ _ _ _ h1 ch hc8 (by rw [upd_76]; exact hch)) ⟨Nat.le_of_ble_eq_true rfl, Nat.le_of_ble_eq_true rfl⟩ ⟨rfl, rfl⟩ ⟨Nat.zero_le _, Nat.zero_le _⟩ (Nat.le_of_ble_eq_true rfl) dX7_end_39 ?_
        refine X_aload_n (pc := 42) C 0 dX7_end_42 rfl rfl ?_
        refine X_iload_n (pc := 43) C 1 dX7_end_43 rfl rfl ?_
        refine K_X7_250 (pc := 44) C (by assumption) (c_X7_finishes l P _ _ _ _ h1 hM _ gz.1 _ gz.2) ⟨Nat.le_of_ble_eq_true rfl, Nat.le_of_ble_eq_true rfl⟩ ⟨rfl, rfl⟩ ⟨Nat.zero_le _, Nat.zero_le _⟩ (Nat.le_of_ble_eq_true rfl) dX7_end_44 ?_
        exact X_iret (pc := 47) C (Nat.zero_le _) (Nat.zero_le _) dX7_end_47 ⟨by first | (rw [if_neg gg]) | (rw [if_pos rfl]), by first | (rw [if_neg gg]) | (rw [if_pos rfl])⟩
      · have gg := bz01 h29
        refine X_iconst (pc := 32) (v := 0) C dX7_end_32 (by decide) ?_
        exact X_iret (pc := 33) C (Nat.zero_le _) (Nat.zero_le _) dX7_end_33 ⟨by first | (rw [if_neg gg]) | (rw [if_pos rfl]), by first | (rw [if_neg gg]) | (rw [if_pos rfl])⟩
    · have g17 := bz1 h17
      refine X_iconst (pc := 20) (v := 1) C dX7_end_20 (by decide) ?_
      refine X_goto (pc := 21) C 25 dX7_end_21 (by decide) ?_
      refine X_iconst (pc := 25) (v := 0) C dX7_end_25 (by decide) ?_
      refine K_X7_154 (pc := 26) C (by assumption) (c_X7_fails l P _ _ _ _ h1 _ _ _) ⟨Nat.le_of_ble_eq_true rfl, Nat.le_of_ble_eq_true rfl⟩ ⟨rfl, rfl⟩ ⟨Nat.zero_le _, Nat.zero_le _⟩ (Nat.le_of_ble_eq_true rfl) dX7_end_26 ?_
      rw [show mFl _ _ _ = (mThE S x) from by first | (rw [mThE, if_neg g9, if_neg g9]; rfl) | (rw [mThE, if_pos g9, if_neg g17, if_pos g9]; rfl) | (rw [mThE, if_pos g9, if_pos g17, if_pos g9]; rfl)]
      refine X_if_eq (pc := 29) C 34 dX7_end_29 (by decide) (fun h29 => ?_) (fun h29 => ?_)
      · have gg := bz00 h29
        have gy := mThE_0 gg
        have gz := xok_c gy.1 (by have := hM.k40; omega)
        rw [gg]
        refine X_aload_n (pc := 34) C 0 dX7_end_34 rfl rfl ?_
        refine X_aload_n (pc := 35) C 0 dX7_end_35 rfl rfl ?_
        refine G_X7_9 (pc := 36) C (by assumption) dX7_end_36 ?_
        refine K_X7_267 (pc := 39) C (by assumption) (c_X7_remember l P _ _ _ _ h1 ch hc8 (by rw [upd_76]; exact hch)) ⟨Nat.le_of_ble_eq_true rfl, Nat.le_of_ble_eq_true rfl⟩ ⟨rfl, rfl⟩ ⟨Nat.zero_le _, Nat.zero_le _⟩ (Nat.le_of_ble_eq_true rfl) dX7_end_39 ?_
        refine X_aload_n (pc := 42) C 0 dX7_end_42 rfl rfl ?_
        refine X_iload_n (pc := 43) C 1 dX7_end_43 rfl rfl ?_
        refine K_X7_250 (pc := 44) C (by assumption) (c_X7_finishes l P _ _ _ _ h1 hM _ gz.1 _ gz.2) ⟨Nat.le_of_ble_eq_true rfl, Nat.le_of_ble_eq_true rfl⟩ ⟨rfl, rfl⟩ ⟨Nat.zero_le _, Nat.zero_le _⟩ (Nat.le_of_ble_eq_true rfl) dX7_end_44 ?_
        exact X_iret (pc := 47) C (Nat.zero_le _) (Nat.zero_le _) dX7_end_47 ⟨by first | (rw [if_neg gg]) | (rw [if_pos rfl]), by first | (rw [if_neg gg]) | (rw [if_pos rfl])⟩
      · have gg := bz01 h29
        refine X_iconst (pc := 32) (v := 0) C dX7_end_32 (by decide) ?_
        exact X_iret (pc := 33) C (Nat.zero_le _) (Nat.zero_le _) dX7_end_33 ⟨by first | (rw [if_neg gg]) | (rw [if_pos rfl]), by first | (rw [if_neg gg]) | (rw [if_pos rfl])⟩

end XP34

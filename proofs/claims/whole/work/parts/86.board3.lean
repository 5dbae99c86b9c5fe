/-! CONSTRUCTORS: the reference -/
def uIn (σ : XS) : Nat → XS
  | 0 => σ
  | k + 1 => xu (uIn σ k) (.inr 16) k (xch 8 k)
theorem uIn_o {σ : XS} {i : XI} (h : i ≠ .inr 16) : ∀ k, (uIn σ k).1 i = σ.1 i
  | 0 => rfl
  | k + 1 => (xu_ne _ _ _ h).trans (uIn_o h k)
theorem uIn_l {σ : XS} : ∀ k, (uIn σ k).2 = σ.2
  | 0 => rfl
  | k + 1 => uIn_l k
theorem uIn_16 {σ : XS} {i : Nat} : ∀ k, i < k → (uIn σ k).1 (.inr 16) i = xch 8 i
  | 0, h => absurd h (Nat.not_lt_zero _)
  | k + 1, h => by
    unfold uIn
    rw [xu_ap]
    by_cases g : i = k
    · subst g
      rw [if_pos ⟨rfl, rfl⟩]
    · rw [if_neg (fun z => g z.2), uIn_16 k (by omega)]
/-- the text stands in the reference's input -/
def uA (σ : XS) : XS := uIn (xu σ (.inr 9) 10 (nI 121)) 121
/-- it is loaded -/
noncomputable def uR (σ : XS) : MR := mLdB ((uA σ).1 (.inr 16)) 121 ((uA σ).1 (.inr 10)) (mBg ((uA σ).1 (.inr 16)) 121 ((uA σ).1 (.inr 9))) ((uA σ).1 (.inr 18))
noncomputable def uLoad (σ : XS) : XS := mEndW (mBgT (uA σ) ((uA σ).1 (.inr 10))) (mCs ((uA σ).1 (.inr 16)) 121 700 (uR σ) 0) 0
noncomputable def uLays (σ : XS) : XS := xu (uLoad σ) (.inr 9) 6 0
section XP86
variable {p : Program} {l : Launch} {e : Env} {R : Room} {s : State} {m : MethodId} {args : Array Value} {below : List Frame} {meth : Method} {c : Code} {P P0 : XP} {A : Nat → Prop} {nL cells slots : Nat} {Q : State → Prop} {cc : ByteArray} {own : String} {σ : XS} {hs : va_W} {N : List XI} {ad : XI → Nat} {pc : Nat} {lv : List (Nat × Value)} {st : List Value}
set_option maxRecDepth 100000 in
set_option maxHeartbeats 4000000 in
theorem L_X7_lays (C : XC p s m args meth c P A 3 RX7 cX7_lays none) (h1 : xI1 P) (h10 : σ.1 (.inr 9) 10 = nI 121) (kx : XW p l e rm_X7_lays s m args below meth c P A 3 0 0 Q (uIn σ 121) 35 [(0, .ref (P.2.2.1 (.inr 9))), (1, .ref (xK P 8)), (2, .int (nI 121))] []) : ∀ (k i : Nat), i + k = 121 → XW p l e rm_X7_lays s m args below meth c P A 3 0 0 Q (uIn σ i) 10 [(0, .ref (P.2.2.1 (.inr 9))), (1, .ref (xK P 8)), (2, .int (nI i))] [] := by
  have hq : 8 < 9 := by decide
  intro k
  induction k with
  | zero =>
    intro i hi
    obtain rfl : i = 121 := by omega
    refine X_iload_n (pc := 10) C 2 dX7_lays_10 rfl rfl ?_
    refine X_aload_n (pc := 11) C 0 dX7_lays_11 rfl rfl ?_
    refine G_X7_54 (pc := 12) C (by assumption) dX7_lays_12 ?_
    rw [show (uIn σ 121).1 (.inr 9) 10 = nI 121 from by rw [uIn_o (by simp)]; exact h10]
    exact X_icmp_ge (pc := 15) C 35 dX7_lays_15 (by decide) (fun _ => kx) (fun h => absurd (nI_le (Nat.le_refl _) (n31 (by omega))) h)
  | succ k ih =>
    intro i hi
    have hlt : i < xln 8 := by rw [show xln 8 = 121 from rfl]; omega
    refine X_iload_n (pc := 10) C 2 dX7_lays_10 rfl rfl ?_
    refine X_aload_n (pc := 11) C 0 dX7_lays_11 rfl rfl ?_
    refine G_X7_54 (pc := 12) C (by assumption) dX7_lays_12 ?_
    rw [show (uIn σ i).1 (.inr 9) 10 = nI 121 from by rw [uIn_o (by simp)]; exact h10]
    refine X_icmp_ge (pc := 15) C 35 dX7_lays_15 (by decide) (fun h => absurd (nle h (by omega) (by omega)) (by omega)) (fun _ => ?_)
    refine X_aload_n (pc := 18) C 0 dX7_lays_18 rfl rfl ?_
    refine G_X7_29 (pc := 19) C (by assumption) dX7_lays_19 ?_
    refine X_iload_n (pc := 22) C 2 dX7_lays_22 rfl rfl ?_
    refine X_aload_n (pc := 23) C 1 dX7_lays_23 rfl rfl ?_
    refine X_iload_n (pc := 24) C 2 dX7_lays_24 rfl rfl ?_
    refine X_callT (n := 1) (pc := 25) C hq [.int _] (c_J0_charAt l P _ 8 i hq hlt) rfl m_c_J0_charAt_5068e m_m_X7_57 m_i_J0_charAt_5068e m_s_J0_charAt_5068e m_n_J0 ⟨by decide +kernel, by decide +kernel, by decide +kernel⟩ ⟨(Nat.le_of_ble_eq_true rfl), (Nat.le_of_ble_eq_true rfl)⟩ ⟨rfl, rfl⟩ ⟨Nat.zero_le _, Nat.zero_le _⟩ rfl (Nat.le_of_ble_eq_true rfl) rfl dX7_lays_25 ?_
    refine X_iastN (j := i) (n := 700) (pc := 28) C (h1 _ (by decide) (by decide)) rfl (by omega) (by decide) dX7_lays_28 ?_
    refine X_iincN (pc := 29) (lv1 := [(0, _), (1, _), (2, _)]) C dX7_lays_29 rfl (by decide) (by decide) rfl ?_
    refine X_goto (pc := 32) C 10 dX7_lays_32 (by decide) ?_
    exact ih (i + 1) (by omega)
set_option maxRecDepth 100000 in
set_option maxHeartbeats 4000000 in
theorem c_X7_lays (l : Launch) (P : XP) (σ : XS) (h1 : xI1 P) (h6 : σ.1 (.inr 9) 6 = 0) : XF l yX7_lays cX7_lays 3 none rm_X7_lays P [.ref (P.2.2.1 (.inr 9)), .ref (xK P 8)] σ none (uLays σ) := by
  refine XM.of (by decide +kernel) (Nat.le_of_ble_eq_true rfl) (fun p e s m args below meth c A C => ?_)
  replace C : XC p s m args meth c P A 3 RX7 cX7_lays none := C
  have hq : 8 < 9 := by decide
  refine XW.eq (lv' := [(0, _), (1, _)]) rfl rfl rfl ?_
  refine X_aload_n (pc := 0) C 0 dX7_lays_0 rfl rfl ?_
  refine X_aload_n (pc := 1) C 1 dX7_lays_1 rfl rfl ?_
  refine X_callT (n := 0) (pc := 2) C hq [] (c_J0_length l P _ 8 hq) rfl m_c_J0_length_8abf5 m_m_X7_48 m_i_J0_length_8abf5 m_s_J0_length_8abf5 m_n_J0 ⟨by decide +kernel, by decide +kernel, by decide +kernel⟩ ⟨(Nat.le_of_ble_eq_true rfl), (Nat.le_of_ble_eq_true rfl)⟩ ⟨rfl, rfl⟩ ⟨Nat.zero_le _, Nat.zero_le _⟩ rfl (Nat.le_of_ble_eq_true rfl) rfl dX7_lays_2 ?_
  refine U_X7_54 (pc := 5) C (by assumption) dX7_lays_5 ?_
  refine X_iconst (pc := 8) (v := nI 0) C dX7_lays_8 (by decide) ?_
  refine X_istore_n (pc := 9) (lv1 := [(0, _), (1, _), (2, _)]) C 2 dX7_lays_9 rfl (by decide) rfl ?_
  refine L_X7_lays (σ := xu σ (.inr 9) 10 (nI 121)) C h1 (xu_self _ _ _ _) ?_ 121 0 rfl
  have a10 : (uA σ).1 (.inr 9) 10 = nI 121 := by
    unfold uA
    rw [uIn_o (by simp)]
    exact xu_self _ _ _ _
  have a6 : (uA σ).1 (.inr 9) 6 = nI 0 := by
    unfold uA
    rw [uIn_o (by simp), xu_nk _ _ _ (by decide)]
    exact h6
  refine XW.eq (σ' := mW (uA σ) ((uA σ).1 (.inr 10)) ((uA σ).1 (.inr 9)) ((uA σ).1 (.inr 18))) (mW_id (uA σ)) rfl rfl ?_
  refine X_aload_n (pc := 35) C 0 dX7_lays_35 rfl rfl ?_
  refine K_X7_61 (pc := 36) C (by assumption) (c_X7_load l P (uA σ) _ _ _ h1 121 (by decide) a10 0 (by decide) a6) ⟨(Nat.le_of_ble_eq_true rfl), (Nat.le_of_ble_eq_true rfl)⟩ ⟨rfl, rfl⟩ ⟨Nat.zero_le _, Nat.zero_le _⟩ (Nat.le_of_ble_eq_true rfl) dX7_lays_36 ?_
  refine XW.eq (σ' := uLoad σ) rfl rfl rfl ?_
  refine X_istore_n (pc := 39) (lv1 := [(0, _), (1, _), (2, _)]) C 2 dX7_lays_39 rfl (by decide) rfl ?_
  refine X_aload_n (pc := 40) C 0 dX7_lays_40 rfl rfl ?_
  refine X_iconst (pc := 41) (v := 0) C dX7_lays_41 (by decide) ?_
  refine U_X7_64 (pc := 42) C (by assumption) dX7_lays_42 ?_
  exact X_vret (pc := 45) C (Nat.zero_le _) (Nat.zero_le _) dX7_lays_45 ⟨rfl, rfl⟩
theorem sE_o {k : Nat} (h1 : k ≠ 1) (h2 : k ≠ 2) (h3 : k ≠ 3) : sE.1 (.inr k) = s0.1 (.inr k) ∧ sE.2 (.inr k) = s0.2 (.inr k) := by
  unfold sE uShort
  refine ⟨?_, ?_⟩
  · rw [xu_ne _ _ _ (by simpa using h2), (uCopyB_ne (fun _ => by simp)).1, first_fr.1 _ (fun _ => by simp) (by simpa using h1) (by simpa using h2), uFill_o (by simpa using h2) (by simpa using h3)]
  · rw [xu_l, (uCopyB_ne (fun _ => by simp)).2, first_fr.2.1 _ (fun _ => by simp), uFill_l]
abbrev fsX7 : List Value := [.null, .null, .null, .null, .null, .null, .int 0, .int 0, .null, .null, .int 0, .int 0, .int 0, .int 0, .null, .int 0, .int 0, .int 0, .int 0, .int 0, .int 0, .int 0]
theorem dvX7 : ∀ j, j < 22 → defaultValue (tyX7 j) = vp_V fsX7 j := fun j h => by
  match j, h with
  | 0, _ => rfl
  | 1, _ => rfl
  | 2, _ => rfl
  | 3, _ => rfl
  | 4, _ => rfl
  | 5, _ => rfl
  | 6, _ => rfl
  | 7, _ => rfl
  | 8, _ => rfl
  | 9, _ => rfl
  | 10, _ => rfl
  | 11, _ => rfl
  | 12, _ => rfl
  | 13, _ => rfl
  | 14, _ => rfl
  | 15, _ => rfl
  | 16, _ => rfl
  | 17, _ => rfl
  | 18, _ => rfl
  | 19, _ => rfl
  | 20, _ => rfl
  | 21, _ => rfl
  | n + 22, h => exact absurd h (by omega)
abbrev M7 : List XI := [.inr 9] ++ ([.inr 18] ++ ([.inr 17] ++ ([.inr 16] ++ ([.inr 15] ++ ([.inr 14] ++ ([.inr 13] ++ ([.inr 12] ++ ([.inr 11] ++ ([.inr 10] ++ [])))))))))
theorem M7_in {i : XI} (h : i ∈ M7) : ∃ k, i = .inr k ∧ 9 ≤ k ∧ k < 19 := by
  simp only [M7, List.append_nil, List.cons_append, List.nil_append, List.mem_cons, List.not_mem_nil, or_false] at h
  rcases h with rfl | rfl | rfl | rfl | rfl | rfl | rfl | rfl | rfl | rfl <;> exact ⟨_, rfl, by decide, by decide⟩
theorem M7_has {k : Nat} (h : 9 ≤ k) (h2 : k < 19) : (.inr k : XI) ∈ M7 := by
  obtain rfl | rfl | rfl | rfl | rfl | rfl | rfl | rfl | rfl | rfl : k = 9 ∨ k = 10 ∨ k = 11 ∨ k = 12 ∨ k = 13 ∨ k = 14 ∨ k = 15 ∨ k = 16 ∨ k = 17 ∨ k = 18 := by omega
  all_goals simp
abbrev rb_X7_init : Room := { frames := 11, cells := 20, slots := 10000, locals := 240 }
set_option maxRecDepth 100000 in
set_option maxHeartbeats 4000000 in
theorem b_X7_init (l : Launch) (P0 : XP) : BC l yX7_init cX7_init 1 rb_X7_init P0 (uLays sE) (.inr (7, fsX7)) (.inr 9) M7 := by
  refine BC.of2 (σ := s0) (by decide +kernel) (by decide +kernel) (by decide) (fun q p e s m args below meth c A C => ?_)
  replace C : BX p s m args meth c P0 A 1 RX7 cX7_init := C
  refine B_aload_n (pc := 0) C 0 dX7_init_0 rfl rfl ?_
  refine B_obj (pc := 1) C m_m_X7_3 ⟨(Nat.le_of_ble_eq_true rfl), (Nat.le_of_ble_eq_true rfl)⟩ dX7_init_1 ?_
  refine B_aload_n (pc := 4) C 0 dX7_init_4 rfl rfl ?_
  refine B_sipush (pc := 5) (v := 550) C dX7_init_5 (by decide) ?_
  refine B_newa (atype := .int) (ty := .int) (pc := 8) (n := 550) (t0 := 0) C (.inr 10) rfl m_a_int rfl (fun _ h => h) (550, .inl (fun _ => 0)) (fun _ => rfl) (fun _ => rfl) (by simp) clo_nil rfl (by decide) (by decide) ⟨(Nat.le_of_ble_eq_true rfl), (Nat.le_of_ble_eq_true rfl)⟩ dX7_init_8 (fun a0 e0 => ?_)
  have z0 : clo ([.inr 10] ++ []) := clo_arr rfl clo_nil
  refine B_putF (pc := 10) C 0 0 tyX7 tyX7_ok nmX7 inX7 rfl rfl (by decide) m_f_X7_9 rfl rfl rfl rfl (Nat.le_of_ble_eq_true rfl) dX7_init_10 ?_
  refine B_aload_n (pc := 13) C 0 dX7_init_13 rfl rfl ?_
  refine B_sipush (pc := 14) (v := 550) C dX7_init_14 (by decide) ?_
  refine B_newa (atype := .int) (ty := .int) (pc := 17) (n := 550) (t0 := 0) C (.inr 11) rfl m_a_int rfl (fun _ h => h) (550, .inl (fun _ => 0)) (fun _ => rfl) (fun _ => rfl) (by simp) z0 rfl (by decide) (by decide) ⟨(Nat.le_of_ble_eq_true rfl), (Nat.le_of_ble_eq_true rfl)⟩ dX7_init_17 (fun a1 e1 => ?_)
  have z1 : clo ([.inr 11] ++ ([.inr 10] ++ [])) := clo_arr rfl z0
  refine B_putF (pc := 19) C 0 1 tyX7 tyX7_ok nmX7 inX7 rfl rfl (by decide) m_f_X7_13 rfl rfl rfl rfl (Nat.le_of_ble_eq_true rfl) dX7_init_19 ?_
  refine B_aload_n (pc := 22) C 0 dX7_init_22 rfl rfl ?_
  refine B_sipush (pc := 23) (v := 4400) C dX7_init_23 (by decide) ?_
  refine B_newa (atype := .int) (ty := .int) (pc := 26) (n := 4400) (t0 := 0) C (.inr 12) rfl m_a_int rfl (fun _ h => h) (4400, .inl (fun _ => 0)) (fun _ => rfl) (fun _ => rfl) (by simp) z1 rfl (by decide) (by decide) ⟨(Nat.le_of_ble_eq_true rfl), (Nat.le_of_ble_eq_true rfl)⟩ dX7_init_26 (fun a2 e2 => ?_)
  have z2 : clo ([.inr 12] ++ ([.inr 11] ++ ([.inr 10] ++ []))) := clo_arr rfl z1
  refine B_putF (pc := 28) C 0 2 tyX7 tyX7_ok nmX7 inX7 rfl rfl (by decide) m_f_X7_16 rfl rfl rfl rfl (Nat.le_of_ble_eq_true rfl) dX7_init_28 ?_
  refine B_aload_n (pc := 31) C 0 dX7_init_31 rfl rfl ?_
  refine B_sipush (pc := 32) (v := 1100) C dX7_init_32 (by decide) ?_
  refine B_newa (atype := .int) (ty := .int) (pc := 35) (n := 1100) (t0 := 0) C (.inr 13) rfl m_a_int rfl (fun _ h => h) (1100, .inl (fun _ => 0)) (fun _ => rfl) (fun _ => rfl) (by simp) z2 rfl (by decide) (by decide) ⟨(Nat.le_of_ble_eq_true rfl), (Nat.le_of_ble_eq_true rfl)⟩ dX7_init_35 (fun a3 e3 => ?_)
  have z3 : clo ([.inr 13] ++ ([.inr 12] ++ ([.inr 11] ++ ([.inr 10] ++ [])))) := clo_arr rfl z2
  refine B_putF (pc := 37) C 0 3 tyX7 tyX7_ok nmX7 inX7 rfl rfl (by decide) m_f_X7_19 rfl rfl rfl rfl (Nat.le_of_ble_eq_true rfl) dX7_init_37 ?_
  refine B_aload_n (pc := 40) C 0 dX7_init_40 rfl rfl ?_
  refine B_sipush (pc := 41) (v := 550) C dX7_init_41 (by decide) ?_
  refine B_newa (atype := .int) (ty := .int) (pc := 44) (n := 550) (t0 := 0) C (.inr 14) rfl m_a_int rfl (fun _ h => h) (550, .inl (fun _ => 0)) (fun _ => rfl) (fun _ => rfl) (by simp) z3 rfl (by decide) (by decide) ⟨(Nat.le_of_ble_eq_true rfl), (Nat.le_of_ble_eq_true rfl)⟩ dX7_init_44 (fun a4 e4 => ?_)
  have z4 : clo ([.inr 14] ++ ([.inr 13] ++ ([.inr 12] ++ ([.inr 11] ++ ([.inr 10] ++ []))))) := clo_arr rfl z3
  refine B_putF (pc := 46) C 0 4 tyX7 tyX7_ok nmX7 inX7 rfl rfl (by decide) m_f_X7_22 rfl rfl rfl rfl (Nat.le_of_ble_eq_true rfl) dX7_init_46 ?_
  refine B_aload_n (pc := 49) C 0 dX7_init_49 rfl rfl ?_
  refine B_iconst (pc := 50) (v := 2) C dX7_init_50 (by decide) ?_
  refine B_newa (atype := .boolean) (ty := .boolean) (pc := 51) (n := 2) (t0 := 1) C (.inr 15) rfl m_a_boolean rfl (fun _ h => h) (2, .inl (fun _ => 0)) (fun _ => rfl) (fun _ => rfl) (by simp) z4 rfl (by decide) (by decide) ⟨(Nat.le_of_ble_eq_true rfl), (Nat.le_of_ble_eq_true rfl)⟩ dX7_init_51 (fun a5 e5 => ?_)
  have z5 : clo ([.inr 15] ++ ([.inr 14] ++ ([.inr 13] ++ ([.inr 12] ++ ([.inr 11] ++ ([.inr 10] ++ [])))))) := clo_arr rfl z4
  refine B_putF (pc := 53) C 0 5 tyX7 tyX7_ok nmX7 inX7 rfl rfl (by decide) m_f_X7_25 rfl rfl rfl rfl (Nat.le_of_ble_eq_true rfl) dX7_init_53 ?_
  refine B_aload_n (pc := 56) C 0 dX7_init_56 rfl rfl ?_
  refine B_sipush (pc := 57) (v := 700) C dX7_init_57 (by decide) ?_
  refine B_newa (atype := .int) (ty := .int) (pc := 60) (n := 700) (t0 := 0) C (.inr 16) rfl m_a_int rfl (fun _ h => h) (700, .inl (fun _ => 0)) (fun _ => rfl) (fun _ => rfl) (by simp) z5 rfl (by decide) (by decide) ⟨(Nat.le_of_ble_eq_true rfl), (Nat.le_of_ble_eq_true rfl)⟩ dX7_init_60 (fun a6 e6 => ?_)
  have z6 : clo ([.inr 16] ++ ([.inr 15] ++ ([.inr 14] ++ ([.inr 13] ++ ([.inr 12] ++ ([.inr 11] ++ ([.inr 10] ++ []))))))) := clo_arr rfl z5
  refine B_putF (pc := 62) C 0 8 tyX7 tyX7_ok nmX7 inX7 rfl rfl (by decide) m_f_X7_29 rfl rfl rfl rfl (Nat.le_of_ble_eq_true rfl) dX7_init_62 ?_
  refine B_aload_n (pc := 65) C 0 dX7_init_65 rfl rfl ?_
  refine B_sipush (pc := 66) (v := 700) C dX7_init_66 (by decide) ?_
  refine B_newa (atype := .int) (ty := .int) (pc := 69) (n := 700) (t0 := 0) C (.inr 17) rfl m_a_int rfl (fun _ h => h) (700, .inl (fun _ => 0)) (fun _ => rfl) (fun _ => rfl) (by simp) z6 rfl (by decide) (by decide) ⟨(Nat.le_of_ble_eq_true rfl), (Nat.le_of_ble_eq_true rfl)⟩ dX7_init_69 (fun a7 e7 => ?_)
  have z7 : clo ([.inr 17] ++ ([.inr 16] ++ ([.inr 15] ++ ([.inr 14] ++ ([.inr 13] ++ ([.inr 12] ++ ([.inr 11] ++ ([.inr 10] ++ [])))))))) := clo_arr rfl z6
  refine B_putF (pc := 71) C 0 9 tyX7 tyX7_ok nmX7 inX7 rfl rfl (by decide) m_f_X7_32 rfl rfl rfl rfl (Nat.le_of_ble_eq_true rfl) dX7_init_71 ?_
  refine B_aload_n (pc := 74) C 0 dX7_init_74 rfl rfl ?_
  refine B_iconst (pc := 75) (v := -1) C dX7_init_75 (by decide) ?_
  refine B_put (pc := 76) C 0 13 tyX7 tyX7_ok nmX7 inX7 rfl rfl (by decide) m_f_X7_35 rfl rfl rfl (Nat.le_of_ble_eq_true rfl) dX7_init_76 ?_
  refine B_aload_n (pc := 79) C 0 dX7_init_79 rfl rfl ?_
  refine B_bipush (pc := 80) (v := 6) C dX7_init_80 (by decide) ?_
  refine B_newa (atype := .int) (ty := .int) (pc := 82) (n := 6) (t0 := 0) C (.inr 18) rfl m_a_int rfl (fun _ h => h) (6, .inl (fun _ => 0)) (fun _ => rfl) (fun _ => rfl) (by simp) z7 rfl (by decide) (by decide) ⟨(Nat.le_of_ble_eq_true rfl), (Nat.le_of_ble_eq_true rfl)⟩ dX7_init_82 (fun a8 e8 => ?_)
  have z8 : clo ([.inr 18] ++ ([.inr 17] ++ ([.inr 16] ++ ([.inr 15] ++ ([.inr 14] ++ ([.inr 13] ++ ([.inr 12] ++ ([.inr 11] ++ ([.inr 10] ++ []))))))))) := clo_arr rfl z7
  refine B_putF (pc := 84) C 0 14 tyX7 tyX7_ok nmX7 inX7 rfl rfl (by decide) m_f_X7_39 rfl rfl rfl rfl (Nat.le_of_ble_eq_true rfl) dX7_init_84 ?_
  refine B_seal (hs := []) (.inr 9) (by simp) z8 (fun ad1 v0 v1 H h => ?_) (fun ad x0 x1 => ?_)
  · have f0 : ad1 (.inr 10) = a0 (.inr 10) := ((((((((v1 _ (by simp)).trans (e8 _ (by simp))).trans (e7 _ (by simp))).trans (e6 _ (by simp))).trans (e5 _ (by simp))).trans (e4 _ (by simp))).trans (e3 _ (by simp))).trans (e2 _ (by simp))).trans (e1 _ (by simp))
    have f1 : ad1 (.inr 11) = a1 (.inr 11) := (((((((v1 _ (by simp)).trans (e8 _ (by simp))).trans (e7 _ (by simp))).trans (e6 _ (by simp))).trans (e5 _ (by simp))).trans (e4 _ (by simp))).trans (e3 _ (by simp))).trans (e2 _ (by simp))
    have f2 : ad1 (.inr 12) = a2 (.inr 12) := ((((((v1 _ (by simp)).trans (e8 _ (by simp))).trans (e7 _ (by simp))).trans (e6 _ (by simp))).trans (e5 _ (by simp))).trans (e4 _ (by simp))).trans (e3 _ (by simp))
    have f3 : ad1 (.inr 13) = a3 (.inr 13) := (((((v1 _ (by simp)).trans (e8 _ (by simp))).trans (e7 _ (by simp))).trans (e6 _ (by simp))).trans (e5 _ (by simp))).trans (e4 _ (by simp))
    have f4 : ad1 (.inr 14) = a4 (.inr 14) := ((((v1 _ (by simp)).trans (e8 _ (by simp))).trans (e7 _ (by simp))).trans (e6 _ (by simp))).trans (e5 _ (by simp))
    have f5 : ad1 (.inr 15) = a5 (.inr 15) := (((v1 _ (by simp)).trans (e8 _ (by simp))).trans (e7 _ (by simp))).trans (e6 _ (by simp))
    have f6 : ad1 (.inr 16) = a6 (.inr 16) := ((v1 _ (by simp)).trans (e8 _ (by simp))).trans (e7 _ (by simp))
    have f7 : ad1 (.inr 17) = a7 (.inr 17) := (v1 _ (by simp)).trans (e8 _ (by simp))
    have f8 : ad1 (.inr 18) = a8 (.inr 18) := v1 _ (by simp)
    have ex : xce (PW P0 [.inr 9] ad1) s0 (.inr 9) = .inr (7, [.ref (a0 (.inr 10)), .ref (a1 (.inr 11)), .ref (a2 (.inr 12)), .ref (a3 (.inr 13)), .ref (a4 (.inr 14)), .ref (a5 (.inr 15)), .int 0, .int 0, .ref (a6 (.inr 16)), .ref (a7 (.inr 17)), .int 0, .int 0, .int 0, .int (-1), .ref (a8 (.inr 18)), .int 0, .int 0, .int 0, .int 0, .int 0, .int 0, .int 0]) := by
      rw [xce_o rfl]
      simp only [xfs, xv, f0, f1, f2, f3, f4, f5, f6, f7, f8]
      rfl
    rw [ex]
    exact h
  · refine B_toX (σ1 := sE) (fun i hi => ?_) (fun hD => ?_)
    · obtain ⟨k, rfl, g1, g2⟩ := M7_in hi
      exact sE_o (by omega) (by omega) (by omega)
    · have h1 : xI1 (PW P0 M7 ad) := fun k a b => M7_has a b
      have E : XC p s m args meth c (PW P0 M7 ad) A 1 RX7 cX7_init none := C.x hD
      subst x0
      refine X_aload_n (pc := 87) E 0 dX7_init_87 rfl rfl ?_
      refine X_ldcS (pc := 88) (q := 8) E (List.mem_of_getElem? (i := 17) rfl) dX7_init_88 ?_
      refine X_fV (i := .inr 9) (ci := 7) (n := 1) (pc := 90) E [.ref _] (c_X7_lays l (PW P0 M7 ad) sE h1 (by rw [(sE_o (k := 9) (by decide) (by decide) (by decide)).1]; rfl)) m_c_X7_lays m_m_X7_44 m_i_X7_lays m_s_X7_lays m_n_X7 ⟨by decide +kernel, by decide +kernel, by decide +kernel⟩ ⟨(Nat.le_of_ble_eq_true rfl), (Nat.le_of_ble_eq_true rfl)⟩ ⟨rfl, rfl⟩ ⟨(Nat.le_of_ble_eq_true rfl), (Nat.le_of_ble_eq_true rfl)⟩ (h1 9 (by decide) (by decide)) rfl rfl rfl rfl (Nat.le_of_ble_eq_true rfl) rfl dX7_init_90 ?_
      exact X_endB (pc := 93) C hD rfl (Nat.le_of_ble_eq_true rfl) (Nat.le_of_ble_eq_true rfl) dX7_init_93
end XP86
/-! .. and the relation -/
theorem lays_o {σ : XS} {i : XI} (h9 : i ≠ .inr 9) (h10 : i ≠ .inr 10) (h12 : i ≠ .inr 12) (h14 : i ≠ .inr 14) (h16 : i ≠ .inr 16) (h18 : i ≠ .inr 18) : (uLays σ).1 i = σ.1 i := by
  unfold uLays uLoad mEndW
  rw [xu_ne _ _ _ h9, mW_o h10 h9 h18]
  have e : (mBgT (uA σ) ((uA σ).1 (.inr 10))).1 i = σ.1 i := by
    unfold mBgT
    rw [xA_ne _ _ h14]
    unfold uA
    rw [uIn_o h16, xu_ne _ _ _ h9]
  unfold mEndT
  by_cases g : (mCs ((uA σ).1 (.inr 16)) 121 700 (uR σ) 0).1.2.1 20 = 0
  · rw [if_pos g]
    unfold mRw
    rw [xA_ne _ _ h12]
    exact e
  · rw [if_neg g]
    exact e
theorem lays_l {σ : XS} : (uLays σ).2 = σ.2 := by
  unfold uLays uLoad mEndW
  rw [xu_l, mW_l]
  have e : (mBgT (uA σ) ((uA σ).1 (.inr 10))).2 = σ.2 := by
    unfold mBgT
    rw [xA_l]
    unfold uA
    rw [uIn_l, xu_l]
  unfold mEndT
  by_cases g : (mCs ((uA σ).1 (.inr 16)) 121 700 (uR σ) 0).1.2.1 20 = 0
  · rw [if_pos g]
    unfold mRw
    rw [xA_l]
    exact e
  · rw [if_neg g]
    exact e
theorem hB16 : ∀ i, i < 121 → fB i = xch 8 i := by decide +kernel
theorem uR_e (σ : XS) : mLdB ((uA σ).1 (.inr 16)) 121 ((uA σ).1 (.inr 10)) (mBg ((uA σ).1 (.inr 16)) 121 ((uA σ).1 (.inr 9))) ((uA σ).1 (.inr 18)) = uR σ := rfl
theorem first_RV : RV (uLays sE) := by
  have hab : ∀ i, i < 121 → fB i = (uA sE).1 (.inr 16) i := fun i hi => (hB16 i hi).trans (uIn_16 121 hi).symm
  have aF : (uA sE).1 (.inr 9) = upd (s0.1 (.inr 9)) 10 (nI 121) := by
    unfold uA
    rw [uIn_o (by simp)]
    unfold xu
    rw [xA_self, (sE_o (k := 9) (by decide) (by decide) (by decide)).1]
  have a10 : (uA sE).1 (.inr 9) 10 = nI 121 := by rw [aF]; exact upd_at
  have a11 : (uA sE).1 (.inr 9) 11 = 0 := by rw [aF, upd_ne (by decide)]; rfl
  obtain ⟨-, -, -, -, hr, hu⟩ := first_rel (S := (uA sE).1 (.inr 10)) (L := (uA sE).1 (.inr 18)) hab a10
  have hPG := (mLdB_ok (B := (uA sE).1 (.inr 16)) (S := (uA sE).1 (.inr 10)) (L := (uA sE).1 (.inr 18)) (mBg_TK (B := (uA sE).1 (.inr 16)) (F := (uA sE).1 (.inr 9)) (n := 121) (by decide) a10)).2.2
  have p11 : (uR sE).2.1 11 = 0 := by
    unfold uR
    rw [hPG.2.2.2, mBg_11]
    exact a11
  rw [uR_e] at hr hu
  have h16 : (uR sE).2.1 16 = 0 := by
    rw [hr.1.k]
    unfold kT
    rw [first_ok.2.2.2.2]
    exact pK_ok.2.2.2.2.2.2.2.2
  have h20 : (uR sE).2.1 20 = 0 := hr.1.z
  have eq1 : mCs ((uA sE).1 (.inr 16)) 121 700 (uR sE) 0 = (uR sE, 0) := mCs_n (fun q => q.2 h16) 700
  have e12 := hr.1.f.2.2.2.2.2.2.1
  have e13 := hr.1.f.2.2.2.2.2.2.2
  have eL : uLays sE = xu (mW (mRw (mBgT (uA sE) ((uA sE).1 (.inr 10))) ((mBgT (uA sE) ((uA sE).1 (.inr 10))).1 (.inr 14)) 0) (uR sE).1 (upd (upd (uR sE).2.1 10 0) 6 (nI (mNx 0))) (uR sE).2.2) (.inr 9) 6 0 := by
    unfold uLays uLoad
    rw [eq1]
    unfold mEndW mEndT mEndS mEndF
    rw [if_pos h20, if_pos h20, if_pos h20]
  generalize uR sE = r at hr hu h16 h20 eL e12 e13 p11
  have eS : (uLays sE).1 (.inr 10) = r.1 := by
    rw [eL, xu_ne _ _ _ (by simp), mW_10]
  have eF : (uLays sE).1 (.inr 9) = upd (upd (upd r.2.1 10 0) 6 (nI (mNx 0))) 6 0 := by
    rw [eL]
    unfold xu
    rw [xA_self, mW_9]
  have eo : ∀ i : XI, i ≠ .inr 9 → i ≠ .inr 10 → i ≠ .inr 12 → i ≠ .inr 14 → i ≠ .inr 16 → i ≠ .inr 18 → (uLays sE).1 i = sE.1 i := fun i h9 h10 h12 h14 h16 h18 => lays_o h9 h10 h12 h14 h16 h18
  have el : (uLays sE).2 = sE.2 := lays_l
  have eb : ∀ b k, (uLays sE).1 (.inl (b, k)) = sE.1 (.inl (b, k)) := fun b k => eo _ (by simp) (by simp) (by simp) (by simp) (by simp) (by simp)
  have er : ∀ k, k < 9 → (uLays sE).1 (.inr k) = sE.1 (.inr k) := fun k hk => by
    have n : ∀ j, 9 ≤ j → (Sum.inr k : XI) ≠ .inr j := fun j hj h => by
      have := Sum.inr.inj h
      omega
    exact eo _ (n _ (by decide)) (n _ (by decide)) (n _ (by decide)) (n _ (by decide)) (n _ (by decide)) (n _ (by decide))
  have z0 : ∀ b, xZ (uFill s0 8 121) b := fun b k _ => by
    rw [uFill_o (by simp) (by simp), uFill_o (by simp) (by simp)]
    exact ⟨rfl, rfl⟩
  have z3 : ∀ b, xZ g3.2.1 b := fun b => by
    by_cases g : b = 1
    · subst g; exact first_fr.2.2 (z0 1)
    · exact first_fr.z g (z0 b)
  have zE : ∀ b, xZ sE b := fun b => by
    have h : xZ (uCopyB g3.2.1 0 1) b := (FS.copy (by decide) (z3 1)).z (z3 b)
    exact xZ_o h (xu_ne _ _ _ (by simp)) (xu_ne _ _ _ (by simp))
  have e1 : sE.1 (.inr 1) = g3.2.1.1 (.inr 1) := by
    unfold sE uShort
    rw [xu_ne _ _ _ (by simp), (uCopyB_ne (fun _ => by simp)).1]
  have o4 := (sE_o (k := 4) (by decide) (by decide) (by decide)).1
  have o7 := (sE_o (k := 7) (by decide) (by decide) (by decide)).1
  have o15 := (sE_o (k := 15) (by decide) (by decide) (by decide)).1
  have o0 := (sE_o (k := 0) (by decide) (by decide) (by decide)).1
  have l15 : (uLays sE).1 (.inr 15) = sE.1 (.inr 15) := eo _ (by simp) (by simp) (by simp) (by simp) (by simp) (by simp)
  refine ⟨0, 0, 0, 0, ?_⟩
  rw [eS, eF]
  refine ⟨fun b hb => xZ_o (zE b) (eb _ _) (eb _ _), ?_, ⟨⟨?_, by decide, ?_, by decide⟩, ?_, fun j hj => absurd hj (Nat.not_lt_zero _)⟩, fun s hs => ?_, ⟨?_, ?_⟩, ⟨⟨?_, by decide, fun i hi => absurd hi (Nat.not_lt_zero _)⟩, ?_, fun i hi => absurd hi (Nat.not_lt_zero _)⟩, ⟨by decide, ?_, ?_, fun i hi => absurd hi (Nat.not_lt_zero _)⟩⟩
  · have hg : RG (uCopyB g3.2.1 0 1) 0 r.1 := RG.copy ⟨hr.2, hu⟩ (by decide)
    have hg2 : RG sE 0 r.1 := hg.fr (fun k => xu_ne _ _ _ (by simp)) rfl
    exact hg2.fr (fun k => eb _ _) (by rw [el])
  · rw [er 4 (by decide), o4]; rfl
  · rw [er 4 (by decide), o4]; rfl
  · rw [upd_at]; rfl
  · rw [er 7 (by decide), o7, l15, o15]
    exact ⟨rfl, Or.inl rfl, fun z => absurd rfl z⟩
  · rw [er 1 (by decide), e1, upd_ne (by decide), upd_ne (by decide), upd_ne (by decide)]
    exact e12
  · rw [er 1 (by decide), e1, upd_ne (by decide), upd_ne (by decide), upd_ne (by decide)]
    exact e13
  · rw [er 2 (by decide)]
    exact xu_self _ _ _ _
  · rw [upd_ne (by decide), upd_ne (by decide), upd_at]; rfl
  · rw [er 0 (by decide), o0]; rfl
  · rw [upd_ne (by decide), upd_ne (by decide), upd_ne (by decide), p11]; rfl

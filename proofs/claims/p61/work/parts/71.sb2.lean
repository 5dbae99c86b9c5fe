section XP27
variable {p : Program} {l : Launch} {e : Env} {R : Room} {s : State} {m : MethodId} {args : Array Value} {below : List Frame} {meth : Method} {c : Code} {P : XP} {A : Nat → Prop} {nL cells slots : Nat} {Q : State → Prop} {cc : ByteArray} {ret : Option FieldType} {σ : XS} {pc : Nat} {lv : List (Nat × Value)} {st : List Value}
variable {own : String}
theorem set_push {w : va_W} {q q1 : Nat × va_E} : (w ++ [q]).set w.length q1 = w ++ [q1] := by
  rw [List.set_append_right _ _ (Nat.le_refl _), Nat.sub_self]
  rfl
abbrev rq_0 : Room := { frames := 0, cells := 0, slots := 0, locals := 0 }
set_option maxRecDepth 100000 in
set_option maxHeartbeats 4000000 in
theorem c_J5_isLatin1 (l : Launch) (P : XP) (σ : XS) (i b q : Nat) (cn : Int32) (he : (xRaw P)[i]? = some (b, .inr (7, [.ref q, .int 0, .int 0, .int cn]))) : XF l yJ5_isLatin1_aae02 cJ5_isLatin1_aae02 1 (some .boolean) rq_0 P [.ref b] σ (some (.int 1)) σ := by
  refine XM.of (by decide +kernel) (Nat.le_of_ble_eq_true rfl) (fun p e s m args below meth c A C => ?_)
  replace C : XC p s m args meth c P A 1 RJ5 cJ5_isLatin1_aae02 (some .boolean) := C
  refine XW.eq (lv' := [(0, _)]) rfl rfl rfl ?_
  refine X_getsC (pc := 0) C m_f_J5_18 dJ5_isLatin1_aae02_0 ?_
  refine X_if_eq (pc := 3) C 17 dJ5_isLatin1_aae02_3 (by decide) (fun h3 => ?_) (fun h3 => ?_)
  · exact absurd h3 (by decide)
  · skip
    refine X_aload_n (pc := 6) C 0 dJ5_isLatin1_aae02_6 rfl rfl ?_
    refine X_rget (pc := 7) C i 1 he rfl inJ4 (by decide) rfl m_f_J5_22 dJ5_isLatin1_aae02_7 ?_
    refine X_if_ne (pc := 10) C 17 dJ5_isLatin1_aae02_10 (by decide) (fun h10 => ?_) (fun h10 => ?_)
    · exact absurd rfl h10
    · skip
      refine X_iconst (pc := 13) (v := 1) C dJ5_isLatin1_aae02_13 (by decide) ?_
      refine X_goto (pc := 14) C 18 dJ5_isLatin1_aae02_14 (by decide) ?_
      exact X_zret (pc := 18) C (Nat.zero_le _) (Nat.zero_le _) (rfl) dJ5_isLatin1_aae02_18 ⟨rfl, rfl⟩
set_option maxRecDepth 100000 in
set_option maxHeartbeats 4000000 in
theorem c_J5_getValue (l : Launch) (P : XP) (σ : XS) (i b q : Nat) (cn : Int32) (he : (xRaw P)[i]? = some (b, .inr (7, [.ref q, .int 0, .int 0, .int cn]))) : XMP l yJ5_getValue_6d5f1 cJ5_getValue_6d5f1 1 (some (.array .byte)) rq_0 P [.ref b] σ (fun v w => v = some (.ref q) ∧ w = xRaw P) := by
  refine XMP.of (by decide +kernel) (Nat.le_of_ble_eq_true rfl) (fun p e s m args below meth c A C hmn => ?_)
  replace C : XC p s m args meth c P A 1 RJ5 cJ5_getValue_6d5f1 (some (.array .byte)) := C
  refine XW.eq (lv' := [(0, _)]) rfl rfl rfl ?_
  refine X_aload_n (pc := 0) C 0 dJ5_getValue_6d5f1_0 rfl rfl ?_
  refine X_rget (pc := 1) C i 0 he rfl inJ4 (by decide) rfl m_f_J5_15 dJ5_getValue_6d5f1_1 ?_
  exact X_retAP (P := P) (pc := 4) C (Or.inr ⟨_, rfl⟩) (Nat.zero_le _) (Nat.zero_le _) dJ5_getValue_6d5f1_4 ⟨rfl, rfl⟩
set_option maxRecDepth 100000 in
set_option maxHeartbeats 4000000 in
theorem c_J5_length (l : Launch) (P : XP) (σ : XS) (i b q : Nat) (cn : Int32) (he : (xRaw P)[i]? = some (b, .inr (7, [.ref q, .int 0, .int 0, .int cn]))) : XF l yJ5_length_8abf5 cJ5_length_8abf5 1 (some .int) rq_0 P [.ref b] σ (some (.int cn)) σ := by
  refine XM.of (by decide +kernel) (Nat.le_of_ble_eq_true rfl) (fun p e s m args below meth c A C => ?_)
  replace C : XC p s m args meth c P A 1 RJ5 cJ5_length_8abf5 (some .int) := C
  refine XW.eq (lv' := [(0, _)]) rfl rfl rfl ?_
  refine X_aload_n (pc := 0) C 0 dJ5_length_8abf5_0 rfl rfl ?_
  refine X_rget (pc := 1) C i 3 he rfl inJ4 (by decide) rfl m_f_J5_79 dJ5_length_8abf5_1 ?_
  exact X_iret (pc := 4) C (Nat.zero_le _) (Nat.zero_le _) dJ5_length_8abf5_4 ⟨rfl, rfl⟩
abbrev rq_len : Room := { frames := 1, cells := 0, slots := 0, locals := 24 }
set_option maxRecDepth 100000 in
set_option maxHeartbeats 4000000 in
theorem c_J4_length (l : Launch) (P : XP) (σ : XS) (i b q : Nat) (cn : Int32) (he : (xRaw P)[i]? = some (b, .inr (7, [.ref q, .int 0, .int 0, .int cn]))) : XMP l yJ4_length_8abf5 cJ4_length_8abf5 1 (some .int) rq_len P [.ref b] σ (fun v w => v = some (.int cn) ∧ w = xRaw P) := by
  refine XMP.of (by decide +kernel) (Nat.le_of_ble_eq_true rfl) (fun p e s m args below meth c A C hmn => ?_)
  replace C : XC p s m args meth c P A 1 RJ4 cJ4_length_8abf5 (some .int) := C
  refine XW.eq (lv' := [(0, _)]) rfl rfl rfl ?_
  refine X_aload_n (pc := 0) C 0 dJ4_length_8abf5_0 rfl rfl ?_
  refine X_callQP (P := P) (n := 0) (pc := 1) C i [] (XMP.ofX (c_J5_length l P σ i b q cn he)) m_c_J5_length_8abf5 m_m_J4_343 m_q_J5_length_8abf5 m_u_J4 m_i_J5_length_8abf5 m_n_J5 ⟨by decide +kernel, by decide +kernel⟩ ⟨Nat.le_of_ble_eq_true rfl, Nat.le_of_ble_eq_true rfl⟩ ⟨Nat.le_of_ble_eq_true rfl, Nat.le_of_ble_eq_true rfl⟩ he rfl (Nat.le_of_ble_eq_true rfl) rfl dJ4_length_8abf5_1 (fun v w hv C => ?_)
  obtain ⟨rfl, rfl⟩ := hv
  exact X_retIP (P := P) (pc := 4) C rfl (Nat.le_of_ble_eq_true rfl) (Nat.le_of_ble_eq_true rfl) dJ4_length_8abf5_4 ⟨rfl, rfl⟩
abbrev rq_nl : Room := { frames := 1, cells := 0, slots := 0, locals := 40 }
set_option maxRecDepth 100000 in
set_option maxHeartbeats 4000000 in
theorem c_J8_newLength (l : Launch) (P : XP) (σ : XS) (a g p0 : Nat) (h1 : 1 ≤ g) (hb : a + g + p0 ≤ 1000000) : XF l yJ8_newLength_cabcc cJ8_newLength_cabcc 4 (some .int) rq_nl P [.int (nI a), .int (nI g), .int (nI p0)] σ (some (.int (nI (a + (if g < p0 then p0 else g))))) σ := by
  have e1 : (if nI g < nI p0 then nI p0 else nI g) = nI (if g < p0 then p0 else g) := by
    by_cases z : g < p0
    · rw [if_pos z, if_pos (nI_lt z (n31 (by omega)))]
    · rw [if_neg z, if_neg (fun q => z (nlt q))]
  have hM : 1 ≤ (if g < p0 then p0 else g) ∧ (if g < p0 then p0 else g) ≤ g + p0 := by
    by_cases z : g < p0
    · rw [if_pos z]; omega
    · rw [if_neg z]; omega
  refine XM.of (by decide +kernel) (Nat.le_of_ble_eq_true rfl) (fun p e s m args below meth c A C => ?_)
  replace C : XC p s m args meth c P A 4 RJ8 cJ8_newLength_cabcc (some .int) := C
  refine XW.eq (lv' := [(0, _), (1, _), (2, _)]) rfl rfl rfl ?_
  refine X_iload_n (pc := 0) C 0 dJ8_newLength_cabcc_0 rfl rfl ?_
  refine X_iload_n (pc := 1) C 1 dJ8_newLength_cabcc_1 rfl rfl ?_
  refine X_iload_n (pc := 2) C 2 dJ8_newLength_cabcc_2 rfl rfl ?_
  refine X_mmax (pc := 3) C m_m_J8_194 (Nat.le_of_ble_eq_true rfl) (Nat.le_of_ble_eq_true rfl) ⟨Nat.zero_le _, Nat.zero_le _⟩ dJ8_newLength_cabcc_3 ?_
  rw [e1]
  refine X_iadd (pc := 6) C dJ8_newLength_cabcc_6 ?_
  rw [nI_add]
  refine X_istore_n (pc := 7) (lv1 := [(0, _), (1, _), (2, _), (3, _)]) C 3 dJ8_newLength_cabcc_7 rfl (by decide) rfl ?_
  refine X_iconst (pc := 8) (v := 0) C dJ8_newLength_cabcc_8 (by decide) ?_
  refine X_iload_n (pc := 9) C 3 dJ8_newLength_cabcc_9 rfl rfl ?_
  refine X_icmp_ge (pc := 10) C 21 dJ8_newLength_cabcc_10 (by decide) (fun h10 => ?_) (fun h10 => ?_)
  · exact absurd h10 (nI_nle (by omega) (n31 (by omega)))
  · skip
    refine X_iload_n (pc := 13) C 3 dJ8_newLength_cabcc_13 rfl rfl ?_
    refine X_ldc (pc := 14) C m_k_J8_200 dJ8_newLength_cabcc_14 ?_
    refine X_icmp_gt (pc := 16) C 21 dJ8_newLength_cabcc_16 (by decide) (fun h16 => ?_) (fun h16 => ?_)
    · exact absurd h16 (show ¬ nI 2147483639 < nI _ from nI_nlt (by omega) (by decide))
    · skip
      refine X_iload_n (pc := 19) C 3 dJ8_newLength_cabcc_19 rfl rfl ?_
      exact X_iret (pc := 20) C (Nat.zero_le _) (Nat.zero_le _) dJ8_newLength_cabcc_20 ⟨rfl, rfl⟩
abbrev rq_nc : Room := { frames := 2, cells := 0, slots := 0, locals := 80 }
set_option maxRecDepth 100000 in
set_option maxHeartbeats 4000000 in
theorem c_J5_newCapacity (l : Launch) (P : XP) (σ : XS) (i b q : Nat) (cn : Int32) (he : (xRaw P)[i]? = some (b, .inr (7, [.ref q, .int 0, .int 0, .int cn]))) (k n : Nat) (f : Nat → Int32) (hk : (xRaw P)[k]? = some (q, .inl (P.2.1 4, n, .inl f))) (mm : Nat) (h1 : n < mm) (hb : n ≤ 2100 ∧ mm ≤ 1000) : XF l yJ5_newCapacity_0f7a4 cJ5_newCapacity_0f7a4 6 (some .int) rq_nc P [.ref b, .int (nI mm)] σ (some (.int (nI (n + (if mm - n < n + 2 then n + 2 else mm - n))))) σ := by
  have e1 : nI mm - nI n = nI (mm - n) := pk_sub (by omega)
  have e2 : nI n + 2 = nI (n + 2) := nI_add n 2
  have hM : (if mm - n < n + 2 then n + 2 else mm - n) ≤ 4000 := by
    by_cases z : mm - n < n + 2
    · rw [if_pos z]; omega
    · rw [if_neg z]; omega
  refine XM.of (by decide +kernel) (Nat.le_of_ble_eq_true rfl) (fun p e s m args below meth c A C => ?_)
  replace C : XC p s m args meth c P A 6 RJ5 cJ5_newCapacity_0f7a4 (some .int) := C
  refine XW.eq (lv' := [(0, _), (1, _)]) rfl rfl rfl ?_
  refine X_aload_n (pc := 0) C 0 dJ5_newCapacity_0f7a4_0 rfl rfl ?_
  refine X_rget (pc := 1) C i 0 he rfl inJ4 (by decide) rfl m_f_J5_15 dJ5_newCapacity_0f7a4_1 ?_
  refine X_rAlen (pc := 4) C k 4 hk rfl dJ5_newCapacity_0f7a4_4 ?_
  refine X_istore_n (pc := 5) (lv1 := [(0, _), (1, _), (2, _)]) C 2 dJ5_newCapacity_0f7a4_5 rfl (by decide) rfl ?_
  refine X_iload_n (pc := 6) C 1 dJ5_newCapacity_0f7a4_6 rfl rfl ?_
  refine X_aload_n (pc := 7) C 0 dJ5_newCapacity_0f7a4_7 rfl rfl ?_
  refine X_rget (pc := 8) C i 1 he rfl inJ4 (by decide) rfl m_f_J5_22 dJ5_newCapacity_0f7a4_8 ?_
  refine X_ishl (pc := 11) C dJ5_newCapacity_0f7a4_11 ?_
  rw [sh_l0]
  refine X_istore_n (pc := 12) (lv1 := [(0, _), (1, _), (2, _), (3, _)]) C 3 dJ5_newCapacity_0f7a4_12 rfl (by decide) rfl ?_
  refine X_iload_n (pc := 13) C 3 dJ5_newCapacity_0f7a4_13 rfl rfl ?_
  refine X_iload_n (pc := 14) C 2 dJ5_newCapacity_0f7a4_14 rfl rfl ?_
  refine X_isub (pc := 15) C dJ5_newCapacity_0f7a4_15 ?_
  rw [e1]
  refine X_istore (pc := 16) (lv1 := [(0, _), (1, _), (2, _), (3, _), (4, _)]) C dJ5_newCapacity_0f7a4_16 (by decide) rfl ?_
  refine X_iload_n (pc := 18) C 2 dJ5_newCapacity_0f7a4_18 rfl rfl ?_
  refine X_iload (pc := 19) C dJ5_newCapacity_0f7a4_19 rfl ?_
  refine X_iload_n (pc := 21) C 2 dJ5_newCapacity_0f7a4_21 rfl rfl ?_
  refine X_iconst (pc := 22) (v := 2) C dJ5_newCapacity_0f7a4_22 (by decide) ?_
  refine X_aload_n (pc := 23) C 0 dJ5_newCapacity_0f7a4_23 rfl rfl ?_
  refine X_rget (pc := 24) C i 1 he rfl inJ4 (by decide) rfl m_f_J5_22 dJ5_newCapacity_0f7a4_24 ?_
  refine X_ishl (pc := 27) C dJ5_newCapacity_0f7a4_27 ?_
  rw [sh_l0]
  refine X_iadd (pc := 28) C dJ5_newCapacity_0f7a4_28 ?_
  rw [e2]
  refine X_callJ (n := 3) (pc := 29) C [.int _, .int _, .int _] (c_J8_newLength l P σ n (mm - n) (n + 2) (by omega) (by omega)) m_c_J8_newLength_cabcc m_m_J5_114 m_t_J8_newLength_cabcc m_n_J8 ⟨by decide +kernel, by decide +kernel, by decide +kernel⟩ ⟨Nat.le_of_ble_eq_true rfl, Nat.le_of_ble_eq_true rfl⟩ ⟨rfl, rfl⟩ ⟨Nat.zero_le _, Nat.zero_le _⟩ rfl (Nat.le_of_ble_eq_true rfl) rfl dJ5_newCapacity_0f7a4_29 ?_
  refine X_istore (pc := 32) (lv1 := [(0, _), (1, _), (2, _), (3, _), (4, _), (5, _)]) C dJ5_newCapacity_0f7a4_32 (by decide) rfl ?_
  refine X_iload (pc := 34) C dJ5_newCapacity_0f7a4_34 rfl ?_
  refine X_ldc (pc := 36) C m_k_J5_39 dJ5_newCapacity_0f7a4_36 ?_
  refine X_icmp_ne (pc := 38) C 51 dJ5_newCapacity_0f7a4_38 (by decide) (fun h38 => ?_) (fun h38 => ?_)
  · skip
    refine X_iload (pc := 51) C dJ5_newCapacity_0f7a4_51 rfl ?_
    refine X_aload_n (pc := 53) C 0 dJ5_newCapacity_0f7a4_53 rfl rfl ?_
    refine X_rget (pc := 54) C i 1 he rfl inJ4 (by decide) rfl m_f_J5_22 dJ5_newCapacity_0f7a4_54 ?_
    refine X_ishr (pc := 57) C dJ5_newCapacity_0f7a4_57 ?_
    rw [sh_r0]
    exact X_iret (pc := 58) C (Nat.zero_le _) (Nat.zero_le _) dJ5_newCapacity_0f7a4_58 ⟨rfl, rfl⟩
  · exact absurd (show nI _ = nI 2147483647 from h38) (fun z => by have := (nI_eq (n31 (by omega)) (by decide)).mp z; omega)
abbrev rq_co : Room := { frames := 1, cells := 1, slots := 2100, locals := 80 }
set_option maxRecDepth 100000 in
set_option maxHeartbeats 4000000 in
theorem c_J7_copyOf (l : Launch) (P : XP) (σ : XS) (q k n : Nat) (f : Nat → Int32) (hk : (xRaw P)[k]? = some (q, .inl (P.2.1 4, n, .inl f))) (hf : ∀ j, fits .byte (.int (f j)) = true) (N : Nat) (h1 : n < N) (hb : N ≤ 2100) : XMP l yJ7_copyOf_9075b cJ7_copyOf_9075b 3 (some (.array .byte)) rq_co P [.ref q, .int (nI N)] σ (fun v w => ∃ a : Nat, v = some (.ref a) ∧ w = xRaw P ++ [(a, .inl (P.2.1 4, N, .inl (va_cpy f (fun _ => 0) 0 0 n)))]) := by
  have e1 : (if nI N < nI n then nI N else nI n) = nI n := if_neg (nI_nlt (by omega) (n31 (by omega)))
  refine XMP.of (by decide +kernel) (Nat.le_of_ble_eq_true rfl) (fun p e s m args below meth c A C hmn => ?_)
  replace C : XC p s m args meth c P A 3 RJ7 cJ7_copyOf_9075b (some (.array .byte)) := C
  refine XW.eq (lv' := [(0, _), (1, _)]) rfl rfl rfl ?_
  refine X_iload_n (pc := 0) C 1 dJ7_copyOf_9075b_0 rfl rfl ?_
  refine X_aload_n (pc := 1) C 0 dJ7_copyOf_9075b_1 rfl rfl ?_
  refine X_rAlen (pc := 2) C k 4 hk rfl dJ7_copyOf_9075b_2 ?_
  refine X_icmp_ne (pc := 3) C 14 dJ7_copyOf_9075b_3 (by decide) (fun h3 => ?_) (fun h3 => ?_)
  · skip
    refine X_iload_n (pc := 14) C 1 dJ7_copyOf_9075b_14 rfl rfl ?_
    refine X_newB (n := N) (pc := 15) C rfl (by omega) ⟨Nat.le_of_ble_eq_true rfl, by show 0 + N ≤ 2100; omega⟩ dJ7_copyOf_9075b_15 (fun a C => ?_)
    refine X_astore_n (pc := 17) (lv1 := [(0, _), (1, _), (2, _)]) C 2 dJ7_copyOf_9075b_17 rfl (by decide) rfl ?_
    refine X_aload_n (pc := 18) C 0 dJ7_copyOf_9075b_18 rfl rfl ?_
    refine X_iconst (pc := 19) (v := 0) C dJ7_copyOf_9075b_19 (by decide) ?_
    refine X_aload_n (pc := 20) C 2 dJ7_copyOf_9075b_20 rfl rfl ?_
    refine X_iconst (pc := 21) (v := 0) C dJ7_copyOf_9075b_21 (by decide) ?_
    refine X_aload_n (pc := 22) C 0 dJ7_copyOf_9075b_22 rfl rfl ?_
    refine X_rAlen (pc := 23) C k 4 (push_old hk) rfl dJ7_copyOf_9075b_23 ?_
    refine X_iload_n (pc := 24) C 1 dJ7_copyOf_9075b_24 rfl rfl ?_
    refine X_mmin (pc := 25) C m_m_J7_304 (Nat.le_of_ble_eq_true rfl) (Nat.le_of_ble_eq_true rfl) ⟨Nat.le_of_ble_eq_true rfl, by show 0 + N ≤ 2100; omega⟩ dJ7_copyOf_9075b_25 ?_
    rw [e1]
    refine X_rcopy (pc := 28) C k (xRaw P).length (sp := 0) (dp := 0) (n := n) (push_old hk) push_at m_m_J7_150 (by omega) (by omega) ⟨by omega, by omega⟩ (fun j _ => hf _) (Nat.le_of_ble_eq_true rfl) (Nat.le_of_ble_eq_true rfl) dJ7_copyOf_9075b_28 (fun C => ?_)
    refine X_aload_n (pc := 31) C 2 dJ7_copyOf_9075b_31 rfl rfl ?_
    exact X_retAP (P := P) (pc := 32) C (Or.inr ⟨_, rfl⟩) (Nat.le_of_ble_eq_true rfl) (by show 0 + N ≤ 2100; omega) dJ7_copyOf_9075b_32 ⟨a, rfl, set_push⟩
  · exact absurd (neq h3) (by omega)
abbrev rq_ec : Room := { frames := 3, cells := 1, slots := 2100, locals := 130 }
theorem le_sub {a b : Nat} (h : a ≤ b) (hb : b ≤ 1000000) : nI a - nI b ≤ 0 := by
  rw [Int32.le_iff_toInt_le, pk_sub_toInt (Nat.lt_of_le_of_lt (show a ≤ 1000000 by omega) (by decide)) (Nat.lt_of_le_of_lt hb (by decide)), Int32.toInt_zero]
  omega
set_option maxRecDepth 100000 in
set_option maxHeartbeats 4000000 in
theorem c_J5_ensure (l : Launch) (P : XP) (σ : XS) (i k b q : Nat) (t : List Int32) (n : Nat) (hs : isSB (xRaw P) (P.2.1 4) i k b q t n) (mm : Nat) (hm : t.length ≤ mm ∧ mm ≤ 1000) : XMP l yJ5_ensureCapacityInternal_d00df cJ5_ensureCapacityInternal_d00df 3 none rq_ec P [.ref b, .int (nI mm)] σ (fun v w => v = none ∧ ∃ k1 q1 n1 : Nat, isSB w (P.2.1 4) i k1 b q1 t n1 ∧ mm ≤ n1 ∧ keepG (xRaw P) w i k k1) := by
  have hs0 := hs
  obtain ⟨he, hik, h1, h2, h3, f, hk, hf1, hf2⟩ := hs
  refine XMP.of (by decide +kernel) (Nat.le_of_ble_eq_true rfl) (fun p e s m args below meth c A C hmn => ?_)
  replace C : XC p s m args meth c P A 3 RJ5 cJ5_ensureCapacityInternal_d00df none := C
  refine XW.eq (lv' := [(0, _), (1, _)]) rfl rfl rfl ?_
  by_cases hmn2 : mm ≤ n
  · skip
    refine X_aload_n (pc := 0) C 0 dJ5_ensureCapacityInternal_d00df_0 rfl rfl ?_
    refine X_rget (pc := 1) C i 0 he rfl inJ4 (by decide) rfl m_f_J5_15 dJ5_ensureCapacityInternal_d00df_1 ?_
    refine X_rAlen (pc := 4) C k 4 hk rfl dJ5_ensureCapacityInternal_d00df_4 ?_
    refine X_aload_n (pc := 5) C 0 dJ5_ensureCapacityInternal_d00df_5 rfl rfl ?_
    refine X_rget (pc := 6) C i 1 he rfl inJ4 (by decide) rfl m_f_J5_22 dJ5_ensureCapacityInternal_d00df_6 ?_
    refine X_ishr (pc := 9) C dJ5_ensureCapacityInternal_d00df_9 ?_
    rw [sh_r0]
    refine X_istore_n (pc := 10) (lv1 := [(0, _), (1, _), (2, _)]) C 2 dJ5_ensureCapacityInternal_d00df_10 rfl (by decide) rfl ?_
    refine X_iload_n (pc := 11) C 1 dJ5_ensureCapacityInternal_d00df_11 rfl rfl ?_
    refine X_iload_n (pc := 12) C 2 dJ5_ensureCapacityInternal_d00df_12 rfl rfl ?_
    refine X_isub (pc := 13) C dJ5_ensureCapacityInternal_d00df_13 ?_
    refine X_if_le (pc := 14) C 38 dJ5_ensureCapacityInternal_d00df_14 (by decide) (fun h14 => ?_) (fun h14 => ?_)
    · exact X_retVP (P := P) (pc := 38) C (Nat.le_of_ble_eq_true rfl) (Nat.le_of_ble_eq_true rfl) dJ5_ensureCapacityInternal_d00df_38 ⟨rfl, k, q, n, hs0, hmn2, keepR.rfl_ _ _ _, Or.inl rfl⟩
    · exact absurd (show nI mm - nI n ≤ 0 from le_sub hmn2 (by omega)) h14
  · skip
    refine X_aload_n (pc := 0) C 0 dJ5_ensureCapacityInternal_d00df_0 rfl rfl ?_
    refine X_rget (pc := 1) C i 0 he rfl inJ4 (by decide) rfl m_f_J5_15 dJ5_ensureCapacityInternal_d00df_1 ?_
    refine X_rAlen (pc := 4) C k 4 hk rfl dJ5_ensureCapacityInternal_d00df_4 ?_
    refine X_aload_n (pc := 5) C 0 dJ5_ensureCapacityInternal_d00df_5 rfl rfl ?_
    refine X_rget (pc := 6) C i 1 he rfl inJ4 (by decide) rfl m_f_J5_22 dJ5_ensureCapacityInternal_d00df_6 ?_
    refine X_ishr (pc := 9) C dJ5_ensureCapacityInternal_d00df_9 ?_
    rw [sh_r0]
    refine X_istore_n (pc := 10) (lv1 := [(0, _), (1, _), (2, _)]) C 2 dJ5_ensureCapacityInternal_d00df_10 rfl (by decide) rfl ?_
    refine X_iload_n (pc := 11) C 1 dJ5_ensureCapacityInternal_d00df_11 rfl rfl ?_
    refine X_iload_n (pc := 12) C 2 dJ5_ensureCapacityInternal_d00df_12 rfl rfl ?_
    refine X_isub (pc := 13) C dJ5_ensureCapacityInternal_d00df_13 ?_
    rw [show nI mm - nI n = nI (mm - n) from pk_sub (by omega)]
    refine X_if_le (pc := 14) C 38 dJ5_ensureCapacityInternal_d00df_14 (by decide) (fun h14 => ?_) (fun h14 => ?_)
    · exact absurd h14 (nI_nle (by omega) (n31 (by omega)))
    · skip
      refine X_aload_n (pc := 17) C 0 dJ5_ensureCapacityInternal_d00df_17 rfl rfl ?_
      refine X_aload_n (pc := 18) C 0 dJ5_ensureCapacityInternal_d00df_18 rfl rfl ?_
      refine X_rget (pc := 19) C i 0 he rfl inJ4 (by decide) rfl m_f_J5_15 dJ5_ensureCapacityInternal_d00df_19 ?_
      refine X_aload_n (pc := 22) C 0 dJ5_ensureCapacityInternal_d00df_22 rfl rfl ?_
      refine X_iload_n (pc := 23) C 1 dJ5_ensureCapacityInternal_d00df_23 rfl rfl ?_
      refine X_callUP (x := yJ5_newCapacity_0f7a4) (y := yJ5_newCapacity_0f7a4) (n := 1) (pc := 24) C i [.int _] (XMP.ofX (c_J5_newCapacity l P σ i b q (nI t.length) he k n f hk mm (by omega) ⟨h3, hm.2⟩)) m_c_J5_newCapacity_0f7a4 m_m_J5_104 m_q_J5_newCapacity_0f7a4 m_i_J5_newCapacity_0f7a4 m_c_J5_newCapacity_0f7a4 m_i_J5_newCapacity_0f7a4 (C.hts _ m_z_J5_newCapacity_0f7a4) m_n_J5 ⟨by decide +kernel, by decide +kernel, by decide +kernel⟩ ⟨Nat.le_of_ble_eq_true rfl, Nat.le_of_ble_eq_true rfl⟩ ⟨Nat.le_of_ble_eq_true rfl, Nat.le_of_ble_eq_true rfl⟩ he rfl (Nat.le_of_ble_eq_true rfl) rfl dJ5_ensureCapacityInternal_d00df_24 (fun v w hv C => ?_)
      obtain ⟨rfl, rfl⟩ := hv
      refine X_aload_n (pc := 27) C 0 dJ5_ensureCapacityInternal_d00df_27 rfl rfl ?_
      refine X_rget (pc := 28) C i 1 he rfl inJ4 (by decide) rfl m_f_J5_22 dJ5_ensureCapacityInternal_d00df_28 ?_
      refine X_ishl (pc := 31) C dJ5_ensureCapacityInternal_d00df_31 ?_
      rw [sh_l0]
      refine X_callSP (P := P) (n := 2) (pc := 32) C [.ref _, .int _] (c_J7_copyOf l P σ q k n f hk hf2 (n + (if mm - n < n + 2 then n + 2 else mm - n)) (by split <;> omega) (by split <;> omega)) m_c_J7_copyOf_9075b m_m_J5_108 m_t_J7_copyOf_9075b m_n_J7 ⟨by decide +kernel, by decide +kernel, by decide +kernel⟩ ⟨Nat.le_of_ble_eq_true rfl, Nat.le_of_ble_eq_true rfl⟩ ⟨Nat.le_of_ble_eq_true rfl, Nat.le_of_ble_eq_true rfl⟩ rfl (Nat.le_of_ble_eq_true rfl) rfl dJ5_ensureCapacityInternal_d00df_32 (fun v w hv C => ?_)
      obtain ⟨a, rfl, rfl⟩ := hv
      refine X_rput (P := xPR P _) (pc := 35) C i 0 tyJ4 tyJ4_ok nmJ4 (push_old he) rfl inJ4 (by decide) (Nat.le_of_ble_eq_true rfl) m_f_J5_15 rfl rfl rfl dJ5_ensureCapacityInternal_d00df_35 (fun C => ?_)
      refine X_retVP (P := P) (pc := 38) C (Nat.le_of_ble_eq_true rfl) (Nat.le_of_ble_eq_true rfl) dJ5_ensureCapacityInternal_d00df_38 ⟨rfl, (xRaw P).length, a, (n + (if mm - n < n + 2 then n + 2 else mm - n)), ⟨set_at (push_old he), by have := w_lt he; omega, by split <;> omega, h2, by split <;> omega, _, (set_ne (by have := w_lt he; omega)).trans push_at, fun j hj => ?_, fun j => ?_⟩, by split <;> omega, ⟨⟨by rw [List.length_set, List.length_append]; omega, fun j hj z1 z2 => ?_⟩, Or.inr (Nat.le_refl _)⟩⟩
      · rw [va_cpy, if_pos ⟨Nat.zero_le _, by omega⟩, Nat.zero_add, Nat.sub_zero]; exact hf1 j hj
      · by_cases z : 0 ≤ j ∧ j < 0 + n
        · rw [va_cpy, if_pos z]; exact hf2 _
        · rw [va_cpy, if_neg z]; rfl
      · rw [set_ne z1, List.getElem?_append_left hj]

end XP27

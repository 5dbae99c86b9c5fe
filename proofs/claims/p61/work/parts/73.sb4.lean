section XP29
variable {p : Program} {l : Launch} {e : Env} {R : Room} {s : State} {m : MethodId} {args : Array Value} {below : List Frame} {meth : Method} {c : Code} {P : XP} {A : Nat → Prop} {nL cells slots : Nat} {Q : State → Prop} {cc : ByteArray} {ret : Option FieldType} {σ : XS} {pc : Nat} {lv : List (Nat × Value)} {st : List Value}
variable {own : String}
theorem X_dupx1 (C : XC p s m args meth c P A nL own cc ret) {a b : Value} (d : decode cc pc = .ok (.dup_x1, 1)) (ha : a.category = 1) (hb : b.category = 1) (k : XW p l e R s m args below meth c P A nL cells slots Q σ (pc + 1) lv (a :: b :: a :: st)) : XW p l e R s m args below meth c P A nL cells slots Q σ pc lv (a :: b :: st) := fun H locs ls hP hS hl => lv_dup_x1 C.1 C.2.1 d ha hb (k H locs ls hP hS hl)
theorem X_i2b (C : XC p s m args meth c P A nL own cc ret) {x v : Int32} (d : decode cc pc = .ok (.i2b, 1)) (hv : x.toInt8.toInt32 = v) (k : XW p l e R s m args below meth c P A nL cells slots Q σ (pc + 1) lv (.int v :: st)) : XW p l e R s m args below meth c P A nL cells slots Q σ pc lv (.int x :: st) := fun H locs ls hP hS hl => lv_i2b C.1 C.2.1 d hv (k H locs ls hP hS hl)
theorem m_c_obj : Cond.code Lib.objectInit ⟨#[0xb1]⟩ 1 none ∈ xTB := xm 40 (by decide +kernel) (by decide +kernel)
theorem X_obj (C : XC p s m args meth c P A nL own cc ret) {idx x : Nat} (hlk : Cond.methodLink own idx objectInit ∈ xTB) (hR : 1 ≤ R.frames ∧ 12 ≤ R.locals) (d : decode cc pc = .ok (.invokespecial idx, 3)) (k : XW p l e R s m args below meth c P A nL cells slots Q σ (pc + 3) lv []) : XW p l e R s m args below meth c P A nL cells slots Q σ pc lv [.ref x] := fun H locs ls hP hS hl => by
  refine W.objInit C.1 C.2.1 C.2.2.2.1 (C.hts _ hlk) (C.hts _ m_i_objectInit) (C.hts _ m_c_obj) rfl (by rw [C.2.2.1]; exact hl.1) rfl d hR.1 hR.2 ?_
  exact k H locs ls hP hS hl
theorem chr_b : ∀ x, x < 128 → (nI x).toInt8.toInt32 = nI x ∧ vp_nar .byte (nI x) = nI x ∧ fits .byte (.int (nI x)) = true ∧ ¬ (255 : Int32) < nI x := by decide +kernel
abbrev rq_ce : Room := { frames := 0, cells := 0, slots := 0, locals := 0 }
set_option maxRecDepth 100000 in
set_option maxHeartbeats 4000000 in
theorem c_J1_canEncode (l : Launch) (P : XP) (σ : XS) (x : Nat) (hx : x < 128) : XF l yJ1_canEncode_fc78d cJ1_canEncode_fc78d 1 (some .boolean) rq_ce P [.int (nI x)] σ (some (.int 1)) σ := by
  refine XM.of (by decide +kernel) (Nat.le_of_ble_eq_true rfl) (fun p e s m args below meth c A C => ?_)
  replace C : XC p s m args meth c P A 1 RJ1 cJ1_canEncode_fc78d (some .boolean) := C
  refine XW.eq (lv' := [(0, _)]) rfl rfl rfl ?_
  refine X_iload_n (pc := 0) C 0 dJ1_canEncode_fc78d_0 rfl rfl ?_
  refine X_sipush (pc := 1) (v := 255) C dJ1_canEncode_fc78d_1 (by decide) ?_
  refine X_icmp_gt (pc := 4) C 11 dJ1_canEncode_fc78d_4 (by decide) (fun h4 => ?_) (fun h4 => ?_)
  · exact absurd h4 (chr_b x hx).2.2.2
  · skip
    refine X_iconst (pc := 7) (v := 1) C dJ1_canEncode_fc78d_7 (by decide) ?_
    refine X_goto (pc := 8) C 12 dJ1_canEncode_fc78d_8 (by decide) ?_
    exact X_zret (pc := 12) C (Nat.zero_le _) (Nat.zero_le _) (rfl) dJ1_canEncode_fc78d_12 ⟨rfl, rfl⟩
abbrev rq_ac : Room := { frames := 4, cells := 1, slots := 2100, locals := 170 }
set_option maxRecDepth 100000 in
set_option maxHeartbeats 4000000 in
theorem c_J5_appendC (l : Launch) (P : XP) (σ : XS) (i k b q : Nat) (t : List Int32) (n : Nat) (hs : isSB (xRaw P) (P.2.1 4) i k b q t n) (x : Nat) (hx : x < 128) (hg : t.length + 1 ≤ 1000) : XMP l yJ5_append_3fe6f cJ5_append_3fe6f 2 (some (.object "java/lang/AbstractStringBuilder")) rq_ac P [.ref b, .int (nI x)] σ (fun v w => v = some (.ref b) ∧ ∃ k1 q1 n1 : Nat, isSB w (P.2.1 4) i k1 b q1 (t ++ [nI x]) n1 ∧ keepG (xRaw P) w i k k1) := by
  have hs0 := hs
  obtain ⟨he, hik, h1, h2, h3, f, hk, hf1, hf2⟩ := hs
  have e1 : nI t.length + 1 = nI (t.length + 1) := nI_add t.length 1
  obtain ⟨x1, x2, x3, -⟩ := chr_b x hx
  refine XMP.of (by decide +kernel) (Nat.le_of_ble_eq_true rfl) (fun p e s m args below meth c A C hmn => ?_)
  replace C : XC p s m args meth c P A 2 RJ5 cJ5_append_3fe6f (some (.object "java/lang/AbstractStringBuilder")) := C
  refine XW.eq (lv' := [(0, _), (1, _)]) rfl rfl rfl ?_
  refine X_aload_n (pc := 0) C 0 dJ5_append_3fe6f_0 rfl rfl ?_
  refine X_aload_n (pc := 1) C 0 dJ5_append_3fe6f_1 rfl rfl ?_
  refine X_rget (pc := 2) C i 3 he rfl inJ4 (by decide) rfl m_f_J5_79 dJ5_append_3fe6f_2 ?_
  refine X_iconst (pc := 5) (v := 1) C dJ5_append_3fe6f_5 (by decide) ?_
  refine X_iadd (pc := 6) C dJ5_append_3fe6f_6 ?_
  rw [e1]
  refine X_callUP (P := P) (x := yJ5_ensureCapacityInternal_d00df) (y := yJ5_ensureCapacityInternal_d00df) (n := 1) (pc := 7) C i [.int _] (c_J5_ensure l P σ i k b q t n hs0 (t.length + 1) ⟨by omega, hg⟩) m_c_J5_ensureCapacityInternal_d00df m_m_J5_100 m_q_J5_ensureCapacityInternal_d00df m_i_J5_ensureCapacityInternal_d00df m_c_J5_ensureCapacityInternal_d00df m_i_J5_ensureCapacityInternal_d00df (C.hts _ m_z_J5_ensureCapacityInternal_d00df) m_n_J5 ⟨by decide +kernel, by decide +kernel, by decide +kernel⟩ ⟨Nat.le_of_ble_eq_true rfl, Nat.le_of_ble_eq_true rfl⟩ ⟨Nat.le_of_ble_eq_true rfl, Nat.le_of_ble_eq_true rfl⟩ he rfl (Nat.le_of_ble_eq_true rfl) rfl dJ5_append_3fe6f_7 (fun v w hv C => ?_)
  obtain ⟨rfl, k1, q1, n1, hs1, hn1, hk1⟩ := hv
  have hs1b := hs1
  obtain ⟨he1, hik1, -, -, h31, f1, hk1a, hf11, hf21⟩ := hs1
  refine X_aload_n (pc := 10) C 0 dJ5_append_3fe6f_10 rfl rfl ?_
  refine X_callUP (P := xPR P w) (x := yJ5_isLatin1_aae02) (y := yJ5_isLatin1_aae02) (n := 0) (pc := 11) C i [] (XMP.ofX (c_J5_isLatin1 l (xPR P w) σ i b q1 (nI t.length) he1)) m_c_J5_isLatin1_aae02 m_m_J5_83 m_q_J5_isLatin1_aae02 m_i_J5_isLatin1_aae02 m_c_J5_isLatin1_aae02 m_i_J5_isLatin1_aae02 (C.hts _ m_z_J5_isLatin1_aae02) m_n_J5 ⟨by decide +kernel, by decide +kernel, by decide +kernel⟩ ⟨Nat.le_of_ble_eq_true rfl, Nat.le_of_ble_eq_true rfl⟩ ⟨Nat.le_of_ble_eq_true rfl, Nat.le_of_ble_eq_true rfl⟩ he1 rfl (Nat.le_of_ble_eq_true rfl) rfl dJ5_append_3fe6f_11 (fun v w hv C => ?_)
  obtain ⟨rfl, rfl⟩ := hv
  refine X_if_eq (pc := 14) C 45 dJ5_append_3fe6f_14 (by decide) (fun h14 => ?_) (fun h14 => ?_)
  · exact absurd h14 (by decide)
  · skip
    refine X_iload_n (pc := 17) C 1 dJ5_append_3fe6f_17 rfl rfl ?_
    refine X_callJ (n := 1) (pc := 18) C [.int _] (c_J1_canEncode l _ σ x hx) m_c_J1_canEncode_fc78d m_m_J5_191 m_t_J1_canEncode_fc78d m_n_J1 ⟨by decide +kernel, by decide +kernel, by decide +kernel⟩ ⟨Nat.le_of_ble_eq_true rfl, Nat.le_of_ble_eq_true rfl⟩ ⟨rfl, rfl⟩ ⟨Nat.le_of_ble_eq_true rfl, Nat.le_of_ble_eq_true rfl⟩ rfl (Nat.le_of_ble_eq_true rfl) rfl dJ5_append_3fe6f_18 ?_
    refine X_if_eq (pc := 21) C 45 dJ5_append_3fe6f_21 (by decide) (fun h21 => ?_) (fun h21 => ?_)
    · exact absurd h21 (by decide)
    · skip
      refine X_aload_n (pc := 24) C 0 dJ5_append_3fe6f_24 rfl rfl ?_
      refine X_rget (pc := 25) C i 0 he1 rfl inJ4 (by decide) rfl m_f_J5_15 dJ5_append_3fe6f_25 ?_
      refine X_aload_n (pc := 28) C 0 dJ5_append_3fe6f_28 rfl rfl ?_
      refine X_dup (pc := 29) C dJ5_append_3fe6f_29 rfl ?_
      refine X_rget (pc := 30) C i 3 he1 rfl inJ4 (by decide) rfl m_f_J5_79 dJ5_append_3fe6f_30 ?_
      refine X_dupx1 (pc := 33) C dJ5_append_3fe6f_33 rfl rfl ?_
      refine X_iconst (pc := 34) (v := 1) C dJ5_append_3fe6f_34 (by decide) ?_
      refine X_iadd (pc := 35) C dJ5_append_3fe6f_35 ?_
      rw [e1]
      refine X_rput (P := xPR P w) (pc := 36) C i 3 tyJ4 tyJ4_ok nmJ4 he1 rfl inJ4 (by decide) (Nat.le_of_ble_eq_true rfl) m_f_J5_79 rfl rfl rfl dJ5_append_3fe6f_36 (fun C => ?_)
      refine X_iload_n (pc := 39) C 1 dJ5_append_3fe6f_39 rfl rfl ?_
      refine X_i2b (pc := 40) C dJ5_append_3fe6f_40 x1 ?_
      refine X_rBast (P := xPR P _) (pc := 41) C k1 ((set_ne (Ne.symm hik1)).trans hk1a) hn1 (by omega) dJ5_append_3fe6f_41 (fun C => ?_)
      rw [x2] at C ⊢
      refine X_goto (pc := 42) C 75 dJ5_append_3fe6f_42 (by decide) ?_
      refine X_aload_n (pc := 75) C 0 dJ5_append_3fe6f_75 rfl rfl ?_
      obtain ⟨r1, r2⟩ := hs1b.put (u := [nI x]) (f1 := upd f1 t.length (nI x)) (w0 := (w.set i (b, .inr (7, [.ref q1, .int 0, .int 0, .int (nI (t.length + 1))]))).set k1 (q1, .inl (P.2.1 4, n1, .inl (upd f1 t.length (nI x))))) (List.set_comm _ _ hik1) hn1 hg (fun j hj => (upd_ne (by omega)).trans (hf11 j hj)) (fun j hj => by obtain rfl : j = 0 := Nat.lt_one_iff.mp hj; exact upd_at) (fun j => by
        by_cases z : j = t.length
        · subst z; rw [upd_at]; exact x3
        · rw [upd_ne z]; exact hf21 j)
      exact X_retAP (P := P) (pc := 76) C (Or.inl ⟨_, rfl⟩) (Nat.le_of_ble_eq_true rfl) (Nat.le_of_ble_eq_true rfl) dJ5_append_3fe6f_76 ⟨rfl, k1, q1, n1, r1, hk1.trans r2⟩
abbrev rq_ai : Room := { frames := 4, cells := 1, slots := 2100, locals := 170 }
set_option maxRecDepth 100000 in
set_option maxHeartbeats 4000000 in
theorem c_J5_appendI (l : Launch) (P : XP) (σ : XS) (i k b q : Nat) (t : List Int32) (n : Nat) (hs : isSB (xRaw P) (P.2.1 4) i k b q t n) (x : Nat) (hx : x < 100) (hg : t.length + 2 ≤ 1000) : XMP l yJ5_append_c97b9 cJ5_append_c97b9 4 (some (.object "java/lang/AbstractStringBuilder")) rq_ai P [.ref b, .int (nI x)] σ (fun v w => v = some (.ref b) ∧ ∃ k1 q1 n1 : Nat, isSB w (P.2.1 4) i k1 b q1 (t ++ dig x) n1 ∧ keepG (xRaw P) w i k k1) := by
  have hs0 := hs
  obtain ⟨he, hik, h1, h2, h3, f, hk, hf1, hf2⟩ := hs
  have hd2 : (dig x).length ≤ 2 := by unfold dig; split <;> simp
  have e1 : nI t.length + nI (dig x).length = nI (t.length + (dig x).length) := nI_add _ _
  refine XMP.of (by decide +kernel) (Nat.le_of_ble_eq_true rfl) (fun p e s m args below meth c A C hmn => ?_)
  replace C : XC p s m args meth c P A 4 RJ5 cJ5_append_c97b9 (some (.object "java/lang/AbstractStringBuilder")) := C
  refine XW.eq (lv' := [(0, _), (1, _)]) rfl rfl rfl ?_
  refine X_aload_n (pc := 0) C 0 dJ5_append_c97b9_0 rfl rfl ?_
  refine X_rget (pc := 1) C i 3 he rfl inJ4 (by decide) rfl m_f_J5_79 dJ5_append_c97b9_1 ?_
  refine X_istore_n (pc := 4) (lv1 := [(0, _), (1, _), (2, _)]) C 2 dJ5_append_c97b9_4 rfl (by decide) rfl ?_
  refine X_iload_n (pc := 5) C 2 dJ5_append_c97b9_5 rfl rfl ?_
  refine X_iload_n (pc := 6) C 1 dJ5_append_c97b9_6 rfl rfl ?_
  refine X_callJ (n := 1) (pc := 7) C [.int _] (c_J6_stringSize l _ σ x hx) m_c_J6_stringSize_0f7a4 m_m_J5_245 m_t_J6_stringSize_0f7a4 m_n_J6 ⟨by decide +kernel, by decide +kernel, by decide +kernel⟩ ⟨Nat.le_of_ble_eq_true rfl, Nat.le_of_ble_eq_true rfl⟩ ⟨rfl, rfl⟩ ⟨Nat.le_of_ble_eq_true rfl, Nat.le_of_ble_eq_true rfl⟩ rfl (Nat.le_of_ble_eq_true rfl) rfl dJ5_append_c97b9_7 ?_
  refine X_iadd (pc := 10) C dJ5_append_c97b9_10 ?_
  rw [e1]
  refine X_istore_n (pc := 11) (lv1 := [(0, _), (1, _), (2, _), (3, _)]) C 3 dJ5_append_c97b9_11 rfl (by decide) rfl ?_
  refine X_aload_n (pc := 12) C 0 dJ5_append_c97b9_12 rfl rfl ?_
  refine X_iload_n (pc := 13) C 3 dJ5_append_c97b9_13 rfl rfl ?_
  refine X_callUP (P := P) (x := yJ5_ensureCapacityInternal_d00df) (y := yJ5_ensureCapacityInternal_d00df) (n := 1) (pc := 14) C i [.int _] (c_J5_ensure l P σ i k b q t n hs0 (t.length + (dig x).length) ⟨by omega, by omega⟩) m_c_J5_ensureCapacityInternal_d00df m_m_J5_100 m_q_J5_ensureCapacityInternal_d00df m_i_J5_ensureCapacityInternal_d00df m_c_J5_ensureCapacityInternal_d00df m_i_J5_ensureCapacityInternal_d00df (C.hts _ m_z_J5_ensureCapacityInternal_d00df) m_n_J5 ⟨by decide +kernel, by decide +kernel, by decide +kernel⟩ ⟨Nat.le_of_ble_eq_true rfl, Nat.le_of_ble_eq_true rfl⟩ ⟨Nat.le_of_ble_eq_true rfl, Nat.le_of_ble_eq_true rfl⟩ he rfl (Nat.le_of_ble_eq_true rfl) rfl dJ5_append_c97b9_14 (fun v w hv C => ?_)
  obtain ⟨rfl, k1, q1, n1, hs1, hn1, hk1⟩ := hv
  have hs1b := hs1
  obtain ⟨he1, hik1, -, -, h31, f1, hk1a, hf11, hf21⟩ := hs1
  refine X_aload_n (pc := 17) C 0 dJ5_append_c97b9_17 rfl rfl ?_
  refine X_callUP (P := xPR P w) (x := yJ5_isLatin1_aae02) (y := yJ5_isLatin1_aae02) (n := 0) (pc := 18) C i [] (XMP.ofX (c_J5_isLatin1 l (xPR P w) σ i b q1 (nI t.length) he1)) m_c_J5_isLatin1_aae02 m_m_J5_83 m_q_J5_isLatin1_aae02 m_i_J5_isLatin1_aae02 m_c_J5_isLatin1_aae02 m_i_J5_isLatin1_aae02 (C.hts _ m_z_J5_isLatin1_aae02) m_n_J5 ⟨by decide +kernel, by decide +kernel, by decide +kernel⟩ ⟨Nat.le_of_ble_eq_true rfl, Nat.le_of_ble_eq_true rfl⟩ ⟨Nat.le_of_ble_eq_true rfl, Nat.le_of_ble_eq_true rfl⟩ he1 rfl (Nat.le_of_ble_eq_true rfl) rfl dJ5_append_c97b9_18 (fun v w hv C => ?_)
  obtain ⟨rfl, rfl⟩ := hv
  refine X_if_eq (pc := 21) C 37 dJ5_append_c97b9_21 (by decide) (fun h21 => ?_) (fun h21 => ?_)
  · exact absurd h21 (by decide)
  · skip
    refine X_iload_n (pc := 24) C 1 dJ5_append_c97b9_24 rfl rfl ?_
    refine X_iload_n (pc := 25) C 3 dJ5_append_c97b9_25 rfl rfl ?_
    refine X_aload_n (pc := 26) C 0 dJ5_append_c97b9_26 rfl rfl ?_
    refine X_rget (pc := 27) C i 0 he1 rfl inJ4 (by decide) rfl m_f_J5_15 dJ5_append_c97b9_27 ?_
    refine X_callSP (P := xPR P w) (n := 3) (pc := 30) C [.int _, .int _, .ref _] (c_J6_getChars l (xPR P w) σ x hx k1 q1 n1 t.length f1 hk1a hn1 (by omega) hf21) m_c_J6_getChars_ba4f3 m_m_J5_248 m_t_J6_getChars_ba4f3 m_n_J6 ⟨by decide +kernel, by decide +kernel, by decide +kernel⟩ ⟨Nat.le_of_ble_eq_true rfl, Nat.le_of_ble_eq_true rfl⟩ ⟨Nat.le_of_ble_eq_true rfl, Nat.le_of_ble_eq_true rfl⟩ rfl (Nat.le_of_ble_eq_true rfl) rfl dJ5_append_c97b9_30 (fun v w2 hv C => ?_)
    obtain ⟨rfl, f3, rfl, f4, f5, f6⟩ := hv
    refine X_pop (pc := 33) C dJ5_append_c97b9_33 rfl ?_
    refine X_goto (pc := 34) C 48 dJ5_append_c97b9_34 (by decide) ?_
    refine X_aload_n (pc := 48) C 0 dJ5_append_c97b9_48 rfl rfl ?_
    refine X_iload_n (pc := 49) C 3 dJ5_append_c97b9_49 rfl rfl ?_
    refine X_rput (P := xPR P _) (pc := 50) C i 3 tyJ4 tyJ4_ok nmJ4 ((set_ne hik1).trans he1) rfl inJ4 (by decide) (Nat.le_of_ble_eq_true rfl) m_f_J5_79 rfl rfl rfl dJ5_append_c97b9_50 (fun C => ?_)
    refine X_aload_n (pc := 53) C 0 dJ5_append_c97b9_53 rfl rfl ?_
    obtain ⟨r1, r2⟩ := hs1b.put (u := dig x) (f1 := f3) (w0 := (w.set k1 (q1, .inl (P.2.1 4, n1, .inl f3))).set i (b, .inr (7, [.ref q1, .int 0, .int 0, .int (nI (t.length + (dig x).length))]))) rfl hn1 (by omega) (fun j hj => (f4 j hj).trans (hf11 j hj)) f5 f6
    exact X_retAP (P := P) (pc := 54) C (Or.inl ⟨_, rfl⟩) (Nat.le_of_ble_eq_true rfl) (Nat.le_of_ble_eq_true rfl) dJ5_append_c97b9_54 ⟨rfl, k1, q1, n1, r1, hk1.trans r2⟩
abbrev rq_b1 : Room := { frames := 5, cells := 1, slots := 2100, locals := 200 }
abbrev rq_b2 : Room := { frames := 6, cells := 1, slots := 2100, locals := 230 }
set_option maxRecDepth 100000 in
set_option maxHeartbeats 4000000 in
theorem c_J4_appendS (l : Launch) (P : XP) (σ : XS) (i k b q : Nat) (t : List Int32) (n : Nat) (hs : isSB (xRaw P) (P.2.1 4) i k b q t n) (g : Nat) (hq : g < 15) (hg : t.length + xln g ≤ 1000) : XMP l yJ4_append_15ec4 cJ4_append_15ec4 2 (some (.object "java/lang/StringBuilder")) rq_b1 P [.ref b, .ref (xK P g)] σ (fun v w => v = some (.ref b) ∧ ∃ k1 q1 n1 : Nat, isSB w (P.2.1 4) i k1 b q1 (t ++ tx g) n1 ∧ keepG (xRaw P) w i k k1) := by
  have hs0 := hs
  obtain ⟨he, -⟩ := hs
  refine XMP.of (by decide +kernel) (Nat.le_of_ble_eq_true rfl) (fun p e s m args below meth c A C hmn => ?_)
  replace C : XC p s m args meth c P A 2 RJ4 cJ4_append_15ec4 (some (.object "java/lang/StringBuilder")) := C
  refine XW.eq (lv' := [(0, _), (1, _)]) rfl rfl rfl ?_
  refine X_aload_n (pc := 0) C 0 dJ4_append_15ec4_0 rfl rfl ?_
  refine X_aload_n (pc := 1) C 1 dJ4_append_15ec4_1 rfl rfl ?_
  refine X_callQP (P := P) (n := 1) (pc := 2) C i [.ref _] (c_J5_appendS l P σ i k b q t n hs0 g hq hg) m_c_J5_append_cf1ce m_m_J4_29 m_q_J5_append_cf1ce m_u_J4 m_i_J5_append_cf1ce m_n_J5 ⟨by decide +kernel, by decide +kernel⟩ ⟨Nat.le_of_ble_eq_true rfl, Nat.le_of_ble_eq_true rfl⟩ ⟨Nat.le_of_ble_eq_true rfl, Nat.le_of_ble_eq_true rfl⟩ he rfl (Nat.le_of_ble_eq_true rfl) rfl dJ4_append_15ec4_2 (fun v w hv C => ?_)
  obtain ⟨rfl, k1, q1, n1, r1, r2⟩ := hv
  refine X_pop (pc := 5) C dJ4_append_15ec4_5 rfl ?_
  refine X_aload_n (pc := 6) C 0 dJ4_append_15ec4_6 rfl rfl ?_
  exact X_retAP (P := P) (pc := 7) C (Or.inl ⟨_, rfl⟩) (Nat.le_of_ble_eq_true rfl) (Nat.le_of_ble_eq_true rfl) dJ4_append_15ec4_7 ⟨rfl, k1, q1, n1, r1, r2⟩
set_option maxRecDepth 100000 in
set_option maxHeartbeats 4000000 in
theorem c_J4_appendC (l : Launch) (P : XP) (σ : XS) (i k b q : Nat) (t : List Int32) (n : Nat) (hs : isSB (xRaw P) (P.2.1 4) i k b q t n) (x : Nat) (hx : x < 128) (hg : t.length + 1 ≤ 1000) : XMP l yJ4_append_cf468 cJ4_append_cf468 2 (some (.object "java/lang/StringBuilder")) rq_b1 P [.ref b, .int (nI x)] σ (fun v w => v = some (.ref b) ∧ ∃ k1 q1 n1 : Nat, isSB w (P.2.1 4) i k1 b q1 (t ++ [nI x]) n1 ∧ keepG (xRaw P) w i k k1) := by
  have hs0 := hs
  obtain ⟨he, -⟩ := hs
  refine XMP.of (by decide +kernel) (Nat.le_of_ble_eq_true rfl) (fun p e s m args below meth c A C hmn => ?_)
  replace C : XC p s m args meth c P A 2 RJ4 cJ4_append_cf468 (some (.object "java/lang/StringBuilder")) := C
  refine XW.eq (lv' := [(0, _), (1, _)]) rfl rfl rfl ?_
  refine X_aload_n (pc := 0) C 0 dJ4_append_cf468_0 rfl rfl ?_
  refine X_iload_n (pc := 1) C 1 dJ4_append_cf468_1 rfl rfl ?_
  refine X_callQP (P := P) (n := 1) (pc := 2) C i [.int _] (c_J5_appendC l P σ i k b q t n hs0 x hx hg) m_c_J5_append_3fe6f m_m_J4_50 m_q_J5_append_3fe6f m_u_J4 m_i_J5_append_3fe6f m_n_J5 ⟨by decide +kernel, by decide +kernel⟩ ⟨Nat.le_of_ble_eq_true rfl, Nat.le_of_ble_eq_true rfl⟩ ⟨Nat.le_of_ble_eq_true rfl, Nat.le_of_ble_eq_true rfl⟩ he rfl (Nat.le_of_ble_eq_true rfl) rfl dJ4_append_cf468_2 (fun v w hv C => ?_)
  obtain ⟨rfl, k1, q1, n1, r1, r2⟩ := hv
  refine X_pop (pc := 5) C dJ4_append_cf468_5 rfl ?_
  refine X_aload_n (pc := 6) C 0 dJ4_append_cf468_6 rfl rfl ?_
  exact X_retAP (P := P) (pc := 7) C (Or.inl ⟨_, rfl⟩) (Nat.le_of_ble_eq_true rfl) (Nat.le_of_ble_eq_true rfl) dJ4_append_cf468_7 ⟨rfl, k1, q1, n1, r1, r2⟩
set_option maxRecDepth 100000 in
set_option maxHeartbeats 4000000 in
theorem c_J4_appendI (l : Launch) (P : XP) (σ : XS) (i k b q : Nat) (t : List Int32) (n : Nat) (hs : isSB (xRaw P) (P.2.1 4) i k b q t n) (x : Nat) (hx : x < 100) (hg : t.length + 2 ≤ 1000) : XMP l yJ4_append_bf812 cJ4_append_bf812 2 (some (.object "java/lang/StringBuilder")) rq_b1 P [.ref b, .int (nI x)] σ (fun v w => v = some (.ref b) ∧ ∃ k1 q1 n1 : Nat, isSB w (P.2.1 4) i k1 b q1 (t ++ dig x) n1 ∧ keepG (xRaw P) w i k k1) := by
  have hs0 := hs
  obtain ⟨he, -⟩ := hs
  refine XMP.of (by decide +kernel) (Nat.le_of_ble_eq_true rfl) (fun p e s m args below meth c A C hmn => ?_)
  replace C : XC p s m args meth c P A 2 RJ4 cJ4_append_bf812 (some (.object "java/lang/StringBuilder")) := C
  refine XW.eq (lv' := [(0, _), (1, _)]) rfl rfl rfl ?_
  refine X_aload_n (pc := 0) C 0 dJ4_append_bf812_0 rfl rfl ?_
  refine X_iload_n (pc := 1) C 1 dJ4_append_bf812_1 rfl rfl ?_
  refine X_callQP (P := P) (n := 1) (pc := 2) C i [.int _] (c_J5_appendI l P σ i k b q t n hs0 x hx hg) m_c_J5_append_c97b9 m_m_J4_53 m_q_J5_append_c97b9 m_u_J4 m_i_J5_append_c97b9 m_n_J5 ⟨by decide +kernel, by decide +kernel⟩ ⟨Nat.le_of_ble_eq_true rfl, Nat.le_of_ble_eq_true rfl⟩ ⟨Nat.le_of_ble_eq_true rfl, Nat.le_of_ble_eq_true rfl⟩ he rfl (Nat.le_of_ble_eq_true rfl) rfl dJ4_append_bf812_2 (fun v w hv C => ?_)
  obtain ⟨rfl, k1, q1, n1, r1, r2⟩ := hv
  refine X_pop (pc := 5) C dJ4_append_bf812_5 rfl ?_
  refine X_aload_n (pc := 6) C 0 dJ4_append_bf812_6 rfl rfl ?_
  exact X_retAP (P := P) (pc := 7) C (Or.inl ⟨_, rfl⟩) (Nat.le_of_ble_eq_true rfl) (Nat.le_of_ble_eq_true rfl) dJ4_append_bf812_7 ⟨rfl, k1, q1, n1, r1, r2⟩
set_option maxRecDepth 100000 in
set_option maxHeartbeats 4000000 in
theorem c_J4_appendA (l : Launch) (P : XP) (σ : XS) (i k b q : Nat) (t : List Int32) (n : Nat) (hs : isSB (xRaw P) (P.2.1 4) i k b q t n) (g : Nat) (hq : g < 15) (hg : t.length + xln g ≤ 1000) : XMP l yJ4_append_cf1ce cJ4_append_cf1ce 2 (some (.object "java/lang/AbstractStringBuilder")) rq_b2 P [.ref b, .ref (xK P g)] σ (fun v w => v = some (.ref b) ∧ ∃ k1 q1 n1 : Nat, isSB w (P.2.1 4) i k1 b q1 (t ++ tx g) n1 ∧ keepG (xRaw P) w i k k1) := by
  have hs0 := hs
  obtain ⟨he, -⟩ := hs
  refine XMP.of (by decide +kernel) (Nat.le_of_ble_eq_true rfl) (fun p e s m args below meth c A C hmn => ?_)
  replace C : XC p s m args meth c P A 2 RJ4 cJ4_append_cf1ce (some (.object "java/lang/AbstractStringBuilder")) := C
  refine XW.eq (lv' := [(0, _), (1, _)]) rfl rfl rfl ?_
  refine X_aload_n (pc := 0) C 0 dJ4_append_cf1ce_0 rfl rfl ?_
  refine X_aload_n (pc := 1) C 1 dJ4_append_cf1ce_1 rfl rfl ?_
  refine X_callVP (P := P) (n := 1) (q9 := (RJ4, TJ4, 4)) (pc := 2) C i [.ref _] (c_J4_appendS l P σ i k b q t n hs0 g hq hg) m_c_J4_append_15ec4 m_m_J4_23 m_i_J4_append_15ec4 m_s_J4_append_15ec4 m_n_J4 ⟨by decide +kernel, by decide +kernel, by decide +kernel⟩ ⟨Nat.le_of_ble_eq_true rfl, Nat.le_of_ble_eq_true rfl⟩ ⟨Nat.le_of_ble_eq_true rfl, Nat.le_of_ble_eq_true rfl⟩ he rfl rfl rfl (Nat.le_of_ble_eq_true rfl) rfl dJ4_append_cf1ce_2 (fun v w hv C => ?_)
  obtain ⟨rfl, k1, q1, n1, r1, r2⟩ := hv
  exact X_retAP (P := P) (pc := 5) C (Or.inl ⟨_, rfl⟩) (Nat.le_of_ble_eq_true rfl) (Nat.le_of_ble_eq_true rfl) dJ4_append_cf1ce_5 ⟨rfl, k1, q1, n1, r1, r2⟩
abbrev rq_i5 : Room := { frames := 7, cells := 2, slots := 2300, locals := 270 }
abbrev rq_i4 : Room := { frames := 8, cells := 2, slots := 2300, locals := 300 }
set_option maxRecDepth 100000 in
set_option maxHeartbeats 4000000 in
theorem c_J5_initS (l : Launch) (P : XP) (σ : XS) (i b : Nat) (he : (xRaw P)[i]? = some (b, .inr (7, [.null, .int 0, .int 0, .int 0]))) (g : Nat) (hq : g < 15) (hg : xln g ≤ 100) : XMP l yJ5_init_a7421 cJ5_init_a7421 5 none rq_i5 P [.ref b, .ref (xK P g)] σ (fun v w => v = none ∧ ∃ k1 q1 n1 : Nat, isSB w (P.2.1 4) i k1 b q1 (tx g) n1 ∧ ((xRaw P).length ≤ w.length ∧ (xRaw P).length ≤ k1) ∧ ∀ j, j < (xRaw P).length → j ≠ i → w[j]? = (xRaw P)[j]?) := by
  have e1 : nI (xln g) + 16 = nI (xln g + 16) := nI_add _ 16
  refine XMP.of (by decide +kernel) (Nat.le_of_ble_eq_true rfl) (fun p e s m args below meth c A C hmn => ?_)
  replace C : XC p s m args meth c P A 5 RJ5 cJ5_init_a7421 none := C
  refine XW.eq (lv' := [(0, _), (1, _)]) rfl rfl rfl ?_
  refine X_aload_n (pc := 0) C 0 dJ5_init_a7421_0 rfl rfl ?_
  refine X_obj (pc := 1) C m_m_J5_3 ⟨Nat.le_of_ble_eq_true rfl, Nat.le_of_ble_eq_true rfl⟩ dJ5_init_a7421_1 ?_
  refine X_aload_n (pc := 4) C 1 dJ5_init_a7421_4 rfl rfl ?_
  refine X_callT (n := 0) (pc := 5) C hq [] (c_J0_length l P σ g hq) rfl m_c_J0_length_8abf5 m_m_J5_32 m_i_J0_length_8abf5 m_s_J0_length_8abf5 m_n_J0 ⟨by decide +kernel, by decide +kernel, by decide +kernel⟩ ⟨Nat.le_of_ble_eq_true rfl, Nat.le_of_ble_eq_true rfl⟩ ⟨rfl, rfl⟩ ⟨Nat.le_of_ble_eq_true rfl, Nat.le_of_ble_eq_true rfl⟩ rfl (Nat.le_of_ble_eq_true rfl) rfl dJ5_init_a7421_5 ?_
  refine X_istore_n (pc := 8) (lv1 := [(0, _), (1, _), (2, _)]) C 2 dJ5_init_a7421_8 rfl (by decide) rfl ?_
  refine X_iload_n (pc := 9) C 2 dJ5_init_a7421_9 rfl rfl ?_
  refine X_ldc (pc := 10) C m_k_J5_38 dJ5_init_a7421_10 ?_
  refine X_icmp_ge (pc := 12) C 22 dJ5_init_a7421_12 (by decide) (fun h12 => ?_) (fun h12 => ?_)
  · exact absurd h12 (show ¬ nI 2147483631 ≤ nI _ from nI_ge (by omega) (by decide))
  · skip
    refine X_iload_n (pc := 15) C 2 dJ5_init_a7421_15 rfl rfl ?_
    refine X_bipush (pc := 16) (v := 16) C dJ5_init_a7421_16 (by decide) ?_
    refine X_iadd (pc := 18) C dJ5_init_a7421_18 ?_
    rw [e1]
    refine X_goto (pc := 19) C 24 dJ5_init_a7421_19 (by decide) ?_
    refine X_istore_n (pc := 24) (lv1 := [(0, _), (1, _), (2, _), (3, _)]) C 3 dJ5_init_a7421_24 rfl (by decide) rfl ?_
    refine X_aload_n (pc := 25) C 1 dJ5_init_a7421_25 rfl rfl ?_
    refine X_callT (n := 0) (pc := 26) C hq [] (c_J0_coder l P σ g hq) rfl m_c_J0_coder_7d493 m_m_J5_40 m_i_J0_coder_7d493 m_s_J0_coder_7d493 m_n_J0 ⟨by decide +kernel, by decide +kernel, by decide +kernel⟩ ⟨Nat.le_of_ble_eq_true rfl, Nat.le_of_ble_eq_true rfl⟩ ⟨rfl, rfl⟩ ⟨Nat.le_of_ble_eq_true rfl, Nat.le_of_ble_eq_true rfl⟩ rfl (Nat.le_of_ble_eq_true rfl) rfl dJ5_init_a7421_26 ?_
    refine X_istore (pc := 29) (lv1 := [(0, _), (1, _), (2, _), (3, _), (4, _)]) C dJ5_init_a7421_29 (by decide) rfl ?_
    refine X_aload_n (pc := 31) C 0 dJ5_init_a7421_31 rfl rfl ?_
    refine X_iload (pc := 32) C dJ5_init_a7421_32 rfl ?_
    refine X_rput (P := P) (pc := 34) C i 1 tyJ4 tyJ4_ok nmJ4 he rfl inJ4 (by decide) (Nat.le_of_ble_eq_true rfl) m_f_J5_22 rfl rfl rfl dJ5_init_a7421_34 (fun C => ?_)
    refine X_aload_n (pc := 37) C 0 dJ5_init_a7421_37 rfl rfl ?_
    refine X_iload (pc := 38) C dJ5_init_a7421_38 rfl ?_
    refine X_if_ne (pc := 40) C 49 dJ5_init_a7421_40 (by decide) (fun h40 => ?_) (fun h40 => ?_)
    · exact absurd rfl h40
    · skip
      refine X_iload_n (pc := 43) C 3 dJ5_init_a7421_43 rfl rfl ?_
      refine X_newB (n := xln g + 16) (P := xPR P _) (pc := 44) C rfl (by omega) ⟨Nat.le_of_ble_eq_true rfl, by show 0 + (xln g + 16) ≤ 2300; omega⟩ dJ5_init_a7421_44 (fun a C => ?_)
      refine X_goto (pc := 46) C 53 dJ5_init_a7421_46 (by decide) ?_
      refine X_rput (P := xPR P _) (pc := 53) C i 0 tyJ4 tyJ4_ok nmJ4 (push_old (set_at he)) rfl inJ4 (by decide) (Nat.le_of_ble_eq_true rfl) m_f_J5_15 rfl rfl rfl dJ5_init_a7421_53 (fun C => ?_)
      refine X_aload_n (pc := 56) C 0 dJ5_init_a7421_56 rfl rfl ?_
      refine X_aload_n (pc := 57) C 1 dJ5_init_a7421_57 rfl rfl ?_
      have hil := w_lt he
      have hs1 : isSB (((xRaw P).set i (b, .inr (7, [.null, .int 0, .int 0, .int 0])) ++ ([(a, .inl (P.2.1 4, xln g + 16, .inl (fun _ => 0)))] : va_W)).set i (b, .inr (7, [.ref a, .int 0, .int 0, .int 0]))) (P.2.1 4) i (xRaw P).length b a [] (xln g + 16) := ⟨set_at (push_old (set_at he)), by omega, Nat.zero_le _, Nat.zero_le _, by omega, _, (set_ne (by omega)).trans (by have := push_at (w := (xRaw P).set i (b, .inr (7, [.null, .int 0, .int 0, .int 0]))) (q := ((a, .inl (P.2.1 4, xln g + 16, .inl (fun _ => 0))) : Nat × va_E)); rw [List.length_set] at this; exact this), fun j hj => absurd hj (Nat.not_lt_zero _), fun _ => rfl⟩
      refine X_callUP (x := yJ5_append_cf1ce) (y := yJ4_append_cf1ce) (n := 1) (P := xPR P _) (pc := 58) C i [.ref _] (c_J4_appendA l (xPR P _) σ i _ b a [] _ hs1 g hq (by show 0 + xln g ≤ 1000; omega)) m_c_J4_append_cf1ce m_m_J5_43 m_q_J5_append_cf1ce m_i_J5_append_cf1ce m_c_J5_append_cf1ce m_i_J4_append_cf1ce (C.hts _ m_z_J5_append_cf1ce) m_n_J4 ⟨by decide +kernel, by decide +kernel, by decide +kernel⟩ ⟨Nat.le_of_ble_eq_true rfl, Nat.le_of_ble_eq_true rfl⟩ ⟨Nat.le_of_ble_eq_true rfl, by show 0 + (xln g + 16) + 2100 ≤ 2300; omega⟩ hs1.1 rfl (Nat.le_of_ble_eq_true rfl) rfl dJ5_init_a7421_58 (fun v w hv C => ?_)
      obtain ⟨rfl, k1, q1, n1, r1, r2⟩ := hv
      refine X_pop (pc := 61) C dJ5_init_a7421_61 rfl ?_
      refine X_retVP (P := P) (pc := 62) C (Nat.le_of_ble_eq_true rfl) (by show 0 + (xln g + 16) + 2100 ≤ 2300; omega) dJ5_init_a7421_62 ⟨rfl, k1, q1, n1, r1, ⟨Nat.le_trans (by rw [List.length_set, List.length_append, List.length_set]; omega) r2.1.1, by
        rcases r2.2 with z | z
        · omega
        · refine Nat.le_trans ?_ z
          rw [List.length_set, List.length_append, List.length_set]; omega⟩, fun j hj z => ?_⟩
      rw [r2.1.2 j (by rw [List.length_set, List.length_append, List.length_set]; omega) z (by omega), set_ne z, List.getElem?_append_left (by rw [List.length_set]; exact hj), set_ne z]
set_option maxRecDepth 100000 in
set_option maxHeartbeats 4000000 in
theorem c_J4_initS (l : Launch) (P : XP) (σ : XS) (i b : Nat) (he : (xRaw P)[i]? = some (b, .inr (7, [.null, .int 0, .int 0, .int 0]))) (g : Nat) (hq : g < 15) (hg : xln g ≤ 100) : XMP l yJ4_init_a7421 cJ4_init_a7421 2 none rq_i4 P [.ref b, .ref (xK P g)] σ (fun v w => v = none ∧ ∃ k1 q1 n1 : Nat, isSB w (P.2.1 4) i k1 b q1 (tx g) n1 ∧ ((xRaw P).length ≤ w.length ∧ (xRaw P).length ≤ k1) ∧ ∀ j, j < (xRaw P).length → j ≠ i → w[j]? = (xRaw P)[j]?) := by
  refine XMP.of (by decide +kernel) (Nat.le_of_ble_eq_true rfl) (fun p e s m args below meth c A C hmn => ?_)
  replace C : XC p s m args meth c P A 2 RJ4 cJ4_init_a7421 none := C
  refine XW.eq (lv' := [(0, _), (1, _)]) rfl rfl rfl ?_
  refine X_aload_n (pc := 0) C 0 dJ4_init_a7421_0 rfl rfl ?_
  refine X_aload_n (pc := 1) C 1 dJ4_init_a7421_1 rfl rfl ?_
  refine X_callIP (P := P) (n := 1) (pc := 2) C [.ref _] (c_J5_initS l P σ i b he g hq hg) m_c_J5_init_a7421 m_m_J4_7 rfl m_i_J5_init_a7421 m_n_J5 ⟨by decide +kernel, by decide +kernel, by decide +kernel⟩ ⟨Nat.le_of_ble_eq_true rfl, Nat.le_of_ble_eq_true rfl⟩ ⟨Nat.le_of_ble_eq_true rfl, Nat.le_of_ble_eq_true rfl⟩ rfl (Nat.le_of_ble_eq_true rfl) rfl dJ4_init_a7421_2 (fun v w hv C => ?_)
  obtain ⟨rfl, r⟩ := hv
  exact X_retVP (P := P) (pc := 5) C (Nat.le_of_ble_eq_true rfl) (Nat.le_of_ble_eq_true rfl) dJ4_init_a7421_5 ⟨rfl, r⟩
end XP29

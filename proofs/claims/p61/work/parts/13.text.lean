/-! TEXTS: the nine constants, String.length and charAt -/
abbrev xK (P : XP) (q : Nat) : Nat := P.2.2.2.2.1 q
abbrev xV (P : XP) (q : Nat) : Nat := P.2.2.2.2.2.1 q
/-- letter j of text q -/
def xch (q j : Nat) : Int32 := (xByt.getD q []).getD j 0
def xln (q : Nat) : Nat := xLen.getD q 0
theorem xch_ok : ∀ q, q < 15 → ∀ j, j < xln q → ((xch q j &&& 255).toUInt32 % 65536).toInt32 = xch q j ∧ narrow .char (.int (xch q j)) = .int (xch q j) := by decide +kernel
theorem xln_le : ∀ q, q < 15 → xln q ≤ 1000 := by decide +kernel
section XTXT
variable {p : Program} {l : Launch} {e : Env} {R : Room} {s : State} {m : MethodId} {args : Array Value} {below : List Frame} {meth : Method} {c : Code} {P : XP} {A : Nat → Prop} {nL cells slots : Nat} {Q : State → Prop} {own : String} {cc : ByteArray} {ret : Option FieldType} {σ : XS} {pc : Nat} {lv : List (Nat × Value)} {st : List Value}
theorem X_getsC (C : XC p s m args meth c P A nL own cc ret) {idx : Nat} (hf : Cond.fieldLink own idx "java/lang/String" "COMPACT_STRINGS" "Z" ∈ xTB) (d : decode cc pc = .ok (.getstatic idx, 3)) (k : XW p l e R s m args below meth c P A nL cells slots Q σ (pc + 3) lv (.int 1 :: st)) : XW p l e R s m args below meth c P A nL cells slots Q σ pc lv st := fun H locs ls hP hS hl => va_gets C.1 C.2.1 C.hE.2.1.2.1 hS C.2.2.2.1 (C.hts _ hf) (fun _ h => h) d (k H locs ls hP hS hl)
theorem X_getsF (C : XC p s m args meth c P A nL own cc ret) {idx : Nat} (hf : Cond.fieldLink own idx "jdk/internal/util/Preconditions" "SIOOBE_FORMATTER" "Ljava/util/function/BiFunction;" ∈ xTB) (d : decode cc pc = .ok (.getstatic idx, 3)) (k1 : XW p l e R s m args below meth c P A nL cells slots Q σ (pc + 3) lv (.null :: st)) (k2 : ∀ t : Nat, XW p l e R s m args below meth c P A nL cells slots Q σ (pc + 3) lv (.ref t :: st)) : XW p l e R s m args below meth c P A nL cells slots Q σ pc lv st := fun H locs ls hP hS hl => by
  rcases C.hE.2.1.2.2.1 with h | ⟨t, h⟩
  · exact va_gets C.1 C.2.1 h hS C.2.2.2.1 (C.hts _ hf) (fun _ h => h) d (k1 H locs ls hP hS hl)
  · exact va_gets C.1 C.2.1 h hS C.2.2.2.1 (C.hts _ hf) (fun _ h => h) d (k2 t H locs ls hP hS hl)
theorem X_tval (C : XC p s m args meth c P A nL own cc ret) {q idx : Nat} (hq : q < 15) (hf : Cond.fieldLink own idx "java/lang/String" "value" "[B" ∈ xTB) (d : decode cc pc = .ok (.getfield idx, 3)) (k : XW p l e R s m args below meth c P A nL cells slots Q σ (pc + 3) lv (.ref (xV P q) :: st)) : XW p l e R s m args below meth c P A nL cells slots Q σ pc lv (.ref (xK P q) :: st) := fun H locs ls hP hS hl => vk_getf C.1 C.2.1 (C.hE.2.1.1.1 q hq).2.2.1 hS C.2.2.2.1 (C.hts _ hf) (fun _ h => h) d (k H locs ls hP hS hl)
theorem X_tcod (C : XC p s m args meth c P A nL own cc ret) {q idx : Nat} (hq : q < 15) (hf : Cond.fieldLink own idx "java/lang/String" "coder" "B" ∈ xTB) (d : decode cc pc = .ok (.getfield idx, 3)) (k : XW p l e R s m args below meth c P A nL cells slots Q σ (pc + 3) lv (.int 0 :: st)) : XW p l e R s m args below meth c P A nL cells slots Q σ pc lv (.ref (xK P q) :: st) := fun H locs ls hP hS hl => vk_getf C.1 C.2.1 (C.hE.2.1.1.1 q hq).2.1 hS C.2.2.2.1 (C.hts _ hf) (fun _ h => h) d (k H locs ls hP hS hl)
theorem X_tlen (C : XC p s m args meth c P A nL own cc ret) {q : Nat} (hq : q < 15) (d : decode cc pc = .ok (.arraylength, 1)) (k : XW p l e R s m args below meth c P A nL cells slots Q σ (pc + 1) lv (.int (nI (xln q)) :: st)) : XW p l e R s m args below meth c P A nL cells slots Q σ pc lv (.ref (xV P q) :: st) := fun H locs ls hP hS hl => va_tlen C.1 C.2.1 (C.hE.2.1.1.1 q hq).2.2.2 hS rfl d (k H locs ls hP hS hl)
theorem X_tald (C : XC p s m args meth c P A nL own cc ret) {q j : Nat} (hq : q < 15) (hj : j < xln q) (d : decode cc pc = .ok (.baload, 1)) (k : XW p l e R s m args below meth c P A nL cells slots Q σ (pc + 1) lv (.int (xch q j) :: st)) : XW p l e R s m args below meth c P A nL cells slots Q σ pc lv (.int (nI j) :: .ref (xV P q) :: st) := fun H locs ls hP hS hl => by
  have hb : xLen.getD q 0 ≤ 1000 := xln_le q hq
  have hj2 : j < xLen.getD q 0 := hj
  exact va_tb C.1 C.2.1 (C.hE.2.1.1.1 q hq).2.2.2 hS (vp_in_nI hj (by omega)) (by rw [nI_clamp (by omega)]; rfl) d (k H locs ls hP hS hl)
theorem X_callT (C : XC p s m args meth c P A nL own cc ret) {y : MethodName} {cy : ByteArray} {ny : Nat} {ry : Option FieldType} {rm : Room} {q : Nat} (hq : q < 15) (As : List Value) {n index : Nat} {v1 : Option Value} {σ1 : XS} (hM : XF l y cy ny ry rm P (.ref (xK P q) :: As) σ v1 σ1) (hcl0 : y.cls = "java/lang/String") (hc : Cond.code y cy ny ry ∈ xTB) (hlk : Cond.methodLink own index y ∈ xTB) (hin : Cond.instanceMethod y ∈ xTB) (hse : Cond.selects y.cls y y ∈ xTB) (hini : Cond.initialized y.cls ∈ xTB) (hd : y.cls ≠ "java/lang/invoke/MethodHandle" ∧ y.cls ≠ "java/lang/invoke/VarHandle" ∧ (parseMethodDescriptor y.desc).map (fun d => d.parameters.length) = some n) (hR : rm.frames + 1 ≤ R.frames ∧ 8 + (ny + 11) + rm.locals ≤ R.locals) (h0 : rm.cells = 0 ∧ rm.slots = 0) (hcl : cells ≤ R.cells ∧ slots ≤ R.slots)
    (hn : As.length = n) (hst : (st.map fun v => v.category).sum ≤ 8) {st0 : List Value} (hs0 : st0 = As.reverse ++ .ref (xK P q) :: st) (d : decode cc pc = .ok (.invokevirtual index, 3)) (k : XW p l e R s m args below meth c P A nL cells slots Q σ1 (pc + 3) lv (v1.toList ++ st)) : XW p l e R s m args below meth c P A nL cells slots Q σ pc lv st0 := by
  intro H locs ls hP hS hl
  subst hs0
  have hrecv := vk_recv C.hE.2.1.1 hq hS
  rw [← hcl0] at hrecv
  exact X_after (σ := σ) C hS hl (va_runV (C := y.cls) (As := As) (rest := st) ⟨C.1, C.2.1, C.2.2.1, C.2.2.2.1, C.hts⟩ (hM H.size) ⟨callB_of n C.hts (xGood hc) rfl rfl rfl (C.hts _ hini) (C.hts _ hlk) hd hR, C.hts _ hin, C.hts _ hse⟩ ⟨xBlind, hrecv, fun U hU hW => ⟨rfl, xPre_at C hP hS hU hW⟩⟩ rfl hn hl.1 rfl (lv_room hst) d (by rw [h0.1, h0.2]; exact hcl)) (fun v9 σ9 h9 => by obtain ⟨rfl, rfl⟩ := h9; rw [h0.1, h0.2]; exact k)
theorem X_callJ (C : XC p s m args meth c P A nL own cc ret) {y : MethodName} {cy : ByteArray} {ny : Nat} {ry : Option FieldType} {rm : Room} (As : List Value) {n index : Nat} {v1 : Option Value} {σ1 : XS} (hM : XF l y cy ny ry rm P As σ v1 σ1) (hc : Cond.code y cy ny ry ∈ xTB) (hlk : Cond.methodLink own index y ∈ xTB) (hin : Cond.static y ∈ xTB) (hini : Cond.initialized y.cls ∈ xTB) (hd : y.cls ≠ "java/lang/invoke/MethodHandle" ∧ y.cls ≠ "java/lang/invoke/VarHandle" ∧ (parseMethodDescriptor y.desc).map (fun d => d.parameters.length) = some n) (hR : rm.frames + 1 ≤ R.frames ∧ 8 + (ny + 11) + rm.locals ≤ R.locals) (h0 : rm.cells = 0 ∧ rm.slots = 0) (hcl : cells ≤ R.cells ∧ slots ≤ R.slots)
    (hn : As.length = n) (hst : (st.map fun v => v.category).sum ≤ 8) {st0 : List Value} (hs0 : st0 = As.reverse ++ st) (d : decode cc pc = .ok (.invokestatic index, 3)) (k : XW p l e R s m args below meth c P A nL cells slots Q σ1 (pc + 3) lv (v1.toList ++ st)) : XW p l e R s m args below meth c P A nL cells slots Q σ pc lv st0 := X_callS C As hM hc hlk hin hini hd hR (by rw [h0.1, h0.2]; exact hcl) hn hst hs0 d (fun v9 σ9 h9 => by obtain ⟨rfl, rfl⟩ := h9; rw [h0.1, h0.2]; exact k)
theorem X_ldcS (C : XC p s m args meth c P A nL own cc ret) {idx q : Nat} {tx : String} (h : (own, idx, tx, q) ∈ xRl) (d : decode cc pc = .ok (.ldc idx, 2)) (k : XW p l e R s m args below meth c P A nL cells slots Q σ (pc + 2) lv (.ref (xK P q) :: st)) : XW p l e R s m args below meth c P A nL cells slots Q σ pc lv st := fun H locs ls hP hS hl => va_ldcS C.1 C.2.1 C.2.2.2.1 (C.hE.2.2.1 _ h) d (k H locs ls hP hS hl)
end XTXT
section XP13
variable {p : Program} {l : Launch} {e : Env} {R : Room} {s : State} {m : MethodId} {args : Array Value} {below : List Frame} {meth : Method} {c : Code} {P : XP} {A : Nat → Prop} {nL cells slots : Nat} {Q : State → Prop} {cc : ByteArray} {ret : Option FieldType} {σ : XS} {pc : Nat} {lv : List (Nat × Value)} {st : List Value}
set_option maxRecDepth 100000 in
set_option maxHeartbeats 4000000 in
theorem c_J0_coder (l : Launch) (P : XP) (σ : XS) (q : Nat) (hq : q < 15) : XF l yJ0_coder_7d493 cJ0_coder_7d493 1 (some .byte) rm_J0_coder_7d493 P [.ref (xK P q)] σ (some (.int 0)) (σ) := by
  refine XM.of (by decide +kernel) (Nat.le_of_ble_eq_true rfl) (fun p e s m args below meth c A C => ?_)
  replace C : XC p s m args meth c P A 1 RJ0 cJ0_coder_7d493 (some .byte) := C
  refine XW.eq (lv' := [(0, _)]) rfl rfl rfl ?_
  refine X_getsC (pc := 0) C m_f_J0_38 dJ0_coder_7d493_0 ?_
  refine X_if_eq (pc := 3) C 13 dJ0_coder_7d493_3 (by decide) (fun h => absurd h (by decide)) (fun h => ?_)
  refine X_aload_n (pc := 6) C 0 dJ0_coder_7d493_6 rfl rfl ?_
  refine X_tcod (pc := 7) C hq m_f_J0_15 dJ0_coder_7d493_7 ?_
  refine X_goto (pc := 10) C 14 dJ0_coder_7d493_10 (by decide) ?_
  exact X_zret (pc := 14) C (Nat.zero_le _) (Nat.zero_le _) (rfl) dJ0_coder_7d493_14 ⟨rfl, rfl⟩

set_option maxRecDepth 100000 in
set_option maxHeartbeats 4000000 in
theorem c_J0_isLatin1 (l : Launch) (P : XP) (σ : XS) (q : Nat) (hq : q < 15) : XF l yJ0_isLatin1_aae02 cJ0_isLatin1_aae02 1 (some .boolean) rm_J0_isLatin1_aae02 P [.ref (xK P q)] σ (some (.int 1)) (σ) := by
  refine XM.of (by decide +kernel) (Nat.le_of_ble_eq_true rfl) (fun p e s m args below meth c A C => ?_)
  replace C : XC p s m args meth c P A 1 RJ0 cJ0_isLatin1_aae02 (some .boolean) := C
  refine XW.eq (lv' := [(0, _)]) rfl rfl rfl ?_
  refine X_getsC (pc := 0) C m_f_J0_38 dJ0_isLatin1_aae02_0 ?_
  refine X_if_eq (pc := 3) C 17 dJ0_isLatin1_aae02_3 (by decide) (fun h => absurd h (by decide)) (fun h => ?_)
  refine X_aload_n (pc := 6) C 0 dJ0_isLatin1_aae02_6 rfl rfl ?_
  refine X_tcod (pc := 7) C hq m_f_J0_15 dJ0_isLatin1_aae02_7 ?_
  refine X_if_ne (pc := 10) C 17 dJ0_isLatin1_aae02_10 (by decide) (fun h => absurd rfl h) (fun h => ?_)
  refine X_iconst (pc := 13) (v := 1) C dJ0_isLatin1_aae02_13 (by decide) ?_
  refine X_goto (pc := 14) C 18 dJ0_isLatin1_aae02_14 (by decide) ?_
  exact X_zret (pc := 18) C (Nat.zero_le _) (Nat.zero_le _) (rfl) dJ0_isLatin1_aae02_18 ⟨rfl, rfl⟩

set_option maxRecDepth 100000 in
set_option maxHeartbeats 4000000 in
theorem c_J0_length (l : Launch) (P : XP) (σ : XS) (q : Nat) (hq : q < 15) : XF l yJ0_length_8abf5 cJ0_length_8abf5 1 (some .int) rm_J0_length_8abf5 P [.ref (xK P q)] σ (some (.int (nI (xln q)))) (σ) := by
  refine XM.of (by decide +kernel) (Nat.le_of_ble_eq_true rfl) (fun p e s m args below meth c A C => ?_)
  replace C : XC p s m args meth c P A 1 RJ0 cJ0_length_8abf5 (some .int) := C
  refine XW.eq (lv' := [(0, _)]) rfl rfl rfl ?_
  refine X_aload_n (pc := 0) C 0 dJ0_length_8abf5_0 rfl rfl ?_
  refine X_tval (pc := 1) C hq m_f_J0_9 dJ0_length_8abf5_1 ?_
  refine X_tlen (pc := 4) C hq dJ0_length_8abf5_4 ?_
  refine X_aload_n (pc := 5) C 0 dJ0_length_8abf5_5 rfl rfl ?_
  refine X_callT (n := 0) (pc := 6) C hq [] (c_J0_coder l P σ q hq) rfl m_c_J0_coder_7d493 m_m_J0_335 m_i_J0_coder_7d493 m_s_J0_coder_7d493 m_n_J0 ⟨by decide +kernel, by decide +kernel, by decide +kernel⟩ ⟨Nat.le_of_ble_eq_true rfl, Nat.le_of_ble_eq_true rfl⟩ ⟨rfl, rfl⟩ ⟨Nat.zero_le _, Nat.zero_le _⟩ rfl (Nat.le_of_ble_eq_true rfl) rfl dJ0_length_8abf5_6 ?_
  refine X_ishr (pc := 9) C dJ0_length_8abf5_9 ?_
  exact X_iret (pc := 10) C (Nat.zero_le _) (Nat.zero_le _) dJ0_length_8abf5_10 ⟨by
      have h0 : nI (xln q) >>> ((0 : Int32) &&& 31) = nI (xln q) := by rw [pk_shrN (n31 (by have := xln_le q hq; omega)) _ 0 (by decide), Nat.pow_zero, Nat.div_one]
      rw [h0], rfl⟩

set_option maxRecDepth 100000 in
set_option maxHeartbeats 4000000 in
theorem c_J3_checkIndex_n (l : Launch) (P : XP) (σ : XS) (i n : Nat) (hi : i < n) (hn : n ≤ 1000) : XF l yJ3_checkIndex_8e157 cJ3_checkIndex_8e157 3 (some .int) rm_J3_checkIndex_8e157 P [.int (nI i), .int (nI n), .null] σ (some (.int (nI i))) (σ) := by
  refine XM.of (by decide +kernel) (Nat.le_of_ble_eq_true rfl) (fun p e s m args below meth c A C => ?_)
  replace C : XC p s m args meth c P A 3 RJ3 cJ3_checkIndex_8e157 (some .int) := C
  refine XW.eq (lv' := [(0, _), (1, _), (2, _)]) rfl rfl rfl ?_
  refine X_iload_n (pc := 0) C 0 dJ3_checkIndex_8e157_0 rfl rfl ?_
  refine X_if_lt (pc := 1) C 9 dJ3_checkIndex_8e157_1 (by decide) (fun h1 => ?_) (fun h1 => ?_)
  · exact absurd h1 (nI_pos (n31 (by omega)))
  · skip
    refine X_iload_n (pc := 4) C 0 dJ3_checkIndex_8e157_4 rfl rfl ?_
    refine X_iload_n (pc := 5) C 1 dJ3_checkIndex_8e157_5 rfl rfl ?_
    refine X_icmp_lt (pc := 6) C 16 dJ3_checkIndex_8e157_6 (by decide) (fun h6 => ?_) (fun h6 => ?_)
    · skip
      refine X_iload_n (pc := 16) C 0 dJ3_checkIndex_8e157_16 rfl rfl ?_
      exact X_iret (pc := 17) C (Nat.zero_le _) (Nat.zero_le _) dJ3_checkIndex_8e157_17 ⟨rfl, rfl⟩
    · exact absurd (nI_lt hi (n31 (by omega))) h6

set_option maxRecDepth 100000 in
set_option maxHeartbeats 4000000 in
theorem c_J3_checkIndex_r (l : Launch) (P : XP) (σ : XS) (i n : Nat) (hi : i < n) (hn : n ≤ 1000) (t : Nat) : XF l yJ3_checkIndex_8e157 cJ3_checkIndex_8e157 3 (some .int) rm_J3_checkIndex_8e157 P [.int (nI i), .int (nI n), .ref t] σ (some (.int (nI i))) (σ) := by
  refine XM.of (by decide +kernel) (Nat.le_of_ble_eq_true rfl) (fun p e s m args below meth c A C => ?_)
  replace C : XC p s m args meth c P A 3 RJ3 cJ3_checkIndex_8e157 (some .int) := C
  refine XW.eq (lv' := [(0, _), (1, _), (2, _)]) rfl rfl rfl ?_
  refine X_iload_n (pc := 0) C 0 dJ3_checkIndex_8e157_0 rfl rfl ?_
  refine X_if_lt (pc := 1) C 9 dJ3_checkIndex_8e157_1 (by decide) (fun h1 => ?_) (fun h1 => ?_)
  · exact absurd h1 (nI_pos (n31 (by omega)))
  · skip
    refine X_iload_n (pc := 4) C 0 dJ3_checkIndex_8e157_4 rfl rfl ?_
    refine X_iload_n (pc := 5) C 1 dJ3_checkIndex_8e157_5 rfl rfl ?_
    refine X_icmp_lt (pc := 6) C 16 dJ3_checkIndex_8e157_6 (by decide) (fun h6 => ?_) (fun h6 => ?_)
    · skip
      refine X_iload_n (pc := 16) C 0 dJ3_checkIndex_8e157_16 rfl rfl ?_
      exact X_iret (pc := 17) C (Nat.zero_le _) (Nat.zero_le _) dJ3_checkIndex_8e157_17 ⟨rfl, rfl⟩
    · exact absurd (nI_lt hi (n31 (by omega))) h6

set_option maxRecDepth 100000 in
set_option maxHeartbeats 4000000 in
theorem c_J0_checkIndex (l : Launch) (P : XP) (σ : XS) (i n : Nat) (hi : i < n) (hn : n ≤ 1000) : XF l yJ0_checkIndex_df160 cJ0_checkIndex_df160 2 none rm_J0_checkIndex_df160 P [.int (nI i), .int (nI n)] σ (none) (σ) := by
  refine XM.of (by decide +kernel) (Nat.le_of_ble_eq_true rfl) (fun p e s m args below meth c A C => ?_)
  replace C : XC p s m args meth c P A 2 RJ0 cJ0_checkIndex_df160 none := C
  refine XW.eq (lv' := [(0, _), (1, _)]) rfl rfl rfl ?_
  refine X_iload_n (pc := 0) C 0 dJ0_checkIndex_df160_0 rfl rfl ?_
  refine X_iload_n (pc := 1) C 1 dJ0_checkIndex_df160_1 rfl rfl ?_
  refine X_getsF (pc := 2) C m_f_J0_1053 dJ0_checkIndex_df160_2 ?_ (fun t => ?_)
  · skip
    refine X_callJ (n := 3) (pc := 5) C [.int _, .int _, .null] (c_J3_checkIndex_n l P σ i n hi hn) m_c_J3_checkIndex_8e157 m_m_J0_1059 m_t_J3_checkIndex_8e157 m_n_J3 ⟨by decide +kernel, by decide +kernel, by decide +kernel⟩ ⟨Nat.le_of_ble_eq_true rfl, Nat.le_of_ble_eq_true rfl⟩ ⟨rfl, rfl⟩ ⟨Nat.zero_le _, Nat.zero_le _⟩ rfl (Nat.le_of_ble_eq_true rfl) rfl dJ0_checkIndex_df160_5 ?_
    refine X_pop (pc := 8) C dJ0_checkIndex_df160_8 rfl ?_
    exact X_vret (pc := 9) C (Nat.zero_le _) (Nat.zero_le _) dJ0_checkIndex_df160_9 ⟨rfl, rfl⟩
  · skip
    refine X_callJ (n := 3) (pc := 5) C [.int _, .int _, .ref t] (c_J3_checkIndex_r l P σ i n hi hn t) m_c_J3_checkIndex_8e157 m_m_J0_1059 m_t_J3_checkIndex_8e157 m_n_J3 ⟨by decide +kernel, by decide +kernel, by decide +kernel⟩ ⟨Nat.le_of_ble_eq_true rfl, Nat.le_of_ble_eq_true rfl⟩ ⟨rfl, rfl⟩ ⟨Nat.zero_le _, Nat.zero_le _⟩ rfl (Nat.le_of_ble_eq_true rfl) rfl dJ0_checkIndex_df160_5 ?_
    refine X_pop (pc := 8) C dJ0_checkIndex_df160_8 rfl ?_
    exact X_vret (pc := 9) C (Nat.zero_le _) (Nat.zero_le _) dJ0_checkIndex_df160_9 ⟨rfl, rfl⟩

set_option maxRecDepth 100000 in
set_option maxHeartbeats 4000000 in
theorem c_J1_charAt (l : Launch) (P : XP) (σ : XS) (q j : Nat) (hq : q < 15) (hj : j < xln q) : XF l yJ1_charAt_3b067 cJ1_charAt_3b067 2 (some .char) rm_J1_charAt_3b067 P [.ref (xV P q), .int (nI j)] σ (some (.int (xch q j))) (σ) := by
  refine XM.of (by decide +kernel) (Nat.le_of_ble_eq_true rfl) (fun p e s m args below meth c A C => ?_)
  replace C : XC p s m args meth c P A 2 RJ1 cJ1_charAt_3b067 (some .char) := C
  refine XW.eq (lv' := [(0, _), (1, _)]) rfl rfl rfl ?_
  refine X_iload_n (pc := 0) C 1 dJ1_charAt_3b067_0 rfl rfl ?_
  refine X_aload_n (pc := 1) C 0 dJ1_charAt_3b067_1 rfl rfl ?_
  refine X_tlen (pc := 2) C hq dJ1_charAt_3b067_2 ?_
  refine X_callJ (n := 2) (pc := 3) C [.int _, .int _] (c_J0_checkIndex l P σ j (xln q) hj (xln_le q hq)) m_c_J0_checkIndex_df160 m_m_J1_9 m_t_J0_checkIndex_df160 m_n_J0 ⟨by decide +kernel, by decide +kernel, by decide +kernel⟩ ⟨Nat.le_of_ble_eq_true rfl, Nat.le_of_ble_eq_true rfl⟩ ⟨rfl, rfl⟩ ⟨Nat.zero_le _, Nat.zero_le _⟩ rfl (Nat.le_of_ble_eq_true rfl) rfl dJ1_charAt_3b067_3 ?_
  refine X_aload_n (pc := 6) C 0 dJ1_charAt_3b067_6 rfl rfl ?_
  refine X_iload_n (pc := 7) C 1 dJ1_charAt_3b067_7 rfl rfl ?_
  refine X_tald (pc := 8) C hq hj dJ1_charAt_3b067_8 ?_
  refine X_sipush (pc := 9) (v := 255) C dJ1_charAt_3b067_9 (by decide) ?_
  refine X_iand (pc := 12) C dJ1_charAt_3b067_12 ?_
  refine X_i2c (pc := 13) C dJ1_charAt_3b067_13 ?_
  rw [(xch_ok q hq j hj).1]
  exact X_zret (pc := 14) C (Nat.zero_le _) (Nat.zero_le _) ((xch_ok q hq j hj).2) dJ1_charAt_3b067_14 ⟨rfl, rfl⟩

set_option maxRecDepth 100000 in
set_option maxHeartbeats 4000000 in
theorem c_J0_charAt (l : Launch) (P : XP) (σ : XS) (q j : Nat) (hq : q < 15) (hj : j < xln q) : XF l yJ0_charAt_5068e cJ0_charAt_5068e 2 (some .char) rm_J0_charAt_5068e P [.ref (xK P q), .int (nI j)] σ (some (.int (xch q j))) (σ) := by
  refine XM.of (by decide +kernel) (Nat.le_of_ble_eq_true rfl) (fun p e s m args below meth c A C => ?_)
  replace C : XC p s m args meth c P A 2 RJ0 cJ0_charAt_5068e (some .char) := C
  refine XW.eq (lv' := [(0, _), (1, _)]) rfl rfl rfl ?_
  refine X_aload_n (pc := 0) C 0 dJ0_charAt_5068e_0 rfl rfl ?_
  refine X_callT (n := 0) (pc := 1) C hq [] (c_J0_isLatin1 l P σ q hq) rfl m_c_J0_isLatin1_aae02 m_m_J0_492 m_i_J0_isLatin1_aae02 m_s_J0_isLatin1_aae02 m_n_J0 ⟨by decide +kernel, by decide +kernel, by decide +kernel⟩ ⟨Nat.le_of_ble_eq_true rfl, Nat.le_of_ble_eq_true rfl⟩ ⟨rfl, rfl⟩ ⟨Nat.zero_le _, Nat.zero_le _⟩ rfl (Nat.le_of_ble_eq_true rfl) rfl dJ0_charAt_5068e_1 ?_
  refine X_if_eq (pc := 4) C 16 dJ0_charAt_5068e_4 (by decide) (fun h => absurd h (by decide)) (fun h => ?_)
  refine X_aload_n (pc := 7) C 0 dJ0_charAt_5068e_7 rfl rfl ?_
  refine X_tval (pc := 8) C hq m_f_J0_9 dJ0_charAt_5068e_8 ?_
  refine X_iload_n (pc := 11) C 1 dJ0_charAt_5068e_11 rfl rfl ?_
  refine X_callJ (n := 2) (pc := 12) C [.ref _, .int _] (c_J1_charAt l P σ q j hq hj) m_c_J1_charAt_3b067 m_m_J0_495 m_t_J1_charAt_3b067 m_n_J1 ⟨by decide +kernel, by decide +kernel, by decide +kernel⟩ ⟨Nat.le_of_ble_eq_true rfl, Nat.le_of_ble_eq_true rfl⟩ ⟨rfl, rfl⟩ ⟨Nat.zero_le _, Nat.zero_le _⟩ rfl (Nat.le_of_ble_eq_true rfl) rfl dJ0_charAt_5068e_12 ?_
  exact X_zret (pc := 15) C (Nat.zero_le _) (Nat.zero_le _) ((xch_ok q hq j hj).2) dJ0_charAt_5068e_15 ⟨rfl, rfl⟩

end XP13

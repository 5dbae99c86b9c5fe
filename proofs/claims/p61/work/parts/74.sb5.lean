section XP29B
variable {p : Program} {l : Launch} {e : Env} {R : Room} {s : State} {m : MethodId} {args : Array Value} {below : List Frame} {meth : Method} {c : Code} {P : XP} {A : Nat → Prop} {nL cells slots : Nat} {Q : State → Prop} {cc : ByteArray} {ret : Option FieldType} {σ : XS} {pc : Nat} {lv : List (Nat × Value)} {st : List Value}
variable {own : String}
theorem X_null (C : XC p s m args meth c P A nL own cc ret) (d : decode cc pc = .ok (.aconst_null, 1)) (k : XW p l e R s m args below meth c P A nL cells slots Q σ (pc + 1) lv (.null :: st)) : XW p l e R s m args below meth c P A nL cells slots Q σ pc lv st := fun H locs ls hP hS hl => lv_null C.1 C.2.1 d (k H locs ls hP hS hl)
theorem nmB (C : XC p s m args meth c P A nL own cc ret) : s.vm.findClass "[B" = some (P.2.1 4) := (C.hK.2 4 (P.2.1 4, .byte) rfl).2
theorem X_rclone (C : XC p s m args meth c P A nL RJ7 cc ret) (i : Nat) {a n : Nat} {f : Nat → Int32} (h : (xRaw P)[i]? = some (a, .inl (P.2.1 4, n, .inl f))) (hf : ∀ j, fits .byte (.int (f j)) = true) (hfr : 1 ≤ R.frames) (hlo : (st.map fun v => v.category).sum + 14 ≤ R.locals) (hcl : cells + 1 ≤ R.cells ∧ slots + n ≤ R.slots) (d : decode cc pc = .ok (.invokevirtual 310, 3))
    (kk : ∀ a2 : Nat, XC p s m args meth c (xPR P (xRaw P ++ [(a2, .inl (P.2.1 4, n, .inl f))])) A nL RJ7 cc ret → XW p l e R s m args below meth c (xPR P (xRaw P ++ [(a2, .inl (P.2.1 4, n, .inl f))])) A nL (cells + 1) (slots + n) Q σ (pc + 3) lv (.ref a2 :: st)) : XW p l e R s m args below meth c P A nL cells slots Q σ pc lv (.ref a :: st) := fun H locs ls hP hS hl => by
  refine va_clone C.1 C.2.1 (by rw [C.2.2.1]; exact hl.1.symm) C.2.2.2.1 (C.hts _ m_clone1) (C.hts _ m_clone2) (C.hts _ m_clone3) (C.hts _ m_clone4) (C.hts _ m_clone5) (C.hE.2.2.2.2.2.1 _ (by decide)) C.hK hP (C.hD σ) hS C.hA (P.2.2.2.1.length + i) 4 (ty := .byte) (x := (n, .inl f)) (xw_raw h) rfl (nmB C) (fun j v hj => ?_) hfr hlo hcl.1 hcl.2 d (fun q H1 _ hP1 hD1 hS1 => ?_)
  · rw [show vp_cell (P.2.1 4) (n, .inl f) = arrV (P.2.1 4) n (fun j => .int (f j)) from rfl] at hj
    have hn : j < n := by
      have h9 := (Array.getElem?_eq_some_iff.mp hj).1
      rw [arrV_size] at h9
      exact h9
    rw [arrV_read _ _ hn] at hj
    cases hj
    exact hf j
  · rw [xw_rpush] at hP1 hD1
    exact kk q (C.pr hD1) H1 locs ls hP1 hS1 hl
theorem X_castB (C : XC p s m args meth c P A nL RJ7 cc ret) (i : Nat) {a n : Nat} {f : Nat → Int32} (h : (xRaw P)[i]? = some (a, .inl (P.2.1 4, n, .inl f))) (d : decode cc pc = .ok (.checkcast 311, 3)) (kk : XW p l e R s m args below meth c P A nL cells slots Q σ (pc + 3) lv (.ref a :: st)) : XW p l e R s m args below meth c P A nL cells slots Q σ pc lv (.ref a :: st) := fun H locs ls hP hS hl =>
  va_castA C.1 C.2.1 C.2.2.2.1 (C.hts _ m_clone6) hP (P.2.2.2.1.length + i) (xw_raw h) (nmB C) d (kk H locs ls hP hS hl)
abbrev rq_cl : Room := { frames := 0, cells := 0, slots := 0, locals := 0 }
set_option maxRecDepth 100000 in
set_option maxHeartbeats 4000000 in
theorem c_J7_checkLength (l : Launch) (P : XP) (σ : XS) (n : Nat) (hn : n ≤ 1000000) : XF l yJ7_checkLength_df160 cJ7_checkLength_df160 2 none rq_cl P [.int 0, .int (nI n)] σ none σ := by
  refine XM.of (by decide +kernel) (Nat.le_of_ble_eq_true rfl) (fun p e s m args below meth c A C => ?_)
  replace C : XC p s m args meth c P A 2 RJ7 cJ7_checkLength_df160 none := C
  refine XW.eq (lv' := [(0, _), (1, _)]) rfl rfl rfl ?_
  refine X_iload_n (pc := 0) C 1 dJ7_checkLength_df160_0 rfl rfl ?_
  refine X_iload_n (pc := 1) C 0 dJ7_checkLength_df160_1 rfl rfl ?_
  refine X_icmp_ge (pc := 2) C 37 dJ7_checkLength_df160_2 (by decide) (fun h2 => ?_) (fun h2 => ?_)
  · skip
    exact X_vret (pc := 37) C (Nat.zero_le _) (Nat.zero_le _) dJ7_checkLength_df160_37 ⟨rfl, rfl⟩
  · exact absurd ((nI_leI (a := 0) (n31 (by omega)) (n31 hn)).mpr (Nat.zero_le n)) h2
abbrev rq_cb : Room := { frames := 1, cells := 1, slots := 2100, locals := 80 }
set_option maxRecDepth 100000 in
set_option maxHeartbeats 4000000 in
theorem c_J7_copyOfRangeB (l : Launch) (P : XP) (σ : XS) (q k n : Nat) (f : Nat → Int32) (hk : (xRaw P)[k]? = some (q, .inl (P.2.1 4, n, .inl f))) (hf : ∀ j, fits .byte (.int (f j)) = true) (N : Nat) (h1 : N ≤ n) (hb : n ≤ 2100) : XMP l yJ7_copyOfRangeByte_39247 cJ7_copyOfRangeByte_39247 5 (some (.array .byte)) rq_cb P [.ref q, .int 0, .int (nI N)] σ (fun v w => ∃ (a : Nat) (g : Nat → Int32), v = some (.ref a) ∧ w = xRaw P ++ [(a, .inl (P.2.1 4, N, .inl g))] ∧ ∀ j, j < N → g j = f j) := by
  have e1 : (if nI N < nI n then nI N else nI n) = nI N := by
    by_cases z : N < n
    · exact if_pos (nI_lt z (n31 (by omega)))
    · rw [show N = n by omega]; exact if_neg Int32.lt_irrefl
  refine XMP.of (by decide +kernel) (Nat.le_of_ble_eq_true rfl) (fun p e s m args below meth c A C hmn => ?_)
  replace C : XC p s m args meth c P A 5 RJ7 cJ7_copyOfRangeByte_39247 (some (.array .byte)) := C
  refine XW.eq (lv' := [(0, _), (1, _), (2, _)]) rfl rfl rfl ?_
  refine X_iload_n (pc := 0) C 1 dJ7_copyOfRangeByte_39247_0 rfl rfl ?_
  refine X_iload_n (pc := 1) C 2 dJ7_copyOfRangeByte_39247_1 rfl rfl ?_
  refine X_callJ (n := 2) (pc := 2) C [.int _, .int _] (c_J7_checkLength l P σ N (by omega)) m_c_J7_checkLength_df160 m_m_J7_343 m_t_J7_checkLength_df160 m_n_J7 ⟨by decide +kernel, by decide +kernel, by decide +kernel⟩ ⟨Nat.le_of_ble_eq_true rfl, Nat.le_of_ble_eq_true rfl⟩ ⟨rfl, rfl⟩ ⟨Nat.le_of_ble_eq_true rfl, Nat.le_of_ble_eq_true rfl⟩ rfl (Nat.le_of_ble_eq_true rfl) rfl dJ7_copyOfRangeByte_39247_2 ?_
  refine X_iload_n (pc := 5) C 2 dJ7_copyOfRangeByte_39247_5 rfl rfl ?_
  refine X_iload_n (pc := 6) C 1 dJ7_copyOfRangeByte_39247_6 rfl rfl ?_
  refine X_isub (pc := 7) C dJ7_copyOfRangeByte_39247_7 ?_
  rw [Int32.sub_zero]
  refine X_istore_n (pc := 8) (lv1 := [(0, _), (1, _), (2, _), (3, _)]) C 3 dJ7_copyOfRangeByte_39247_8 rfl (by decide) rfl ?_
  refine X_iload_n (pc := 9) C 3 dJ7_copyOfRangeByte_39247_9 rfl rfl ?_
  refine X_newB (n := N) (pc := 10) C rfl (by omega) ⟨Nat.le_of_ble_eq_true rfl, by show 0 + N ≤ 2100; omega⟩ dJ7_copyOfRangeByte_39247_10 (fun a C => ?_)
  refine X_astore (pc := 12) (lv1 := [(0, _), (1, _), (2, _), (3, _), (4, _)]) C dJ7_copyOfRangeByte_39247_12 (by decide) rfl ?_
  refine X_aload_n (pc := 14) C 0 dJ7_copyOfRangeByte_39247_14 rfl rfl ?_
  refine X_iload_n (pc := 15) C 1 dJ7_copyOfRangeByte_39247_15 rfl rfl ?_
  refine X_aload (pc := 16) C dJ7_copyOfRangeByte_39247_16 rfl ?_
  refine X_iconst (pc := 18) (v := 0) C dJ7_copyOfRangeByte_39247_18 (by decide) ?_
  refine X_aload_n (pc := 19) C 0 dJ7_copyOfRangeByte_39247_19 rfl rfl ?_
  refine X_rAlen (pc := 20) C k 4 (push_old hk) rfl dJ7_copyOfRangeByte_39247_20 ?_
  refine X_iload_n (pc := 21) C 1 dJ7_copyOfRangeByte_39247_21 rfl rfl ?_
  refine X_isub (pc := 22) C dJ7_copyOfRangeByte_39247_22 ?_
  rw [Int32.sub_zero]
  refine X_iload_n (pc := 23) C 3 dJ7_copyOfRangeByte_39247_23 rfl rfl ?_
  refine X_mmin (pc := 24) C m_m_J7_304 (Nat.le_of_ble_eq_true rfl) (Nat.le_of_ble_eq_true rfl) ⟨Nat.le_of_ble_eq_true rfl, by show 0 + N ≤ 2100; omega⟩ dJ7_copyOfRangeByte_39247_24 ?_
  rw [e1]
  refine X_rcopy (pc := 27) C k (xRaw P).length (sp := 0) (dp := 0) (n := N) (push_old hk) push_at m_m_J7_150 (by omega) (by omega) ⟨by omega, by omega⟩ (fun j _ => hf _) (Nat.le_of_ble_eq_true rfl) (Nat.le_of_ble_eq_true rfl) dJ7_copyOfRangeByte_39247_27 (fun C => ?_)
  refine X_aload (pc := 30) C dJ7_copyOfRangeByte_39247_30 rfl ?_
  exact X_retAP (P := P) (pc := 32) C (Or.inr ⟨_, rfl⟩) (Nat.le_of_ble_eq_true rfl) (by show 0 + N ≤ 2100; omega) dJ7_copyOfRangeByte_39247_32 ⟨a, _, rfl, set_push, fun j hj => by have := cpy_at (f := f) (g := fun _ => 0) (dp := 0) hj; rw [Nat.zero_add] at this; exact this⟩
abbrev rq_cr : Room := { frames := 2, cells := 1, slots := 2100, locals := 120 }
set_option maxRecDepth 100000 in
set_option maxHeartbeats 4000000 in
theorem c_J7_copyOfRange (l : Launch) (P : XP) (σ : XS) (q k n : Nat) (f : Nat → Int32) (hk : (xRaw P)[k]? = some (q, .inl (P.2.1 4, n, .inl f))) (hf : ∀ j, fits .byte (.int (f j)) = true) (N : Nat) (h1 : N ≤ n) (hb : n ≤ 2100) : XMP l yJ7_copyOfRange_39247 cJ7_copyOfRange_39247 3 (some (.array .byte)) rq_cr P [.ref q, .int 0, .int (nI N)] σ (fun v w => ∃ (a : Nat) (g : Nat → Int32), v = some (.ref a) ∧ w = xRaw P ++ [(a, .inl (P.2.1 4, N, .inl g))] ∧ ∀ j, j < N → g j = f j) := by
  refine XMP.of (by decide +kernel) (Nat.le_of_ble_eq_true rfl) (fun p e s m args below meth c A C hmn => ?_)
  replace C : XC p s m args meth c P A 3 RJ7 cJ7_copyOfRange_39247 (some (.array .byte)) := C
  refine XW.eq (lv' := [(0, _), (1, _), (2, _)]) rfl rfl rfl ?_
  refine X_iload_n (pc := 0) C 1 dJ7_copyOfRange_39247_0 rfl rfl ?_
  refine X_if_ne (pc := 1) C 10 dJ7_copyOfRange_39247_1 (by decide) (fun h1c => ?_) (fun h1c => ?_)
  · exact absurd rfl h1c
  · skip
    refine X_iload_n (pc := 4) C 2 dJ7_copyOfRange_39247_4 rfl rfl ?_
    refine X_aload_n (pc := 5) C 0 dJ7_copyOfRange_39247_5 rfl rfl ?_
    refine X_rAlen (pc := 6) C k 4 hk rfl dJ7_copyOfRange_39247_6 ?_
    refine X_icmp_eq (pc := 7) C 17 dJ7_copyOfRange_39247_7 (by decide) (fun h7 => ?_) (fun h7 => ?_)
    · skip
      refine X_aload_n (pc := 17) C 0 dJ7_copyOfRange_39247_17 rfl rfl ?_
      have eN : N = n := neq h7
      subst eN
      refine X_rclone (pc := 18) C k hk hf (Nat.le_of_ble_eq_true rfl) (Nat.le_of_ble_eq_true rfl) ⟨Nat.le_of_ble_eq_true rfl, by show 0 + N ≤ 2100; omega⟩ dJ7_copyOfRange_39247_18 (fun a C => ?_)
      refine X_castB (P := xPR P _) (pc := 21) C (xRaw P).length push_at dJ7_copyOfRange_39247_21 ?_
      exact X_retAP (P := P) (pc := 24) C (Or.inr ⟨_, rfl⟩) (Nat.le_of_ble_eq_true rfl) (by show 0 + N ≤ 2100; omega) dJ7_copyOfRange_39247_24 ⟨a, f, rfl, rfl, fun _ _ => rfl⟩
    · skip
      refine X_aload_n (pc := 10) C 0 dJ7_copyOfRange_39247_10 rfl rfl ?_
      refine X_iload_n (pc := 11) C 1 dJ7_copyOfRange_39247_11 rfl rfl ?_
      refine X_iload_n (pc := 12) C 2 dJ7_copyOfRange_39247_12 rfl rfl ?_
      refine X_callSP (P := P) (n := 3) (pc := 13) C [.ref _, .int _, .int _] (c_J7_copyOfRangeB l P σ q k n f hk hf N h1 hb) m_c_J7_copyOfRangeByte_39247 m_m_J7_339 m_t_J7_copyOfRangeByte_39247 m_n_J7 ⟨by decide +kernel, by decide +kernel, by decide +kernel⟩ ⟨Nat.le_of_ble_eq_true rfl, Nat.le_of_ble_eq_true rfl⟩ ⟨Nat.le_of_ble_eq_true rfl, Nat.le_of_ble_eq_true rfl⟩ rfl (Nat.le_of_ble_eq_true rfl) rfl dJ7_copyOfRange_39247_13 (fun v w hv C => ?_)
      obtain ⟨a, g, rfl, hw, hg⟩ := hv
      exact X_retAP (P := P) (pc := 16) C (Or.inr ⟨_, rfl⟩) (Nat.le_of_ble_eq_true rfl) (Nat.le_of_ble_eq_true rfl) dJ7_copyOfRange_39247_16 ⟨a, g, rfl, hw, hg⟩
/-- thing i is a String at a whose array k at q is the text t -/
def isStr (w : va_W) (c4 : ClassId) (i k a q : Nat) (t : List Int32) : Prop := w[i]? = some (a, .inr (8, [.ref q, .int 0, .int 0, .int 0])) ∧ t.length ≤ 1000 ∧ ∃ f : Nat → Int32, w[k]? = some (q, .inl (c4, t.length, .inl f)) ∧ ∀ j, j < t.length → f j = t.getD j 0
abbrev rq_n0 : Room := { frames := 3, cells := 1, slots := 2100, locals := 170 }
abbrev rq_n1 : Room := { frames := 4, cells := 1, slots := 2100, locals := 200 }
abbrev rq_n2 : Room := { frames := 5, cells := 2, slots := 2200, locals := 230 }
set_option maxRecDepth 100000 in
set_option maxHeartbeats 4000000 in
theorem c_J0_initA (l : Launch) (P : XP) (σ : XS) (i k b q : Nat) (t : List Int32) (n : Nat) (hs : isSB (xRaw P) (P.2.1 4) i k b q t n) (i2 a : Nat) (hi2 : (xRaw P)[i2]? = some (a, .inr (8, [.null, .int 0, .int 0, .int 0]))) : XMP l yJ0_init_db425 cJ0_init_db425 5 none rq_n0 P [.ref a, .ref b, .null] σ (fun v w => v = none ∧ ∃ q2 : Nat, isStr w (P.2.1 4) i2 (xRaw P).length a q2 t ∧ (xRaw P).length ≤ w.length ∧ ∀ j, j < (xRaw P).length → j ≠ i2 → w[j]? = (xRaw P)[j]?) := by
  have hs0 := hs
  obtain ⟨he, hik, h1, h2, h3, f, hk, hf1, hf2⟩ := hs
  have hi : ¬ i2 = i := fun z => by
    subst z
    rw [he] at hi2
    cases hi2
  have hki : ¬ k = i2 := fun z => by
    subst z
    rw [hk] at hi2
    cases hi2
  refine XMP.of (by decide +kernel) (Nat.le_of_ble_eq_true rfl) (fun p e s m args below meth c A C hmn => ?_)
  replace C : XC p s m args meth c P A 5 RJ0 cJ0_init_db425 none := C
  refine XW.eq (lv' := [(0, _), (1, _), (2, _)]) rfl rfl rfl ?_
  refine X_aload_n (pc := 0) C 0 dJ0_init_db425_0 rfl rfl ?_
  refine X_obj (pc := 1) C m_m_J0_1 ⟨Nat.le_of_ble_eq_true rfl, Nat.le_of_ble_eq_true rfl⟩ dJ0_init_db425_1 ?_
  refine X_aload_n (pc := 4) C 1 dJ0_init_db425_4 rfl rfl ?_
  refine X_callUP (x := yJ5_getValue_6d5f1) (y := yJ5_getValue_6d5f1) (n := 0) (P := P) (pc := 5) C i [] (c_J5_getValue l P σ i b q (nI t.length) he) m_c_J5_getValue_6d5f1 m_m_J0_552 m_q_J5_getValue_6d5f1 m_i_J5_getValue_6d5f1 m_c_J5_getValue_6d5f1 m_i_J5_getValue_6d5f1 (C.hts _ m_z_J5_getValue_6d5f1) m_n_J5 ⟨by decide +kernel, by decide +kernel, by decide +kernel⟩ ⟨Nat.le_of_ble_eq_true rfl, Nat.le_of_ble_eq_true rfl⟩ ⟨Nat.le_of_ble_eq_true rfl, Nat.le_of_ble_eq_true rfl⟩ he rfl (Nat.le_of_ble_eq_true rfl) rfl dJ0_init_db425_5 (fun v w hv C => ?_)
  obtain ⟨rfl, rfl⟩ := hv
  refine X_astore_n (pc := 8) (lv1 := [(0, _), (1, _), (2, _), (3, _)]) C 3 dJ0_init_db425_8 rfl (by decide) rfl ?_
  refine X_aload_n (pc := 9) C 1 dJ0_init_db425_9 rfl rfl ?_
  refine X_callUP (x := yJ5_length_8abf5) (y := yJ4_length_8abf5) (n := 0) (P := P) (pc := 10) C i [] (c_J4_length l P σ i b q (nI t.length) he) m_c_J4_length_8abf5 m_m_J0_549 m_q_J5_length_8abf5 m_i_J5_length_8abf5 m_c_J5_length_8abf5 m_i_J4_length_8abf5 (C.hts _ m_z_J5_length_8abf5) m_n_J4 ⟨by decide +kernel, by decide +kernel, by decide +kernel⟩ ⟨Nat.le_of_ble_eq_true rfl, Nat.le_of_ble_eq_true rfl⟩ ⟨Nat.le_of_ble_eq_true rfl, Nat.le_of_ble_eq_true rfl⟩ he rfl (Nat.le_of_ble_eq_true rfl) rfl dJ0_init_db425_10 (fun v w hv C => ?_)
  obtain ⟨rfl, rfl⟩ := hv
  refine X_istore (pc := 13) (lv1 := [(0, _), (1, _), (2, _), (3, _), (4, _)]) C dJ0_init_db425_13 (by decide) rfl ?_
  refine X_aload_n (pc := 15) C 1 dJ0_init_db425_15 rfl rfl ?_
  refine X_callUP (x := yJ5_isLatin1_aae02) (y := yJ5_isLatin1_aae02) (n := 0) (P := P) (pc := 16) C i [] (XMP.ofX (c_J5_isLatin1 l P σ i b q (nI t.length) he)) m_c_J5_isLatin1_aae02 m_m_J0_1047 m_q_J5_isLatin1_aae02 m_i_J5_isLatin1_aae02 m_c_J5_isLatin1_aae02 m_i_J5_isLatin1_aae02 (C.hts _ m_z_J5_isLatin1_aae02) m_n_J5 ⟨by decide +kernel, by decide +kernel, by decide +kernel⟩ ⟨Nat.le_of_ble_eq_true rfl, Nat.le_of_ble_eq_true rfl⟩ ⟨Nat.le_of_ble_eq_true rfl, Nat.le_of_ble_eq_true rfl⟩ he rfl (Nat.le_of_ble_eq_true rfl) rfl dJ0_init_db425_16 (fun v w hv C => ?_)
  obtain ⟨rfl, rfl⟩ := hv
  refine X_if_eq (pc := 19) C 41 dJ0_init_db425_19 (by decide) (fun h19 => ?_) (fun h19 => ?_)
  · exact absurd h19 (by decide)
  · skip
    refine X_aload_n (pc := 22) C 0 dJ0_init_db425_22 rfl rfl ?_
    refine X_iconst (pc := 23) (v := 0) C dJ0_init_db425_23 (by decide) ?_
    refine X_rputF (P := P) (pc := 24) C hmn i2 1 tyJ0 tyJ0_ok nmJ0 hi2 rfl inJ0 (by decide) (Nat.le_of_ble_eq_true rfl) m_f_J0_15 rfl rfl rfl rfl dJ0_init_db425_24 (fun C => ?_)
    refine X_aload_n (pc := 27) C 0 dJ0_init_db425_27 rfl rfl ?_
    refine X_aload_n (pc := 28) C 3 dJ0_init_db425_28 rfl rfl ?_
    refine X_iconst (pc := 29) (v := 0) C dJ0_init_db425_29 (by decide) ?_
    refine X_iload (pc := 30) C dJ0_init_db425_30 rfl ?_
    refine X_callSP (P := xPR P _) (n := 3) (pc := 32) C [.ref _, .int _, .int _] (c_J7_copyOfRange l (xPR P _) σ q k n f ((set_ne hki).trans hk) hf2 t.length h1 h3) m_c_J7_copyOfRange_39247 m_m_J0_54 m_t_J7_copyOfRange_39247 m_n_J7 ⟨by decide +kernel, by decide +kernel, by decide +kernel⟩ ⟨Nat.le_of_ble_eq_true rfl, Nat.le_of_ble_eq_true rfl⟩ ⟨Nat.le_of_ble_eq_true rfl, Nat.le_of_ble_eq_true rfl⟩ rfl (Nat.le_of_ble_eq_true rfl) rfl dJ0_init_db425_32 (fun v w hv C => ?_)
    obtain ⟨a3, g, rfl, rfl, hg⟩ := hv
    refine X_rputF (P := xPR P _) (pc := 35) C hmn i2 0 tyJ0 tyJ0_ok nmJ0 (push_old (set_at hi2)) rfl inJ0 (by decide) (Nat.le_of_ble_eq_true rfl) m_f_J0_9 rfl rfl rfl rfl dJ0_init_db425_35 (fun C => ?_)
    refine X_goto (pc := 38) C 97 dJ0_init_db425_38 (by decide) ?_
    have hl2 := w_lt hi2
    exact X_retVP (P := P) (pc := 97) C (Nat.le_of_ble_eq_true rfl) (Nat.le_of_ble_eq_true rfl) dJ0_init_db425_97 ⟨rfl, a3, ⟨set_at (push_old (set_at hi2)), h2, g, (set_ne (by omega)).trans (by have := push_at (w := (xRaw P).set i2 (a, .inr (8, [.null, .int 0, .int 0, .int 0]))) (q := (a3, .inl (P.2.1 4, t.length, .inl g))); rw [List.length_set] at this; exact this), fun j hj => (hg j hj).trans (hf1 j hj)⟩, by rw [List.length_set, List.length_append, List.length_set]; omega, fun j hj z => by rw [set_ne z, List.getElem?_append_left (by rw [List.length_set]; exact hj), set_ne z]⟩
set_option maxRecDepth 100000 in
set_option maxHeartbeats 4000000 in
theorem c_J0_initB (l : Launch) (P : XP) (σ : XS) (i k b q : Nat) (t : List Int32) (n : Nat) (hs : isSB (xRaw P) (P.2.1 4) i k b q t n) (i2 a : Nat) (hi2 : (xRaw P)[i2]? = some (a, .inr (8, [.null, .int 0, .int 0, .int 0]))) : XMP l yJ0_init_81219 cJ0_init_81219 2 none rq_n1 P [.ref a, .ref b] σ (fun v w => v = none ∧ ∃ q2 : Nat, isStr w (P.2.1 4) i2 (xRaw P).length a q2 t ∧ (xRaw P).length ≤ w.length ∧ ∀ j, j < (xRaw P).length → j ≠ i2 → w[j]? = (xRaw P)[j]?) := by
  refine XMP.of (by decide +kernel) (Nat.le_of_ble_eq_true rfl) (fun p e s m args below meth c A C hmn => ?_)
  replace C : XC p s m args meth c P A 2 RJ0 cJ0_init_81219 none := C
  refine XW.eq (lv' := [(0, _), (1, _)]) rfl rfl rfl ?_
  refine X_aload_n (pc := 0) C 0 dJ0_init_81219_0 rfl rfl ?_
  refine X_aload_n (pc := 1) C 1 dJ0_init_81219_1 rfl rfl ?_
  refine X_null (pc := 2) C dJ0_init_81219_2 ?_
  refine X_callIP (P := P) (n := 2) (pc := 3) C [.ref _, .null] (c_J0_initA l P σ i k b q t n hs i2 a hi2) m_c_J0_init_db425 m_m_J0_489 rfl m_i_J0_init_db425 m_n_J0 ⟨by decide +kernel, by decide +kernel, by decide +kernel⟩ ⟨Nat.le_of_ble_eq_true rfl, Nat.le_of_ble_eq_true rfl⟩ ⟨Nat.le_of_ble_eq_true rfl, Nat.le_of_ble_eq_true rfl⟩ rfl (Nat.le_of_ble_eq_true rfl) rfl dJ0_init_81219_3 (fun v w hv C => ?_)
  obtain ⟨rfl, r⟩ := hv
  exact X_retVP (P := P) (pc := 6) C (Nat.le_of_ble_eq_true rfl) (Nat.le_of_ble_eq_true rfl) dJ0_init_81219_6 ⟨rfl, r⟩
set_option maxRecDepth 100000 in
set_option maxHeartbeats 4000000 in
theorem c_J4_toString (l : Launch) (P : XP) (σ : XS) (i k b q : Nat) (t : List Int32) (n : Nat) (hs : isSB (xRaw P) (P.2.1 4) i k b q t n) : XMP l yJ4_toString_0e30d cJ4_toString_0e30d 1 (some (.object "java/lang/String")) rq_n2 P [.ref b] σ (fun v w => ∃ a i2 k2 q2 : Nat, v = some (.ref a) ∧ isStr w (P.2.1 4) i2 k2 a q2 t ∧ (xRaw P).length ≤ w.length ∧ ∀ j, j < (xRaw P).length → w[j]? = (xRaw P)[j]?) := by
  have hs0 := hs
  obtain ⟨he, hik, h1, h2, h3, f, hk, hf1, hf2⟩ := hs
  refine XMP.of (by decide +kernel) (Nat.le_of_ble_eq_true rfl) (fun p e s m args below meth c A C hmn => ?_)
  replace C : XC p s m args meth c P A 1 RJ4 cJ4_toString_0e30d (some (.object "java/lang/String")) := C
  refine XW.eq (lv' := [(0, _)]) rfl rfl rfl ?_
  refine X_newO (ci := 8) (P := P) (pc := 0) C tyJ0 tyJ0_ok inJ0 m_l_J4_18 m_x_J0 m_n_J0 rfl [.null, .int 0, .int 0, .int 0] (fun j hj => by match j, hj with | 0, _ => rfl | 1, _ => rfl | 2, _ => rfl | 3, _ => rfl) ⟨Nat.le_of_ble_eq_true rfl, Nat.le_of_ble_eq_true rfl⟩ dJ4_toString_0e30d_0 (fun a C => ?_)
  refine X_dup (pc := 3) C dJ4_toString_0e30d_3 rfl ?_
  refine X_aload_n (pc := 4) C 0 dJ4_toString_0e30d_4 rfl rfl ?_
  refine X_callIP (P := xPR P _) (n := 1) (pc := 5) C [.ref _] (c_J0_initB l (xPR P _) σ i k b q t n ⟨push_old he, hik, h1, h2, h3, f, push_old hk, hf1, hf2⟩ (xRaw P).length a push_at) m_c_J0_init_81219 m_m_J4_137 rfl m_i_J0_init_81219 m_n_J0 ⟨by decide +kernel, by decide +kernel, by decide +kernel⟩ ⟨Nat.le_of_ble_eq_true rfl, Nat.le_of_ble_eq_true rfl⟩ ⟨Nat.le_of_ble_eq_true rfl, Nat.le_of_ble_eq_true rfl⟩ rfl (Nat.le_of_ble_eq_true rfl) rfl dJ4_toString_0e30d_5 (fun v w hv C => ?_)
  obtain ⟨rfl, q2, r1, r2, r3⟩ := hv
  exact X_retAP (P := P) (pc := 8) C (Or.inl ⟨_, rfl⟩) (Nat.le_of_ble_eq_true rfl) (Nat.le_of_ble_eq_true rfl) dJ4_toString_0e30d_8 ⟨a, (xRaw P).length, _, q2, rfl, r1, Nat.le_trans (by rw [List.length_append]; omega) r2, fun j hj => (r3 j (by rw [List.length_append]; omega) (by omega)).trans (List.getElem?_append_left hj)⟩
/-- letters -/
def okT (t : List Int32) : Prop := ∀ j, j < t.length → ∃ x : Nat, x < 128 ∧ t.getD j 0 = nI x
theorem chr_c : ∀ x, x < 128 → ((nI x &&& 255).toUInt32 % 65536).toInt32 = nI x ∧ narrow .char (.int (nI x)) = .int (nI x) := by decide +kernel
abbrev rq_sc : Room := { frames := 0, cells := 0, slots := 0, locals := 0 }
abbrev rq_sl : Room := { frames := 1, cells := 0, slots := 0, locals := 24 }
set_option maxRecDepth 100000 in
set_option maxHeartbeats 4000000 in
theorem c_J0_coderR (l : Launch) (P : XP) (σ : XS) (i k a q : Nat) (t : List Int32) (hs : isStr (xRaw P) (P.2.1 4) i k a q t) : XF l yJ0_coder_7d493 cJ0_coder_7d493 1 (some .byte) rq_sc P [.ref a] σ (some (.int 0)) σ := by
  obtain ⟨he, -⟩ := hs
  refine XM.of (by decide +kernel) (Nat.le_of_ble_eq_true rfl) (fun p e s m args below meth c A C => ?_)
  replace C : XC p s m args meth c P A 1 RJ0 cJ0_coder_7d493 (some .byte) := C
  refine XW.eq (lv' := [(0, _)]) rfl rfl rfl ?_
  refine X_getsC (pc := 0) C m_f_J0_38 dJ0_coder_7d493_0 ?_
  refine X_if_eq (pc := 3) C 13 dJ0_coder_7d493_3 (by decide) (fun h3 => ?_) (fun h3 => ?_)
  · exact absurd h3 (by decide)
  · skip
    refine X_aload_n (pc := 6) C 0 dJ0_coder_7d493_6 rfl rfl ?_
    refine X_rget (pc := 7) C i 1 he rfl inJ0 (by decide) rfl m_f_J0_15 dJ0_coder_7d493_7 ?_
    refine X_goto (pc := 10) C 14 dJ0_coder_7d493_10 (by decide) ?_
    exact X_zret (pc := 14) C (Nat.zero_le _) (Nat.zero_le _) (rfl) dJ0_coder_7d493_14 ⟨rfl, rfl⟩
set_option maxRecDepth 100000 in
set_option maxHeartbeats 4000000 in
theorem c_J0_isLatin1R (l : Launch) (P : XP) (σ : XS) (i k a q : Nat) (t : List Int32) (hs : isStr (xRaw P) (P.2.1 4) i k a q t) : XF l yJ0_isLatin1_aae02 cJ0_isLatin1_aae02 1 (some .boolean) rq_sc P [.ref a] σ (some (.int 1)) σ := by
  obtain ⟨he, -⟩ := hs
  refine XM.of (by decide +kernel) (Nat.le_of_ble_eq_true rfl) (fun p e s m args below meth c A C => ?_)
  replace C : XC p s m args meth c P A 1 RJ0 cJ0_isLatin1_aae02 (some .boolean) := C
  refine XW.eq (lv' := [(0, _)]) rfl rfl rfl ?_
  refine X_getsC (pc := 0) C m_f_J0_38 dJ0_isLatin1_aae02_0 ?_
  refine X_if_eq (pc := 3) C 17 dJ0_isLatin1_aae02_3 (by decide) (fun h3 => ?_) (fun h3 => ?_)
  · exact absurd h3 (by decide)
  · skip
    refine X_aload_n (pc := 6) C 0 dJ0_isLatin1_aae02_6 rfl rfl ?_
    refine X_rget (pc := 7) C i 1 he rfl inJ0 (by decide) rfl m_f_J0_15 dJ0_isLatin1_aae02_7 ?_
    refine X_if_ne (pc := 10) C 17 dJ0_isLatin1_aae02_10 (by decide) (fun h10 => ?_) (fun h10 => ?_)
    · exact absurd rfl h10
    · skip
      refine X_iconst (pc := 13) (v := 1) C dJ0_isLatin1_aae02_13 (by decide) ?_
      refine X_goto (pc := 14) C 18 dJ0_isLatin1_aae02_14 (by decide) ?_
      exact X_zret (pc := 18) C (Nat.zero_le _) (Nat.zero_le _) (rfl) dJ0_isLatin1_aae02_18 ⟨rfl, rfl⟩
set_option maxRecDepth 100000 in
set_option maxHeartbeats 4000000 in
theorem c_J0_lengthR (l : Launch) (P : XP) (σ : XS) (i k a q : Nat) (t : List Int32) (hs : isStr (xRaw P) (P.2.1 4) i k a q t) : XF l yJ0_length_8abf5 cJ0_length_8abf5 1 (some .int) rq_sl P [.ref a] σ (some (.int (nI t.length))) σ := by
  have hs0 := hs
  obtain ⟨he0, hl9, f, hk, hf⟩ := hs
  refine XM.of (by decide +kernel) (Nat.le_of_ble_eq_true rfl) (fun p e s m args below meth c A C => ?_)
  replace C : XC p s m args meth c P A 1 RJ0 cJ0_length_8abf5 (some .int) := C
  refine XW.eq (lv' := [(0, _)]) rfl rfl rfl ?_
  refine X_aload_n (pc := 0) C 0 dJ0_length_8abf5_0 rfl rfl ?_
  refine X_rget (pc := 1) C i 0 he0 rfl inJ0 (by decide) rfl m_f_J0_9 dJ0_length_8abf5_1 ?_
  refine X_rAlen (pc := 4) C k 4 hk rfl dJ0_length_8abf5_4 ?_
  refine X_aload_n (pc := 5) C 0 dJ0_length_8abf5_5 rfl rfl ?_
  refine X_callVP (P := P) (n := 0) (q9 := (RJ0, TJ0, 4)) (pc := 6) C i [] (XMP.ofX (c_J0_coderR l P σ i k a q t hs0)) m_c_J0_coder_7d493 m_m_J0_335 m_i_J0_coder_7d493 m_s_J0_coder_7d493 m_n_J0 ⟨by decide +kernel, by decide +kernel, by decide +kernel⟩ ⟨Nat.le_of_ble_eq_true rfl, Nat.le_of_ble_eq_true rfl⟩ ⟨Nat.le_of_ble_eq_true rfl, Nat.le_of_ble_eq_true rfl⟩ he0 rfl rfl rfl (Nat.le_of_ble_eq_true rfl) rfl dJ0_length_8abf5_6 (fun v w hv C => ?_)
  obtain ⟨rfl, rfl⟩ := hv
  refine X_ishr (pc := 9) C dJ0_length_8abf5_9 ?_
  rw [sh_r0]
  exact X_iret (pc := 10) C (Nat.zero_le _) (Nat.zero_le _) dJ0_length_8abf5_10 ⟨rfl, rfl⟩
abbrev rq_c1 : Room := { frames := 2, cells := 0, slots := 0, locals := 60 }
abbrev rq_c0 : Room := { frames := 3, cells := 0, slots := 0, locals := 90 }
set_option maxRecDepth 100000 in
set_option maxHeartbeats 4000000 in
theorem c_J1_charAtR (l : Launch) (P : XP) (σ : XS) (k q n : Nat) (f : Nat → Int32) (hk : (xRaw P)[k]? = some (q, .inl (P.2.1 4, n, .inl f))) (j x : Nat) (hj : j < n) (hn : n ≤ 1000) (hx : x < 128) (hfx : f j = nI x) : XF l yJ1_charAt_3b067 cJ1_charAt_3b067 2 (some .char) rq_c1 P [.ref q, .int (nI j)] σ (some (.int (nI x))) σ := by
  refine XM.of (by decide +kernel) (Nat.le_of_ble_eq_true rfl) (fun p e s m args below meth c A C => ?_)
  replace C : XC p s m args meth c P A 2 RJ1 cJ1_charAt_3b067 (some .char) := C
  refine XW.eq (lv' := [(0, _), (1, _)]) rfl rfl rfl ?_
  refine X_iload_n (pc := 0) C 1 dJ1_charAt_3b067_0 rfl rfl ?_
  refine X_aload_n (pc := 1) C 0 dJ1_charAt_3b067_1 rfl rfl ?_
  refine X_rAlen (pc := 2) C k 4 hk rfl dJ1_charAt_3b067_2 ?_
  refine X_callJ (n := 2) (pc := 3) C [.int _, .int _] (c_J0_checkIndex l P σ j n hj hn) m_c_J0_checkIndex_df160 m_m_J1_9 m_t_J0_checkIndex_df160 m_n_J0 ⟨by decide +kernel, by decide +kernel, by decide +kernel⟩ ⟨Nat.le_of_ble_eq_true rfl, Nat.le_of_ble_eq_true rfl⟩ ⟨rfl, rfl⟩ ⟨Nat.le_of_ble_eq_true rfl, Nat.le_of_ble_eq_true rfl⟩ rfl (Nat.le_of_ble_eq_true rfl) rfl dJ1_charAt_3b067_3 ?_
  refine X_aload_n (pc := 6) C 0 dJ1_charAt_3b067_6 rfl rfl ?_
  refine X_iload_n (pc := 7) C 1 dJ1_charAt_3b067_7 rfl rfl ?_
  refine X_rBald (pc := 8) C k hk hj (by omega) dJ1_charAt_3b067_8 ?_
  rw [hfx]
  refine X_sipush (pc := 9) (v := 255) C dJ1_charAt_3b067_9 (by decide) ?_
  refine X_iand (pc := 12) C dJ1_charAt_3b067_12 ?_
  refine X_i2c (pc := 13) C dJ1_charAt_3b067_13 ?_
  rw [(chr_c x hx).1]
  exact X_zret (pc := 14) C (Nat.zero_le _) (Nat.zero_le _) ((chr_c x hx).2) dJ1_charAt_3b067_14 ⟨rfl, rfl⟩
set_option maxRecDepth 100000 in
set_option maxHeartbeats 4000000 in
theorem c_J0_charAtR (l : Launch) (P : XP) (σ : XS) (i k a q : Nat) (t : List Int32) (hs : isStr (xRaw P) (P.2.1 4) i k a q t) (ho : okT t) (j : Nat) (hj : j < t.length) : XF l yJ0_charAt_5068e cJ0_charAt_5068e 2 (some .char) rq_c0 P [.ref a, .int (nI j)] σ (some (.int (t.getD j 0))) σ := by
  have hs0 := hs
  obtain ⟨he0, hl9, f, hk, hf⟩ := hs
  obtain ⟨x, hx, ex⟩ := ho j hj
  rw [ex]
  refine XM.of (by decide +kernel) (Nat.le_of_ble_eq_true rfl) (fun p e s m args below meth c A C => ?_)
  replace C : XC p s m args meth c P A 2 RJ0 cJ0_charAt_5068e (some .char) := C
  refine XW.eq (lv' := [(0, _), (1, _)]) rfl rfl rfl ?_
  refine X_aload_n (pc := 0) C 0 dJ0_charAt_5068e_0 rfl rfl ?_
  refine X_callVP (P := P) (n := 0) (q9 := (RJ0, TJ0, 4)) (pc := 1) C i [] (XMP.ofX (c_J0_isLatin1R l P σ i k a q t hs0)) m_c_J0_isLatin1_aae02 m_m_J0_492 m_i_J0_isLatin1_aae02 m_s_J0_isLatin1_aae02 m_n_J0 ⟨by decide +kernel, by decide +kernel, by decide +kernel⟩ ⟨Nat.le_of_ble_eq_true rfl, Nat.le_of_ble_eq_true rfl⟩ ⟨Nat.le_of_ble_eq_true rfl, Nat.le_of_ble_eq_true rfl⟩ he0 rfl rfl rfl (Nat.le_of_ble_eq_true rfl) rfl dJ0_charAt_5068e_1 (fun v w hv C => ?_)
  obtain ⟨rfl, rfl⟩ := hv
  refine X_if_eq (pc := 4) C 16 dJ0_charAt_5068e_4 (by decide) (fun h4 => ?_) (fun h4 => ?_)
  · exact absurd h4 (by decide)
  · skip
    refine X_aload_n (pc := 7) C 0 dJ0_charAt_5068e_7 rfl rfl ?_
    refine X_rget (P := P) (pc := 8) C i 0 he0 rfl inJ0 (by decide) rfl m_f_J0_9 dJ0_charAt_5068e_8 ?_
    refine X_iload_n (pc := 11) C 1 dJ0_charAt_5068e_11 rfl rfl ?_
    refine X_callJ (P := P) (n := 2) (pc := 12) C [.ref _, .int _] (c_J1_charAtR l P σ k q t.length f hk j x hj hl9 hx ((hf j hj).trans ex)) m_c_J1_charAt_3b067 m_m_J0_495 m_t_J1_charAt_3b067 m_n_J1 ⟨by decide +kernel, by decide +kernel, by decide +kernel⟩ ⟨Nat.le_of_ble_eq_true rfl, Nat.le_of_ble_eq_true rfl⟩ ⟨rfl, rfl⟩ ⟨Nat.le_of_ble_eq_true rfl, Nat.le_of_ble_eq_true rfl⟩ rfl (Nat.le_of_ble_eq_true rfl) rfl dJ0_charAt_5068e_12 ?_
    exact X_zret (pc := 15) C (Nat.zero_le _) (Nat.zero_le _) ((chr_c x hx).2) dJ0_charAt_5068e_15 ⟨rfl, rfl⟩
end XP29B

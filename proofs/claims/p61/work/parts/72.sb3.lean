section XP28
variable {p : Program} {l : Launch} {e : Env} {R : Room} {s : State} {m : MethodId} {args : Array Value} {below : List Frame} {meth : Method} {c : Code} {P : XP} {A : Nat → Prop} {nL cells slots : Nat} {Q : State → Prop} {cc : ByteArray} {ret : Option FieldType} {σ : XS} {pc : Nat} {lv : List (Nat × Value)} {st : List Value}
variable {own : String}
theorem X_ifnonnull (C : XC p s m args meth c P A nL own cc ret) {x : Nat} {off : Int} (tgt : Nat) (d : decode cc pc = .ok (.ifnonnull off, 3)) (ht : (pc : Int) + off = (tgt : Int)) (k : XW p l e R s m args below meth c P A nL cells slots Q σ tgt lv st) : XW p l e R s m args below meth c P A nL cells slots Q σ pc lv (.ref x :: st) := fun H locs ls hP hS hl => lv_ifnonnull C.1 C.2.1 d ht (k H locs ls hP hS hl)
abbrev rq_in : Room := { frames := 1, cells := 0, slots := 0, locals := 30 }
set_option maxRecDepth 100000 in
set_option maxHeartbeats 4000000 in
theorem c_J5_inflateIf (l : Launch) (P : XP) (σ : XS) (i b q : Nat) (cn : Int32) (he : (xRaw P)[i]? = some (b, .inr (7, [.ref q, .int 0, .int 0, .int cn]))) (g : Nat) (hq : g < 15) : XF l yJ5_inflateIfNeededFor_a7421 cJ5_inflateIfNeededFor_a7421 2 none rq_in P [.ref b, .ref (xK P g)] σ none σ := by
  refine XM.of (by decide +kernel) (Nat.le_of_ble_eq_true rfl) (fun p e s m args below meth c A C => ?_)
  replace C : XC p s m args meth c P A 2 RJ5 cJ5_inflateIfNeededFor_a7421 none := C
  refine XW.eq (lv' := [(0, _), (1, _)]) rfl rfl rfl ?_
  refine X_getsC (pc := 0) C m_f_J5_18 dJ5_inflateIfNeededFor_a7421_0 ?_
  refine X_if_eq (pc := 3) C 21 dJ5_inflateIfNeededFor_a7421_3 (by decide) (fun h3 => ?_) (fun h3 => ?_)
  · exact absurd h3 (by decide)
  · skip
    refine X_aload_n (pc := 6) C 0 dJ5_inflateIfNeededFor_a7421_6 rfl rfl ?_
    refine X_rget (pc := 7) C i 1 he rfl inJ4 (by decide) rfl m_f_J5_22 dJ5_inflateIfNeededFor_a7421_7 ?_
    refine X_aload_n (pc := 10) C 1 dJ5_inflateIfNeededFor_a7421_10 rfl rfl ?_
    refine X_callT (n := 0) (pc := 11) C hq [] (c_J0_coder l P σ g hq) rfl m_c_J0_coder_7d493 m_m_J5_40 m_i_J0_coder_7d493 m_s_J0_coder_7d493 m_n_J0 ⟨by decide +kernel, by decide +kernel, by decide +kernel⟩ ⟨Nat.le_of_ble_eq_true rfl, Nat.le_of_ble_eq_true rfl⟩ ⟨rfl, rfl⟩ ⟨Nat.le_of_ble_eq_true rfl, Nat.le_of_ble_eq_true rfl⟩ rfl (Nat.le_of_ble_eq_true rfl) rfl dJ5_inflateIfNeededFor_a7421_11 ?_
    refine X_icmp_eq (pc := 14) C 21 dJ5_inflateIfNeededFor_a7421_14 (by decide) (fun h14 => ?_) (fun h14 => ?_)
    · skip
      exact X_vret (pc := 21) C (Nat.zero_le _) (Nat.zero_le _) dJ5_inflateIfNeededFor_a7421_21 ⟨rfl, rfl⟩
    · exact absurd rfl h14
abbrev rq_gb : Room := { frames := 1, cells := 0, slots := 0, locals := 60 }
theorem X_tcopy (C : XC p s m args meth c P A nL own cc ret) (g j : Nat) (hq : g < 15) {a n1 dp idx : Nat} {f : Nat → Int32} (hj : (xRaw P)[j]? = some (a, .inl (P.2.1 4, n1, .inl f))) (hlk : Cond.methodLink own idx arraycopyName ∈ xTB) (h5 : dp + xln g ≤ n1) (hb : n1 ≤ 1000000) (hfr : 1 ≤ R.frames) (hlo : (st.map fun v => v.category).sum + 40 ≤ R.locals) (d : decode cc pc = .ok (.invokestatic idx, 3))
    (kk : XC p s m args meth c (xPR P ((xRaw P).set j (a, .inl (P.2.1 4, n1, .inl (va_cpy (xch g) f 0 dp (xln g)))))) A nL own cc ret → XW p l e R s m args below meth c (xPR P ((xRaw P).set j (a, .inl (P.2.1 4, n1, .inl (va_cpy (xch g) f 0 dp (xln g)))))) A nL cells slots Q σ (pc + 3) lv st) : XW p l e R s m args below meth c P A nL cells slots Q σ pc lv (.int (nI (xln g)) :: .int (nI dp) :: .ref a :: .int (nI 0) :: .ref (xV P g) :: st) := fun H locs ls hP hS hl => by
  have z : ∀ k : Nat, k ≤ 1000000 → ¬ nI k < 0 := fun k hk => Int32.not_lt.mpr ((nI_leI (a := 0) (n31 (by omega)) (n31 (by omega))).mpr (Nat.zero_le k))
  have cl : ∀ k : Nat, k ≤ 1000000 → (nI k).toNatClampNeg = k := fun k hk => nI_clamp (n31 hk)
  have hle := xln_le g hq
  refine vk_copyt C.1 C.2.1 (by rw [C.2.2.1]; exact hl.1.symm) C.2.2.2.1 (C.hts _ hlk) (C.hts _ m_v_arraycopyName) (C.hts _ m_t_arraycopyName) (C.hts _ m_n_J10) C.hK hP (C.hD σ) hS (f := xch g) (C.hE.2.1.1.1 g hq).2.2.2 (P.2.2.2.1.length + j) 4 (xw_raw hj) rfl (z 0 (by omega)) (z _ (by omega)) (z _ (by omega)) (by rw [cl _ (by omega), cl _ (by omega)]; exact Nat.le_of_eq (Nat.zero_add _)) (by rw [cl _ (by omega), cl _ (by omega)]; exact h5) (fun i hi => by rw [cl _ (by omega)] at hi; rw [cl 0 (by omega), Nat.zero_add]; exact tx_fit g hq i hi) hfr (Nat.le_trans (Nat.add_le_add_left (Nat.le_of_ble_eq_true rfl) _) hlo) d (fun H1 locs1 hP1 hD1 hS1 => ?_)
  rw [cl _ (by omega), cl _ (by omega), cl _ (by omega), xw_rset] at hP1 hD1
  exact kk (C.pr hD1) H1 locs1 ls hP1 hS1 hl
set_option maxRecDepth 100000 in
set_option maxHeartbeats 4000000 in
theorem c_J0_getBytes (l : Launch) (P : XP) (σ : XS) (g : Nat) (hq : g < 15) (k q n dp : Nat) (f : Nat → Int32) (hk : (xRaw P)[k]? = some (q, .inl (P.2.1 4, n, .inl f))) (h5 : dp + xln g ≤ n) (hn : n ≤ 1000000) : XMP l yJ0_getBytes_840e7 cJ0_getBytes_840e7 4 none rq_gb P [.ref (xK P g), .ref q, .int (nI dp), .int 0] σ (fun v w => v = none ∧ w = (xRaw P).set k (q, .inl (P.2.1 4, n, .inl (va_cpy (xch g) f 0 dp (xln g))))) := by
  refine XMP.of (by decide +kernel) (Nat.le_of_ble_eq_true rfl) (fun p e s m args below meth c A C hmn => ?_)
  replace C : XC p s m args meth c P A 4 RJ0 cJ0_getBytes_840e7 none := C
  refine XW.eq (lv' := [(0, _), (1, _), (2, _), (3, _)]) rfl rfl rfl ?_
  refine X_aload_n (pc := 0) C 0 dJ0_getBytes_840e7_0 rfl rfl ?_
  refine X_callT (n := 0) (pc := 1) C hq [] (c_J0_coder l P σ g hq) rfl m_c_J0_coder_7d493 m_m_J0_335 m_i_J0_coder_7d493 m_s_J0_coder_7d493 m_n_J0 ⟨by decide +kernel, by decide +kernel, by decide +kernel⟩ ⟨Nat.le_of_ble_eq_true rfl, Nat.le_of_ble_eq_true rfl⟩ ⟨rfl, rfl⟩ ⟨Nat.le_of_ble_eq_true rfl, Nat.le_of_ble_eq_true rfl⟩ rfl (Nat.le_of_ble_eq_true rfl) rfl dJ0_getBytes_840e7_1 ?_
  refine X_iload_n (pc := 4) C 3 dJ0_getBytes_840e7_4 rfl rfl ?_
  refine X_icmp_ne (pc := 5) C 28 dJ0_getBytes_840e7_5 (by decide) (fun h5c => ?_) (fun h5c => ?_)
  · exact absurd rfl h5c
  · skip
    refine X_aload_n (pc := 8) C 0 dJ0_getBytes_840e7_8 rfl rfl ?_
    refine X_tval (pc := 9) C hq m_f_J0_9 dJ0_getBytes_840e7_9 ?_
    refine X_iconst (pc := 12) (v := 0) C dJ0_getBytes_840e7_12 (by decide) ?_
    refine X_aload_n (pc := 13) C 1 dJ0_getBytes_840e7_13 rfl rfl ?_
    refine X_iload_n (pc := 14) C 2 dJ0_getBytes_840e7_14 rfl rfl ?_
    refine X_iload_n (pc := 15) C 3 dJ0_getBytes_840e7_15 rfl rfl ?_
    refine X_ishl (pc := 16) C dJ0_getBytes_840e7_16 ?_
    rw [sh_l0]
    refine X_aload_n (pc := 17) C 0 dJ0_getBytes_840e7_17 rfl rfl ?_
    refine X_tval (pc := 18) C hq m_f_J0_9 dJ0_getBytes_840e7_18 ?_
    refine X_tlen (pc := 21) C hq dJ0_getBytes_840e7_21 ?_
    refine X_tcopy (pc := 22) C g k hq hk m_m_J0_212 h5 hn (Nat.le_of_ble_eq_true rfl) (Nat.le_of_ble_eq_true rfl) dJ0_getBytes_840e7_22 (fun C => ?_)
    refine X_goto (pc := 25) C 43 dJ0_getBytes_840e7_25 (by decide) ?_
    exact X_retVP (P := P) (pc := 43) C (Nat.le_of_ble_eq_true rfl) (Nat.le_of_ble_eq_true rfl) dJ0_getBytes_840e7_43 ⟨rfl, rfl⟩
abbrev rq_ps : Room := { frames := 2, cells := 0, slots := 0, locals := 90 }
theorem X_callTP (C : XC p s m args meth c P A nL own cc ret) {y : MethodName} {cy : ByteArray} {ny : Nat} {ry : Option FieldType} {rm : Room} {q : Nat} (hq : q < 15) (As : List Value) {n index : Nat} {Post : Option Value → va_W → Prop} (hM : XMP l y cy ny ry rm P (.ref (xK P q) :: As) σ Post) (hcl0 : y.cls = "java/lang/String") (hc : Cond.code y cy ny ry ∈ xTB) (hlk : Cond.methodLink own index y ∈ xTB) (hin : Cond.instanceMethod y ∈ xTB) (hse : Cond.selects y.cls y y ∈ xTB) (hini : Cond.initialized y.cls ∈ xTB) (hd : y.cls ≠ "java/lang/invoke/MethodHandle" ∧ y.cls ≠ "java/lang/invoke/VarHandle" ∧ (parseMethodDescriptor y.desc).map (fun d => d.parameters.length) = some n) (hR : rm.frames + 1 ≤ R.frames ∧ 8 + (ny + 11) + rm.locals ≤ R.locals) (hcl : cells + rm.cells ≤ R.cells ∧ slots + rm.slots ≤ R.slots)
    (hn : As.length = n) (hst : (st.map fun v => v.category).sum ≤ 8) {st0 : List Value} (hs0 : st0 = As.reverse ++ .ref (xK P q) :: st) (d : decode cc pc = .ok (.invokevirtual index, 3)) (k : ∀ (v : Option Value) (w : va_W), Post v w → XC p s m args meth c (xPR P w) A nL own cc ret → XW p l e R s m args below meth c (xPR P w) A nL (cells + rm.cells) (slots + rm.slots) Q σ (pc + 3) lv (v.toList ++ st)) : XW p l e R s m args below meth c P A nL cells slots Q σ pc lv st0 := by
  intro H locs ls hP hS hl
  subst hs0
  have hrecv := vk_recv C.hE.2.1.1 hq hS
  rw [← hcl0] at hrecv
  exact X_afterP (σ := σ) C hS hl (va_runV (C := y.cls) (As := As) (rest := st) ⟨C.1, C.2.1, C.2.2.1, C.2.2.2.1, C.hts⟩ (hM H.size) ⟨callB_of n C.hts (xGood hc) rfl rfl rfl (C.hts _ hini) (C.hts _ hlk) hd hR, C.hts _ hin, C.hts _ hse⟩ ⟨xBlind, hrecv, fun U hU hW => ⟨rfl, xPre_at C hP hS hU hW⟩⟩ rfl hn hl.1 rfl (lv_room hst) d hcl) k
set_option maxRecDepth 100000 in
set_option maxHeartbeats 4000000 in
theorem c_J5_putStringAt (l : Launch) (P : XP) (σ : XS) (i b q : Nat) (cn : Int32) (he : (xRaw P)[i]? = some (b, .inr (7, [.ref q, .int 0, .int 0, .int cn]))) (k n : Nat) (f : Nat → Int32) (hk : (xRaw P)[k]? = some (q, .inl (P.2.1 4, n, .inl f))) (g : Nat) (hq : g < 15) (dp : Nat) (h5 : dp + xln g ≤ n) (hn : n ≤ 1000000) : XMP l yJ5_putStringAt_47b60 cJ5_putStringAt_47b60 3 none rq_ps P [.ref b, .int (nI dp), .ref (xK P g)] σ (fun v w => v = none ∧ w = (xRaw P).set k (q, .inl (P.2.1 4, n, .inl (va_cpy (xch g) f 0 dp (xln g))))) := by
  refine XMP.of (by decide +kernel) (Nat.le_of_ble_eq_true rfl) (fun p e s m args below meth c A C hmn => ?_)
  replace C : XC p s m args meth c P A 3 RJ5 cJ5_putStringAt_47b60 none := C
  refine XW.eq (lv' := [(0, _), (1, _), (2, _)]) rfl rfl rfl ?_
  refine X_aload_n (pc := 0) C 0 dJ5_putStringAt_47b60_0 rfl rfl ?_
  refine X_aload_n (pc := 1) C 2 dJ5_putStringAt_47b60_1 rfl rfl ?_
  refine X_callUP (P := P) (x := yJ5_inflateIfNeededFor_a7421) (y := yJ5_inflateIfNeededFor_a7421) (n := 1) (pc := 2) C i [.ref _] (XMP.ofX (c_J5_inflateIf l P σ i b q cn he g hq)) m_c_J5_inflateIfNeededFor_a7421 m_m_J5_397 m_q_J5_inflateIfNeededFor_a7421 m_i_J5_inflateIfNeededFor_a7421 m_c_J5_inflateIfNeededFor_a7421 m_i_J5_inflateIfNeededFor_a7421 (C.hts _ m_z_J5_inflateIfNeededFor_a7421) m_n_J5 ⟨by decide +kernel, by decide +kernel, by decide +kernel⟩ ⟨Nat.le_of_ble_eq_true rfl, Nat.le_of_ble_eq_true rfl⟩ ⟨Nat.le_of_ble_eq_true rfl, Nat.le_of_ble_eq_true rfl⟩ he rfl (Nat.le_of_ble_eq_true rfl) rfl dJ5_putStringAt_47b60_2 (fun v w hv C => ?_)
  obtain ⟨rfl, rfl⟩ := hv
  refine X_aload_n (pc := 5) C 2 dJ5_putStringAt_47b60_5 rfl rfl ?_
  refine X_aload_n (pc := 6) C 0 dJ5_putStringAt_47b60_6 rfl rfl ?_
  refine X_rget (pc := 7) C i 0 he rfl inJ4 (by decide) rfl m_f_J5_15 dJ5_putStringAt_47b60_7 ?_
  refine X_iload_n (pc := 10) C 1 dJ5_putStringAt_47b60_10 rfl rfl ?_
  refine X_aload_n (pc := 11) C 0 dJ5_putStringAt_47b60_11 rfl rfl ?_
  refine X_rget (pc := 12) C i 1 he rfl inJ4 (by decide) rfl m_f_J5_22 dJ5_putStringAt_47b60_12 ?_
  refine X_callTP (P := P) (n := 3) (pc := 15) C hq [.ref _, .int _, .int _] (c_J0_getBytes l P σ g hq k q n dp f hk h5 hn) rfl m_c_J0_getBytes_840e7 m_m_J5_399 m_i_J0_getBytes_840e7 m_s_J0_getBytes_840e7 m_n_J0 ⟨by decide +kernel, by decide +kernel, by decide +kernel⟩ ⟨Nat.le_of_ble_eq_true rfl, Nat.le_of_ble_eq_true rfl⟩ ⟨Nat.le_of_ble_eq_true rfl, Nat.le_of_ble_eq_true rfl⟩ rfl (Nat.le_of_ble_eq_true rfl) rfl dJ5_putStringAt_47b60_15 (fun v w hv C => ?_)
  obtain ⟨rfl, rfl⟩ := hv
  exact X_retVP (P := P) (pc := 18) C (Nat.le_of_ble_eq_true rfl) (Nat.le_of_ble_eq_true rfl) dJ5_putStringAt_47b60_18 ⟨rfl, rfl⟩
abbrev rq_as : Room := { frames := 4, cells := 1, slots := 2100, locals := 170 }
/-- what stands when a text of w bytes is put behind t and the count is told -/
theorem isSB.put {w0 w1 : va_W} {c4 : ClassId} {i k b q n : Nat} {t u : List Int32} (h : isSB w1 c4 i k b q t n) {f1 : Nat → Int32} (hw : w0 = (w1.set k (q, .inl (c4, n, .inl f1))).set i (b, .inr (7, [.ref q, .int 0, .int 0, .int (nI (t.length + u.length))]))) (hn : t.length + u.length ≤ n) (h1 : t.length + u.length ≤ 1000) (ha : ∀ j, j < t.length → f1 j = t.getD j 0) (hb : ∀ j, j < u.length → f1 (t.length + j) = u.getD j 0) (hf : ∀ j, fits .byte (.int (f1 j)) = true) : isSB w0 c4 i k b q (t ++ u) n ∧ keepG w1 w0 i k k := by
  obtain ⟨he, hik, -, -, h3, f, hk, -, -⟩ := h
  subst hw
  refine ⟨⟨?_, hik, by rw [List.length_append]; exact hn, by rw [List.length_append]; exact h1, h3, f1, ?_, fun j hj => ?_, hf⟩, ⟨by rw [List.length_set, List.length_set]; exact Nat.le_refl _, fun j hj z1 z2 => ?_⟩, Or.inl rfl⟩
  · rw [List.length_append]
    exact set_at ((set_ne hik).trans he)
  · exact (set_ne (Ne.symm hik)).trans (set_at hk)
  · rw [List.length_append] at hj
    by_cases z : j < t.length
    · rw [ha j z, List.getD_eq_getElem?_getD, List.getD_eq_getElem?_getD, List.getElem?_append_left z]
    · have hb2 := hb (j - t.length) (by omega)
      rw [show t.length + (j - t.length) = j by omega] at hb2
      rw [hb2, List.getD_eq_getElem?_getD, List.getD_eq_getElem?_getD, List.getElem?_append_right (by omega)]
  · rw [set_ne z1, set_ne z2]
theorem cpy_at {f g : Nat → Int32} {dp n j : Nat} (h : j < n) : va_cpy f g 0 dp n (dp + j) = f j := by
  rw [va_cpy, if_pos ⟨Nat.le_add_right _ _, by omega⟩, show 0 + (dp + j - dp) = j by omega]
theorem cpy_lo {f g : Nat → Int32} {dp n j : Nat} (h : j < dp) : va_cpy f g 0 dp n j = g j := by rw [va_cpy, if_neg (by omega)]
theorem cpy_fit {f g : Nat → Int32} {dp n j : Nat} (h1 : ∀ i, i < n → fits .byte (.int (f i)) = true) (h2 : fits .byte (.int (g j)) = true) : fits .byte (.int (va_cpy f g 0 dp n j)) = true := by
  by_cases z : dp ≤ j ∧ j < dp + n
  · rw [va_cpy, if_pos z]; exact h1 _ (by omega)
  · rw [va_cpy, if_neg z]; exact h2
set_option maxRecDepth 100000 in
set_option maxHeartbeats 4000000 in
theorem c_J5_appendS (l : Launch) (P : XP) (σ : XS) (i k b q : Nat) (t : List Int32) (n : Nat) (hs : isSB (xRaw P) (P.2.1 4) i k b q t n) (g : Nat) (hq : g < 15) (hg : t.length + xln g ≤ 1000) : XMP l yJ5_append_cf1ce cJ5_append_cf1ce 3 (some (.object "java/lang/AbstractStringBuilder")) rq_as P [.ref b, .ref (xK P g)] σ (fun v w => v = some (.ref b) ∧ ∃ k1 q1 n1 : Nat, isSB w (P.2.1 4) i k1 b q1 (t ++ tx g) n1 ∧ keepG (xRaw P) w i k k1) := by
  have hs0 := hs
  obtain ⟨he, hik, h1, h2, h3, f, hk, hf1, hf2⟩ := hs
  have e1 : nI t.length + nI (xln g) = nI (t.length + xln g) := nI_add _ _
  refine XMP.of (by decide +kernel) (Nat.le_of_ble_eq_true rfl) (fun p e s m args below meth c A C hmn => ?_)
  replace C : XC p s m args meth c P A 3 RJ5 cJ5_append_cf1ce (some (.object "java/lang/AbstractStringBuilder")) := C
  refine XW.eq (lv' := [(0, _), (1, _)]) rfl rfl rfl ?_
  refine X_aload_n (pc := 0) C 1 dJ5_append_cf1ce_0 rfl rfl ?_
  refine X_ifnonnull (pc := 1) C 9 dJ5_append_cf1ce_1 (by decide) ?_
  refine X_aload_n (pc := 9) C 1 dJ5_append_cf1ce_9 rfl rfl ?_
  refine X_callT (n := 0) (pc := 10) C hq [] (c_J0_length l P σ g hq) rfl m_c_J0_length_8abf5 m_m_J5_32 m_i_J0_length_8abf5 m_s_J0_length_8abf5 m_n_J0 ⟨by decide +kernel, by decide +kernel, by decide +kernel⟩ ⟨Nat.le_of_ble_eq_true rfl, Nat.le_of_ble_eq_true rfl⟩ ⟨rfl, rfl⟩ ⟨Nat.le_of_ble_eq_true rfl, Nat.le_of_ble_eq_true rfl⟩ rfl (Nat.le_of_ble_eq_true rfl) rfl dJ5_append_cf1ce_10 ?_
  refine X_istore_n (pc := 13) (lv1 := [(0, _), (1, _), (2, _)]) C 2 dJ5_append_cf1ce_13 rfl (by decide) rfl ?_
  refine X_aload_n (pc := 14) C 0 dJ5_append_cf1ce_14 rfl rfl ?_
  refine X_aload_n (pc := 15) C 0 dJ5_append_cf1ce_15 rfl rfl ?_
  refine X_rget (pc := 16) C i 3 he rfl inJ4 (by decide) rfl m_f_J5_79 dJ5_append_cf1ce_16 ?_
  refine X_iload_n (pc := 19) C 2 dJ5_append_cf1ce_19 rfl rfl ?_
  refine X_iadd (pc := 20) C dJ5_append_cf1ce_20 ?_
  rw [e1]
  refine X_callUP (P := P) (x := yJ5_ensureCapacityInternal_d00df) (y := yJ5_ensureCapacityInternal_d00df) (n := 1) (pc := 21) C i [.int _] (c_J5_ensure l P σ i k b q t n hs0 (t.length + xln g) ⟨by omega, hg⟩) m_c_J5_ensureCapacityInternal_d00df m_m_J5_100 m_q_J5_ensureCapacityInternal_d00df m_i_J5_ensureCapacityInternal_d00df m_c_J5_ensureCapacityInternal_d00df m_i_J5_ensureCapacityInternal_d00df (C.hts _ m_z_J5_ensureCapacityInternal_d00df) m_n_J5 ⟨by decide +kernel, by decide +kernel, by decide +kernel⟩ ⟨Nat.le_of_ble_eq_true rfl, Nat.le_of_ble_eq_true rfl⟩ ⟨Nat.le_of_ble_eq_true rfl, Nat.le_of_ble_eq_true rfl⟩ he rfl (Nat.le_of_ble_eq_true rfl) rfl dJ5_append_cf1ce_21 (fun v w hv C => ?_)
  obtain ⟨rfl, k1, q1, n1, hs1, hn1, hk1⟩ := hv
  have hs1b := hs1
  obtain ⟨he1, hik1, -, -, h31, f1, hk1a, hf11, hf21⟩ := hs1
  refine X_aload_n (pc := 24) C 0 dJ5_append_cf1ce_24 rfl rfl ?_
  refine X_aload_n (pc := 25) C 0 dJ5_append_cf1ce_25 rfl rfl ?_
  refine X_rget (pc := 26) C i 3 he1 rfl inJ4 (by decide) rfl m_f_J5_79 dJ5_append_cf1ce_26 ?_
  refine X_aload_n (pc := 29) C 1 dJ5_append_cf1ce_29 rfl rfl ?_
  refine X_callUP (P := xPR P w) (x := yJ5_putStringAt_47b60) (y := yJ5_putStringAt_47b60) (n := 2) (pc := 30) C i [.int _, .ref _] (c_J5_putStringAt l (xPR P w) σ i b q1 (nI t.length) he1 k1 n1 f1 hk1a g hq t.length hn1 (by omega)) m_c_J5_putStringAt_47b60 m_m_J5_208 m_q_J5_putStringAt_47b60 m_i_J5_putStringAt_47b60 m_c_J5_putStringAt_47b60 m_i_J5_putStringAt_47b60 (C.hts _ m_z_J5_putStringAt_47b60) m_n_J5 ⟨by decide +kernel, by decide +kernel, by decide +kernel⟩ ⟨Nat.le_of_ble_eq_true rfl, Nat.le_of_ble_eq_true rfl⟩ ⟨Nat.le_of_ble_eq_true rfl, Nat.le_of_ble_eq_true rfl⟩ he1 rfl (Nat.le_of_ble_eq_true rfl) rfl dJ5_append_cf1ce_30 (fun v w2 hv C => ?_)
  obtain ⟨rfl, rfl⟩ := hv
  refine X_aload_n (pc := 33) C 0 dJ5_append_cf1ce_33 rfl rfl ?_
  refine X_dup (pc := 34) C dJ5_append_cf1ce_34 rfl ?_
  refine X_rget (P := xPR P _) (pc := 35) C i 3 ((set_ne hik1).trans he1) rfl inJ4 (by decide) rfl m_f_J5_79 dJ5_append_cf1ce_35 ?_
  refine X_iload_n (pc := 38) C 2 dJ5_append_cf1ce_38 rfl rfl ?_
  refine X_iadd (pc := 39) C dJ5_append_cf1ce_39 ?_
  rw [e1]
  refine X_rput (P := xPR P _) (pc := 40) C i 3 tyJ4 tyJ4_ok nmJ4 ((set_ne hik1).trans he1) rfl inJ4 (by decide) (Nat.le_of_ble_eq_true rfl) m_f_J5_79 rfl rfl rfl dJ5_append_cf1ce_40 (fun C => ?_)
  refine X_aload_n (pc := 43) C 0 dJ5_append_cf1ce_43 rfl rfl ?_
  obtain ⟨r1, r2⟩ := hs1b.put (u := tx g) (f1 := va_cpy (xch g) f1 0 t.length (xln g)) (w0 := (w.set k1 (q1, .inl (P.2.1 4, n1, .inl (va_cpy (xch g) f1 0 t.length (xln g))))).set i (b, .inr (7, [.ref q1, .int 0, .int 0, .int (nI (t.length + xln g))]))) (by rw [tx_len g hq]) (by rw [tx_len g hq]; exact hn1) (by rw [tx_len g hq]; exact hg) (fun j hj => (cpy_lo hj).trans (hf11 j hj)) (fun j hj => by rw [tx_len g hq] at hj; rw [cpy_at hj, tx_at g hq j hj]) (fun j => cpy_fit (fun i hi => tx_fit g hq i hi) (hf21 j))
  exact X_retAP (P := P) (pc := 44) C (Or.inl ⟨_, rfl⟩) (Nat.le_of_ble_eq_true rfl) (Nat.le_of_ble_eq_true rfl) dJ5_append_cf1ce_44 ⟨rfl, k1, q1, n1, r1, hk1.trans r2⟩
end XP28

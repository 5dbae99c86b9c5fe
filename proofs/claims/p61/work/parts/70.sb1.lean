/-! TEXTS IN THE MAKING: StringBuilder and String as raw cells -/
/-- constant text q; the digits of a number below 100 -/
def tx (q : Nat) : List Int32 := xByt.getD q []
def dig (x : Nat) : List Int32 := if x < 10 then [nI (48 + x)] else [nI (48 + x / 10), nI (48 + x % 10)]
theorem tx_len : ∀ q, q < 15 → (tx q).length = xln q := by decide +kernel
theorem tx_at : ∀ q, q < 15 → ∀ j, j < xln q → (tx q).getD j 0 = xch q j := by decide +kernel
theorem tx_fit : ∀ q, q < 15 → ∀ j, j < xln q → fits .byte (.int (xch q j)) = true := by decide +kernel
theorem dig_fit : ∀ x, x < 100 → fits .byte (.int (nI (48 + x % 10))) = true ∧ fits .byte (.int (nI (48 + x / 10))) = true ∧ vp_nar .byte (nI (48 + x % 10)) = nI (48 + x % 10) ∧ vp_nar .byte (nI (48 + x / 10)) = nI (48 + x / 10) := by decide +kernel
theorem chr_ok : ∀ x, x < 128 → fits .byte (.int (nI x)) = true ∧ vp_nar .byte (nI x) = nI x ∧ (if nI 255 < nI x then False else True) := by decide +kernel
theorem sh_l0 (x : Int32) : x <<< ((0 : Int32) &&& 31) = x := by
  rw [show (0 : Int32) &&& 31 = 0 from rfl]
  exact Int32.toBitVec_inj.mp (by rw [Int32.toBitVec_shiftLeft]; show x.toBitVec <<< ((0#32).smod 32).toNat = _; simp)
theorem sh_r0 (x : Int32) : x >>> ((0 : Int32) &&& 31) = x := by
  rw [show (0 : Int32) &&& 31 = 0 from rfl]
  exact Int32.toBitVec_inj.mp (by rw [Int32.toBitVec_shiftRight]; show x.toBitVec.sshiftRight ((0#32).smod 32).toNat = _; simp)
/-- thing i is a StringBuilder at b whose array k at q, of n bytes, begins with the text t -/
def isSB (w : va_W) (c4 : ClassId) (i k b q : Nat) (t : List Int32) (n : Nat) : Prop :=
  w[i]? = some (b, .inr (7, [.ref q, .int 0, .int 0, .int (nI t.length)])) ∧ i ≠ k ∧ t.length ≤ n ∧ t.length ≤ 1000 ∧ n ≤ 2100 ∧ ∃ f : Nat → Int32, w[k]? = some (q, .inl (c4, n, .inl f)) ∧ (∀ j, j < t.length → f j = t.getD j 0) ∧ ∀ j, fits .byte (.int (f j)) = true
/-- nothing else has changed -/
def keepR (w w1 : va_W) (i k : Nat) : Prop := w.length ≤ w1.length ∧ ∀ j, j < w.length → j ≠ i → j ≠ k → w1[j]? = w[j]?
theorem keepR.rfl_ (w : va_W) (i k : Nat) : keepR w w i k := ⟨Nat.le_refl _, fun _ _ _ _ => rfl⟩
/-- .. the StringBuilder's array may be a new one -/
def keepG (w w1 : va_W) (i k k1 : Nat) : Prop := keepR w w1 i k ∧ (k1 = k ∨ w.length ≤ k1)
theorem keepG.trans {w w1 w2 : va_W} {i k k1 k2 : Nat} (h : keepG w w1 i k k1) (g : keepG w1 w2 i k1 k2) : keepG w w2 i k k2 := by
  refine ⟨⟨Nat.le_trans h.1.1 g.1.1, fun j hj h1 h2 => ?_⟩, ?_⟩
  · rw [g.1.2 j (Nat.lt_of_lt_of_le hj h.1.1) h1 (by rcases h.2 with q | q <;> omega), h.1.2 j hj h1 h2]
  · rcases g.2 with q | q
    · rw [q]; exact h.2
    · exact Or.inr (Nat.le_trans h.1.1 q)
theorem ss_a : ∀ x, x < 100 → (¬ nI x < 0) ∧ (x < 10 → ¬ -(nI x) ≤ -10) ∧ (¬ x < 10 → -(nI x) ≤ -10) ∧ (¬ -(nI x) ≤ -100) ∧ (0 : Int32) ≤ nI x ∧ -100 < -(nI x) ∧ - -(nI x) = nI x ∧ (x < 10 → -9 ≤ -(nI x)) ∧ (¬ x < 10 → ¬ -9 ≤ -(nI x)) := by decide +kernel
theorem w_lt {w : va_W} {i : Nat} {q : Nat × va_E} (h : w[i]? = some q) : i < w.length := (List.getElem?_eq_some_iff.mp h).1
theorem set_ne {w : va_W} {i j : Nat} {q : Nat × va_E} (h : j ≠ i) : (w.set i q)[j]? = w[j]? := List.getElem?_set_ne (Ne.symm h)
theorem set_at {w : va_W} {i : Nat} {q q0 : Nat × va_E} (h : w[i]? = some q0) : (w.set i q)[i]? = some q := List.getElem?_set_self (w_lt h)
theorem push_old {w : va_W} {i : Nat} {q q0 : Nat × va_E} (h : w[i]? = some q0) : (w ++ [q])[i]? = some q0 := by rw [List.getElem?_append_left (w_lt h)]; exact h
theorem push_at {w : va_W} {q : Nat × va_E} : (w ++ [q])[w.length]? = some q := by rw [List.getElem?_append_right (Nat.le_refl _), Nat.sub_self]; rfl
section XP26
variable {p : Program} {l : Launch} {e : Env} {R : Room} {s : State} {m : MethodId} {args : Array Value} {below : List Frame} {meth : Method} {c : Code} {P : XP} {A : Nat → Prop} {nL cells slots : Nat} {Q : State → Prop} {cc : ByteArray} {ret : Option FieldType} {σ : XS} {pc : Nat} {lv : List (Nat × Value)} {st : List Value}
variable {own : String}
abbrev rq_ss : Room := { frames := 0, cells := 0, slots := 0, locals := 0 }
set_option maxRecDepth 100000 in
set_option maxHeartbeats 4000000 in
theorem ssz_lo (l : Launch) (P : XP) (σ : XS) (x : Nat) (hx : x < 100) (hc : x < 10) : XF l yJ6_stringSize_0f7a4 cJ6_stringSize_0f7a4 4 (some .int) rq_ss P [.int (nI x)] σ (some (.int 1)) σ := by
  obtain ⟨f1, f2, f3, f4, f5, f6, f7, f8, f9⟩ := ss_a x hx
  refine XM.of (by decide +kernel) (Nat.le_of_ble_eq_true rfl) (fun p e s m args below meth c A C => ?_)
  replace C : XC p s m args meth c P A 4 RJ6 cJ6_stringSize_0f7a4 (some .int) := C
  refine XW.eq (lv' := [(0, _)]) rfl rfl rfl ?_
  refine X_iconst (pc := 0) (v := 1) C dJ6_stringSize_0f7a4_0 (by decide) ?_
  refine X_istore_n (pc := 1) (lv1 := [(0, _), (1, _)]) C 1 dJ6_stringSize_0f7a4_1 rfl (by decide) rfl ?_
  refine X_iload_n (pc := 2) C 0 dJ6_stringSize_0f7a4_2 rfl rfl ?_
  refine X_if_lt (pc := 3) C 11 dJ6_stringSize_0f7a4_3 (by decide) (fun h3 => ?_) (fun h3 => ?_)
  · exact absurd h3 f1
  · skip
    refine X_iconst (pc := 6) (v := 0) C dJ6_stringSize_0f7a4_6 (by decide) ?_
    refine X_istore_n (pc := 7) (lv1 := [(0, _), (1, _)]) C 1 dJ6_stringSize_0f7a4_7 rfl (by decide) rfl ?_
    refine X_iload_n (pc := 8) C 0 dJ6_stringSize_0f7a4_8 rfl rfl ?_
    refine X_ineg (pc := 9) C dJ6_stringSize_0f7a4_9 ?_
    refine X_istore_n (pc := 10) (lv1 := [(0, _), (1, _)]) C 0 dJ6_stringSize_0f7a4_10 rfl (by decide) rfl ?_
    refine X_bipush (pc := 11) (v := (-10)) C dJ6_stringSize_0f7a4_11 (by decide) ?_
    refine X_istore_n (pc := 13) (lv1 := [(0, _), (1, _), (2, _)]) C 2 dJ6_stringSize_0f7a4_13 rfl (by decide) rfl ?_
    refine X_iconst (pc := 14) (v := 1) C dJ6_stringSize_0f7a4_14 (by decide) ?_
    refine X_istore_n (pc := 15) (lv1 := [(0, _), (1, _), (2, _), (3, _)]) C 3 dJ6_stringSize_0f7a4_15 rfl (by decide) rfl ?_
    refine X_iload_n (pc := 16) C 3 dJ6_stringSize_0f7a4_16 rfl rfl ?_
    refine X_bipush (pc := 17) (v := 10) C dJ6_stringSize_0f7a4_17 (by decide) ?_
    refine X_icmp_ge (pc := 19) C 42 dJ6_stringSize_0f7a4_19 (by decide) (fun h19 => ?_) (fun h19 => ?_)
    · exact absurd h19 (by decide)
    · skip
      refine X_iload_n (pc := 22) C 0 dJ6_stringSize_0f7a4_22 rfl rfl ?_
      refine X_iload_n (pc := 23) C 2 dJ6_stringSize_0f7a4_23 rfl rfl ?_
      refine X_icmp_le (pc := 24) C 31 dJ6_stringSize_0f7a4_24 (by decide) (fun h24 => ?_) (fun h24 => ?_)
      · exact absurd h24 (f2 hc)
      · skip
        refine X_iload_n (pc := 27) C 3 dJ6_stringSize_0f7a4_27 rfl rfl ?_
        refine X_iload_n (pc := 28) C 1 dJ6_stringSize_0f7a4_28 rfl rfl ?_
        refine X_iadd (pc := 29) C dJ6_stringSize_0f7a4_29 ?_
        exact X_iret (pc := 30) C (Nat.zero_le _) (Nat.zero_le _) dJ6_stringSize_0f7a4_30 ⟨rfl, rfl⟩
set_option maxRecDepth 100000 in
set_option maxHeartbeats 4000000 in
theorem ssz_hi (l : Launch) (P : XP) (σ : XS) (x : Nat) (hx : x < 100) (hc : ¬ x < 10) : XF l yJ6_stringSize_0f7a4 cJ6_stringSize_0f7a4 4 (some .int) rq_ss P [.int (nI x)] σ (some (.int 2)) σ := by
  obtain ⟨f1, f2, f3, f4, f5, f6, f7, f8, f9⟩ := ss_a x hx
  refine XM.of (by decide +kernel) (Nat.le_of_ble_eq_true rfl) (fun p e s m args below meth c A C => ?_)
  replace C : XC p s m args meth c P A 4 RJ6 cJ6_stringSize_0f7a4 (some .int) := C
  refine XW.eq (lv' := [(0, _)]) rfl rfl rfl ?_
  refine X_iconst (pc := 0) (v := 1) C dJ6_stringSize_0f7a4_0 (by decide) ?_
  refine X_istore_n (pc := 1) (lv1 := [(0, _), (1, _)]) C 1 dJ6_stringSize_0f7a4_1 rfl (by decide) rfl ?_
  refine X_iload_n (pc := 2) C 0 dJ6_stringSize_0f7a4_2 rfl rfl ?_
  refine X_if_lt (pc := 3) C 11 dJ6_stringSize_0f7a4_3 (by decide) (fun h3 => ?_) (fun h3 => ?_)
  · exact absurd h3 f1
  · skip
    refine X_iconst (pc := 6) (v := 0) C dJ6_stringSize_0f7a4_6 (by decide) ?_
    refine X_istore_n (pc := 7) (lv1 := [(0, _), (1, _)]) C 1 dJ6_stringSize_0f7a4_7 rfl (by decide) rfl ?_
    refine X_iload_n (pc := 8) C 0 dJ6_stringSize_0f7a4_8 rfl rfl ?_
    refine X_ineg (pc := 9) C dJ6_stringSize_0f7a4_9 ?_
    refine X_istore_n (pc := 10) (lv1 := [(0, _), (1, _)]) C 0 dJ6_stringSize_0f7a4_10 rfl (by decide) rfl ?_
    refine X_bipush (pc := 11) (v := (-10)) C dJ6_stringSize_0f7a4_11 (by decide) ?_
    refine X_istore_n (pc := 13) (lv1 := [(0, _), (1, _), (2, _)]) C 2 dJ6_stringSize_0f7a4_13 rfl (by decide) rfl ?_
    refine X_iconst (pc := 14) (v := 1) C dJ6_stringSize_0f7a4_14 (by decide) ?_
    refine X_istore_n (pc := 15) (lv1 := [(0, _), (1, _), (2, _), (3, _)]) C 3 dJ6_stringSize_0f7a4_15 rfl (by decide) rfl ?_
    refine X_iload_n (pc := 16) C 3 dJ6_stringSize_0f7a4_16 rfl rfl ?_
    refine X_bipush (pc := 17) (v := 10) C dJ6_stringSize_0f7a4_17 (by decide) ?_
    refine X_icmp_ge (pc := 19) C 42 dJ6_stringSize_0f7a4_19 (by decide) (fun h19 => ?_) (fun h19 => ?_)
    · exact absurd h19 (by decide)
    · skip
      refine X_iload_n (pc := 22) C 0 dJ6_stringSize_0f7a4_22 rfl rfl ?_
      refine X_iload_n (pc := 23) C 2 dJ6_stringSize_0f7a4_23 rfl rfl ?_
      refine X_icmp_le (pc := 24) C 31 dJ6_stringSize_0f7a4_24 (by decide) (fun h24 => ?_) (fun h24 => ?_)
      · skip
        refine X_bipush (pc := 31) (v := 10) C dJ6_stringSize_0f7a4_31 (by decide) ?_
        refine X_iload_n (pc := 33) C 2 dJ6_stringSize_0f7a4_33 rfl rfl ?_
        refine X_imul (pc := 34) C dJ6_stringSize_0f7a4_34 ?_
        refine X_istore_n (pc := 35) (lv1 := [(0, _), (1, _), (2, _), (3, _)]) C 2 dJ6_stringSize_0f7a4_35 rfl (by decide) rfl ?_
        first | refine X_iincN (pc := 36) (lv1 := [(0, _), (1, _), (2, _), (3, _)]) C dJ6_stringSize_0f7a4_36 rfl (by decide) (by decide) rfl ?_ | refine X_iinc (pc := 36) (kk := 1) (lv1 := [(0, _), (1, _), (2, _), (3, _)]) C dJ6_stringSize_0f7a4_36 rfl (by decide) (by decide) rfl ?_
        refine X_goto (pc := 39) C 16 dJ6_stringSize_0f7a4_39 (by decide) ?_
        refine X_iload_n (pc := 16) C 3 dJ6_stringSize_0f7a4_16 rfl rfl ?_
        refine X_bipush (pc := 17) (v := 10) C dJ6_stringSize_0f7a4_17 (by decide) ?_
        refine X_icmp_ge (pc := 19) C 42 dJ6_stringSize_0f7a4_19 (by decide) (fun h19 => ?_) (fun h19 => ?_)
        · exact absurd h19 (by decide)
        · skip
          refine X_iload_n (pc := 22) C 0 dJ6_stringSize_0f7a4_22 rfl rfl ?_
          refine X_iload_n (pc := 23) C 2 dJ6_stringSize_0f7a4_23 rfl rfl ?_
          refine X_icmp_le (pc := 24) C 31 dJ6_stringSize_0f7a4_24 (by decide) (fun h24 => ?_) (fun h24 => ?_)
          · exact absurd h24 f4
          · skip
            refine X_iload_n (pc := 27) C 3 dJ6_stringSize_0f7a4_27 rfl rfl ?_
            refine X_iload_n (pc := 28) C 1 dJ6_stringSize_0f7a4_28 rfl rfl ?_
            refine X_iadd (pc := 29) C dJ6_stringSize_0f7a4_29 ?_
            exact X_iret (pc := 30) C (Nat.zero_le _) (Nat.zero_le _) dJ6_stringSize_0f7a4_30 ⟨rfl, rfl⟩
      · exact absurd (f3 hc) h24
theorem c_J6_stringSize (l : Launch) (P : XP) (σ : XS) (x : Nat) (hx : x < 100) : XF l yJ6_stringSize_0f7a4 cJ6_stringSize_0f7a4 4 (some .int) rq_ss P [.int (nI x)] σ (some (.int (nI (dig x).length))) σ := by
  unfold dig
  by_cases h : x < 10
  · rw [if_pos h]; exact ssz_lo l P σ x hx h
  · rw [if_neg h]; exact ssz_hi l P σ x hx h
abbrev rq_gc : Room := { frames := 0, cells := 0, slots := 0, locals := 0 }
theorem X_dig1 (C : XC p s m args meth c P A nL RJ6 cc ret) (d : decode cc pc = .ok (.getstatic 83, 3)) (kk : ∀ g : Nat, va_T .byte g 100 xDig1 A s s.heap → XW p l e R s m args below meth c P A nL cells slots Q σ (pc + 3) lv (.ref g :: st)) : XW p l e R s m args below meth c P A nL cells slots Q σ pc lv st := fun H locs ls hP hS hl => by
  obtain ⟨g, ⟨h5, h6⟩, -⟩ := C.hE.2.1.2.2.2.2
  exact va_gets C.1 C.2.1 h5 hS C.2.2.2.1 (C.hts _ m_f_J6_83) (fun _ h => h) d (kk g.1 h6 H locs ls hP hS hl)
theorem X_dig2 (C : XC p s m args meth c P A nL RJ6 cc ret) (d : decode cc pc = .ok (.getstatic 87, 3)) (kk : ∀ g : Nat, va_T .byte g 100 xDig2 A s s.heap → XW p l e R s m args below meth c P A nL cells slots Q σ (pc + 3) lv (.ref g :: st)) : XW p l e R s m args below meth c P A nL cells slots Q σ pc lv st := fun H locs ls hP hS hl => by
  obtain ⟨g, -, h5, h6⟩ := C.hE.2.1.2.2.2.2
  exact va_gets C.1 C.2.1 h5 hS C.2.2.2.1 (C.hts _ m_f_J6_87) (fun _ h => h) d (kk g.2 h6 H locs ls hP hS hl)
theorem X_tbald {ret : Option FieldType} (C : XC p s m args meth c P A nL own cc ret) {g N j : Nat} {f : Nat → Value} {v : Value} (hT : va_T .byte g N f A s s.heap) (hj : j < N) (hN : N ≤ 1000000) (hv : f j = v) (d : decode cc pc = .ok (.baload, 1)) (kk : XW p l e R s m args below meth c P A nL cells slots Q σ (pc + 1) lv (v :: st)) : XW p l e R s m args below meth c P A nL cells slots Q σ pc lv (.int (nI j) :: .ref g :: st) := fun H locs ls hP hS hl =>
  va_tb C.1 C.2.1 hT hS (vp_in_nI hj (n31 (by omega))) (by rw [nI_clamp (n31 (by omega))]; exact hv) d (kk H locs ls hP hS hl)
set_option maxRecDepth 100000 in
set_option maxHeartbeats 4000000 in
theorem gch_lo (l : Launch) (P : XP) (σ : XS) (x : Nat) (hx : x < 100) (hc : x < 10) (k q n e0 : Nat) (f : Nat → Int32) (hk : (xRaw P)[k]? = some (q, .inl (P.2.1 4, n, .inl f))) (he : e0 + 1 ≤ n) (hn : n ≤ 1000000) : XMP l yJ6_getChars_ba4f3 cJ6_getChars_ba4f3 7 (some .int) rq_gc P [.int (nI x), .int (nI (e0 + 1)), .ref q] σ (fun v w => v = some (.int (nI e0)) ∧ w = (xRaw P).set k (q, .inl (P.2.1 4, n, .inl (upd f e0 (nI (48 + x % 10)))))) := by
  obtain ⟨f1, f2, f3, f4, f5, f6, f7, f8, f9⟩ := ss_a x hx
  obtain ⟨g1, g2, g3, g4⟩ := dig_fit x hx
  have p1 : ∀ k : Nat, k < 1000000 → nI (k + 1) + (-1) = nI k := fun k hk => by rw [show (-1 : Int32) = -(nI 1) from rfl, ← Int32.sub_eq_add_neg]; exact nI_pred k
  refine XMP.of (by decide +kernel) (Nat.le_of_ble_eq_true rfl) (fun p e s m args below meth c A C hmn => ?_)
  replace C : XC p s m args meth c P A 7 RJ6 cJ6_getChars_ba4f3 (some .int) := C
  refine XW.eq (lv' := [(0, _), (1, _), (2, _)]) rfl rfl rfl ?_
  refine X_iload_n (pc := 0) C 1 dJ6_getChars_ba4f3_0 rfl rfl ?_
  refine X_istore (pc := 1) (lv1 := [(0, _), (1, _), (2, _), (5, _)]) C dJ6_getChars_ba4f3_1 (by decide) rfl ?_
  refine X_iload_n (pc := 3) C 0 dJ6_getChars_ba4f3_3 rfl rfl ?_
  refine X_if_ge (pc := 4) C 11 dJ6_getChars_ba4f3_4 (by decide) (fun h4 => ?_) (fun h4 => ?_)
  · skip
    refine X_iconst (pc := 11) (v := 0) C dJ6_getChars_ba4f3_11 (by decide) ?_
    refine X_istore (pc := 12) (lv1 := [(0, _), (1, _), (2, _), (5, _), (6, _)]) C dJ6_getChars_ba4f3_12 (by decide) rfl ?_
    refine X_iload (pc := 14) C dJ6_getChars_ba4f3_14 rfl ?_
    refine X_if_ne (pc := 16) C 22 dJ6_getChars_ba4f3_16 (by decide) (fun h16 => ?_) (fun h16 => ?_)
    · exact absurd h16 (by decide)
    · skip
      refine X_iload_n (pc := 19) C 0 dJ6_getChars_ba4f3_19 rfl rfl ?_
      refine X_ineg (pc := 20) C dJ6_getChars_ba4f3_20 ?_
      refine X_istore_n (pc := 21) (lv1 := [(0, _), (1, _), (2, _), (5, _), (6, _)]) C 0 dJ6_getChars_ba4f3_21 rfl (by decide) rfl ?_
      refine X_iload_n (pc := 22) C 0 dJ6_getChars_ba4f3_22 rfl rfl ?_
      refine X_bipush (pc := 23) (v := (-100)) C dJ6_getChars_ba4f3_23 (by decide) ?_
      refine X_icmp_gt (pc := 25) C 72 dJ6_getChars_ba4f3_25 (by decide) (fun h25 => ?_) (fun h25 => ?_)
      · skip
        refine X_aload_n (pc := 72) C 2 dJ6_getChars_ba4f3_72 rfl rfl ?_
        refine X_iinc (pc := 73) (kk := (-1)) (lv1 := [(0, _), (1, _), (2, _), (5, _), (6, _)]) C dJ6_getChars_ba4f3_73 rfl (by decide) (by decide) rfl ?_
        rw [p1 _ (by omega)]
        refine X_iload (pc := 76) C dJ6_getChars_ba4f3_76 rfl ?_
        refine X_dig1 (pc := 78) C dJ6_getChars_ba4f3_78 (fun ga ha => ?_)
        refine X_iload_n (pc := 81) C 0 dJ6_getChars_ba4f3_81 rfl rfl ?_
        refine X_ineg (pc := 82) C dJ6_getChars_ba4f3_82 ?_
        rw [f7]
        refine X_tbald (pc := 83) C ha hx (by decide) rfl dJ6_getChars_ba4f3_83 ?_
        refine X_rBast (pc := 84) C k hk (by omega) hn dJ6_getChars_ba4f3_84 (fun C => ?_)
        rw [g3] at C ⊢
        refine X_iload_n (pc := 85) C 0 dJ6_getChars_ba4f3_85 rfl rfl ?_
        refine X_bipush (pc := 86) (v := (-9)) C dJ6_getChars_ba4f3_86 (by decide) ?_
        refine X_icmp_ge (pc := 88) C 104 dJ6_getChars_ba4f3_88 (by decide) (fun h88 => ?_) (fun h88 => ?_)
        · skip
          refine X_iload (pc := 104) C dJ6_getChars_ba4f3_104 rfl ?_
          refine X_if_eq (pc := 106) C 118 dJ6_getChars_ba4f3_106 (by decide) (fun h106 => ?_) (fun h106 => ?_)
          · skip
            refine X_iload (pc := 118) C dJ6_getChars_ba4f3_118 rfl ?_
            exact X_retIP (pc := 120) C rfl (Nat.zero_le _) (Nat.zero_le _) dJ6_getChars_ba4f3_120 ⟨rfl, rfl⟩
          · exact absurd h106 (by decide)
        · exact absurd (f8 hc) h88
      · exact absurd f6 h25
  · exact absurd f5 h4
set_option maxRecDepth 100000 in
set_option maxHeartbeats 4000000 in
theorem gch_hi (l : Launch) (P : XP) (σ : XS) (x : Nat) (hx : x < 100) (hc : ¬ x < 10) (k q n e0 : Nat) (f : Nat → Int32) (hk : (xRaw P)[k]? = some (q, .inl (P.2.1 4, n, .inl f))) (he : e0 + 2 ≤ n) (hn : n ≤ 1000000) : XMP l yJ6_getChars_ba4f3 cJ6_getChars_ba4f3 7 (some .int) rq_gc P [.int (nI x), .int (nI (e0 + 2)), .ref q] σ (fun v w => v = some (.int (nI e0)) ∧ w = (xRaw P).set k (q, .inl (P.2.1 4, n, .inl (upd (upd f (e0 + 1) (nI (48 + x % 10))) e0 (nI (48 + x / 10)))))) := by
  obtain ⟨f1, f2, f3, f4, f5, f6, f7, f8, f9⟩ := ss_a x hx
  obtain ⟨g1, g2, g3, g4⟩ := dig_fit x hx
  have p1 : ∀ k : Nat, k < 1000000 → nI (k + 1) + (-1) = nI k := fun k hk => by rw [show (-1 : Int32) = -(nI 1) from rfl, ← Int32.sub_eq_add_neg]; exact nI_pred k
  refine XMP.of (by decide +kernel) (Nat.le_of_ble_eq_true rfl) (fun p e s m args below meth c A C hmn => ?_)
  replace C : XC p s m args meth c P A 7 RJ6 cJ6_getChars_ba4f3 (some .int) := C
  refine XW.eq (lv' := [(0, _), (1, _), (2, _)]) rfl rfl rfl ?_
  refine X_iload_n (pc := 0) C 1 dJ6_getChars_ba4f3_0 rfl rfl ?_
  refine X_istore (pc := 1) (lv1 := [(0, _), (1, _), (2, _), (5, _)]) C dJ6_getChars_ba4f3_1 (by decide) rfl ?_
  refine X_iload_n (pc := 3) C 0 dJ6_getChars_ba4f3_3 rfl rfl ?_
  refine X_if_ge (pc := 4) C 11 dJ6_getChars_ba4f3_4 (by decide) (fun h4 => ?_) (fun h4 => ?_)
  · skip
    refine X_iconst (pc := 11) (v := 0) C dJ6_getChars_ba4f3_11 (by decide) ?_
    refine X_istore (pc := 12) (lv1 := [(0, _), (1, _), (2, _), (5, _), (6, _)]) C dJ6_getChars_ba4f3_12 (by decide) rfl ?_
    refine X_iload (pc := 14) C dJ6_getChars_ba4f3_14 rfl ?_
    refine X_if_ne (pc := 16) C 22 dJ6_getChars_ba4f3_16 (by decide) (fun h16 => ?_) (fun h16 => ?_)
    · exact absurd h16 (by decide)
    · skip
      refine X_iload_n (pc := 19) C 0 dJ6_getChars_ba4f3_19 rfl rfl ?_
      refine X_ineg (pc := 20) C dJ6_getChars_ba4f3_20 ?_
      refine X_istore_n (pc := 21) (lv1 := [(0, _), (1, _), (2, _), (5, _), (6, _)]) C 0 dJ6_getChars_ba4f3_21 rfl (by decide) rfl ?_
      refine X_iload_n (pc := 22) C 0 dJ6_getChars_ba4f3_22 rfl rfl ?_
      refine X_bipush (pc := 23) (v := (-100)) C dJ6_getChars_ba4f3_23 (by decide) ?_
      refine X_icmp_gt (pc := 25) C 72 dJ6_getChars_ba4f3_25 (by decide) (fun h25 => ?_) (fun h25 => ?_)
      · skip
        refine X_aload_n (pc := 72) C 2 dJ6_getChars_ba4f3_72 rfl rfl ?_
        refine X_iinc (pc := 73) (kk := (-1)) (lv1 := [(0, _), (1, _), (2, _), (5, _), (6, _)]) C dJ6_getChars_ba4f3_73 rfl (by decide) (by decide) rfl ?_
        rw [p1 _ (by omega)]
        refine X_iload (pc := 76) C dJ6_getChars_ba4f3_76 rfl ?_
        refine X_dig1 (pc := 78) C dJ6_getChars_ba4f3_78 (fun ga ha => ?_)
        refine X_iload_n (pc := 81) C 0 dJ6_getChars_ba4f3_81 rfl rfl ?_
        refine X_ineg (pc := 82) C dJ6_getChars_ba4f3_82 ?_
        rw [f7]
        refine X_tbald (pc := 83) C ha hx (by decide) rfl dJ6_getChars_ba4f3_83 ?_
        refine X_rBast (pc := 84) C k hk (by omega) hn dJ6_getChars_ba4f3_84 (fun C => ?_)
        rw [g3] at C ⊢
        refine X_iload_n (pc := 85) C 0 dJ6_getChars_ba4f3_85 rfl rfl ?_
        refine X_bipush (pc := 86) (v := (-9)) C dJ6_getChars_ba4f3_86 (by decide) ?_
        refine X_icmp_ge (pc := 88) C 104 dJ6_getChars_ba4f3_88 (by decide) (fun h88 => ?_) (fun h88 => ?_)
        · exact absurd h88 (f9 hc)
        · skip
          refine X_aload_n (pc := 91) C 2 dJ6_getChars_ba4f3_91 rfl rfl ?_
          refine X_iinc (pc := 92) (kk := (-1)) (lv1 := [(0, _), (1, _), (2, _), (5, _), (6, _)]) C dJ6_getChars_ba4f3_92 rfl (by decide) (by decide) rfl ?_
          rw [p1 _ (by omega)]
          refine X_iload (pc := 95) C dJ6_getChars_ba4f3_95 rfl ?_
          refine X_dig2 (pc := 97) C dJ6_getChars_ba4f3_97 (fun gb hb => ?_)
          refine X_iload_n (pc := 100) C 0 dJ6_getChars_ba4f3_100 rfl rfl ?_
          refine X_ineg (pc := 101) C dJ6_getChars_ba4f3_101 ?_
          rw [f7]
          refine X_tbald (pc := 102) C hb hx (by decide) rfl dJ6_getChars_ba4f3_102 ?_
          refine X_rBast (pc := 103) C k (set_at hk) (by omega) hn dJ6_getChars_ba4f3_103 (fun C => ?_)
          rw [g4] at C ⊢
          refine X_iload (pc := 104) C dJ6_getChars_ba4f3_104 rfl ?_
          refine X_if_eq (pc := 106) C 118 dJ6_getChars_ba4f3_106 (by decide) (fun h106 => ?_) (fun h106 => ?_)
          · skip
            refine X_iload (pc := 118) C dJ6_getChars_ba4f3_118 rfl ?_
            exact X_retIP (pc := 120) C rfl (Nat.zero_le _) (Nat.zero_le _) dJ6_getChars_ba4f3_120 ⟨rfl, List.set_set ..⟩
          · exact absurd h106 (by decide)
      · exact absurd f6 h25
  · exact absurd f5 h4
theorem dig_get : ∀ x, x < 10 → dig x = [nI (48 + x % 10)] := by decide +kernel
/-- the digits stand at e0 and behind it -/
theorem c_J6_getChars (l : Launch) (P : XP) (σ : XS) (x : Nat) (hx : x < 100) (k q n e0 : Nat) (f : Nat → Int32) (hk : (xRaw P)[k]? = some (q, .inl (P.2.1 4, n, .inl f))) (he : e0 + (dig x).length ≤ n) (hn : n ≤ 1000000) (hf : ∀ j, fits .byte (.int (f j)) = true) : XMP l yJ6_getChars_ba4f3 cJ6_getChars_ba4f3 7 (some .int) rq_gc P [.int (nI x), .int (nI (e0 + (dig x).length)), .ref q] σ (fun v w => v = some (.int (nI e0)) ∧ ∃ f1 : Nat → Int32, w = (xRaw P).set k (q, .inl (P.2.1 4, n, .inl f1)) ∧ (∀ j, j < e0 → f1 j = f j) ∧ (∀ j, j < (dig x).length → f1 (e0 + j) = (dig x).getD j 0) ∧ ∀ j, fits .byte (.int (f1 j)) = true) := by
  obtain ⟨g1, g2, -, -⟩ := dig_fit x hx
  by_cases h : x < 10
  · have e1 := dig_get x h
    rw [e1] at he ⊢
    refine (gch_lo l P σ x hx h k q n e0 f hk he hn).mono (fun v w hw => ⟨hw.1, _, hw.2, fun j hj => upd_ne (by omega), fun j hj => ?_, fun j => ?_⟩)
    · obtain rfl : j = 0 := Nat.lt_one_iff.mp hj
      exact upd_at
    · by_cases z : j = e0
      · subst z; rw [upd_at]; exact g1
      · rw [upd_ne z]; exact hf j
  · have e1 : dig x = [nI (48 + x / 10), nI (48 + x % 10)] := if_neg h
    rw [e1] at he ⊢
    refine (gch_hi l P σ x hx h k q n e0 f hk he hn).mono (fun v w hw => ⟨hw.1, _, hw.2, fun j hj => ?_, fun j hj => ?_, fun j => ?_⟩)
    · rw [upd_ne (by omega), upd_ne (by omega)]
    · have hj2 : j < 2 := hj
      by_cases z : j = 0
      · subst z; exact upd_at
      · obtain rfl : j = 1 := by omega
        rw [upd_ne (by omega), upd_at]
        rfl
    · by_cases z : j = e0
      · subst z; rw [upd_at]; exact g2
      · rw [upd_ne z]
        by_cases z1 : j = e0 + 1
        · subst z1; rw [upd_at]; exact g1
        · rw [upd_ne z1]; exact hf j
end XP26

/-! CALLS THAT CHANGE RAW CELLS -/
theorem m_q_J5_append_cf1ce : Cond.sameMethod yJ5_append_cf1ce.cls yJ5_append_cf1ce.cls yJ5_append_cf1ce.name yJ5_append_cf1ce.desc ∈ xTB := xm 1112 (by decide +kernel) (by decide +kernel)
theorem m_z_J5_append_cf1ce : Cond.selects RJ4 yJ5_append_cf1ce yJ4_append_cf1ce ∈ xTB := xm 1113 (by decide +kernel) (by decide +kernel)
theorem m_u_J4 : Cond.superclass RJ4 RJ5 ∈ xTB := xm 1121 (by decide +kernel) (by decide +kernel)
theorem m_clone1 : Cond.methodLink RJ7 310 ⟨"[B", "clone", "()Ljava/lang/Object;"⟩ ∈ xTB := xm 1146 (by decide +kernel) (by decide +kernel)
theorem m_clone2 : Cond.sameMethod "[B" "java/lang/Object" "clone" "()Ljava/lang/Object;" ∈ xTB := xm 1147 (by decide +kernel) (by decide +kernel)
theorem m_clone3 : Cond.native ⟨"java/lang/Object", "clone", "()Ljava/lang/Object;"⟩ ∈ xTB := xm 1148 (by decide +kernel) (by decide +kernel)
theorem m_clone4 : Cond.instanceMethod ⟨"java/lang/Object", "clone", "()Ljava/lang/Object;"⟩ ∈ xTB := xm 1149 (by decide +kernel) (by decide +kernel)
theorem m_clone5 : Cond.selects "[B" ⟨"[B", "clone", "()Ljava/lang/Object;"⟩ ⟨"java/lang/Object", "clone", "()Ljava/lang/Object;"⟩ ∈ xTB := xm 1150 (by decide +kernel) (by decide +kernel)
theorem m_clone6 : Cond.classLink RJ7 311 "[B" ∈ xTB := xm 1152 (by decide +kernel) (by decide +kernel)
theorem m_q_J5_isLatin1_aae02 : Cond.sameMethod yJ5_isLatin1_aae02.cls yJ5_isLatin1_aae02.cls yJ5_isLatin1_aae02.name yJ5_isLatin1_aae02.desc ∈ xTB := xm 1157 (by decide +kernel) (by decide +kernel)
theorem m_z_J5_isLatin1_aae02 : Cond.selects RJ4 yJ5_isLatin1_aae02 yJ5_isLatin1_aae02 ∈ xTB := xm 1158 (by decide +kernel) (by decide +kernel)
theorem m_q_J5_getValue_6d5f1 : Cond.sameMethod yJ5_getValue_6d5f1.cls yJ5_getValue_6d5f1.cls yJ5_getValue_6d5f1.name yJ5_getValue_6d5f1.desc ∈ xTB := xm 1275 (by decide +kernel) (by decide +kernel)
theorem m_z_J5_getValue_6d5f1 : Cond.selects RJ4 yJ5_getValue_6d5f1 yJ5_getValue_6d5f1 ∈ xTB := xm 1276 (by decide +kernel) (by decide +kernel)
theorem m_q_J5_length_8abf5 : Cond.sameMethod yJ5_length_8abf5.cls yJ5_length_8abf5.cls yJ5_length_8abf5.name yJ5_length_8abf5.desc ∈ xTB := xm 1280 (by decide +kernel) (by decide +kernel)
theorem m_z_J5_length_8abf5 : Cond.selects RJ4 yJ5_length_8abf5 yJ4_length_8abf5 ∈ xTB := xm 1281 (by decide +kernel) (by decide +kernel)
theorem m_q_J5_appendNull_278bc : Cond.sameMethod yJ5_appendNull_278bc.cls yJ5_appendNull_278bc.cls yJ5_appendNull_278bc.name yJ5_appendNull_278bc.desc ∈ xTB := xm 1339 (by decide +kernel) (by decide +kernel)
theorem m_q_J5_ensureCapacityInternal_d00df : Cond.sameMethod yJ5_ensureCapacityInternal_d00df.cls yJ5_ensureCapacityInternal_d00df.cls yJ5_ensureCapacityInternal_d00df.name yJ5_ensureCapacityInternal_d00df.desc ∈ xTB := xm 1340 (by decide +kernel) (by decide +kernel)
theorem m_q_J5_newCapacity_0f7a4 : Cond.sameMethod yJ5_newCapacity_0f7a4.cls yJ5_newCapacity_0f7a4.cls yJ5_newCapacity_0f7a4.name yJ5_newCapacity_0f7a4.desc ∈ xTB := xm 1341 (by decide +kernel) (by decide +kernel)
theorem m_q_J5_putStringAt_47b60 : Cond.sameMethod yJ5_putStringAt_47b60.cls yJ5_putStringAt_47b60.cls yJ5_putStringAt_47b60.name yJ5_putStringAt_47b60.desc ∈ xTB := xm 1342 (by decide +kernel) (by decide +kernel)
theorem m_q_J5_inflateIfNeededFor_a7421 : Cond.sameMethod yJ5_inflateIfNeededFor_a7421.cls yJ5_inflateIfNeededFor_a7421.cls yJ5_inflateIfNeededFor_a7421.name yJ5_inflateIfNeededFor_a7421.desc ∈ xTB := xm 1343 (by decide +kernel) (by decide +kernel)
theorem m_q_J5_inflate_da8c8 : Cond.sameMethod yJ5_inflate_da8c8.cls yJ5_inflate_da8c8.cls yJ5_inflate_da8c8.name yJ5_inflate_da8c8.desc ∈ xTB := xm 1344 (by decide +kernel) (by decide +kernel)
theorem m_q_J5_append_3fe6f : Cond.sameMethod yJ5_append_3fe6f.cls yJ5_append_3fe6f.cls yJ5_append_3fe6f.name yJ5_append_3fe6f.desc ∈ xTB := xm 1345 (by decide +kernel) (by decide +kernel)
theorem m_q_J5_append_c97b9 : Cond.sameMethod yJ5_append_c97b9.cls yJ5_append_c97b9.cls yJ5_append_c97b9.name yJ5_append_c97b9.desc ∈ xTB := xm 1346 (by decide +kernel) (by decide +kernel)
def XQP (P : XP) (A : Nat → Prop) (σ : XS) (Post : Option Value → va_W → Prop) : Array Value → State → Outcome → State → Prop := fun _ st oc t => (∃ (v : Option Value) (w : va_W), oc = .returned v ∧ Post v w ∧ va_P P.1 vwCl (xw (xPR P w) σ) t.heap ∧ va_D A (xw (xPR P w) σ)) ∧ va_F A st t
def XMP (l : Launch) (y : MethodName) (cc : ByteArray) (nL : Nat) (ret : Option FieldType) (rm : Room) (P : XP) (as : List Value) (σ : XS) (Post : Option Value → va_W → Prop) : Prop :=
  ∀ sz : Nat, Met l y (Cond.code y cc nL ret :: xTB) rm (va_Pc as (XPre P σ sz)) (XQP P (va_A (xw P σ) sz) σ Post) rm.cells rm.slots (va_A (xw P σ) sz)
theorem XMP.mono {l : Launch} {y : MethodName} {cc : ByteArray} {nL : Nat} {ret : Option FieldType} {P : XP} {σ : XS} {rm : Room} {as : List Value} {Post Post1 : Option Value → va_W → Prop} (h : XMP l y cc nL ret rm P as σ Post) (hp : ∀ v w, Post v w → Post1 v w) : XMP l y cc nL ret rm P as σ Post1 := by
  intro sz p e ha hc hk s m args below hf hfit hpre htr
  obtain ⟨k, o, h1, h2, h3, ⟨⟨v, w, q1, q2, q3⟩, q4⟩, q5⟩ := h sz p e ha hc hk s m args below hf hfit hpre htr
  exact ⟨k, o, h1, h2, h3, ⟨⟨v, w, q1, hp v w q2, q3⟩, q4⟩, q5⟩
section XRWC
variable {p : Program} {l : Launch} {e : Env} {R : Room} {s : State} {m : MethodId} {args : Array Value} {below : List Frame} {meth : Method} {c : Code} {P : XP} {A : Nat → Prop} {nL cells slots : Nat} {Q : State → Prop} {own : String} {cc : ByteArray} {ret : Option FieldType} {σ : XS} {pc : Nat} {lv : List (Nat × Value)} {st : List Value}
theorem XMP.of {y : MethodName} {rm : Room} {as : List Value} {Post : Option Value → va_W → Prop} (hy : plainName y.cls = true) (hn : (lg_sl as).length ≤ nL)
    (body : ∀ (p : Program) (e : Env) (s : State) (m : MethodId) (args : Array Value) (below : List Frame) (meth : Method) (c : Code) (A : Nat → Prop), XC p s m args meth c P A nL y.cls cc ret → meth.name = y.name → XW p l e rm s m args below meth c P A nL 0 0 (MQ below (XQP P A σ Post) args s rm.cells rm.slots A) σ 0 (lv_args 0 as) []) : XMP l y cc nL ret rm P as σ Post := by
  intro sz
  refine Met.ofW (cc := cc) (maxL := nL) (ret := ret) hy rfl ?_
  intro p e s m args below meth c s₁ B hml hv
  obtain ⟨rfl, hsz, hP, hK, hD0, hE⟩ := hv
  have hts := atoms_spec (ws := Cond.code y cc nL ret :: xTB) B.pre
  have hown : s.vm.findClass y.cls = some m.cls := findClass_of_methodNamed B.named
  have hin : meth.name = y.name := (name_of_methodNamed B.named B.method).1
  subst hsz
  have hD : va_D (va_A (xw P σ) s.heap.size) (xw P σ) := hD0.self
  have hl := lv_entry as (n := nL) hn
  rw [lg_entry_eq]
  exact body p e s m _ below meth c _ ⟨B.exec, B.bytes, hml, hown, fun w hw => hts w (List.mem_cons_of_mem _ hw), hK, fun σ1 => xw_D hD σ1, fun q h => Or.inr h, B.returns, B.notSynchronized, hE⟩ hin s.heap [] _ hP va_S.rf hl
theorem XMP.named {y : MethodName} {rm : Room} {as : List Value} {Post : Option Value → va_W → Prop} (h : XMP l y cc nL ret rm P as σ Post) : XMP l y cc nL ret rm P as σ Post := h
/-- a contract that leaves the world as it is, told so -/
theorem XMP.ofX {y : MethodName} {rm : Room} {as : List Value} {v : Option Value} (h : XF l y cc nL ret rm P as σ v σ) : XMP l y cc nL ret rm P as σ (fun v9 w => v9 = v ∧ w = xRaw P) := by
  intro sz p e ha hc hk s m args below hf hfit hpre htr
  obtain ⟨k, o, h1, h2, h3, ⟨⟨v1, σ1, q1, ⟨q2, q6⟩, q3⟩, q4⟩, q5⟩ := h sz p e ha hc hk s m args below hf hfit hpre htr
  subst q2
  subst q6
  have hD : va_D (va_A (xw P σ1) sz) (xw P σ1) := (hpre.2.2.2.2.1).self
  exact ⟨k, o, h1, h2, h3, ⟨⟨v1, xRaw P, q1, ⟨rfl, rfl⟩, q3, hD⟩, q4⟩, q5⟩
theorem X_afterP {H : Heap} {locs : List Loc} {ls : Array Slot} {mc ms : Nat} {st0 st1 : List Value} {Post : Option Value → va_W → Prop} {a : Array Value} (C : XC p s m args meth c P A nL own cc ret) (hS : va_S A s.heap H locs) (hl : lv_has ls nL lv)
    (hr : va_Run p l e R s m args below meth c H locs cells slots mc ms (F0 m pc ls st0) st1 (XQP P (va_A (xw P σ) H.size) σ Post a) (va_A (xw P σ) H.size))
    (k : ∀ (v : Option Value) (w : va_W), Post v w → XC p s m args meth c (xPR P w) A nL own cc ret → XW p l e R s m args below meth c (xPR P w) A nL (cells + mc) (slots + ms) Q σ (pc + 3) lv (v.toList ++ st1)) : W p l e R s m args below meth c H locs cells slots Q (F0 m pc ls st0) := by
  intro T hT X
  obtain ⟨v, st₀, t, T', L, h0, X', hL, e1, e2, ⟨⟨v1, w, hv, hp, hPt, hDt⟩, hz, hk⟩, stp⟩ := hr T hT X
  cases hv
  rw [h0] at hz hk
  have hF := xw_free (σ := σ) C.hD C.hA hS
  obtain ⟨t2, a1, b1⟩ := k v w hp (C.pr (σ0 := σ) ⟨hDt.1, fun k q hq => hF _ (hDt.2 k q hq)⟩) T'.heap (locs ++ L) ls (by rw [e1]; exact hPt)
    ⟨Nat.le_trans hS.1 (by rw [e1]; exact hz), fun q h1 h2 => by rw [e1, hk q (Nat.lt_of_lt_of_le h1 hS.1) (fun z => h2 (hF q z))]; exact hS.2.1 q h1 h2, fun q hq => by
      rcases List.mem_append.mp hq with h | h
      · exact hS.2.2 q h
      · exact hF _ (hL q h)⟩ hl T' rfl X'
  exact ⟨t2, stp t2 a1, b1⟩
theorem X_callSP (C : XC p s m args meth c P A nL own cc ret) {y : MethodName} {cy : ByteArray} {ny : Nat} {ry : Option FieldType} {rm : Room} (As : List Value) {n index : Nat} {Post : Option Value → va_W → Prop} (hM : XMP l y cy ny ry rm P As σ Post) (hc : Cond.code y cy ny ry ∈ xTB) (hlk : Cond.methodLink own index y ∈ xTB) (hin : Cond.static y ∈ xTB) (hini : Cond.initialized y.cls ∈ xTB) (hd : y.cls ≠ "java/lang/invoke/MethodHandle" ∧ y.cls ≠ "java/lang/invoke/VarHandle" ∧ (parseMethodDescriptor y.desc).map (fun d => d.parameters.length) = some n) (hR : rm.frames + 1 ≤ R.frames ∧ 8 + (ny + 11) + rm.locals ≤ R.locals) (hcl : cells + rm.cells ≤ R.cells ∧ slots + rm.slots ≤ R.slots)
    (hn : As.length = n) (hst : (st.map fun v => v.category).sum ≤ 8) {st0 : List Value} (h0 : st0 = As.reverse ++ st) (d : decode cc pc = .ok (.invokestatic index, 3)) (k : ∀ (v : Option Value) (w : va_W), Post v w → XC p s m args meth c (xPR P w) A nL own cc ret → XW p l e R s m args below meth c (xPR P w) A nL (cells + rm.cells) (slots + rm.slots) Q σ (pc + 3) lv (v.toList ++ st)) : XW p l e R s m args below meth c P A nL cells slots Q σ pc lv st0 := by
  intro H locs ls hP hS hl
  subst h0
  exact X_afterP (σ := σ) C hS hl (va_runS (As := As) (rest := st) ⟨C.1, C.2.1, C.2.2.1, C.2.2.2.1, C.hts⟩ (hM H.size) ⟨callB_of n C.hts (xGood hc) rfl rfl rfl (C.hts _ hini) (C.hts _ hlk) hd hR, C.hts _ hin⟩ ⟨xBlind, fun U hU hW => ⟨rfl, xPre_at C hP hS hU hW⟩⟩ rfl hn hl.1 rfl (lv_room hst) d hcl) k
/-- on a raw thing, a method of its own class -/
theorem X_callVP (C : XC p s m args meth c P A nL own cc ret) {y : MethodName} {cy : ByteArray} {ny : Nat} {ry : Option FieldType} {rm : Room} (i : Nat) {b ci : Nat} {fs : List Value} {q9 : vw_C} (As : List Value) {n index : Nat} {Post : Option Value → va_W → Prop} (hM : XMP l y cy ny ry rm P (.ref b :: As) σ Post) (hc : Cond.code y cy ny ry ∈ xTB) (hlk : Cond.methodLink own index y ∈ xTB) (hin : Cond.instanceMethod y ∈ xTB) (hse : Cond.selects y.cls y y ∈ xTB) (hini : Cond.initialized y.cls ∈ xTB) (hd : y.cls ≠ "java/lang/invoke/MethodHandle" ∧ y.cls ≠ "java/lang/invoke/VarHandle" ∧ (parseMethodDescriptor y.desc).map (fun d => d.parameters.length) = some n) (hR : rm.frames + 1 ≤ R.frames ∧ 8 + (ny + 11) + rm.locals ≤ R.locals) (hcl : cells + rm.cells ≤ R.cells ∧ slots + rm.slots ≤ R.slots)
    (he : (xRaw P)[i]? = some (b, .inr (ci, fs))) (hci : vwCl[ci]? = some q9) (hq : q9.1 = y.cls) (hn : As.length = n) (hst : (st.map fun v => v.category).sum ≤ 8) {st0 : List Value} (h0 : st0 = As.reverse ++ .ref b :: st) (d : decode cc pc = .ok (.invokevirtual index, 3)) (k : ∀ (v : Option Value) (w : va_W), Post v w → XC p s m args meth c (xPR P w) A nL own cc ret → XW p l e R s m args below meth c (xPR P w) A nL (cells + rm.cells) (slots + rm.slots) Q σ (pc + 3) lv (v.toList ++ st)) : XW p l e R s m args below meth c P A nL cells slots Q σ pc lv st0 := by
  intro H locs ls hP hS hl
  subst h0
  have hrecv := va_recv C.hK hP hci (xw_raw he)
  rw [hq] at hrecv
  exact X_afterP (σ := σ) C hS hl (va_runV (C := y.cls) (As := As) (rest := st) ⟨C.1, C.2.1, C.2.2.1, C.2.2.2.1, C.hts⟩ (hM H.size) ⟨callB_of n C.hts (xGood hc) rfl rfl rfl (C.hts _ hini) (C.hts _ hlk) hd hR, C.hts _ hin, C.hts _ hse⟩ ⟨xBlind, hrecv, fun U hU hW => ⟨rfl, xPre_at C hP hS hU hW⟩⟩ rfl hn hl.1 rfl (lv_room hst) d hcl) k
/-- on a StringBuilder, a method that AbstractStringBuilder has -/
theorem X_callUP (C : XC p s m args meth c P A nL own cc ret) {x y : MethodName} {cy bx : ByteArray} {ny nx : Nat} {ry rx : Option FieldType} {rm : Room} (i : Nat) {b : Nat} {fs : List Value} (As : List Value) {n index : Nat} {Post : Option Value → va_W → Prop} (hM : XMP l y cy ny ry rm P (.ref b :: As) σ Post) (hc : Cond.code y cy ny ry ∈ xTB) (hlk : Cond.methodLink own index x ∈ xTB) (hsa : Cond.sameMethod x.cls x.cls x.name x.desc ∈ xTB) (hinx : Cond.instanceMethod x ∈ xTB) (hcx : Cond.code x bx nx rx ∈ xTB) (hin : Cond.instanceMethod y ∈ xTB) (hse : (Cond.selects RJ4 x y).before args s = true) (hini : Cond.initialized y.cls ∈ xTB) (hd : x.cls ≠ "java/lang/invoke/MethodHandle" ∧ x.cls ≠ "java/lang/invoke/VarHandle" ∧ (parseMethodDescriptor x.desc).map (fun d => d.parameters.length) = some n) (hR : rm.frames + 1 ≤ R.frames ∧ 8 + (ny + 11) + rm.locals ≤ R.locals) (hcl : cells + rm.cells ≤ R.cells ∧ slots + rm.slots ≤ R.slots)
    (he : (xRaw P)[i]? = some (b, .inr (7, fs))) (hn : As.length = n) (hst : (st.map fun v => v.category).sum ≤ 8) {st0 : List Value} (h0 : st0 = As.reverse ++ .ref b :: st) (d : decode cc pc = .ok (.invokevirtual index, 3)) (k : ∀ (v : Option Value) (w : va_W), Post v w → XC p s m args meth c (xPR P w) A nL own cc ret → XW p l e R s m args below meth c (xPR P w) A nL (cells + rm.cells) (slots + rm.slots) Q σ (pc + 3) lv (v.toList ++ st)) : XW p l e R s m args below meth c P A nL cells slots Q σ pc lv st0 := by
  intro H locs ls hP hS hl
  subst h0
  have hrecv := va_recv C.hK hP (q := (RJ4, TJ4, 4)) rfl (xw_raw he)
  have cw : va_CU R s args own RJ4 x.cls index x y cy ny ry (Cond.code y cy ny ry :: xTB) rm rm.cells rm.slots n := ⟨⟨rfl, rfl, hR.1, hR.2, pay_in C.hts (xGood hc), List.mem_cons_self⟩, C.hts _ hc, C.hts _ hini, ⟨hd.1, hd.2.1⟩, fun sig h => by
    have h2 := hd.2.2
    rw [h] at h2
    exact (Option.some.inj h2).symm, C.hts _ hlk, C.hts _ hsa, va_Decl.of (C.hts _ hinx) (C.hts _ hcx), hse, C.hts _ hin⟩
  exact X_afterP (σ := σ) C hS hl (va_runU (As := As) (rest := st) ⟨C.1, C.2.1, C.2.2.1, C.2.2.2.1, C.hts⟩ (hM H.size) cw ⟨xBlind, hrecv, fun U hU hW => ⟨rfl, xPre_at C hP hS hU hW⟩⟩ rfl hn hl.1 rfl (lv_room hst) d hcl) k
/-- super. -/
theorem X_callQP (C : XC p s m args meth c P A nL RJ4 cc ret) {y : MethodName} {cy : ByteArray} {ny : Nat} {ry : Option FieldType} {rm : Room} (i : Nat) {b : Nat} {fs : List Value} (As : List Value) {n index : Nat} {Post : Option Value → va_W → Prop} (hM : XMP l y cy ny ry rm P (.ref b :: As) σ Post) (hc : Cond.code y cy ny ry ∈ xTB) (hlk : Cond.methodLink RJ4 index y ∈ xTB) (hsa : Cond.sameMethod y.cls y.cls y.name y.desc ∈ xTB) (hsu : Cond.superclass RJ4 y.cls ∈ xTB) (hin : Cond.instanceMethod y ∈ xTB) (hini : Cond.initialized y.cls ∈ xTB) (hd : y.name ≠ "<init>" ∧ (parseMethodDescriptor y.desc).map (fun d => d.parameters.length) = some n) (hR : rm.frames + 1 ≤ R.frames ∧ 8 + (ny + 11) + rm.locals ≤ R.locals) (hcl : cells + rm.cells ≤ R.cells ∧ slots + rm.slots ≤ R.slots)
    (he : (xRaw P)[i]? = some (b, .inr (7, fs))) (hn : As.length = n) (hst : (st.map fun v => v.category).sum ≤ 8) {st0 : List Value} (h0 : st0 = As.reverse ++ .ref b :: st) (d : decode cc pc = .ok (.invokespecial index, 3)) (k : ∀ (v : Option Value) (w : va_W), Post v w → XC p s m args meth c (xPR P w) A nL RJ4 cc ret → XW p l e R s m args below meth c (xPR P w) A nL (cells + rm.cells) (slots + rm.slots) Q σ (pc + 3) lv (v.toList ++ st)) : XW p l e R s m args below meth c P A nL cells slots Q σ pc lv st0 := by
  intro H locs ls hP hS hl
  subst h0
  have hrecv := va_recv C.hK hP (q := (RJ4, TJ4, 4)) rfl (xw_raw he)
  have cw : va_CS R s args RJ4 index y cy ny ry (Cond.code y cy ny ry :: xTB) rm rm.cells rm.slots n := ⟨⟨rfl, rfl, hR.1, hR.2, pay_in C.hts (xGood hc), List.mem_cons_self⟩, C.hts _ hlk, C.hts _ hsa, C.hts _ hsu, C.hts _ hin, C.hts _ hini, C.hts _ hc, hd.1, fun sig h => by
    have h2 := hd.2
    rw [h] at h2
    exact (Option.some.inj h2).symm⟩
  exact X_afterP (σ := σ) C hS hl (va_runSU (As := As) (rest := st) (C.hK.1 7 (RJ4, TJ4, 4) rfl).2 ⟨C.1, C.2.1, C.2.2.1, C.2.2.2.1, C.hts⟩ (hM H.size) cw ⟨xBlind, hrecv, fun U hU hW => ⟨rfl, xPre_at C hP hS hU hW⟩⟩ rfl hn hl.1 rfl (lv_room hst) d hcl) k
/-- a constructor -/
theorem X_callIP (C : XC p s m args meth c P A nL own cc ret) {y : MethodName} {cy : ByteArray} {ny : Nat} {rm : Room} {b : Nat} (As : List Value) {n index : Nat} {Post : Option Value → va_W → Prop} (hM : XMP l y cy ny none rm P (.ref b :: As) σ Post) (hc : Cond.code y cy ny none ∈ xTB) (hlk : Cond.methodLink own index y ∈ xTB) (hy : y.name = "<init>") (hin : Cond.instanceMethod y ∈ xTB) (hini : Cond.initialized y.cls ∈ xTB) (hd : y.cls ≠ "java/lang/invoke/MethodHandle" ∧ y.cls ≠ "java/lang/invoke/VarHandle" ∧ (parseMethodDescriptor y.desc).map (fun d => d.parameters.length) = some n) (hR : rm.frames + 1 ≤ R.frames ∧ 8 + (ny + 11) + rm.locals ≤ R.locals) (hcl : cells + rm.cells ≤ R.cells ∧ slots + rm.slots ≤ R.slots)
    (hn : As.length = n) (hst : (st.map fun v => v.category).sum ≤ 8) {st0 : List Value} (h0 : st0 = As.reverse ++ .ref b :: st) (d : decode cc pc = .ok (.invokespecial index, 3)) (k : ∀ (v : Option Value) (w : va_W), Post v w → XC p s m args meth c (xPR P w) A nL own cc ret → XW p l e R s m args below meth c (xPR P w) A nL (cells + rm.cells) (slots + rm.slots) Q σ (pc + 3) lv (v.toList ++ st)) : XW p l e R s m args below meth c P A nL cells slots Q σ pc lv st0 := by
  intro H locs ls hP hS hl
  subst h0
  exact X_afterP (σ := σ) C hS hl (va_runI (As := As) (rest := st) ⟨C.1, C.2.1, C.2.2.1, C.2.2.2.1, C.hts⟩ (hM H.size) ⟨callB_of n C.hts (xGood hc) rfl rfl rfl (C.hts _ hini) (C.hts _ hlk) hd hR, hy, C.hts _ hin⟩ ⟨xBlind, fun U hU hW => ⟨rfl, xPre_at C hP hS hU hW⟩⟩ rfl hn hl.1 rfl (lv_room hst) d hcl) k
/-- ends -/
theorem X_retAP {Post : Option Value → va_W → Prop} {a mc ms : Nat} {w : va_W} {ty : FieldType} (C : XC p s m args meth c (xPR P w) A nL own cc (some ty)) (hty : (∃ n, ty = .object n) ∨ ∃ t, ty = .array t) (hc : cells ≤ mc) (hs : slots ≤ ms) (d : decode cc pc = .ok (.areturn, 1)) (hp : Post (some (.ref a)) w) : XW p l e R s m args below meth c (xPR P w) A nL cells slots (MQ below (XQP P A σ Post) args s mc ms A) σ pc lv [.ref a] := fun H locs ls hP hS _ => W.widen hc hs (W.aret C.1 C.2.1 C.hr hty (Or.inr ⟨a, rfl⟩) (fun t ht _ => ⟨⟨_, w, rfl, hp, by rw [ht]; exact hP, C.hD σ⟩, hS.F ht⟩) hS.2.2 d C.hlk)
theorem X_retVP {Post : Option Value → va_W → Prop} {mc ms : Nat} {w : va_W} (C : XC p s m args meth c (xPR P w) A nL own cc none) (hc : cells ≤ mc) (hs : slots ≤ ms) (d : decode cc pc = .ok (.return_, 1)) (hp : Post none w) : XW p l e R s m args below meth c (xPR P w) A nL cells slots (MQ below (XQP P A σ Post) args s mc ms A) σ pc lv [] := fun H locs ls hP hS _ => W.widen hc hs (W.vret C.1 C.2.1 C.hr (fun t ht _ => ⟨⟨_, w, rfl, hp, by rw [ht]; exact hP, C.hD σ⟩, hS.F ht⟩) hS.2.2 d C.hlk)
theorem X_retIP {Post : Option Value → va_W → Prop} {mc ms : Nat} {v : Int32} {w : va_W} {ty : FieldType} (C : XC p s m args meth c (xPR P w) A nL own cc (some ty)) (hn : narrow ty (.int v) = .int v) (hc : cells ≤ mc) (hs : slots ≤ ms) (d : decode cc pc = .ok (.ireturn, 1)) (hp : Post (some (.int v)) w) : XW p l e R s m args below meth c (xPR P w) A nL cells slots (MQ below (XQP P A σ Post) args s mc ms A) σ pc lv [.int v] := fun H locs ls hP hS _ => W.widen hc hs (W.zret C.1 C.2.1 C.hr hn (fun t ht _ => ⟨⟨_, w, rfl, hp, by rw [ht]; exact hP, C.hD σ⟩, hS.F ht⟩) hS.2.2 d C.hlk)
/-- a private method of AbstractStringBuilder, called on a StringBuilder -/
theorem sel_asb {y y0 : MethodName} (h1 : (Cond.selects RJ4 y0 y0).before args s = true) (h0 : y0.cls = y.cls) (hp : (Cond.privateMethod y).before args s = true) (hi : (Cond.instanceMethod y).before args s = true) (hy : y.cls ≠ "java/lang/invoke/MethodHandle" ∧ y.cls ≠ "java/lang/invoke/VarHandle") : (Cond.selects RJ4 y y).before args s = true := by
  obtain ⟨c0, r0, m0, q1, q2, q3, q4, mk, q5, q6⟩ := Cond.selects_spec h1
  obtain ⟨m1, methM, hnamed, hmethM, -, -⟩ := Cond.instanceMethod_spec hi
  have hfound : s.methodFound? y.cls y.name y.desc = some m1 := State.methodFound?_of_named hnamed hy
  have f1 := findClass_of_methodNamed q3
  have f2 := findClass_of_methodNamed hnamed
  rw [h0] at f1
  have ec : m1.cls = m0.cls := Option.some.inj (f2.symm.trans f1)
  have hsel : selectMethod {} s.vm c0 m1 = .method m1 := selectMethod_private hmethM (Cond.privateMethod_at hp m1 methM hnamed hmethM)
  simp only [Cond.before, Cond.holds, Cond.value, q1, hfound, hnamed, hsel, ec, q5]
  simp
  exact q6
end XRWC

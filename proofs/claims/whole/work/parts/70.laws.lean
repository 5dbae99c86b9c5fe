/-! THE LAW'S OWN METHODS: one question or change each; what is thrown is caught and told as a number -/
def XMH (l : Launch) (y : MethodName) (cc : ByteArray) (nL : Nat) (hh : List (Nat × Nat × Nat × Nat)) (rm : Room) (P : XP) (as : List Value) (σ : XS) (Post : Option Value → XS → Prop) : Prop :=
  ∀ sz : Nat, vx_Met l y (Cond.codeWith y cc nL (some .int) hh :: xTB) rm (va_Pc as (XPre P σ sz)) (XQ P (va_A (xw P σ) sz) Post) (XXC P (va_A (xw P σ) sz) (fun _ _ => False)) rm.cells rm.slots (va_A (xw P σ) sz)
/-- one frame more -/
abbrev rmL (n : Nat) (r : Room) : Room := { frames := r.frames + 1, cells := r.cells, slots := r.slots, locals := 19 + n + r.locals }
def uLong (σ : XS) (x : Int64) : XS := xL σ (.inr 19) (vp_updL (σ.2 (.inr 19)) 0 x)
/-- the answer is told: 0, and what the method answered stands in the cell; or the number of what was thrown -/
def LW (es : List String) (Post : Option Value → XS → Prop) (XPost : String → XS → Prop) : Option Value → XS → Prop := fun v τ =>
  (∃ (x : Int32) (τ0 : XS), Post (some (.int x)) τ0 ∧ v = some (.int 0) ∧ τ = uLong τ0 x.toInt64) ∨ ∃ E, XPost E τ ∧ v = some (.int (kOf es (.inr E)))
section XP70
variable {p : Program} {l : Launch} {e : Env} {R : Room} {s : State} {m : MethodId} {args : Array Value} {below : List Frame} {meth : Method} {c : Code} {P : XP} {A : Nat → Prop} {nL cells slots : Nat} {Q : State → Prop} {cc : ByteArray} {ret : Option FieldType} {σ : XS} {pc : Nat} {lv : List (Nat × Value)} {st : List Value}
variable {own : String}
theorem XMH.of {y : MethodName} {rm : Room} {as : List Value} {Post : Option Value → XS → Prop} {hh : List (Nat × Nat × Nat × Nat)} (hy : plainName y.cls = true) (hn : (lg_sl as).length ≤ nL)
    (body : ∀ (p : Program) (e : Env) (s : State) (m : MethodId) (args : Array Value) (below : List Frame) (meth : Method) (c : Code) (A : Nat → Prop), XC p s m args meth c P A nL y.cls cc (some .int) → c.exceptionTable.toList = tableOf hh → XW p l e rm s m args below meth c P A nL 0 0 (vx_MQ below (XQ P A Post) (XXC P A (fun _ _ => False)) args s rm.cells rm.slots A) σ 0 (lv_args 0 as) []) : XMH l y cc nL hh rm P as σ Post := by
  intro sz
  refine vx_ofWH (cc := cc) (maxL := nL) (ret := some .int) (hh := hh) hy rfl ?_
  intro p e s m args below meth c s₁ B hml hv
  obtain ⟨rfl, hsz, hP, hK, hD0, hE⟩ := hv
  have hts := atoms_spec (ws := Cond.codeWith y cc nL (some .int) hh :: xTB) B.pre
  have hT : c.exceptionTable.toList = tableOf hh := vx_table (x := y) B (hts _ List.mem_cons_self)
  have hown : s.vm.findClass y.cls = some m.cls := findClass_of_methodNamed B.named
  subst hsz
  have hD : va_D (va_A (xw P σ) s.heap.size) (xw P σ) := hD0.self
  have hl := lv_entry as (n := nL) hn
  rw [lg_entry_eq]
  exact body p e s m _ below meth c _ ⟨B.exec, B.bytes, hml, hown, fun w hw => hts w (List.mem_cons_of_mem _ hw), hK, fun σ1 => xw_D hD σ1, fun q h => Or.inr h, B.returns, B.notSynchronized, hE⟩ hT s.heap [] _ hP va_S.rf hl
theorem X_catch (C : XC p s m args meth c P A nL own cc ret) {hh : List (Nat × Nat × Nat × Nat)} (hT : c.exceptionTable.toList = tableOf hh) {E : String} (pre : List ExceptionTableEntry) (x : ExceptionTableEntry) (suf : List ExceptionTableEntry) (hsplit : tableOf hh = pre ++ x :: suf)
    (hpass : ∀ z ∈ pre, z.catchType ≠ 0 ∧ ∃ nm : String, Cond.classLink own z.catchType nm ∈ xTB ∧ (E, nm) ∈ xXn) (hx : covers x pc = true) (h0 : x.catchType ≠ 0) (hlink : Cond.classLink own x.catchType E ∈ xTB) (hcast : Cond.castable E E ∈ xXw)
    (k : ∀ q : Nat, XW p l e R s m args below meth c P A nL cells slots Q σ x.handlerPc lv [.ref q]) : XWX p l e R s m args below meth c P A nL cells slots Q σ pc lv E :=
  fun H locs ls rest q ce hP hS hl hce hcv hcl => vx_catch C.2.2.2.1 pre x suf (hT.trans hsplit) (fun z hz => by
    obtain ⟨z0, nm, h1, h2⟩ := hpass z hz
    exact Or.inr ⟨z0, nm, C.hts _ h1, C.hE.2.2.2.2.2.2 _ h2⟩) hx h0 (C.hts _ hlink) (va_Nw.use (xXw_t _ hcast) (C.hE.2.2.2.2.2.1 _ hcast)) hce hcv hcl (k q H locs ls hP hS hl)
theorem X_callSH (C : XC p s m args meth c P A nL own cc ret) {y : MethodName} {cy : ByteArray} {ny : Nat} {hh : List (Nat × Nat × Nat × Nat)} {rm : Room} (As : List Value) {n index : Nat} {Post : Option Value → XS → Prop} (hM : XMH l y cy ny hh rm P As σ Post) (hc : Cond.codeWith y cy ny (some .int) hh ∈ xTB) (hlk : Cond.methodLink own index y ∈ xTB) (hin : Cond.static y ∈ xTB) (hini : Cond.initialized y.cls ∈ xTB) (hd : y.cls ≠ "java/lang/invoke/MethodHandle" ∧ y.cls ≠ "java/lang/invoke/VarHandle" ∧ (parseMethodDescriptor y.desc).map (fun d => d.parameters.length) = some n) (hR : rm.frames + 1 ≤ R.frames ∧ 8 + (ny + 11) + rm.locals ≤ R.locals) (hcl : cells + rm.cells ≤ R.cells ∧ slots + rm.slots ≤ R.slots)
    (hn : As.length = n) (hst : (st.map fun v => v.category).sum ≤ 8) {st0 : List Value} (h0 : st0 = As.reverse ++ st) (d : decode cc pc = .ok (.invokestatic index, 3)) (k : ∀ (v : Option Value) (σ1 : XS), Post v σ1 → XW p l e R s m args below meth c P A nL (cells + rm.cells) (slots + rm.slots) Q σ1 (pc + 3) lv (v.toList ++ st)) : XW p l e R s m args below meth c P A nL cells slots Q σ pc lv st0 := by
  intro H locs ls hP hS hl
  subst h0
  have hG : GoodIn xTB (va_wsS own index y (Cond.codeWith y cy ny (some .int) hh :: xTB)) := fun w hw => by
    unfold va_wsS at hw
    rcases List.mem_append.mp hw with h | h
    · simp only [List.mem_cons, List.not_mem_nil, or_false] at h
      rcases h with rfl | rfl | rfl
      all_goals first | exact ⟨hin, xTB_good _ hin⟩ | exact ⟨hlk, xTB_good _ hlk⟩ | exact ⟨hini, xTB_good _ hini⟩
    · rcases List.mem_cons.mp h with rfl | h
      · exact ⟨hc, xTB_good _ hc⟩
      · exact ⟨h, xTB_good _ h⟩
  exact X_afterT (σ := σ) C hS hl (vx_runSX (As := As) (rest := st) ⟨C.1, C.2.1, C.2.2.1, C.2.2.2.1, C.hts⟩ (hM H.size) (vx_cwSW (ws' := xTB) n C.hts hG rfl rfl rfl hd hR) ⟨xBlind, fun U hU hW => ⟨rfl, xPre_at C hP hS hU hW⟩⟩ rfl hn hl.1 rfl (lv_room hst) d hcl) k (fun E σ1 hq => hq.elim)

theorem m_h_L_truncateInput : Cond.codeWith yL_truncateInput cL_truncateInput 4 (some .int) [(0, 9, 12, 13)] ∈ xTB := xm 821 (by decide +kernel) (by decide +kernel)
set_option maxRecDepth 100000 in
set_option maxHeartbeats 4000000 in
theorem c_L_truncateInput (l : Launch) (P : XP) (σ : XS) (h0 : (.inr 0 : XI) ∈ P.2.2.2.1) (h19 : (.inr 19 : XI) ∈ P.2.2.2.1) (a0 : Int32) {Post : Option Value → XS → Prop} {XPost : String → XS → Prop} (hM : XTM l yX6_truncateInput cX6_truncateInput 2 (some .int) rm_X6_truncateInput P [.ref (P.2.2.1 (.inr 0)), .int a0] σ Post XPost) (hV : ∀ v τ, Post v τ → ∃ x : Int32, v = some (.int x)) (hE : ∀ E τ, XPost E τ → E = eIA) : XMH l yL_truncateInput cL_truncateInput 4 [(0, 9, 12, 13)] (rmL 2 rm_X6_truncateInput) P [.ref (P.2.2.1 (.inr 0)), .int a0, .ref (P.2.2.1 (.inr 19))] σ (LW [eIA] Post XPost) := by
  refine XMH.of (by decide +kernel) (Nat.le_of_ble_eq_true rfl) (fun p e s m args below meth c A C hT => ?_)
  replace C : XC p s m args meth c P A 4 RL cL_truncateInput (some .int) := C
  refine XW.eq (lv' := [(0, _), (1, _), (2, _)]) rfl rfl rfl ?_
  refine X_aload_n (pc := 0) C 2 dL_truncateInput_0 rfl rfl ?_
  refine X_iconst (pc := 1) (v := 0) C dL_truncateInput_1 (by decide) ?_
  refine X_aload_n (pc := 2) C 0 dL_truncateInput_2 rfl rfl ?_
  refine X_iload_n (pc := 3) C 1 dL_truncateInput_3 rfl rfl ?_
  skip
  refine X_callVT (i := .inr 0) (ci := 6) (n := 1) (pc := 4) C [.int a0] hM m_c_X6_truncateInput m_m_L_7 m_i_X6_truncateInput m_s_X6_truncateInput m_n_X6 ⟨by decide +kernel, by decide +kernel, by decide +kernel⟩ ⟨Nat.le_of_ble_eq_true rfl, Nat.le_of_ble_eq_true rfl⟩ ⟨Nat.le_of_ble_eq_true rfl, Nat.le_of_ble_eq_true rfl⟩ h0 rfl rfl rfl rfl (Nat.le_of_ble_eq_true rfl) rfl dL_truncateInput_4 (fun v σ1 hp => ?_) (fun E σ1 hx => ?_)
  · obtain ⟨x, rfl⟩ := hV v σ1 hp
    show XW p l e _ s m args below meth c P A 4 _ _ _ σ1 7 [(0, _), (1, _), (2, _)] (.int x :: _)
    refine X_i2l (pc := 7) C dL_truncateInput_7 ?_
    refine X_lastN (j := 0) (pc := 8) C h19 rfl (by omega) (by decide) dL_truncateInput_8 ?_
    refine X_goto (pc := 9) C 15 dL_truncateInput_9 (by decide) ?_
    refine X_iconst (pc := 15) (v := 0) C dL_truncateInput_15 (by decide) ?_
    exact XW.tret (X_iret (pc := 16) C (Nat.le_of_ble_eq_true rfl) (Nat.le_of_ble_eq_true rfl) dL_truncateInput_16 (Or.inl ⟨x, σ1, hp, rfl, rfl⟩))
  · obtain rfl := hE E σ1 hx
    refine X_catch (pc := 4) C hT [] ⟨0, 9, 12, 13⟩ [] rfl (fun z hz => nomatch hz) (by decide) (by decide) m_l_L_13 (by decide) (fun q => ?_)
    show XW p l e _ s m args below meth c P A 4 _ _ _ σ1 12 [(0, _), (1, _), (2, _)] [.ref q]
    refine X_astore_n (pc := 12) (lv1 := [(0, _), (1, _), (2, _), (3, _)]) C 3 dL_truncateInput_12 rfl (by decide) rfl ?_
    refine X_iconst (pc := 13) (v := 1) C dL_truncateInput_13 (by decide) ?_
    exact XW.tret (X_iret (pc := 14) C (Nat.le_of_ble_eq_true rfl) (Nat.le_of_ble_eq_true rfl) dL_truncateInput_14 (Or.inr ⟨_, hx, rfl⟩))

theorem m_h_L_call : Cond.codeWith yL_call cL_call 6 (some .int) [(0, 12, 15, 19), (0, 12, 19, 13), (0, 12, 23, 21)] ∈ xTB := xm 896 (by decide +kernel) (by decide +kernel)
set_option maxRecDepth 100000 in
set_option maxHeartbeats 4000000 in
theorem c_L_call (l : Launch) (P : XP) (σ : XS) (h0 : (.inr 0 : XI) ∈ P.2.2.2.1) (h19 : (.inr 19 : XI) ∈ P.2.2.2.1) (a0 a1 a2 : Int32) {Post : Option Value → XS → Prop} {XPost : String → XS → Prop} (hM : XTM l yX6_call cX6_call 4 (some .int) rm_X6_call P [.ref (P.2.2.1 (.inr 0)), .int a0, .int a1, .int a2] σ Post XPost) (hV : ∀ v τ, Post v τ → ∃ x : Int32, v = some (.int x)) (hE : ∀ E τ, XPost E τ → E = eIO ∨ E = eIA ∨ E = eIS) : XMH l yL_call cL_call 6 [(0, 12, 15, 19), (0, 12, 19, 13), (0, 12, 23, 21)] (rmL 4 rm_X6_call) P [.ref (P.2.2.1 (.inr 0)), .int a0, .int a1, .int a2, .ref (P.2.2.1 (.inr 19))] σ (LW [eIO, eIA, eIS] Post XPost) := by
  refine XMH.of (by decide +kernel) (Nat.le_of_ble_eq_true rfl) (fun p e s m args below meth c A C hT => ?_)
  replace C : XC p s m args meth c P A 6 RL cL_call (some .int) := C
  refine XW.eq (lv' := [(0, _), (1, _), (2, _), (3, _), (4, _)]) rfl rfl rfl ?_
  refine X_aload (pc := 0) C dL_call_0 rfl ?_
  refine X_iconst (pc := 2) (v := 0) C dL_call_2 (by decide) ?_
  refine X_aload_n (pc := 3) C 0 dL_call_3 rfl rfl ?_
  refine X_iload_n (pc := 4) C 1 dL_call_4 rfl rfl ?_
  refine X_iload_n (pc := 5) C 2 dL_call_5 rfl rfl ?_
  refine X_iload_n (pc := 6) C 3 dL_call_6 rfl rfl ?_
  skip
  refine X_callVT (i := .inr 0) (ci := 6) (n := 3) (pc := 7) C [.int a0, .int a1, .int a2] hM m_c_X6_call m_m_L_15 m_i_X6_call m_s_X6_call m_n_X6 ⟨by decide +kernel, by decide +kernel, by decide +kernel⟩ ⟨Nat.le_of_ble_eq_true rfl, Nat.le_of_ble_eq_true rfl⟩ ⟨Nat.le_of_ble_eq_true rfl, Nat.le_of_ble_eq_true rfl⟩ h0 rfl rfl rfl rfl (Nat.le_of_ble_eq_true rfl) rfl dL_call_7 (fun v σ1 hp => ?_) (fun E σ1 hx => ?_)
  · obtain ⟨x, rfl⟩ := hV v σ1 hp
    show XW p l e _ s m args below meth c P A 6 _ _ _ σ1 10 [(0, _), (1, _), (2, _), (3, _), (4, _)] (.int x :: _)
    refine X_i2l (pc := 10) C dL_call_10 ?_
    refine X_lastN (j := 0) (pc := 11) C h19 rfl (by omega) (by decide) dL_call_11 ?_
    refine X_goto (pc := 12) C 27 dL_call_12 (by decide) ?_
    refine X_iconst (pc := 27) (v := 0) C dL_call_27 (by decide) ?_
    exact XW.tret (X_iret (pc := 28) C (Nat.le_of_ble_eq_true rfl) (Nat.le_of_ble_eq_true rfl) dL_call_28 (Or.inl ⟨x, σ1, hp, rfl, rfl⟩))
  · rcases hE E σ1 hx with rfl | rfl | rfl
    · refine X_catch (pc := 7) C hT [] ⟨0, 12, 15, 19⟩ [⟨0, 12, 19, 13⟩, ⟨0, 12, 23, 21⟩] rfl (fun z hz => nomatch hz) (by decide) (by decide) m_l_L_19 (by decide) (fun q => ?_)
      show XW p l e _ s m args below meth c P A 6 _ _ _ σ1 15 [(0, _), (1, _), (2, _), (3, _), (4, _)] [.ref q]
      refine X_astore (pc := 15) (lv1 := [(0, _), (1, _), (2, _), (3, _), (4, _), (5, _)]) C dL_call_15 (by decide) rfl ?_
      refine X_iconst (pc := 17) (v := 1) C dL_call_17 (by decide) ?_
      exact XW.tret (X_iret (pc := 18) C (Nat.le_of_ble_eq_true rfl) (Nat.le_of_ble_eq_true rfl) dL_call_18 (Or.inr ⟨_, hx, rfl⟩))
    · refine X_catch (pc := 7) C hT [⟨0, 12, 15, 19⟩] ⟨0, 12, 19, 13⟩ [⟨0, 12, 23, 21⟩] rfl (fun z hz => by obtain rfl := List.mem_singleton.mp hz; exact ⟨by decide, _, m_l_L_19, by decide⟩) (by decide) (by decide) m_l_L_13 (by decide) (fun q => ?_)
      show XW p l e _ s m args below meth c P A 6 _ _ _ σ1 19 [(0, _), (1, _), (2, _), (3, _), (4, _)] [.ref q]
      refine X_astore (pc := 19) (lv1 := [(0, _), (1, _), (2, _), (3, _), (4, _), (5, _)]) C dL_call_19 (by decide) rfl ?_
      refine X_iconst (pc := 21) (v := 2) C dL_call_21 (by decide) ?_
      exact XW.tret (X_iret (pc := 22) C (Nat.le_of_ble_eq_true rfl) (Nat.le_of_ble_eq_true rfl) dL_call_22 (Or.inr ⟨_, hx, rfl⟩))
    · refine X_catch (pc := 7) C hT [⟨0, 12, 15, 19⟩, ⟨0, 12, 19, 13⟩] ⟨0, 12, 23, 21⟩ [] rfl (fun z hz => by
        simp only [List.mem_cons, List.not_mem_nil, or_false] at hz
        rcases hz with rfl | rfl
        · exact ⟨by decide, _, m_l_L_19, by decide⟩
        · exact ⟨by decide, _, m_l_L_13, by decide⟩) (by decide) (by decide) m_l_L_21 (by decide) (fun q => ?_)
      show XW p l e _ s m args below meth c P A 6 _ _ _ σ1 23 [(0, _), (1, _), (2, _), (3, _), (4, _)] [.ref q]
      refine X_astore (pc := 23) (lv1 := [(0, _), (1, _), (2, _), (3, _), (4, _), (5, _)]) C dL_call_23 (by decide) rfl ?_
      refine X_iconst (pc := 25) (v := 3) C dL_call_25 (by decide) ?_
      exact XW.tret (X_iret (pc := 26) C (Nat.le_of_ble_eq_true rfl) (Nat.le_of_ble_eq_true rfl) dL_call_26 (Or.inr ⟨_, hx, rfl⟩))

theorem m_h_L_callTrunk : Cond.codeWith yL_callTrunk cL_callTrunk 6 (some .int) [(0, 12, 15, 19), (0, 12, 19, 21)] ∈ xTB := xm 952 (by decide +kernel) (by decide +kernel)
set_option maxRecDepth 100000 in
set_option maxHeartbeats 4000000 in
theorem c_L_callTrunk (l : Launch) (P : XP) (σ : XS) (h0 : (.inr 0 : XI) ∈ P.2.2.2.1) (h19 : (.inr 19 : XI) ∈ P.2.2.2.1) (a0 a1 a2 : Int32) {Post : Option Value → XS → Prop} {XPost : String → XS → Prop} (hM : XTM l yX6_callTrunk cX6_callTrunk 4 (some .int) rm_X6_callTrunk P [.ref (P.2.2.1 (.inr 0)), .int a0, .int a1, .int a2] σ Post XPost) (hV : ∀ v τ, Post v τ → ∃ x : Int32, v = some (.int x)) (hE : ∀ E τ, XPost E τ → E = eIO ∨ E = eIS) : XMH l yL_callTrunk cL_callTrunk 6 [(0, 12, 15, 19), (0, 12, 19, 21)] (rmL 4 rm_X6_callTrunk) P [.ref (P.2.2.1 (.inr 0)), .int a0, .int a1, .int a2, .ref (P.2.2.1 (.inr 19))] σ (LW [eIO, eIS] Post XPost) := by
  refine XMH.of (by decide +kernel) (Nat.le_of_ble_eq_true rfl) (fun p e s m args below meth c A C hT => ?_)
  replace C : XC p s m args meth c P A 6 RL cL_callTrunk (some .int) := C
  refine XW.eq (lv' := [(0, _), (1, _), (2, _), (3, _), (4, _)]) rfl rfl rfl ?_
  refine X_aload (pc := 0) C dL_callTrunk_0 rfl ?_
  refine X_iconst (pc := 2) (v := 0) C dL_callTrunk_2 (by decide) ?_
  refine X_aload_n (pc := 3) C 0 dL_callTrunk_3 rfl rfl ?_
  refine X_iload_n (pc := 4) C 1 dL_callTrunk_4 rfl rfl ?_
  refine X_iload_n (pc := 5) C 2 dL_callTrunk_5 rfl rfl ?_
  refine X_iload_n (pc := 6) C 3 dL_callTrunk_6 rfl rfl ?_
  skip
  refine X_callVT (i := .inr 0) (ci := 6) (n := 3) (pc := 7) C [.int a0, .int a1, .int a2] hM m_c_X6_callTrunk m_m_L_23 m_i_X6_callTrunk m_s_X6_callTrunk m_n_X6 ⟨by decide +kernel, by decide +kernel, by decide +kernel⟩ ⟨Nat.le_of_ble_eq_true rfl, Nat.le_of_ble_eq_true rfl⟩ ⟨Nat.le_of_ble_eq_true rfl, Nat.le_of_ble_eq_true rfl⟩ h0 rfl rfl rfl rfl (Nat.le_of_ble_eq_true rfl) rfl dL_callTrunk_7 (fun v σ1 hp => ?_) (fun E σ1 hx => ?_)
  · obtain ⟨x, rfl⟩ := hV v σ1 hp
    show XW p l e _ s m args below meth c P A 6 _ _ _ σ1 10 [(0, _), (1, _), (2, _), (3, _), (4, _)] (.int x :: _)
    refine X_i2l (pc := 10) C dL_callTrunk_10 ?_
    refine X_lastN (j := 0) (pc := 11) C h19 rfl (by omega) (by decide) dL_callTrunk_11 ?_
    refine X_goto (pc := 12) C 23 dL_callTrunk_12 (by decide) ?_
    refine X_iconst (pc := 23) (v := 0) C dL_callTrunk_23 (by decide) ?_
    exact XW.tret (X_iret (pc := 24) C (Nat.le_of_ble_eq_true rfl) (Nat.le_of_ble_eq_true rfl) dL_callTrunk_24 (Or.inl ⟨x, σ1, hp, rfl, rfl⟩))
  · rcases hE E σ1 hx with rfl | rfl
    · refine X_catch (pc := 7) C hT [] ⟨0, 12, 15, 19⟩ [⟨0, 12, 19, 21⟩] rfl (fun z hz => nomatch hz) (by decide) (by decide) m_l_L_19 (by decide) (fun q => ?_)
      show XW p l e _ s m args below meth c P A 6 _ _ _ σ1 15 [(0, _), (1, _), (2, _), (3, _), (4, _)] [.ref q]
      refine X_astore (pc := 15) (lv1 := [(0, _), (1, _), (2, _), (3, _), (4, _), (5, _)]) C dL_callTrunk_15 (by decide) rfl ?_
      refine X_iconst (pc := 17) (v := 1) C dL_callTrunk_17 (by decide) ?_
      exact XW.tret (X_iret (pc := 18) C (Nat.le_of_ble_eq_true rfl) (Nat.le_of_ble_eq_true rfl) dL_callTrunk_18 (Or.inr ⟨_, hx, rfl⟩))
    · refine X_catch (pc := 7) C hT [⟨0, 12, 15, 19⟩] ⟨0, 12, 19, 21⟩ [] rfl (fun z hz => by obtain rfl := List.mem_singleton.mp hz; exact ⟨by decide, _, m_l_L_19, by decide⟩) (by decide) (by decide) m_l_L_21 (by decide) (fun q => ?_)
      show XW p l e _ s m args below meth c P A 6 _ _ _ σ1 19 [(0, _), (1, _), (2, _), (3, _), (4, _)] [.ref q]
      refine X_astore (pc := 19) (lv1 := [(0, _), (1, _), (2, _), (3, _), (4, _), (5, _)]) C dL_callTrunk_19 (by decide) rfl ?_
      refine X_iconst (pc := 21) (v := 2) C dL_callTrunk_21 (by decide) ?_
      exact XW.tret (X_iret (pc := 22) C (Nat.le_of_ble_eq_true rfl) (Nat.le_of_ble_eq_true rfl) dL_callTrunk_22 (Or.inr ⟨_, hx, rfl⟩))

theorem m_h_L_end : Cond.codeWith yL_end cL_end 4 (some .int) [(0, 9, 12, 19), (0, 9, 15, 21)] ∈ xTB := xm 964 (by decide +kernel) (by decide +kernel)
set_option maxRecDepth 100000 in
set_option maxHeartbeats 4000000 in
theorem c_L_end (l : Launch) (P : XP) (σ : XS) (h0 : (.inr 0 : XI) ∈ P.2.2.2.1) (h19 : (.inr 19 : XI) ∈ P.2.2.2.1) (a0 : Int32) {Post : Option Value → XS → Prop} {XPost : String → XS → Prop} (hM : XTM l yX6_end cX6_end 2 (some .int) rm_X6_end P [.ref (P.2.2.1 (.inr 0)), .int a0] σ Post XPost) (hV : ∀ v τ, Post v τ → ∃ x : Int32, v = some (.int x)) (hE : ∀ E τ, XPost E τ → E = eIO ∨ E = eIS) : XMH l yL_end cL_end 4 [(0, 9, 12, 19), (0, 9, 15, 21)] (rmL 2 rm_X6_end) P [.ref (P.2.2.1 (.inr 0)), .int a0, .ref (P.2.2.1 (.inr 19))] σ (LW [eIO, eIS] Post XPost) := by
  refine XMH.of (by decide +kernel) (Nat.le_of_ble_eq_true rfl) (fun p e s m args below meth c A C hT => ?_)
  replace C : XC p s m args meth c P A 4 RL cL_end (some .int) := C
  refine XW.eq (lv' := [(0, _), (1, _), (2, _)]) rfl rfl rfl ?_
  refine X_aload_n (pc := 0) C 2 dL_end_0 rfl rfl ?_
  refine X_iconst (pc := 1) (v := 0) C dL_end_1 (by decide) ?_
  refine X_aload_n (pc := 2) C 0 dL_end_2 rfl rfl ?_
  refine X_iload_n (pc := 3) C 1 dL_end_3 rfl rfl ?_
  skip
  refine X_callVT (i := .inr 0) (ci := 6) (n := 1) (pc := 4) C [.int a0] hM m_c_X6_end m_m_L_26 m_i_X6_end m_s_X6_end m_n_X6 ⟨by decide +kernel, by decide +kernel, by decide +kernel⟩ ⟨Nat.le_of_ble_eq_true rfl, Nat.le_of_ble_eq_true rfl⟩ ⟨Nat.le_of_ble_eq_true rfl, Nat.le_of_ble_eq_true rfl⟩ h0 rfl rfl rfl rfl (Nat.le_of_ble_eq_true rfl) rfl dL_end_4 (fun v σ1 hp => ?_) (fun E σ1 hx => ?_)
  · obtain ⟨x, rfl⟩ := hV v σ1 hp
    show XW p l e _ s m args below meth c P A 4 _ _ _ σ1 7 [(0, _), (1, _), (2, _)] (.int x :: _)
    refine X_i2l (pc := 7) C dL_end_7 ?_
    refine X_lastN (j := 0) (pc := 8) C h19 rfl (by omega) (by decide) dL_end_8 ?_
    refine X_goto (pc := 9) C 18 dL_end_9 (by decide) ?_
    refine X_iconst (pc := 18) (v := 0) C dL_end_18 (by decide) ?_
    exact XW.tret (X_iret (pc := 19) C (Nat.le_of_ble_eq_true rfl) (Nat.le_of_ble_eq_true rfl) dL_end_19 (Or.inl ⟨x, σ1, hp, rfl, rfl⟩))
  · rcases hE E σ1 hx with rfl | rfl
    · refine X_catch (pc := 4) C hT [] ⟨0, 9, 12, 19⟩ [⟨0, 9, 15, 21⟩] rfl (fun z hz => nomatch hz) (by decide) (by decide) m_l_L_19 (by decide) (fun q => ?_)
      show XW p l e _ s m args below meth c P A 4 _ _ _ σ1 12 [(0, _), (1, _), (2, _)] [.ref q]
      refine X_astore_n (pc := 12) (lv1 := [(0, _), (1, _), (2, _), (3, _)]) C 3 dL_end_12 rfl (by decide) rfl ?_
      refine X_iconst (pc := 13) (v := 1) C dL_end_13 (by decide) ?_
      exact XW.tret (X_iret (pc := 14) C (Nat.le_of_ble_eq_true rfl) (Nat.le_of_ble_eq_true rfl) dL_end_14 (Or.inr ⟨_, hx, rfl⟩))
    · refine X_catch (pc := 4) C hT [⟨0, 9, 12, 19⟩] ⟨0, 9, 15, 21⟩ [] rfl (fun z hz => by obtain rfl := List.mem_singleton.mp hz; exact ⟨by decide, _, m_l_L_19, by decide⟩) (by decide) (by decide) m_l_L_21 (by decide) (fun q => ?_)
      show XW p l e _ s m args below meth c P A 4 _ _ _ σ1 15 [(0, _), (1, _), (2, _)] [.ref q]
      refine X_astore_n (pc := 15) (lv1 := [(0, _), (1, _), (2, _), (3, _)]) C 3 dL_end_15 rfl (by decide) rfl ?_
      refine X_iconst (pc := 16) (v := 2) C dL_end_16 (by decide) ?_
      exact XW.tret (X_iret (pc := 17) C (Nat.le_of_ble_eq_true rfl) (Nat.le_of_ble_eq_true rfl) dL_end_17 (Or.inr ⟨_, hx, rfl⟩))

theorem m_h_L_waitFor : Cond.codeWith yL_waitFor cL_waitFor 4 (some .int) [(0, 9, 12, 13), (0, 9, 15, 21)] ∈ xTB := xm 982 (by decide +kernel) (by decide +kernel)
set_option maxRecDepth 100000 in
set_option maxHeartbeats 4000000 in
theorem c_L_waitFor (l : Launch) (P : XP) (σ : XS) (h0 : (.inr 0 : XI) ∈ P.2.2.2.1) (h19 : (.inr 19 : XI) ∈ P.2.2.2.1) (a0 : Int32) {Post : Option Value → XS → Prop} {XPost : String → XS → Prop} (hM : XTM l yX6_waitFor cX6_waitFor 2 (some .int) rm_X6_waitFor P [.ref (P.2.2.1 (.inr 0)), .int a0] σ Post XPost) (hV : ∀ v τ, Post v τ → ∃ x : Int32, v = some (.int x)) (hE : ∀ E τ, XPost E τ → E = eIA ∨ E = eIS) : XMH l yL_waitFor cL_waitFor 4 [(0, 9, 12, 13), (0, 9, 15, 21)] (rmL 2 rm_X6_waitFor) P [.ref (P.2.2.1 (.inr 0)), .int a0, .ref (P.2.2.1 (.inr 19))] σ (LW [eIA, eIS] Post XPost) := by
  refine XMH.of (by decide +kernel) (Nat.le_of_ble_eq_true rfl) (fun p e s m args below meth c A C hT => ?_)
  replace C : XC p s m args meth c P A 4 RL cL_waitFor (some .int) := C
  refine XW.eq (lv' := [(0, _), (1, _), (2, _)]) rfl rfl rfl ?_
  refine X_aload_n (pc := 0) C 2 dL_waitFor_0 rfl rfl ?_
  refine X_iconst (pc := 1) (v := 0) C dL_waitFor_1 (by decide) ?_
  refine X_aload_n (pc := 2) C 0 dL_waitFor_2 rfl rfl ?_
  refine X_iload_n (pc := 3) C 1 dL_waitFor_3 rfl rfl ?_
  skip
  refine X_callVT (i := .inr 0) (ci := 6) (n := 1) (pc := 4) C [.int a0] hM m_c_X6_waitFor m_m_L_29 m_i_X6_waitFor m_s_X6_waitFor m_n_X6 ⟨by decide +kernel, by decide +kernel, by decide +kernel⟩ ⟨Nat.le_of_ble_eq_true rfl, Nat.le_of_ble_eq_true rfl⟩ ⟨Nat.le_of_ble_eq_true rfl, Nat.le_of_ble_eq_true rfl⟩ h0 rfl rfl rfl rfl (Nat.le_of_ble_eq_true rfl) rfl dL_waitFor_4 (fun v σ1 hp => ?_) (fun E σ1 hx => ?_)
  · obtain ⟨x, rfl⟩ := hV v σ1 hp
    show XW p l e _ s m args below meth c P A 4 _ _ _ σ1 7 [(0, _), (1, _), (2, _)] (.int x :: _)
    refine X_i2l (pc := 7) C dL_waitFor_7 ?_
    refine X_lastN (j := 0) (pc := 8) C h19 rfl (by omega) (by decide) dL_waitFor_8 ?_
    refine X_goto (pc := 9) C 18 dL_waitFor_9 (by decide) ?_
    refine X_iconst (pc := 18) (v := 0) C dL_waitFor_18 (by decide) ?_
    exact XW.tret (X_iret (pc := 19) C (Nat.le_of_ble_eq_true rfl) (Nat.le_of_ble_eq_true rfl) dL_waitFor_19 (Or.inl ⟨x, σ1, hp, rfl, rfl⟩))
  · rcases hE E σ1 hx with rfl | rfl
    · refine X_catch (pc := 4) C hT [] ⟨0, 9, 12, 13⟩ [⟨0, 9, 15, 21⟩] rfl (fun z hz => nomatch hz) (by decide) (by decide) m_l_L_13 (by decide) (fun q => ?_)
      show XW p l e _ s m args below meth c P A 4 _ _ _ σ1 12 [(0, _), (1, _), (2, _)] [.ref q]
      refine X_astore_n (pc := 12) (lv1 := [(0, _), (1, _), (2, _), (3, _)]) C 3 dL_waitFor_12 rfl (by decide) rfl ?_
      refine X_iconst (pc := 13) (v := 1) C dL_waitFor_13 (by decide) ?_
      exact XW.tret (X_iret (pc := 14) C (Nat.le_of_ble_eq_true rfl) (Nat.le_of_ble_eq_true rfl) dL_waitFor_14 (Or.inr ⟨_, hx, rfl⟩))
    · refine X_catch (pc := 4) C hT [⟨0, 9, 12, 13⟩] ⟨0, 9, 15, 21⟩ [] rfl (fun z hz => by obtain rfl := List.mem_singleton.mp hz; exact ⟨by decide, _, m_l_L_13, by decide⟩) (by decide) (by decide) m_l_L_21 (by decide) (fun q => ?_)
      show XW p l e _ s m args below meth c P A 4 _ _ _ σ1 15 [(0, _), (1, _), (2, _)] [.ref q]
      refine X_astore_n (pc := 15) (lv1 := [(0, _), (1, _), (2, _), (3, _)]) C 3 dL_waitFor_15 rfl (by decide) rfl ?_
      refine X_iconst (pc := 16) (v := 2) C dL_waitFor_16 (by decide) ?_
      exact XW.tret (X_iret (pc := 17) C (Nat.le_of_ble_eq_true rfl) (Nat.le_of_ble_eq_true rfl) dL_waitFor_17 (Or.inr ⟨_, hx, rfl⟩))

theorem m_h_L_setCuriosity : Cond.codeWith yL_setCuriosity cL_setCuriosity 5 (some .int) [(0, 10, 13, 19), (0, 10, 17, 13)] ∈ xTB := xm 992 (by decide +kernel) (by decide +kernel)
set_option maxRecDepth 100000 in
set_option maxHeartbeats 4000000 in
theorem c_L_setCuriosity (l : Launch) (P : XP) (σ : XS) (h0 : (.inr 0 : XI) ∈ P.2.2.2.1) (h19 : (.inr 19 : XI) ∈ P.2.2.2.1) (a0 a1 : Int32) {Post : Option Value → XS → Prop} {XPost : String → XS → Prop} (hM : XTM l yX6_setCuriosity cX6_setCuriosity 4 (some .int) rm_X6_setCuriosity P [.ref (P.2.2.1 (.inr 0)), .int a0, .int a1] σ Post XPost) (hV : ∀ v τ, Post v τ → ∃ x : Int32, v = some (.int x)) (hE : ∀ E τ, XPost E τ → E = eIO ∨ E = eIA) : XMH l yL_setCuriosity cL_setCuriosity 5 [(0, 10, 13, 19), (0, 10, 17, 13)] (rmL 4 rm_X6_setCuriosity) P [.ref (P.2.2.1 (.inr 0)), .int a0, .int a1, .ref (P.2.2.1 (.inr 19))] σ (LW [eIO, eIA] Post XPost) := by
  refine XMH.of (by decide +kernel) (Nat.le_of_ble_eq_true rfl) (fun p e s m args below meth c A C hT => ?_)
  replace C : XC p s m args meth c P A 5 RL cL_setCuriosity (some .int) := C
  refine XW.eq (lv' := [(0, _), (1, _), (2, _), (3, _)]) rfl rfl rfl ?_
  refine X_aload_n (pc := 0) C 3 dL_setCuriosity_0 rfl rfl ?_
  refine X_iconst (pc := 1) (v := 0) C dL_setCuriosity_1 (by decide) ?_
  refine X_aload_n (pc := 2) C 0 dL_setCuriosity_2 rfl rfl ?_
  refine X_iload_n (pc := 3) C 1 dL_setCuriosity_3 rfl rfl ?_
  refine X_iload_n (pc := 4) C 2 dL_setCuriosity_4 rfl rfl ?_
  skip
  refine X_callVT (i := .inr 0) (ci := 6) (n := 2) (pc := 5) C [.int a0, .int a1] hM m_c_X6_setCuriosity m_m_L_32 m_i_X6_setCuriosity m_s_X6_setCuriosity m_n_X6 ⟨by decide +kernel, by decide +kernel, by decide +kernel⟩ ⟨Nat.le_of_ble_eq_true rfl, Nat.le_of_ble_eq_true rfl⟩ ⟨Nat.le_of_ble_eq_true rfl, Nat.le_of_ble_eq_true rfl⟩ h0 rfl rfl rfl rfl (Nat.le_of_ble_eq_true rfl) rfl dL_setCuriosity_5 (fun v σ1 hp => ?_) (fun E σ1 hx => ?_)
  · obtain ⟨x, rfl⟩ := hV v σ1 hp
    show XW p l e _ s m args below meth c P A 5 _ _ _ σ1 8 [(0, _), (1, _), (2, _), (3, _)] (.int x :: _)
    refine X_i2l (pc := 8) C dL_setCuriosity_8 ?_
    refine X_lastN (j := 0) (pc := 9) C h19 rfl (by omega) (by decide) dL_setCuriosity_9 ?_
    refine X_goto (pc := 10) C 21 dL_setCuriosity_10 (by decide) ?_
    refine X_iconst (pc := 21) (v := 0) C dL_setCuriosity_21 (by decide) ?_
    exact XW.tret (X_iret (pc := 22) C (Nat.le_of_ble_eq_true rfl) (Nat.le_of_ble_eq_true rfl) dL_setCuriosity_22 (Or.inl ⟨x, σ1, hp, rfl, rfl⟩))
  · rcases hE E σ1 hx with rfl | rfl
    · refine X_catch (pc := 5) C hT [] ⟨0, 10, 13, 19⟩ [⟨0, 10, 17, 13⟩] rfl (fun z hz => nomatch hz) (by decide) (by decide) m_l_L_19 (by decide) (fun q => ?_)
      show XW p l e _ s m args below meth c P A 5 _ _ _ σ1 13 [(0, _), (1, _), (2, _), (3, _)] [.ref q]
      refine X_astore (pc := 13) (lv1 := [(0, _), (1, _), (2, _), (3, _), (4, _)]) C dL_setCuriosity_13 (by decide) rfl ?_
      refine X_iconst (pc := 15) (v := 1) C dL_setCuriosity_15 (by decide) ?_
      exact XW.tret (X_iret (pc := 16) C (Nat.le_of_ble_eq_true rfl) (Nat.le_of_ble_eq_true rfl) dL_setCuriosity_16 (Or.inr ⟨_, hx, rfl⟩))
    · refine X_catch (pc := 5) C hT [⟨0, 10, 13, 19⟩] ⟨0, 10, 17, 13⟩ [] rfl (fun z hz => by obtain rfl := List.mem_singleton.mp hz; exact ⟨by decide, _, m_l_L_19, by decide⟩) (by decide) (by decide) m_l_L_13 (by decide) (fun q => ?_)
      show XW p l e _ s m args below meth c P A 5 _ _ _ σ1 17 [(0, _), (1, _), (2, _), (3, _)] [.ref q]
      refine X_astore (pc := 17) (lv1 := [(0, _), (1, _), (2, _), (3, _), (4, _)]) C dL_setCuriosity_17 (by decide) rfl ?_
      refine X_iconst (pc := 19) (v := 2) C dL_setCuriosity_19 (by decide) ?_
      exact XW.tret (X_iret (pc := 20) C (Nat.le_of_ble_eq_true rfl) (Nat.le_of_ble_eq_true rfl) dL_setCuriosity_20 (Or.inr ⟨_, hx, rfl⟩))

theorem m_h_L_undo : Cond.codeWith yL_undo cL_undo 3 (some .int) [(0, 8, 11, 21)] ∈ xTB := xm 1000 (by decide +kernel) (by decide +kernel)
set_option maxRecDepth 100000 in
set_option maxHeartbeats 4000000 in
theorem c_L_undo (l : Launch) (P : XP) (σ : XS) (h0 : (.inr 0 : XI) ∈ P.2.2.2.1) (h19 : (.inr 19 : XI) ∈ P.2.2.2.1) {Post : Option Value → XS → Prop} {XPost : String → XS → Prop} (hM : XTM l yX6_undo cX6_undo 1 (some .int) rm_X6_undo P [.ref (P.2.2.1 (.inr 0))] σ Post XPost) (hV : ∀ v τ, Post v τ → ∃ x : Int32, v = some (.int x)) (hE : ∀ E τ, XPost E τ → E = eIS) : XMH l yL_undo cL_undo 3 [(0, 8, 11, 21)] (rmL 1 rm_X6_undo) P [.ref (P.2.2.1 (.inr 0)), .ref (P.2.2.1 (.inr 19))] σ (LW [eIS] Post XPost) := by
  refine XMH.of (by decide +kernel) (Nat.le_of_ble_eq_true rfl) (fun p e s m args below meth c A C hT => ?_)
  replace C : XC p s m args meth c P A 3 RL cL_undo (some .int) := C
  refine XW.eq (lv' := [(0, _), (1, _)]) rfl rfl rfl ?_
  refine X_aload_n (pc := 0) C 1 dL_undo_0 rfl rfl ?_
  refine X_iconst (pc := 1) (v := 0) C dL_undo_1 (by decide) ?_
  refine X_aload_n (pc := 2) C 0 dL_undo_2 rfl rfl ?_
  skip
  refine X_callVT (i := .inr 0) (ci := 6) (n := 0) (pc := 3) C [] hM m_c_X6_undo m_m_L_36 m_i_X6_undo m_s_X6_undo m_n_X6 ⟨by decide +kernel, by decide +kernel, by decide +kernel⟩ ⟨Nat.le_of_ble_eq_true rfl, Nat.le_of_ble_eq_true rfl⟩ ⟨Nat.le_of_ble_eq_true rfl, Nat.le_of_ble_eq_true rfl⟩ h0 rfl rfl rfl rfl (Nat.le_of_ble_eq_true rfl) rfl dL_undo_3 (fun v σ1 hp => ?_) (fun E σ1 hx => ?_)
  · obtain ⟨x, rfl⟩ := hV v σ1 hp
    show XW p l e _ s m args below meth c P A 3 _ _ _ σ1 6 [(0, _), (1, _)] (.int x :: _)
    refine X_i2l (pc := 6) C dL_undo_6 ?_
    refine X_lastN (j := 0) (pc := 7) C h19 rfl (by omega) (by decide) dL_undo_7 ?_
    refine X_goto (pc := 8) C 14 dL_undo_8 (by decide) ?_
    refine X_iconst (pc := 14) (v := 0) C dL_undo_14 (by decide) ?_
    exact XW.tret (X_iret (pc := 15) C (Nat.le_of_ble_eq_true rfl) (Nat.le_of_ble_eq_true rfl) dL_undo_15 (Or.inl ⟨x, σ1, hp, rfl, rfl⟩))
  · obtain rfl := hE E σ1 hx
    refine X_catch (pc := 3) C hT [] ⟨0, 8, 11, 21⟩ [] rfl (fun z hz => nomatch hz) (by decide) (by decide) m_l_L_21 (by decide) (fun q => ?_)
    show XW p l e _ s m args below meth c P A 3 _ _ _ σ1 11 [(0, _), (1, _)] [.ref q]
    refine X_astore_n (pc := 11) (lv1 := [(0, _), (1, _), (2, _)]) C 2 dL_undo_11 rfl (by decide) rfl ?_
    refine X_iconst (pc := 12) (v := 1) C dL_undo_12 (by decide) ?_
    exact XW.tret (X_iret (pc := 13) C (Nat.le_of_ble_eq_true rfl) (Nat.le_of_ble_eq_true rfl) dL_undo_13 (Or.inr ⟨_, hx, rfl⟩))

theorem m_h_L_save : Cond.codeWith yL_save cL_save 4 (some .int) [(0, 9, 12, 13)] ∈ xTB := xm 1012 (by decide +kernel) (by decide +kernel)
set_option maxRecDepth 100000 in
set_option maxHeartbeats 4000000 in
theorem c_L_save (l : Launch) (P : XP) (σ : XS) (h0 : (.inr 0 : XI) ∈ P.2.2.2.1) (h19 : (.inr 19 : XI) ∈ P.2.2.2.1) (a0 : Int32) {Post : Option Value → XS → Prop} {XPost : String → XS → Prop} (hM : XTM l yX6_save cX6_save 2 (some .int) rm_X6_save P [.ref (P.2.2.1 (.inr 0)), .int a0] σ Post XPost) (hV : ∀ v τ, Post v τ → ∃ x : Int32, v = some (.int x)) (hE : ∀ E τ, XPost E τ → E = eIA) : XMH l yL_save cL_save 4 [(0, 9, 12, 13)] (rmL 2 rm_X6_save) P [.ref (P.2.2.1 (.inr 0)), .int a0, .ref (P.2.2.1 (.inr 19))] σ (LW [eIA] Post XPost) := by
  refine XMH.of (by decide +kernel) (Nat.le_of_ble_eq_true rfl) (fun p e s m args below meth c A C hT => ?_)
  replace C : XC p s m args meth c P A 4 RL cL_save (some .int) := C
  refine XW.eq (lv' := [(0, _), (1, _), (2, _)]) rfl rfl rfl ?_
  refine X_aload_n (pc := 0) C 2 dL_save_0 rfl rfl ?_
  refine X_iconst (pc := 1) (v := 0) C dL_save_1 (by decide) ?_
  refine X_aload_n (pc := 2) C 0 dL_save_2 rfl rfl ?_
  refine X_iload_n (pc := 3) C 1 dL_save_3 rfl rfl ?_
  skip
  refine X_callVT (i := .inr 0) (ci := 6) (n := 1) (pc := 4) C [.int a0] hM m_c_X6_save m_m_L_40 m_i_X6_save m_s_X6_save m_n_X6 ⟨by decide +kernel, by decide +kernel, by decide +kernel⟩ ⟨Nat.le_of_ble_eq_true rfl, Nat.le_of_ble_eq_true rfl⟩ ⟨Nat.le_of_ble_eq_true rfl, Nat.le_of_ble_eq_true rfl⟩ h0 rfl rfl rfl rfl (Nat.le_of_ble_eq_true rfl) rfl dL_save_4 (fun v σ1 hp => ?_) (fun E σ1 hx => ?_)
  · obtain ⟨x, rfl⟩ := hV v σ1 hp
    show XW p l e _ s m args below meth c P A 4 _ _ _ σ1 7 [(0, _), (1, _), (2, _)] (.int x :: _)
    refine X_i2l (pc := 7) C dL_save_7 ?_
    refine X_lastN (j := 0) (pc := 8) C h19 rfl (by omega) (by decide) dL_save_8 ?_
    refine X_goto (pc := 9) C 15 dL_save_9 (by decide) ?_
    refine X_iconst (pc := 15) (v := 0) C dL_save_15 (by decide) ?_
    exact XW.tret (X_iret (pc := 16) C (Nat.le_of_ble_eq_true rfl) (Nat.le_of_ble_eq_true rfl) dL_save_16 (Or.inl ⟨x, σ1, hp, rfl, rfl⟩))
  · obtain rfl := hE E σ1 hx
    refine X_catch (pc := 4) C hT [] ⟨0, 9, 12, 13⟩ [] rfl (fun z hz => nomatch hz) (by decide) (by decide) m_l_L_13 (by decide) (fun q => ?_)
    show XW p l e _ s m args below meth c P A 4 _ _ _ σ1 12 [(0, _), (1, _), (2, _)] [.ref q]
    refine X_astore_n (pc := 12) (lv1 := [(0, _), (1, _), (2, _), (3, _)]) C 3 dL_save_12 rfl (by decide) rfl ?_
    refine X_iconst (pc := 13) (v := 1) C dL_save_13 (by decide) ?_
    exact XW.tret (X_iret (pc := 14) C (Nat.le_of_ble_eq_true rfl) (Nat.le_of_ble_eq_true rfl) dL_save_14 (Or.inr ⟨_, hx, rfl⟩))

theorem m_h_L_restore : Cond.codeWith yL_restore cL_restore 4 (some .int) [(0, 9, 12, 13), (0, 9, 15, 21)] ∈ xTB := xm 1024 (by decide +kernel) (by decide +kernel)
set_option maxRecDepth 100000 in
set_option maxHeartbeats 4000000 in
theorem c_L_restore (l : Launch) (P : XP) (σ : XS) (h0 : (.inr 0 : XI) ∈ P.2.2.2.1) (h19 : (.inr 19 : XI) ∈ P.2.2.2.1) (a0 : Int32) {Post : Option Value → XS → Prop} {XPost : String → XS → Prop} (hM : XTM l yX6_restore cX6_restore 2 (some .int) rm_X6_restore P [.ref (P.2.2.1 (.inr 0)), .int a0] σ Post XPost) (hV : ∀ v τ, Post v τ → ∃ x : Int32, v = some (.int x)) (hE : ∀ E τ, XPost E τ → E = eIA ∨ E = eIS) : XMH l yL_restore cL_restore 4 [(0, 9, 12, 13), (0, 9, 15, 21)] (rmL 2 rm_X6_restore) P [.ref (P.2.2.1 (.inr 0)), .int a0, .ref (P.2.2.1 (.inr 19))] σ (LW [eIA, eIS] Post XPost) := by
  refine XMH.of (by decide +kernel) (Nat.le_of_ble_eq_true rfl) (fun p e s m args below meth c A C hT => ?_)
  replace C : XC p s m args meth c P A 4 RL cL_restore (some .int) := C
  refine XW.eq (lv' := [(0, _), (1, _), (2, _)]) rfl rfl rfl ?_
  refine X_aload_n (pc := 0) C 2 dL_restore_0 rfl rfl ?_
  refine X_iconst (pc := 1) (v := 0) C dL_restore_1 (by decide) ?_
  refine X_aload_n (pc := 2) C 0 dL_restore_2 rfl rfl ?_
  refine X_iload_n (pc := 3) C 1 dL_restore_3 rfl rfl ?_
  skip
  refine X_callVT (i := .inr 0) (ci := 6) (n := 1) (pc := 4) C [.int a0] hM m_c_X6_restore m_m_L_43 m_i_X6_restore m_s_X6_restore m_n_X6 ⟨by decide +kernel, by decide +kernel, by decide +kernel⟩ ⟨Nat.le_of_ble_eq_true rfl, Nat.le_of_ble_eq_true rfl⟩ ⟨Nat.le_of_ble_eq_true rfl, Nat.le_of_ble_eq_true rfl⟩ h0 rfl rfl rfl rfl (Nat.le_of_ble_eq_true rfl) rfl dL_restore_4 (fun v σ1 hp => ?_) (fun E σ1 hx => ?_)
  · obtain ⟨x, rfl⟩ := hV v σ1 hp
    show XW p l e _ s m args below meth c P A 4 _ _ _ σ1 7 [(0, _), (1, _), (2, _)] (.int x :: _)
    refine X_i2l (pc := 7) C dL_restore_7 ?_
    refine X_lastN (j := 0) (pc := 8) C h19 rfl (by omega) (by decide) dL_restore_8 ?_
    refine X_goto (pc := 9) C 18 dL_restore_9 (by decide) ?_
    refine X_iconst (pc := 18) (v := 0) C dL_restore_18 (by decide) ?_
    exact XW.tret (X_iret (pc := 19) C (Nat.le_of_ble_eq_true rfl) (Nat.le_of_ble_eq_true rfl) dL_restore_19 (Or.inl ⟨x, σ1, hp, rfl, rfl⟩))
  · rcases hE E σ1 hx with rfl | rfl
    · refine X_catch (pc := 4) C hT [] ⟨0, 9, 12, 13⟩ [⟨0, 9, 15, 21⟩] rfl (fun z hz => nomatch hz) (by decide) (by decide) m_l_L_13 (by decide) (fun q => ?_)
      show XW p l e _ s m args below meth c P A 4 _ _ _ σ1 12 [(0, _), (1, _), (2, _)] [.ref q]
      refine X_astore_n (pc := 12) (lv1 := [(0, _), (1, _), (2, _), (3, _)]) C 3 dL_restore_12 rfl (by decide) rfl ?_
      refine X_iconst (pc := 13) (v := 1) C dL_restore_13 (by decide) ?_
      exact XW.tret (X_iret (pc := 14) C (Nat.le_of_ble_eq_true rfl) (Nat.le_of_ble_eq_true rfl) dL_restore_14 (Or.inr ⟨_, hx, rfl⟩))
    · refine X_catch (pc := 4) C hT [⟨0, 9, 12, 13⟩] ⟨0, 9, 15, 21⟩ [] rfl (fun z hz => by obtain rfl := List.mem_singleton.mp hz; exact ⟨by decide, _, m_l_L_13, by decide⟩) (by decide) (by decide) m_l_L_21 (by decide) (fun q => ?_)
      show XW p l e _ s m args below meth c P A 4 _ _ _ σ1 15 [(0, _), (1, _), (2, _)] [.ref q]
      refine X_astore_n (pc := 15) (lv1 := [(0, _), (1, _), (2, _), (3, _)]) C 3 dL_restore_15 rfl (by decide) rfl ?_
      refine X_iconst (pc := 16) (v := 2) C dL_restore_16 (by decide) ?_
      exact XW.tret (X_iret (pc := 17) C (Nat.le_of_ble_eq_true rfl) (Nat.le_of_ble_eq_true rfl) dL_restore_17 (Or.inr ⟨_, hx, rfl⟩))

theorem m_h_L_isLineBusy : Cond.codeWith yL_isLineBusy cL_isLineBusy 4 (some .int) [(0, 16, 19, 19)] ∈ xTB := xm 1032 (by decide +kernel) (by decide +kernel)
set_option maxRecDepth 100000 in
set_option maxHeartbeats 4000000 in
theorem c_L_isLineBusy (l : Launch) (P : XP) (σ : XS) (h0 : (.inr 0 : XI) ∈ P.2.2.2.1) (h19 : (.inr 19 : XI) ∈ P.2.2.2.1) (a0 : Int32) {Post : Option Value → XS → Prop} {XPost : String → XS → Prop} (hM : XTM l yX6_isLineBusy cX6_isLineBusy 2 (some .boolean) rm_X6_isLineBusy P [.ref (P.2.2.1 (.inr 0)), .int a0] σ Post XPost) (hV : ∀ v τ, Post v τ → v = some (.int 0) ∨ v = some (.int 1)) (hE : ∀ E τ, XPost E τ → E = eIO) : XMH l yL_isLineBusy cL_isLineBusy 4 [(0, 16, 19, 19)] (rmL 2 rm_X6_isLineBusy) P [.ref (P.2.2.1 (.inr 0)), .int a0, .ref (P.2.2.1 (.inr 19))] σ (LW [eIO] Post XPost) := by
  refine XMH.of (by decide +kernel) (Nat.le_of_ble_eq_true rfl) (fun p e s m args below meth c A C hT => ?_)
  replace C : XC p s m args meth c P A 4 RL cL_isLineBusy (some .int) := C
  refine XW.eq (lv' := [(0, _), (1, _), (2, _)]) rfl rfl rfl ?_
  refine X_aload_n (pc := 0) C 2 dL_isLineBusy_0 rfl rfl ?_
  refine X_iconst (pc := 1) (v := 0) C dL_isLineBusy_1 (by decide) ?_
  refine X_aload_n (pc := 2) C 0 dL_isLineBusy_2 rfl rfl ?_
  refine X_iload_n (pc := 3) C 1 dL_isLineBusy_3 rfl rfl ?_
  skip
  refine X_callVT (i := .inr 0) (ci := 6) (n := 1) (pc := 4) C [.int a0] hM m_c_X6_isLineBusy m_m_L_46 m_i_X6_isLineBusy m_s_X6_isLineBusy m_n_X6 ⟨by decide +kernel, by decide +kernel, by decide +kernel⟩ ⟨Nat.le_of_ble_eq_true rfl, Nat.le_of_ble_eq_true rfl⟩ ⟨Nat.le_of_ble_eq_true rfl, Nat.le_of_ble_eq_true rfl⟩ h0 rfl rfl rfl rfl (Nat.le_of_ble_eq_true rfl) rfl dL_isLineBusy_4 (fun v σ1 hp => ?_) (fun E σ1 hx => ?_)
  · rcases hV v σ1 hp with rfl | rfl
    · show XW p l e _ s m args below meth c P A 4 _ _ _ σ1 7 [(0, _), (1, _), (2, _)] (.int 0 :: _)
      refine X_if_eq (pc := 7) C 14 dL_isLineBusy_7 (by decide) (fun h7 => ?_) (fun h7 => ?_)
      · skip
        refine X_lconst (pc := 14) (v := 0) C dL_isLineBusy_14 (by decide) ?_
        refine X_lastN (j := 0) (pc := 15) C h19 rfl (by omega) (by decide) dL_isLineBusy_15 ?_
        refine X_goto (pc := 16) C 22 dL_isLineBusy_16 (by decide) ?_
        refine X_iconst (pc := 22) (v := 0) C dL_isLineBusy_22 (by decide) ?_
        exact XW.tret (X_iret (pc := 23) C (Nat.le_of_ble_eq_true rfl) (Nat.le_of_ble_eq_true rfl) dL_isLineBusy_23 (Or.inl ⟨0, σ1, hp, rfl, rfl⟩))
      · exact absurd h7 (by decide)
    · show XW p l e _ s m args below meth c P A 4 _ _ _ σ1 7 [(0, _), (1, _), (2, _)] (.int 1 :: _)
      refine X_if_eq (pc := 7) C 14 dL_isLineBusy_7 (by decide) (fun h7 => ?_) (fun h7 => ?_)
      · exact absurd h7 (by decide)
      · skip
        refine X_lconst (pc := 10) (v := 1) C dL_isLineBusy_10 (by decide) ?_
        refine X_goto (pc := 11) C 15 dL_isLineBusy_11 (by decide) ?_
        refine X_lastN (j := 0) (pc := 15) C h19 rfl (by omega) (by decide) dL_isLineBusy_15 ?_
        refine X_goto (pc := 16) C 22 dL_isLineBusy_16 (by decide) ?_
        refine X_iconst (pc := 22) (v := 0) C dL_isLineBusy_22 (by decide) ?_
        exact XW.tret (X_iret (pc := 23) C (Nat.le_of_ble_eq_true rfl) (Nat.le_of_ble_eq_true rfl) dL_isLineBusy_23 (Or.inl ⟨1, σ1, hp, rfl, rfl⟩))
  · obtain rfl := hE E σ1 hx
    refine X_catch (pc := 4) C hT [] ⟨0, 16, 19, 19⟩ [] rfl (fun z hz => nomatch hz) (by decide) (by decide) m_l_L_19 (by decide) (fun q => ?_)
    show XW p l e _ s m args below meth c P A 4 _ _ _ σ1 19 [(0, _), (1, _), (2, _)] [.ref q]
    refine X_astore_n (pc := 19) (lv1 := [(0, _), (1, _), (2, _), (3, _)]) C 3 dL_isLineBusy_19 rfl (by decide) rfl ?_
    refine X_iconst (pc := 20) (v := 1) C dL_isLineBusy_20 (by decide) ?_
    exact XW.tret (X_iret (pc := 21) C (Nat.le_of_ble_eq_true rfl) (Nat.le_of_ble_eq_true rfl) dL_isLineBusy_21 (Or.inr ⟨_, hx, rfl⟩))

theorem m_h_L_isTrunkBusy : Cond.codeWith yL_isTrunkBusy cL_isTrunkBusy 4 (some .int) [(0, 16, 19, 19)] ∈ xTB := xm 1046 (by decide +kernel) (by decide +kernel)
set_option maxRecDepth 100000 in
set_option maxHeartbeats 4000000 in
theorem c_L_isTrunkBusy (l : Launch) (P : XP) (σ : XS) (h0 : (.inr 0 : XI) ∈ P.2.2.2.1) (h19 : (.inr 19 : XI) ∈ P.2.2.2.1) (a0 : Int32) {Post : Option Value → XS → Prop} {XPost : String → XS → Prop} (hM : XTM l yX6_isTrunkBusy cX6_isTrunkBusy 2 (some .boolean) rm_X6_isTrunkBusy P [.ref (P.2.2.1 (.inr 0)), .int a0] σ Post XPost) (hV : ∀ v τ, Post v τ → v = some (.int 0) ∨ v = some (.int 1)) (hE : ∀ E τ, XPost E τ → E = eIO) : XMH l yL_isTrunkBusy cL_isTrunkBusy 4 [(0, 16, 19, 19)] (rmL 2 rm_X6_isTrunkBusy) P [.ref (P.2.2.1 (.inr 0)), .int a0, .ref (P.2.2.1 (.inr 19))] σ (LW [eIO] Post XPost) := by
  refine XMH.of (by decide +kernel) (Nat.le_of_ble_eq_true rfl) (fun p e s m args below meth c A C hT => ?_)
  replace C : XC p s m args meth c P A 4 RL cL_isTrunkBusy (some .int) := C
  refine XW.eq (lv' := [(0, _), (1, _), (2, _)]) rfl rfl rfl ?_
  refine X_aload_n (pc := 0) C 2 dL_isTrunkBusy_0 rfl rfl ?_
  refine X_iconst (pc := 1) (v := 0) C dL_isTrunkBusy_1 (by decide) ?_
  refine X_aload_n (pc := 2) C 0 dL_isTrunkBusy_2 rfl rfl ?_
  refine X_iload_n (pc := 3) C 1 dL_isTrunkBusy_3 rfl rfl ?_
  skip
  refine X_callVT (i := .inr 0) (ci := 6) (n := 1) (pc := 4) C [.int a0] hM m_c_X6_isTrunkBusy m_m_L_50 m_i_X6_isTrunkBusy m_s_X6_isTrunkBusy m_n_X6 ⟨by decide +kernel, by decide +kernel, by decide +kernel⟩ ⟨Nat.le_of_ble_eq_true rfl, Nat.le_of_ble_eq_true rfl⟩ ⟨Nat.le_of_ble_eq_true rfl, Nat.le_of_ble_eq_true rfl⟩ h0 rfl rfl rfl rfl (Nat.le_of_ble_eq_true rfl) rfl dL_isTrunkBusy_4 (fun v σ1 hp => ?_) (fun E σ1 hx => ?_)
  · rcases hV v σ1 hp with rfl | rfl
    · show XW p l e _ s m args below meth c P A 4 _ _ _ σ1 7 [(0, _), (1, _), (2, _)] (.int 0 :: _)
      refine X_if_eq (pc := 7) C 14 dL_isTrunkBusy_7 (by decide) (fun h7 => ?_) (fun h7 => ?_)
      · skip
        refine X_lconst (pc := 14) (v := 0) C dL_isTrunkBusy_14 (by decide) ?_
        refine X_lastN (j := 0) (pc := 15) C h19 rfl (by omega) (by decide) dL_isTrunkBusy_15 ?_
        refine X_goto (pc := 16) C 22 dL_isTrunkBusy_16 (by decide) ?_
        refine X_iconst (pc := 22) (v := 0) C dL_isTrunkBusy_22 (by decide) ?_
        exact XW.tret (X_iret (pc := 23) C (Nat.le_of_ble_eq_true rfl) (Nat.le_of_ble_eq_true rfl) dL_isTrunkBusy_23 (Or.inl ⟨0, σ1, hp, rfl, rfl⟩))
      · exact absurd h7 (by decide)
    · show XW p l e _ s m args below meth c P A 4 _ _ _ σ1 7 [(0, _), (1, _), (2, _)] (.int 1 :: _)
      refine X_if_eq (pc := 7) C 14 dL_isTrunkBusy_7 (by decide) (fun h7 => ?_) (fun h7 => ?_)
      · exact absurd h7 (by decide)
      · skip
        refine X_lconst (pc := 10) (v := 1) C dL_isTrunkBusy_10 (by decide) ?_
        refine X_goto (pc := 11) C 15 dL_isTrunkBusy_11 (by decide) ?_
        refine X_lastN (j := 0) (pc := 15) C h19 rfl (by omega) (by decide) dL_isTrunkBusy_15 ?_
        refine X_goto (pc := 16) C 22 dL_isTrunkBusy_16 (by decide) ?_
        refine X_iconst (pc := 22) (v := 0) C dL_isTrunkBusy_22 (by decide) ?_
        exact XW.tret (X_iret (pc := 23) C (Nat.le_of_ble_eq_true rfl) (Nat.le_of_ble_eq_true rfl) dL_isTrunkBusy_23 (Or.inl ⟨1, σ1, hp, rfl, rfl⟩))
  · obtain rfl := hE E σ1 hx
    refine X_catch (pc := 4) C hT [] ⟨0, 16, 19, 19⟩ [] rfl (fun z hz => nomatch hz) (by decide) (by decide) m_l_L_19 (by decide) (fun q => ?_)
    show XW p l e _ s m args below meth c P A 4 _ _ _ σ1 19 [(0, _), (1, _), (2, _)] [.ref q]
    refine X_astore_n (pc := 19) (lv1 := [(0, _), (1, _), (2, _), (3, _)]) C 3 dL_isTrunkBusy_19 rfl (by decide) rfl ?_
    refine X_iconst (pc := 20) (v := 1) C dL_isTrunkBusy_20 (by decide) ?_
    exact XW.tret (X_iret (pc := 21) C (Nat.le_of_ble_eq_true rfl) (Nat.le_of_ble_eq_true rfl) dL_isTrunkBusy_21 (Or.inr ⟨_, hx, rfl⟩))

theorem m_h_L_toll : Cond.codeWith yL_toll cL_toll 4 (some .int) [(0, 9, 12, 19)] ∈ xTB := xm 1054 (by decide +kernel) (by decide +kernel)
set_option maxRecDepth 100000 in
set_option maxHeartbeats 4000000 in
theorem c_L_toll (l : Launch) (P : XP) (σ : XS) (h0 : (.inr 0 : XI) ∈ P.2.2.2.1) (h19 : (.inr 19 : XI) ∈ P.2.2.2.1) (a0 : Int32) {Post : Option Value → XS → Prop} {XPost : String → XS → Prop} (hM : XTM l yX6_toll cX6_toll 2 (some .int) rm_X6_toll P [.ref (P.2.2.1 (.inr 0)), .int a0] σ Post XPost) (hV : ∀ v τ, Post v τ → ∃ x : Int32, v = some (.int x)) (hE : ∀ E τ, XPost E τ → E = eIO) : XMH l yL_toll cL_toll 4 [(0, 9, 12, 19)] (rmL 2 rm_X6_toll) P [.ref (P.2.2.1 (.inr 0)), .int a0, .ref (P.2.2.1 (.inr 19))] σ (LW [eIO] Post XPost) := by
  refine XMH.of (by decide +kernel) (Nat.le_of_ble_eq_true rfl) (fun p e s m args below meth c A C hT => ?_)
  replace C : XC p s m args meth c P A 4 RL cL_toll (some .int) := C
  refine XW.eq (lv' := [(0, _), (1, _), (2, _)]) rfl rfl rfl ?_
  refine X_aload_n (pc := 0) C 2 dL_toll_0 rfl rfl ?_
  refine X_iconst (pc := 1) (v := 0) C dL_toll_1 (by decide) ?_
  refine X_aload_n (pc := 2) C 0 dL_toll_2 rfl rfl ?_
  refine X_iload_n (pc := 3) C 1 dL_toll_3 rfl rfl ?_
  skip
  refine X_callVT (i := .inr 0) (ci := 6) (n := 1) (pc := 4) C [.int a0] hM m_c_X6_toll m_m_L_53 m_i_X6_toll m_s_X6_toll m_n_X6 ⟨by decide +kernel, by decide +kernel, by decide +kernel⟩ ⟨Nat.le_of_ble_eq_true rfl, Nat.le_of_ble_eq_true rfl⟩ ⟨Nat.le_of_ble_eq_true rfl, Nat.le_of_ble_eq_true rfl⟩ h0 rfl rfl rfl rfl (Nat.le_of_ble_eq_true rfl) rfl dL_toll_4 (fun v σ1 hp => ?_) (fun E σ1 hx => ?_)
  · obtain ⟨x, rfl⟩ := hV v σ1 hp
    show XW p l e _ s m args below meth c P A 4 _ _ _ σ1 7 [(0, _), (1, _), (2, _)] (.int x :: _)
    refine X_i2l (pc := 7) C dL_toll_7 ?_
    refine X_lastN (j := 0) (pc := 8) C h19 rfl (by omega) (by decide) dL_toll_8 ?_
    refine X_goto (pc := 9) C 15 dL_toll_9 (by decide) ?_
    refine X_iconst (pc := 15) (v := 0) C dL_toll_15 (by decide) ?_
    exact XW.tret (X_iret (pc := 16) C (Nat.le_of_ble_eq_true rfl) (Nat.le_of_ble_eq_true rfl) dL_toll_16 (Or.inl ⟨x, σ1, hp, rfl, rfl⟩))
  · obtain rfl := hE E σ1 hx
    refine X_catch (pc := 4) C hT [] ⟨0, 9, 12, 19⟩ [] rfl (fun z hz => nomatch hz) (by decide) (by decide) m_l_L_19 (by decide) (fun q => ?_)
    show XW p l e _ s m args below meth c P A 4 _ _ _ σ1 12 [(0, _), (1, _), (2, _)] [.ref q]
    refine X_astore_n (pc := 12) (lv1 := [(0, _), (1, _), (2, _), (3, _)]) C 3 dL_toll_12 rfl (by decide) rfl ?_
    refine X_iconst (pc := 13) (v := 1) C dL_toll_13 (by decide) ?_
    exact XW.tret (X_iret (pc := 14) C (Nat.le_of_ble_eq_true rfl) (Nat.le_of_ble_eq_true rfl) dL_toll_14 (Or.inr ⟨_, hx, rfl⟩))

theorem m_h_L_lineOf : Cond.codeWith yL_lineOf cL_lineOf 4 (some .int) [(0, 9, 12, 19)] ∈ xTB := xm 1061 (by decide +kernel) (by decide +kernel)
set_option maxRecDepth 100000 in
set_option maxHeartbeats 4000000 in
theorem c_L_lineOf (l : Launch) (P : XP) (σ : XS) (h0 : (.inr 0 : XI) ∈ P.2.2.2.1) (h19 : (.inr 19 : XI) ∈ P.2.2.2.1) (a0 : Int32) {Post : Option Value → XS → Prop} {XPost : String → XS → Prop} (hM : XTM l yX6_lineOf cX6_lineOf 2 (some .int) rm_X6_lineOf P [.ref (P.2.2.1 (.inr 0)), .int a0] σ Post XPost) (hV : ∀ v τ, Post v τ → ∃ x : Int32, v = some (.int x)) (hE : ∀ E τ, XPost E τ → E = eIO) : XMH l yL_lineOf cL_lineOf 4 [(0, 9, 12, 19)] (rmL 2 rm_X6_lineOf) P [.ref (P.2.2.1 (.inr 0)), .int a0, .ref (P.2.2.1 (.inr 19))] σ (LW [eIO] Post XPost) := by
  refine XMH.of (by decide +kernel) (Nat.le_of_ble_eq_true rfl) (fun p e s m args below meth c A C hT => ?_)
  replace C : XC p s m args meth c P A 4 RL cL_lineOf (some .int) := C
  refine XW.eq (lv' := [(0, _), (1, _), (2, _)]) rfl rfl rfl ?_
  refine X_aload_n (pc := 0) C 2 dL_lineOf_0 rfl rfl ?_
  refine X_iconst (pc := 1) (v := 0) C dL_lineOf_1 (by decide) ?_
  refine X_aload_n (pc := 2) C 0 dL_lineOf_2 rfl rfl ?_
  refine X_iload_n (pc := 3) C 1 dL_lineOf_3 rfl rfl ?_
  skip
  refine X_callVT (i := .inr 0) (ci := 6) (n := 1) (pc := 4) C [.int a0] hM m_c_X6_lineOf m_m_L_56 m_i_X6_lineOf m_s_X6_lineOf m_n_X6 ⟨by decide +kernel, by decide +kernel, by decide +kernel⟩ ⟨Nat.le_of_ble_eq_true rfl, Nat.le_of_ble_eq_true rfl⟩ ⟨Nat.le_of_ble_eq_true rfl, Nat.le_of_ble_eq_true rfl⟩ h0 rfl rfl rfl rfl (Nat.le_of_ble_eq_true rfl) rfl dL_lineOf_4 (fun v σ1 hp => ?_) (fun E σ1 hx => ?_)
  · obtain ⟨x, rfl⟩ := hV v σ1 hp
    show XW p l e _ s m args below meth c P A 4 _ _ _ σ1 7 [(0, _), (1, _), (2, _)] (.int x :: _)
    refine X_i2l (pc := 7) C dL_lineOf_7 ?_
    refine X_lastN (j := 0) (pc := 8) C h19 rfl (by omega) (by decide) dL_lineOf_8 ?_
    refine X_goto (pc := 9) C 15 dL_lineOf_9 (by decide) ?_
    refine X_iconst (pc := 15) (v := 0) C dL_lineOf_15 (by decide) ?_
    exact XW.tret (X_iret (pc := 16) C (Nat.le_of_ble_eq_true rfl) (Nat.le_of_ble_eq_true rfl) dL_lineOf_16 (Or.inl ⟨x, σ1, hp, rfl, rfl⟩))
  · obtain rfl := hE E σ1 hx
    refine X_catch (pc := 4) C hT [] ⟨0, 9, 12, 19⟩ [] rfl (fun z hz => nomatch hz) (by decide) (by decide) m_l_L_19 (by decide) (fun q => ?_)
    show XW p l e _ s m args below meth c P A 4 _ _ _ σ1 12 [(0, _), (1, _), (2, _)] [.ref q]
    refine X_astore_n (pc := 12) (lv1 := [(0, _), (1, _), (2, _), (3, _)]) C 3 dL_lineOf_12 rfl (by decide) rfl ?_
    refine X_iconst (pc := 13) (v := 1) C dL_lineOf_13 (by decide) ?_
    exact XW.tret (X_iret (pc := 14) C (Nat.le_of_ble_eq_true rfl) (Nat.le_of_ble_eq_true rfl) dL_lineOf_14 (Or.inr ⟨_, hx, rfl⟩))

theorem m_h_L_curiosity : Cond.codeWith yL_curiosity cL_curiosity 4 (some .int) [(0, 9, 12, 19)] ∈ xTB := xm 1068 (by decide +kernel) (by decide +kernel)
set_option maxRecDepth 100000 in
set_option maxHeartbeats 4000000 in
theorem c_L_curiosity (l : Launch) (P : XP) (σ : XS) (h0 : (.inr 0 : XI) ∈ P.2.2.2.1) (h19 : (.inr 19 : XI) ∈ P.2.2.2.1) (a0 : Int32) {Post : Option Value → XS → Prop} {XPost : String → XS → Prop} (hM : XTM l yX6_curiosity cX6_curiosity 2 (some .int) rm_X6_curiosity P [.ref (P.2.2.1 (.inr 0)), .int a0] σ Post XPost) (hV : ∀ v τ, Post v τ → ∃ x : Int32, v = some (.int x)) (hE : ∀ E τ, XPost E τ → E = eIO) : XMH l yL_curiosity cL_curiosity 4 [(0, 9, 12, 19)] (rmL 2 rm_X6_curiosity) P [.ref (P.2.2.1 (.inr 0)), .int a0, .ref (P.2.2.1 (.inr 19))] σ (LW [eIO] Post XPost) := by
  refine XMH.of (by decide +kernel) (Nat.le_of_ble_eq_true rfl) (fun p e s m args below meth c A C hT => ?_)
  replace C : XC p s m args meth c P A 4 RL cL_curiosity (some .int) := C
  refine XW.eq (lv' := [(0, _), (1, _), (2, _)]) rfl rfl rfl ?_
  refine X_aload_n (pc := 0) C 2 dL_curiosity_0 rfl rfl ?_
  refine X_iconst (pc := 1) (v := 0) C dL_curiosity_1 (by decide) ?_
  refine X_aload_n (pc := 2) C 0 dL_curiosity_2 rfl rfl ?_
  refine X_iload_n (pc := 3) C 1 dL_curiosity_3 rfl rfl ?_
  skip
  refine X_callVT (i := .inr 0) (ci := 6) (n := 1) (pc := 4) C [.int a0] hM m_c_X6_curiosity m_m_L_59 m_i_X6_curiosity m_s_X6_curiosity m_n_X6 ⟨by decide +kernel, by decide +kernel, by decide +kernel⟩ ⟨Nat.le_of_ble_eq_true rfl, Nat.le_of_ble_eq_true rfl⟩ ⟨Nat.le_of_ble_eq_true rfl, Nat.le_of_ble_eq_true rfl⟩ h0 rfl rfl rfl rfl (Nat.le_of_ble_eq_true rfl) rfl dL_curiosity_4 (fun v σ1 hp => ?_) (fun E σ1 hx => ?_)
  · obtain ⟨x, rfl⟩ := hV v σ1 hp
    show XW p l e _ s m args below meth c P A 4 _ _ _ σ1 7 [(0, _), (1, _), (2, _)] (.int x :: _)
    refine X_i2l (pc := 7) C dL_curiosity_7 ?_
    refine X_lastN (j := 0) (pc := 8) C h19 rfl (by omega) (by decide) dL_curiosity_8 ?_
    refine X_goto (pc := 9) C 15 dL_curiosity_9 (by decide) ?_
    refine X_iconst (pc := 15) (v := 0) C dL_curiosity_15 (by decide) ?_
    exact XW.tret (X_iret (pc := 16) C (Nat.le_of_ble_eq_true rfl) (Nat.le_of_ble_eq_true rfl) dL_curiosity_16 (Or.inl ⟨x, σ1, hp, rfl, rfl⟩))
  · obtain rfl := hE E σ1 hx
    refine X_catch (pc := 4) C hT [] ⟨0, 9, 12, 19⟩ [] rfl (fun z hz => nomatch hz) (by decide) (by decide) m_l_L_19 (by decide) (fun q => ?_)
    show XW p l e _ s m args below meth c P A 4 _ _ _ σ1 12 [(0, _), (1, _), (2, _)] [.ref q]
    refine X_astore_n (pc := 12) (lv1 := [(0, _), (1, _), (2, _), (3, _)]) C 3 dL_curiosity_12 rfl (by decide) rfl ?_
    refine X_iconst (pc := 13) (v := 1) C dL_curiosity_13 (by decide) ?_
    exact XW.tret (X_iret (pc := 14) C (Nat.le_of_ble_eq_true rfl) (Nat.le_of_ble_eq_true rfl) dL_curiosity_14 (Or.inr ⟨_, hx, rfl⟩))

theorem m_h_L_bill : Cond.codeWith yL_bill cL_bill 4 (some .int) [(0, 9, 12, 19)] ∈ xTB := xm 1075 (by decide +kernel) (by decide +kernel)
set_option maxRecDepth 100000 in
set_option maxHeartbeats 4000000 in
theorem c_L_bill (l : Launch) (P : XP) (σ : XS) (h0 : (.inr 0 : XI) ∈ P.2.2.2.1) (h19 : (.inr 19 : XI) ∈ P.2.2.2.1) (a0 : Int32) {Post : Option Value → XS → Prop} {XPost : String → XS → Prop} (hM : XTM l yX6_bill cX6_bill 2 (some .int) rm_X6_bill P [.ref (P.2.2.1 (.inr 0)), .int a0] σ Post XPost) (hV : ∀ v τ, Post v τ → ∃ x : Int32, v = some (.int x)) (hE : ∀ E τ, XPost E τ → E = eIO) : XMH l yL_bill cL_bill 4 [(0, 9, 12, 19)] (rmL 2 rm_X6_bill) P [.ref (P.2.2.1 (.inr 0)), .int a0, .ref (P.2.2.1 (.inr 19))] σ (LW [eIO] Post XPost) := by
  refine XMH.of (by decide +kernel) (Nat.le_of_ble_eq_true rfl) (fun p e s m args below meth c A C hT => ?_)
  replace C : XC p s m args meth c P A 4 RL cL_bill (some .int) := C
  refine XW.eq (lv' := [(0, _), (1, _), (2, _)]) rfl rfl rfl ?_
  refine X_aload_n (pc := 0) C 2 dL_bill_0 rfl rfl ?_
  refine X_iconst (pc := 1) (v := 0) C dL_bill_1 (by decide) ?_
  refine X_aload_n (pc := 2) C 0 dL_bill_2 rfl rfl ?_
  refine X_iload_n (pc := 3) C 1 dL_bill_3 rfl rfl ?_
  skip
  refine X_callVT (i := .inr 0) (ci := 6) (n := 1) (pc := 4) C [.int a0] hM m_c_X6_bill m_m_L_62 m_i_X6_bill m_s_X6_bill m_n_X6 ⟨by decide +kernel, by decide +kernel, by decide +kernel⟩ ⟨Nat.le_of_ble_eq_true rfl, Nat.le_of_ble_eq_true rfl⟩ ⟨Nat.le_of_ble_eq_true rfl, Nat.le_of_ble_eq_true rfl⟩ h0 rfl rfl rfl rfl (Nat.le_of_ble_eq_true rfl) rfl dL_bill_4 (fun v σ1 hp => ?_) (fun E σ1 hx => ?_)
  · obtain ⟨x, rfl⟩ := hV v σ1 hp
    show XW p l e _ s m args below meth c P A 4 _ _ _ σ1 7 [(0, _), (1, _), (2, _)] (.int x :: _)
    refine X_i2l (pc := 7) C dL_bill_7 ?_
    refine X_lastN (j := 0) (pc := 8) C h19 rfl (by omega) (by decide) dL_bill_8 ?_
    refine X_goto (pc := 9) C 15 dL_bill_9 (by decide) ?_
    refine X_iconst (pc := 15) (v := 0) C dL_bill_15 (by decide) ?_
    exact XW.tret (X_iret (pc := 16) C (Nat.le_of_ble_eq_true rfl) (Nat.le_of_ble_eq_true rfl) dL_bill_16 (Or.inl ⟨x, σ1, hp, rfl, rfl⟩))
  · obtain rfl := hE E σ1 hx
    refine X_catch (pc := 4) C hT [] ⟨0, 9, 12, 19⟩ [] rfl (fun z hz => nomatch hz) (by decide) (by decide) m_l_L_19 (by decide) (fun q => ?_)
    show XW p l e _ s m args below meth c P A 4 _ _ _ σ1 12 [(0, _), (1, _), (2, _)] [.ref q]
    refine X_astore_n (pc := 12) (lv1 := [(0, _), (1, _), (2, _), (3, _)]) C 3 dL_bill_12 rfl (by decide) rfl ?_
    refine X_iconst (pc := 13) (v := 1) C dL_bill_13 (by decide) ?_
    exact XW.tret (X_iret (pc := 14) C (Nat.le_of_ble_eq_true rfl) (Nat.le_of_ble_eq_true rfl) dL_bill_14 (Or.inr ⟨_, hx, rfl⟩))

theorem m_h_L_ringCount : Cond.codeWith yL_ringCount cL_ringCount 4 (some .int) [(0, 9, 12, 19)] ∈ xTB := xm 1082 (by decide +kernel) (by decide +kernel)
set_option maxRecDepth 100000 in
set_option maxHeartbeats 4000000 in
theorem c_L_ringCount (l : Launch) (P : XP) (σ : XS) (h0 : (.inr 0 : XI) ∈ P.2.2.2.1) (h19 : (.inr 19 : XI) ∈ P.2.2.2.1) (a0 : Int32) {Post : Option Value → XS → Prop} {XPost : String → XS → Prop} (hM : XTM l yX6_ringCount cX6_ringCount 2 (some .int) rm_X6_ringCount P [.ref (P.2.2.1 (.inr 0)), .int a0] σ Post XPost) (hV : ∀ v τ, Post v τ → ∃ x : Int32, v = some (.int x)) (hE : ∀ E τ, XPost E τ → E = eIO) : XMH l yL_ringCount cL_ringCount 4 [(0, 9, 12, 19)] (rmL 2 rm_X6_ringCount) P [.ref (P.2.2.1 (.inr 0)), .int a0, .ref (P.2.2.1 (.inr 19))] σ (LW [eIO] Post XPost) := by
  refine XMH.of (by decide +kernel) (Nat.le_of_ble_eq_true rfl) (fun p e s m args below meth c A C hT => ?_)
  replace C : XC p s m args meth c P A 4 RL cL_ringCount (some .int) := C
  refine XW.eq (lv' := [(0, _), (1, _), (2, _)]) rfl rfl rfl ?_
  refine X_aload_n (pc := 0) C 2 dL_ringCount_0 rfl rfl ?_
  refine X_iconst (pc := 1) (v := 0) C dL_ringCount_1 (by decide) ?_
  refine X_aload_n (pc := 2) C 0 dL_ringCount_2 rfl rfl ?_
  refine X_iload_n (pc := 3) C 1 dL_ringCount_3 rfl rfl ?_
  skip
  refine X_callVT (i := .inr 0) (ci := 6) (n := 1) (pc := 4) C [.int a0] hM m_c_X6_ringCount m_m_L_65 m_i_X6_ringCount m_s_X6_ringCount m_n_X6 ⟨by decide +kernel, by decide +kernel, by decide +kernel⟩ ⟨Nat.le_of_ble_eq_true rfl, Nat.le_of_ble_eq_true rfl⟩ ⟨Nat.le_of_ble_eq_true rfl, Nat.le_of_ble_eq_true rfl⟩ h0 rfl rfl rfl rfl (Nat.le_of_ble_eq_true rfl) rfl dL_ringCount_4 (fun v σ1 hp => ?_) (fun E σ1 hx => ?_)
  · obtain ⟨x, rfl⟩ := hV v σ1 hp
    show XW p l e _ s m args below meth c P A 4 _ _ _ σ1 7 [(0, _), (1, _), (2, _)] (.int x :: _)
    refine X_i2l (pc := 7) C dL_ringCount_7 ?_
    refine X_lastN (j := 0) (pc := 8) C h19 rfl (by omega) (by decide) dL_ringCount_8 ?_
    refine X_goto (pc := 9) C 15 dL_ringCount_9 (by decide) ?_
    refine X_iconst (pc := 15) (v := 0) C dL_ringCount_15 (by decide) ?_
    exact XW.tret (X_iret (pc := 16) C (Nat.le_of_ble_eq_true rfl) (Nat.le_of_ble_eq_true rfl) dL_ringCount_16 (Or.inl ⟨x, σ1, hp, rfl, rfl⟩))
  · obtain rfl := hE E σ1 hx
    refine X_catch (pc := 4) C hT [] ⟨0, 9, 12, 19⟩ [] rfl (fun z hz => nomatch hz) (by decide) (by decide) m_l_L_19 (by decide) (fun q => ?_)
    show XW p l e _ s m args below meth c P A 4 _ _ _ σ1 12 [(0, _), (1, _), (2, _)] [.ref q]
    refine X_astore_n (pc := 12) (lv1 := [(0, _), (1, _), (2, _), (3, _)]) C 3 dL_ringCount_12 rfl (by decide) rfl ?_
    refine X_iconst (pc := 13) (v := 1) C dL_ringCount_13 (by decide) ?_
    exact XW.tret (X_iret (pc := 14) C (Nat.le_of_ble_eq_true rfl) (Nat.le_of_ble_eq_true rfl) dL_ringCount_14 (Or.inr ⟨_, hx, rfl⟩))

theorem m_h_L_ringSeconds : Cond.codeWith yL_ringSeconds cL_ringSeconds 4 (some .int) [(0, 9, 12, 19)] ∈ xTB := xm 1090 (by decide +kernel) (by decide +kernel)
set_option maxRecDepth 100000 in
set_option maxHeartbeats 4000000 in
theorem c_L_ringSeconds (l : Launch) (P : XP) (σ : XS) (h0 : (.inr 0 : XI) ∈ P.2.2.2.1) (h19 : (.inr 19 : XI) ∈ P.2.2.2.1) (a0 : Int32) {Post : Option Value → XS → Prop} {XPost : String → XS → Prop} (hM : XTM l yX6_ringSeconds cX6_ringSeconds 6 (some .int) rm_X6_ringSeconds P [.ref (P.2.2.1 (.inr 0)), .int a0] σ Post XPost) (hV : ∀ v τ, Post v τ → ∃ x : Int32, v = some (.int x)) (hE : ∀ E τ, XPost E τ → E = eIO) : XMH l yL_ringSeconds cL_ringSeconds 4 [(0, 9, 12, 19)] (rmL 6 rm_X6_ringSeconds) P [.ref (P.2.2.1 (.inr 0)), .int a0, .ref (P.2.2.1 (.inr 19))] σ (LW [eIO] Post XPost) := by
  refine XMH.of (by decide +kernel) (Nat.le_of_ble_eq_true rfl) (fun p e s m args below meth c A C hT => ?_)
  replace C : XC p s m args meth c P A 4 RL cL_ringSeconds (some .int) := C
  refine XW.eq (lv' := [(0, _), (1, _), (2, _)]) rfl rfl rfl ?_
  refine X_aload_n (pc := 0) C 2 dL_ringSeconds_0 rfl rfl ?_
  refine X_iconst (pc := 1) (v := 0) C dL_ringSeconds_1 (by decide) ?_
  refine X_aload_n (pc := 2) C 0 dL_ringSeconds_2 rfl rfl ?_
  refine X_iload_n (pc := 3) C 1 dL_ringSeconds_3 rfl rfl ?_
  skip
  refine X_callVT (i := .inr 0) (ci := 6) (n := 1) (pc := 4) C [.int a0] hM m_c_X6_ringSeconds m_m_L_68 m_i_X6_ringSeconds m_s_X6_ringSeconds m_n_X6 ⟨by decide +kernel, by decide +kernel, by decide +kernel⟩ ⟨Nat.le_of_ble_eq_true rfl, Nat.le_of_ble_eq_true rfl⟩ ⟨Nat.le_of_ble_eq_true rfl, Nat.le_of_ble_eq_true rfl⟩ h0 rfl rfl rfl rfl (Nat.le_of_ble_eq_true rfl) rfl dL_ringSeconds_4 (fun v σ1 hp => ?_) (fun E σ1 hx => ?_)
  · obtain ⟨x, rfl⟩ := hV v σ1 hp
    show XW p l e _ s m args below meth c P A 4 _ _ _ σ1 7 [(0, _), (1, _), (2, _)] (.int x :: _)
    refine X_i2l (pc := 7) C dL_ringSeconds_7 ?_
    refine X_lastN (j := 0) (pc := 8) C h19 rfl (by omega) (by decide) dL_ringSeconds_8 ?_
    refine X_goto (pc := 9) C 15 dL_ringSeconds_9 (by decide) ?_
    refine X_iconst (pc := 15) (v := 0) C dL_ringSeconds_15 (by decide) ?_
    exact XW.tret (X_iret (pc := 16) C (Nat.le_of_ble_eq_true rfl) (Nat.le_of_ble_eq_true rfl) dL_ringSeconds_16 (Or.inl ⟨x, σ1, hp, rfl, rfl⟩))
  · obtain rfl := hE E σ1 hx
    refine X_catch (pc := 4) C hT [] ⟨0, 9, 12, 19⟩ [] rfl (fun z hz => nomatch hz) (by decide) (by decide) m_l_L_19 (by decide) (fun q => ?_)
    show XW p l e _ s m args below meth c P A 4 _ _ _ σ1 12 [(0, _), (1, _), (2, _)] [.ref q]
    refine X_astore_n (pc := 12) (lv1 := [(0, _), (1, _), (2, _), (3, _)]) C 3 dL_ringSeconds_12 rfl (by decide) rfl ?_
    refine X_iconst (pc := 13) (v := 1) C dL_ringSeconds_13 (by decide) ?_
    exact XW.tret (X_iret (pc := 14) C (Nat.le_of_ble_eq_true rfl) (Nat.le_of_ble_eq_true rfl) dL_ringSeconds_14 (Or.inr ⟨_, hx, rfl⟩))

theorem m_h_L_secretsKnown : Cond.codeWith yL_secretsKnown cL_secretsKnown 4 (some .int) [(0, 9, 12, 19)] ∈ xTB := xm 1097 (by decide +kernel) (by decide +kernel)
set_option maxRecDepth 100000 in
set_option maxHeartbeats 4000000 in
theorem c_L_secretsKnown (l : Launch) (P : XP) (σ : XS) (h0 : (.inr 0 : XI) ∈ P.2.2.2.1) (h19 : (.inr 19 : XI) ∈ P.2.2.2.1) (a0 : Int32) {Post : Option Value → XS → Prop} {XPost : String → XS → Prop} (hM : XTM l yX6_secretsKnown cX6_secretsKnown 2 (some .int) rm_X6_secretsKnown P [.ref (P.2.2.1 (.inr 0)), .int a0] σ Post XPost) (hV : ∀ v τ, Post v τ → ∃ x : Int32, v = some (.int x)) (hE : ∀ E τ, XPost E τ → E = eIO) : XMH l yL_secretsKnown cL_secretsKnown 4 [(0, 9, 12, 19)] (rmL 2 rm_X6_secretsKnown) P [.ref (P.2.2.1 (.inr 0)), .int a0, .ref (P.2.2.1 (.inr 19))] σ (LW [eIO] Post XPost) := by
  refine XMH.of (by decide +kernel) (Nat.le_of_ble_eq_true rfl) (fun p e s m args below meth c A C hT => ?_)
  replace C : XC p s m args meth c P A 4 RL cL_secretsKnown (some .int) := C
  refine XW.eq (lv' := [(0, _), (1, _), (2, _)]) rfl rfl rfl ?_
  refine X_aload_n (pc := 0) C 2 dL_secretsKnown_0 rfl rfl ?_
  refine X_iconst (pc := 1) (v := 0) C dL_secretsKnown_1 (by decide) ?_
  refine X_aload_n (pc := 2) C 0 dL_secretsKnown_2 rfl rfl ?_
  refine X_iload_n (pc := 3) C 1 dL_secretsKnown_3 rfl rfl ?_
  skip
  refine X_callVT (i := .inr 0) (ci := 6) (n := 1) (pc := 4) C [.int a0] hM m_c_X6_secretsKnown m_m_L_71 m_i_X6_secretsKnown m_s_X6_secretsKnown m_n_X6 ⟨by decide +kernel, by decide +kernel, by decide +kernel⟩ ⟨Nat.le_of_ble_eq_true rfl, Nat.le_of_ble_eq_true rfl⟩ ⟨Nat.le_of_ble_eq_true rfl, Nat.le_of_ble_eq_true rfl⟩ h0 rfl rfl rfl rfl (Nat.le_of_ble_eq_true rfl) rfl dL_secretsKnown_4 (fun v σ1 hp => ?_) (fun E σ1 hx => ?_)
  · obtain ⟨x, rfl⟩ := hV v σ1 hp
    show XW p l e _ s m args below meth c P A 4 _ _ _ σ1 7 [(0, _), (1, _), (2, _)] (.int x :: _)
    refine X_i2l (pc := 7) C dL_secretsKnown_7 ?_
    refine X_lastN (j := 0) (pc := 8) C h19 rfl (by omega) (by decide) dL_secretsKnown_8 ?_
    refine X_goto (pc := 9) C 15 dL_secretsKnown_9 (by decide) ?_
    refine X_iconst (pc := 15) (v := 0) C dL_secretsKnown_15 (by decide) ?_
    exact XW.tret (X_iret (pc := 16) C (Nat.le_of_ble_eq_true rfl) (Nat.le_of_ble_eq_true rfl) dL_secretsKnown_16 (Or.inl ⟨x, σ1, hp, rfl, rfl⟩))
  · obtain rfl := hE E σ1 hx
    refine X_catch (pc := 4) C hT [] ⟨0, 9, 12, 19⟩ [] rfl (fun z hz => nomatch hz) (by decide) (by decide) m_l_L_19 (by decide) (fun q => ?_)
    show XW p l e _ s m args below meth c P A 4 _ _ _ σ1 12 [(0, _), (1, _), (2, _)] [.ref q]
    refine X_astore_n (pc := 12) (lv1 := [(0, _), (1, _), (2, _), (3, _)]) C 3 dL_secretsKnown_12 rfl (by decide) rfl ?_
    refine X_iconst (pc := 13) (v := 1) C dL_secretsKnown_13 (by decide) ?_
    exact XW.tret (X_iret (pc := 14) C (Nat.le_of_ble_eq_true rfl) (Nat.le_of_ble_eq_true rfl) dL_secretsKnown_14 (Or.inr ⟨_, hx, rfl⟩))

theorem m_h_L_neighbours : Cond.codeWith yL_neighbours cL_neighbours 4 (some .int) [(0, 9, 12, 19)] ∈ xTB := xm 1104 (by decide +kernel) (by decide +kernel)
set_option maxRecDepth 100000 in
set_option maxHeartbeats 4000000 in
theorem c_L_neighbours (l : Launch) (P : XP) (σ : XS) (h0 : (.inr 0 : XI) ∈ P.2.2.2.1) (h19 : (.inr 19 : XI) ∈ P.2.2.2.1) (a0 : Int32) {Post : Option Value → XS → Prop} {XPost : String → XS → Prop} (hM : XTM l yX6_neighbours cX6_neighbours 2 (some .int) rm_X6_neighbours P [.ref (P.2.2.1 (.inr 0)), .int a0] σ Post XPost) (hV : ∀ v τ, Post v τ → ∃ x : Int32, v = some (.int x)) (hE : ∀ E τ, XPost E τ → E = eIO) : XMH l yL_neighbours cL_neighbours 4 [(0, 9, 12, 19)] (rmL 2 rm_X6_neighbours) P [.ref (P.2.2.1 (.inr 0)), .int a0, .ref (P.2.2.1 (.inr 19))] σ (LW [eIO] Post XPost) := by
  refine XMH.of (by decide +kernel) (Nat.le_of_ble_eq_true rfl) (fun p e s m args below meth c A C hT => ?_)
  replace C : XC p s m args meth c P A 4 RL cL_neighbours (some .int) := C
  refine XW.eq (lv' := [(0, _), (1, _), (2, _)]) rfl rfl rfl ?_
  refine X_aload_n (pc := 0) C 2 dL_neighbours_0 rfl rfl ?_
  refine X_iconst (pc := 1) (v := 0) C dL_neighbours_1 (by decide) ?_
  refine X_aload_n (pc := 2) C 0 dL_neighbours_2 rfl rfl ?_
  refine X_iload_n (pc := 3) C 1 dL_neighbours_3 rfl rfl ?_
  skip
  refine X_callVT (i := .inr 0) (ci := 6) (n := 1) (pc := 4) C [.int a0] hM m_c_X6_neighbours m_m_L_74 m_i_X6_neighbours m_s_X6_neighbours m_n_X6 ⟨by decide +kernel, by decide +kernel, by decide +kernel⟩ ⟨Nat.le_of_ble_eq_true rfl, Nat.le_of_ble_eq_true rfl⟩ ⟨Nat.le_of_ble_eq_true rfl, Nat.le_of_ble_eq_true rfl⟩ h0 rfl rfl rfl rfl (Nat.le_of_ble_eq_true rfl) rfl dL_neighbours_4 (fun v σ1 hp => ?_) (fun E σ1 hx => ?_)
  · obtain ⟨x, rfl⟩ := hV v σ1 hp
    show XW p l e _ s m args below meth c P A 4 _ _ _ σ1 7 [(0, _), (1, _), (2, _)] (.int x :: _)
    refine X_i2l (pc := 7) C dL_neighbours_7 ?_
    refine X_lastN (j := 0) (pc := 8) C h19 rfl (by omega) (by decide) dL_neighbours_8 ?_
    refine X_goto (pc := 9) C 15 dL_neighbours_9 (by decide) ?_
    refine X_iconst (pc := 15) (v := 0) C dL_neighbours_15 (by decide) ?_
    exact XW.tret (X_iret (pc := 16) C (Nat.le_of_ble_eq_true rfl) (Nat.le_of_ble_eq_true rfl) dL_neighbours_16 (Or.inl ⟨x, σ1, hp, rfl, rfl⟩))
  · obtain rfl := hE E σ1 hx
    refine X_catch (pc := 4) C hT [] ⟨0, 9, 12, 19⟩ [] rfl (fun z hz => nomatch hz) (by decide) (by decide) m_l_L_19 (by decide) (fun q => ?_)
    show XW p l e _ s m args below meth c P A 4 _ _ _ σ1 12 [(0, _), (1, _), (2, _)] [.ref q]
    refine X_astore_n (pc := 12) (lv1 := [(0, _), (1, _), (2, _), (3, _)]) C 3 dL_neighbours_12 rfl (by decide) rfl ?_
    refine X_iconst (pc := 13) (v := 1) C dL_neighbours_13 (by decide) ?_
    exact XW.tret (X_iret (pc := 14) C (Nat.le_of_ble_eq_true rfl) (Nat.le_of_ble_eq_true rfl) dL_neighbours_14 (Or.inr ⟨_, hx, rfl⟩))

theorem m_h_L_nameByte : Cond.codeWith yL_nameByte cL_nameByte 5 (some .int) [(0, 10, 13, 19)] ∈ xTB := xm 1115 (by decide +kernel) (by decide +kernel)
set_option maxRecDepth 100000 in
set_option maxHeartbeats 4000000 in
theorem c_L_nameByte (l : Launch) (P : XP) (σ : XS) (h0 : (.inr 0 : XI) ∈ P.2.2.2.1) (h19 : (.inr 19 : XI) ∈ P.2.2.2.1) (a0 a1 : Int32) {Post : Option Value → XS → Prop} {XPost : String → XS → Prop} (hM : XTM l yX6_nameByte cX6_nameByte 4 (some .int) rm_X6_nameByte P [.ref (P.2.2.1 (.inr 0)), .int a0, .int a1] σ Post XPost) (hV : ∀ v τ, Post v τ → ∃ x : Int32, v = some (.int x)) (hE : ∀ E τ, XPost E τ → E = eIO) : XMH l yL_nameByte cL_nameByte 5 [(0, 10, 13, 19)] (rmL 4 rm_X6_nameByte) P [.ref (P.2.2.1 (.inr 0)), .int a0, .int a1, .ref (P.2.2.1 (.inr 19))] σ (LW [eIO] Post XPost) := by
  refine XMH.of (by decide +kernel) (Nat.le_of_ble_eq_true rfl) (fun p e s m args below meth c A C hT => ?_)
  replace C : XC p s m args meth c P A 5 RL cL_nameByte (some .int) := C
  refine XW.eq (lv' := [(0, _), (1, _), (2, _), (3, _)]) rfl rfl rfl ?_
  refine X_aload_n (pc := 0) C 3 dL_nameByte_0 rfl rfl ?_
  refine X_iconst (pc := 1) (v := 0) C dL_nameByte_1 (by decide) ?_
  refine X_aload_n (pc := 2) C 0 dL_nameByte_2 rfl rfl ?_
  refine X_iload_n (pc := 3) C 1 dL_nameByte_3 rfl rfl ?_
  refine X_iload_n (pc := 4) C 2 dL_nameByte_4 rfl rfl ?_
  skip
  refine X_callVT (i := .inr 0) (ci := 6) (n := 2) (pc := 5) C [.int a0, .int a1] hM m_c_X6_nameByte m_m_L_77 m_i_X6_nameByte m_s_X6_nameByte m_n_X6 ⟨by decide +kernel, by decide +kernel, by decide +kernel⟩ ⟨Nat.le_of_ble_eq_true rfl, Nat.le_of_ble_eq_true rfl⟩ ⟨Nat.le_of_ble_eq_true rfl, Nat.le_of_ble_eq_true rfl⟩ h0 rfl rfl rfl rfl (Nat.le_of_ble_eq_true rfl) rfl dL_nameByte_5 (fun v σ1 hp => ?_) (fun E σ1 hx => ?_)
  · obtain ⟨x, rfl⟩ := hV v σ1 hp
    show XW p l e _ s m args below meth c P A 5 _ _ _ σ1 8 [(0, _), (1, _), (2, _), (3, _)] (.int x :: _)
    refine X_i2l (pc := 8) C dL_nameByte_8 ?_
    refine X_lastN (j := 0) (pc := 9) C h19 rfl (by omega) (by decide) dL_nameByte_9 ?_
    refine X_goto (pc := 10) C 17 dL_nameByte_10 (by decide) ?_
    refine X_iconst (pc := 17) (v := 0) C dL_nameByte_17 (by decide) ?_
    exact XW.tret (X_iret (pc := 18) C (Nat.le_of_ble_eq_true rfl) (Nat.le_of_ble_eq_true rfl) dL_nameByte_18 (Or.inl ⟨x, σ1, hp, rfl, rfl⟩))
  · obtain rfl := hE E σ1 hx
    refine X_catch (pc := 5) C hT [] ⟨0, 10, 13, 19⟩ [] rfl (fun z hz => nomatch hz) (by decide) (by decide) m_l_L_19 (by decide) (fun q => ?_)
    show XW p l e _ s m args below meth c P A 5 _ _ _ σ1 13 [(0, _), (1, _), (2, _), (3, _)] [.ref q]
    refine X_astore (pc := 13) (lv1 := [(0, _), (1, _), (2, _), (3, _), (4, _)]) C dL_nameByte_13 (by decide) rfl ?_
    refine X_iconst (pc := 15) (v := 1) C dL_nameByte_15 (by decide) ?_
    exact XW.tret (X_iret (pc := 16) C (Nat.le_of_ble_eq_true rfl) (Nat.le_of_ble_eq_true rfl) dL_nameByte_16 (Or.inr ⟨_, hx, rfl⟩))

theorem m_h_L_whoAnswers : Cond.codeWith yL_whoAnswers cL_whoAnswers 5 (some .int) [(0, 10, 13, 19)] ∈ xTB := xm 1122 (by decide +kernel) (by decide +kernel)
set_option maxRecDepth 100000 in
set_option maxHeartbeats 4000000 in
theorem c_L_whoAnswers (l : Launch) (P : XP) (σ : XS) (h0 : (.inr 0 : XI) ∈ P.2.2.2.1) (h19 : (.inr 19 : XI) ∈ P.2.2.2.1) (a0 a1 : Int32) {Post : Option Value → XS → Prop} {XPost : String → XS → Prop} (hM : XTM l yX6_whoAnswers cX6_whoAnswers 3 (some .int) rm_X6_whoAnswers P [.ref (P.2.2.1 (.inr 0)), .int a0, .int a1] σ Post XPost) (hV : ∀ v τ, Post v τ → ∃ x : Int32, v = some (.int x)) (hE : ∀ E τ, XPost E τ → E = eIO) : XMH l yL_whoAnswers cL_whoAnswers 5 [(0, 10, 13, 19)] (rmL 3 rm_X6_whoAnswers) P [.ref (P.2.2.1 (.inr 0)), .int a0, .int a1, .ref (P.2.2.1 (.inr 19))] σ (LW [eIO] Post XPost) := by
  refine XMH.of (by decide +kernel) (Nat.le_of_ble_eq_true rfl) (fun p e s m args below meth c A C hT => ?_)
  replace C : XC p s m args meth c P A 5 RL cL_whoAnswers (some .int) := C
  refine XW.eq (lv' := [(0, _), (1, _), (2, _), (3, _)]) rfl rfl rfl ?_
  refine X_aload_n (pc := 0) C 3 dL_whoAnswers_0 rfl rfl ?_
  refine X_iconst (pc := 1) (v := 0) C dL_whoAnswers_1 (by decide) ?_
  refine X_aload_n (pc := 2) C 0 dL_whoAnswers_2 rfl rfl ?_
  refine X_iload_n (pc := 3) C 1 dL_whoAnswers_3 rfl rfl ?_
  refine X_iload_n (pc := 4) C 2 dL_whoAnswers_4 rfl rfl ?_
  skip
  refine X_callVT (i := .inr 0) (ci := 6) (n := 2) (pc := 5) C [.int a0, .int a1] hM m_c_X6_whoAnswers m_m_L_80 m_i_X6_whoAnswers m_s_X6_whoAnswers m_n_X6 ⟨by decide +kernel, by decide +kernel, by decide +kernel⟩ ⟨Nat.le_of_ble_eq_true rfl, Nat.le_of_ble_eq_true rfl⟩ ⟨Nat.le_of_ble_eq_true rfl, Nat.le_of_ble_eq_true rfl⟩ h0 rfl rfl rfl rfl (Nat.le_of_ble_eq_true rfl) rfl dL_whoAnswers_5 (fun v σ1 hp => ?_) (fun E σ1 hx => ?_)
  · obtain ⟨x, rfl⟩ := hV v σ1 hp
    show XW p l e _ s m args below meth c P A 5 _ _ _ σ1 8 [(0, _), (1, _), (2, _), (3, _)] (.int x :: _)
    refine X_i2l (pc := 8) C dL_whoAnswers_8 ?_
    refine X_lastN (j := 0) (pc := 9) C h19 rfl (by omega) (by decide) dL_whoAnswers_9 ?_
    refine X_goto (pc := 10) C 17 dL_whoAnswers_10 (by decide) ?_
    refine X_iconst (pc := 17) (v := 0) C dL_whoAnswers_17 (by decide) ?_
    exact XW.tret (X_iret (pc := 18) C (Nat.le_of_ble_eq_true rfl) (Nat.le_of_ble_eq_true rfl) dL_whoAnswers_18 (Or.inl ⟨x, σ1, hp, rfl, rfl⟩))
  · obtain rfl := hE E σ1 hx
    refine X_catch (pc := 5) C hT [] ⟨0, 10, 13, 19⟩ [] rfl (fun z hz => nomatch hz) (by decide) (by decide) m_l_L_19 (by decide) (fun q => ?_)
    show XW p l e _ s m args below meth c P A 5 _ _ _ σ1 13 [(0, _), (1, _), (2, _), (3, _)] [.ref q]
    refine X_astore (pc := 13) (lv1 := [(0, _), (1, _), (2, _), (3, _), (4, _)]) C dL_whoAnswers_13 (by decide) rfl ?_
    refine X_iconst (pc := 15) (v := 1) C dL_whoAnswers_15 (by decide) ?_
    exact XW.tret (X_iret (pc := 16) C (Nat.le_of_ble_eq_true rfl) (Nat.le_of_ble_eq_true rfl) dL_whoAnswers_16 (Or.inr ⟨_, hx, rfl⟩))

theorem m_h_L_knowers : Cond.codeWith yL_knowers cL_knowers 4 (some .int) [(0, 9, 12, 19)] ∈ xTB := xm 1133 (by decide +kernel) (by decide +kernel)
set_option maxRecDepth 100000 in
set_option maxHeartbeats 4000000 in
theorem c_L_knowers (l : Launch) (P : XP) (σ : XS) (h0 : (.inr 0 : XI) ∈ P.2.2.2.1) (h19 : (.inr 19 : XI) ∈ P.2.2.2.1) (a0 : Int32) {Post : Option Value → XS → Prop} {XPost : String → XS → Prop} (hM : XTM l yX6_knowers cX6_knowers 2 (some .int) rm_X6_knowers P [.ref (P.2.2.1 (.inr 0)), .int a0] σ Post XPost) (hV : ∀ v τ, Post v τ → ∃ x : Int32, v = some (.int x)) (hE : ∀ E τ, XPost E τ → E = eIO) : XMH l yL_knowers cL_knowers 4 [(0, 9, 12, 19)] (rmL 2 rm_X6_knowers) P [.ref (P.2.2.1 (.inr 0)), .int a0, .ref (P.2.2.1 (.inr 19))] σ (LW [eIO] Post XPost) := by
  refine XMH.of (by decide +kernel) (Nat.le_of_ble_eq_true rfl) (fun p e s m args below meth c A C hT => ?_)
  replace C : XC p s m args meth c P A 4 RL cL_knowers (some .int) := C
  refine XW.eq (lv' := [(0, _), (1, _), (2, _)]) rfl rfl rfl ?_
  refine X_aload_n (pc := 0) C 2 dL_knowers_0 rfl rfl ?_
  refine X_iconst (pc := 1) (v := 0) C dL_knowers_1 (by decide) ?_
  refine X_aload_n (pc := 2) C 0 dL_knowers_2 rfl rfl ?_
  refine X_iload_n (pc := 3) C 1 dL_knowers_3 rfl rfl ?_
  skip
  refine X_callVT (i := .inr 0) (ci := 6) (n := 1) (pc := 4) C [.int a0] hM m_c_X6_knowers m_m_L_83 m_i_X6_knowers m_s_X6_knowers m_n_X6 ⟨by decide +kernel, by decide +kernel, by decide +kernel⟩ ⟨Nat.le_of_ble_eq_true rfl, Nat.le_of_ble_eq_true rfl⟩ ⟨Nat.le_of_ble_eq_true rfl, Nat.le_of_ble_eq_true rfl⟩ h0 rfl rfl rfl rfl (Nat.le_of_ble_eq_true rfl) rfl dL_knowers_4 (fun v σ1 hp => ?_) (fun E σ1 hx => ?_)
  · obtain ⟨x, rfl⟩ := hV v σ1 hp
    show XW p l e _ s m args below meth c P A 4 _ _ _ σ1 7 [(0, _), (1, _), (2, _)] (.int x :: _)
    refine X_i2l (pc := 7) C dL_knowers_7 ?_
    refine X_lastN (j := 0) (pc := 8) C h19 rfl (by omega) (by decide) dL_knowers_8 ?_
    refine X_goto (pc := 9) C 15 dL_knowers_9 (by decide) ?_
    refine X_iconst (pc := 15) (v := 0) C dL_knowers_15 (by decide) ?_
    exact XW.tret (X_iret (pc := 16) C (Nat.le_of_ble_eq_true rfl) (Nat.le_of_ble_eq_true rfl) dL_knowers_16 (Or.inl ⟨x, σ1, hp, rfl, rfl⟩))
  · obtain rfl := hE E σ1 hx
    refine X_catch (pc := 4) C hT [] ⟨0, 9, 12, 19⟩ [] rfl (fun z hz => nomatch hz) (by decide) (by decide) m_l_L_19 (by decide) (fun q => ?_)
    show XW p l e _ s m args below meth c P A 4 _ _ _ σ1 12 [(0, _), (1, _), (2, _)] [.ref q]
    refine X_astore_n (pc := 12) (lv1 := [(0, _), (1, _), (2, _), (3, _)]) C 3 dL_knowers_12 rfl (by decide) rfl ?_
    refine X_iconst (pc := 13) (v := 1) C dL_knowers_13 (by decide) ?_
    exact XW.tret (X_iret (pc := 14) C (Nat.le_of_ble_eq_true rfl) (Nat.le_of_ble_eq_true rfl) dL_knowers_14 (Or.inr ⟨_, hx, rfl⟩))

theorem m_h_L_callState : Cond.codeWith yL_callState cL_callState 4 (some .int) [(0, 9, 12, 19)] ∈ xTB := xm 1144 (by decide +kernel) (by decide +kernel)
set_option maxRecDepth 100000 in
set_option maxHeartbeats 4000000 in
theorem c_L_callState (l : Launch) (P : XP) (σ : XS) (h0 : (.inr 0 : XI) ∈ P.2.2.2.1) (h19 : (.inr 19 : XI) ∈ P.2.2.2.1) (a0 : Int32) {Post : Option Value → XS → Prop} {XPost : String → XS → Prop} (hM : XTM l yX6_callState cX6_callState 2 (some .int) rm_X6_callState P [.ref (P.2.2.1 (.inr 0)), .int a0] σ Post XPost) (hV : ∀ v τ, Post v τ → ∃ x : Int32, v = some (.int x)) (hE : ∀ E τ, XPost E τ → E = eIO) : XMH l yL_callState cL_callState 4 [(0, 9, 12, 19)] (rmL 2 rm_X6_callState) P [.ref (P.2.2.1 (.inr 0)), .int a0, .ref (P.2.2.1 (.inr 19))] σ (LW [eIO] Post XPost) := by
  refine XMH.of (by decide +kernel) (Nat.le_of_ble_eq_true rfl) (fun p e s m args below meth c A C hT => ?_)
  replace C : XC p s m args meth c P A 4 RL cL_callState (some .int) := C
  refine XW.eq (lv' := [(0, _), (1, _), (2, _)]) rfl rfl rfl ?_
  refine X_aload_n (pc := 0) C 2 dL_callState_0 rfl rfl ?_
  refine X_iconst (pc := 1) (v := 0) C dL_callState_1 (by decide) ?_
  refine X_aload_n (pc := 2) C 0 dL_callState_2 rfl rfl ?_
  refine X_iload_n (pc := 3) C 1 dL_callState_3 rfl rfl ?_
  skip
  refine X_callVT (i := .inr 0) (ci := 6) (n := 1) (pc := 4) C [.int a0] hM m_c_X6_callState m_m_L_86 m_i_X6_callState m_s_X6_callState m_n_X6 ⟨by decide +kernel, by decide +kernel, by decide +kernel⟩ ⟨Nat.le_of_ble_eq_true rfl, Nat.le_of_ble_eq_true rfl⟩ ⟨Nat.le_of_ble_eq_true rfl, Nat.le_of_ble_eq_true rfl⟩ h0 rfl rfl rfl rfl (Nat.le_of_ble_eq_true rfl) rfl dL_callState_4 (fun v σ1 hp => ?_) (fun E σ1 hx => ?_)
  · obtain ⟨x, rfl⟩ := hV v σ1 hp
    show XW p l e _ s m args below meth c P A 4 _ _ _ σ1 7 [(0, _), (1, _), (2, _)] (.int x :: _)
    refine X_i2l (pc := 7) C dL_callState_7 ?_
    refine X_lastN (j := 0) (pc := 8) C h19 rfl (by omega) (by decide) dL_callState_8 ?_
    refine X_goto (pc := 9) C 15 dL_callState_9 (by decide) ?_
    refine X_iconst (pc := 15) (v := 0) C dL_callState_15 (by decide) ?_
    exact XW.tret (X_iret (pc := 16) C (Nat.le_of_ble_eq_true rfl) (Nat.le_of_ble_eq_true rfl) dL_callState_16 (Or.inl ⟨x, σ1, hp, rfl, rfl⟩))
  · obtain rfl := hE E σ1 hx
    refine X_catch (pc := 4) C hT [] ⟨0, 9, 12, 19⟩ [] rfl (fun z hz => nomatch hz) (by decide) (by decide) m_l_L_19 (by decide) (fun q => ?_)
    show XW p l e _ s m args below meth c P A 4 _ _ _ σ1 12 [(0, _), (1, _), (2, _)] [.ref q]
    refine X_astore_n (pc := 12) (lv1 := [(0, _), (1, _), (2, _), (3, _)]) C 3 dL_callState_12 rfl (by decide) rfl ?_
    refine X_iconst (pc := 13) (v := 1) C dL_callState_13 (by decide) ?_
    exact XW.tret (X_iret (pc := 14) C (Nat.le_of_ble_eq_true rfl) (Nat.le_of_ble_eq_true rfl) dL_callState_14 (Or.inr ⟨_, hx, rfl⟩))

theorem m_h_L_callerOf : Cond.codeWith yL_callerOf cL_callerOf 4 (some .int) [(0, 9, 12, 19)] ∈ xTB := xm 1151 (by decide +kernel) (by decide +kernel)
set_option maxRecDepth 100000 in
set_option maxHeartbeats 4000000 in
theorem c_L_callerOf (l : Launch) (P : XP) (σ : XS) (h0 : (.inr 0 : XI) ∈ P.2.2.2.1) (h19 : (.inr 19 : XI) ∈ P.2.2.2.1) (a0 : Int32) {Post : Option Value → XS → Prop} {XPost : String → XS → Prop} (hM : XTM l yX6_callerOf cX6_callerOf 2 (some .int) rm_X6_callerOf P [.ref (P.2.2.1 (.inr 0)), .int a0] σ Post XPost) (hV : ∀ v τ, Post v τ → ∃ x : Int32, v = some (.int x)) (hE : ∀ E τ, XPost E τ → E = eIO) : XMH l yL_callerOf cL_callerOf 4 [(0, 9, 12, 19)] (rmL 2 rm_X6_callerOf) P [.ref (P.2.2.1 (.inr 0)), .int a0, .ref (P.2.2.1 (.inr 19))] σ (LW [eIO] Post XPost) := by
  refine XMH.of (by decide +kernel) (Nat.le_of_ble_eq_true rfl) (fun p e s m args below meth c A C hT => ?_)
  replace C : XC p s m args meth c P A 4 RL cL_callerOf (some .int) := C
  refine XW.eq (lv' := [(0, _), (1, _), (2, _)]) rfl rfl rfl ?_
  refine X_aload_n (pc := 0) C 2 dL_callerOf_0 rfl rfl ?_
  refine X_iconst (pc := 1) (v := 0) C dL_callerOf_1 (by decide) ?_
  refine X_aload_n (pc := 2) C 0 dL_callerOf_2 rfl rfl ?_
  refine X_iload_n (pc := 3) C 1 dL_callerOf_3 rfl rfl ?_
  skip
  refine X_callVT (i := .inr 0) (ci := 6) (n := 1) (pc := 4) C [.int a0] hM m_c_X6_callerOf m_m_L_89 m_i_X6_callerOf m_s_X6_callerOf m_n_X6 ⟨by decide +kernel, by decide +kernel, by decide +kernel⟩ ⟨Nat.le_of_ble_eq_true rfl, Nat.le_of_ble_eq_true rfl⟩ ⟨Nat.le_of_ble_eq_true rfl, Nat.le_of_ble_eq_true rfl⟩ h0 rfl rfl rfl rfl (Nat.le_of_ble_eq_true rfl) rfl dL_callerOf_4 (fun v σ1 hp => ?_) (fun E σ1 hx => ?_)
  · obtain ⟨x, rfl⟩ := hV v σ1 hp
    show XW p l e _ s m args below meth c P A 4 _ _ _ σ1 7 [(0, _), (1, _), (2, _)] (.int x :: _)
    refine X_i2l (pc := 7) C dL_callerOf_7 ?_
    refine X_lastN (j := 0) (pc := 8) C h19 rfl (by omega) (by decide) dL_callerOf_8 ?_
    refine X_goto (pc := 9) C 15 dL_callerOf_9 (by decide) ?_
    refine X_iconst (pc := 15) (v := 0) C dL_callerOf_15 (by decide) ?_
    exact XW.tret (X_iret (pc := 16) C (Nat.le_of_ble_eq_true rfl) (Nat.le_of_ble_eq_true rfl) dL_callerOf_16 (Or.inl ⟨x, σ1, hp, rfl, rfl⟩))
  · obtain rfl := hE E σ1 hx
    refine X_catch (pc := 4) C hT [] ⟨0, 9, 12, 19⟩ [] rfl (fun z hz => nomatch hz) (by decide) (by decide) m_l_L_19 (by decide) (fun q => ?_)
    show XW p l e _ s m args below meth c P A 4 _ _ _ σ1 12 [(0, _), (1, _), (2, _)] [.ref q]
    refine X_astore_n (pc := 12) (lv1 := [(0, _), (1, _), (2, _), (3, _)]) C 3 dL_callerOf_12 rfl (by decide) rfl ?_
    refine X_iconst (pc := 13) (v := 1) C dL_callerOf_13 (by decide) ?_
    exact XW.tret (X_iret (pc := 14) C (Nat.le_of_ble_eq_true rfl) (Nat.le_of_ble_eq_true rfl) dL_callerOf_14 (Or.inr ⟨_, hx, rfl⟩))

theorem m_h_L_calledSubscriber : Cond.codeWith yL_calledSubscriber cL_calledSubscriber 4 (some .int) [(0, 9, 12, 19)] ∈ xTB := xm 1158 (by decide +kernel) (by decide +kernel)
set_option maxRecDepth 100000 in
set_option maxHeartbeats 4000000 in
theorem c_L_calledSubscriber (l : Launch) (P : XP) (σ : XS) (h0 : (.inr 0 : XI) ∈ P.2.2.2.1) (h19 : (.inr 19 : XI) ∈ P.2.2.2.1) (a0 : Int32) {Post : Option Value → XS → Prop} {XPost : String → XS → Prop} (hM : XTM l yX6_calledSubscriber cX6_calledSubscriber 2 (some .int) rm_X6_calledSubscriber P [.ref (P.2.2.1 (.inr 0)), .int a0] σ Post XPost) (hV : ∀ v τ, Post v τ → ∃ x : Int32, v = some (.int x)) (hE : ∀ E τ, XPost E τ → E = eIO) : XMH l yL_calledSubscriber cL_calledSubscriber 4 [(0, 9, 12, 19)] (rmL 2 rm_X6_calledSubscriber) P [.ref (P.2.2.1 (.inr 0)), .int a0, .ref (P.2.2.1 (.inr 19))] σ (LW [eIO] Post XPost) := by
  refine XMH.of (by decide +kernel) (Nat.le_of_ble_eq_true rfl) (fun p e s m args below meth c A C hT => ?_)
  replace C : XC p s m args meth c P A 4 RL cL_calledSubscriber (some .int) := C
  refine XW.eq (lv' := [(0, _), (1, _), (2, _)]) rfl rfl rfl ?_
  refine X_aload_n (pc := 0) C 2 dL_calledSubscriber_0 rfl rfl ?_
  refine X_iconst (pc := 1) (v := 0) C dL_calledSubscriber_1 (by decide) ?_
  refine X_aload_n (pc := 2) C 0 dL_calledSubscriber_2 rfl rfl ?_
  refine X_iload_n (pc := 3) C 1 dL_calledSubscriber_3 rfl rfl ?_
  skip
  refine X_callVT (i := .inr 0) (ci := 6) (n := 1) (pc := 4) C [.int a0] hM m_c_X6_calledSubscriber m_m_L_92 m_i_X6_calledSubscriber m_s_X6_calledSubscriber m_n_X6 ⟨by decide +kernel, by decide +kernel, by decide +kernel⟩ ⟨Nat.le_of_ble_eq_true rfl, Nat.le_of_ble_eq_true rfl⟩ ⟨Nat.le_of_ble_eq_true rfl, Nat.le_of_ble_eq_true rfl⟩ h0 rfl rfl rfl rfl (Nat.le_of_ble_eq_true rfl) rfl dL_calledSubscriber_4 (fun v σ1 hp => ?_) (fun E σ1 hx => ?_)
  · obtain ⟨x, rfl⟩ := hV v σ1 hp
    show XW p l e _ s m args below meth c P A 4 _ _ _ σ1 7 [(0, _), (1, _), (2, _)] (.int x :: _)
    refine X_i2l (pc := 7) C dL_calledSubscriber_7 ?_
    refine X_lastN (j := 0) (pc := 8) C h19 rfl (by omega) (by decide) dL_calledSubscriber_8 ?_
    refine X_goto (pc := 9) C 15 dL_calledSubscriber_9 (by decide) ?_
    refine X_iconst (pc := 15) (v := 0) C dL_calledSubscriber_15 (by decide) ?_
    exact XW.tret (X_iret (pc := 16) C (Nat.le_of_ble_eq_true rfl) (Nat.le_of_ble_eq_true rfl) dL_calledSubscriber_16 (Or.inl ⟨x, σ1, hp, rfl, rfl⟩))
  · obtain rfl := hE E σ1 hx
    refine X_catch (pc := 4) C hT [] ⟨0, 9, 12, 19⟩ [] rfl (fun z hz => nomatch hz) (by decide) (by decide) m_l_L_19 (by decide) (fun q => ?_)
    show XW p l e _ s m args below meth c P A 4 _ _ _ σ1 12 [(0, _), (1, _), (2, _)] [.ref q]
    refine X_astore_n (pc := 12) (lv1 := [(0, _), (1, _), (2, _), (3, _)]) C 3 dL_calledSubscriber_12 rfl (by decide) rfl ?_
    refine X_iconst (pc := 13) (v := 1) C dL_calledSubscriber_13 (by decide) ?_
    exact XW.tret (X_iret (pc := 14) C (Nat.le_of_ble_eq_true rfl) (Nat.le_of_ble_eq_true rfl) dL_calledSubscriber_14 (Or.inr ⟨_, hx, rfl⟩))

theorem m_h_L_calledTrunk : Cond.codeWith yL_calledTrunk cL_calledTrunk 4 (some .int) [(0, 9, 12, 19)] ∈ xTB := xm 1165 (by decide +kernel) (by decide +kernel)
set_option maxRecDepth 100000 in
set_option maxHeartbeats 4000000 in
theorem c_L_calledTrunk (l : Launch) (P : XP) (σ : XS) (h0 : (.inr 0 : XI) ∈ P.2.2.2.1) (h19 : (.inr 19 : XI) ∈ P.2.2.2.1) (a0 : Int32) {Post : Option Value → XS → Prop} {XPost : String → XS → Prop} (hM : XTM l yX6_calledTrunk cX6_calledTrunk 2 (some .int) rm_X6_calledTrunk P [.ref (P.2.2.1 (.inr 0)), .int a0] σ Post XPost) (hV : ∀ v τ, Post v τ → ∃ x : Int32, v = some (.int x)) (hE : ∀ E τ, XPost E τ → E = eIO) : XMH l yL_calledTrunk cL_calledTrunk 4 [(0, 9, 12, 19)] (rmL 2 rm_X6_calledTrunk) P [.ref (P.2.2.1 (.inr 0)), .int a0, .ref (P.2.2.1 (.inr 19))] σ (LW [eIO] Post XPost) := by
  refine XMH.of (by decide +kernel) (Nat.le_of_ble_eq_true rfl) (fun p e s m args below meth c A C hT => ?_)
  replace C : XC p s m args meth c P A 4 RL cL_calledTrunk (some .int) := C
  refine XW.eq (lv' := [(0, _), (1, _), (2, _)]) rfl rfl rfl ?_
  refine X_aload_n (pc := 0) C 2 dL_calledTrunk_0 rfl rfl ?_
  refine X_iconst (pc := 1) (v := 0) C dL_calledTrunk_1 (by decide) ?_
  refine X_aload_n (pc := 2) C 0 dL_calledTrunk_2 rfl rfl ?_
  refine X_iload_n (pc := 3) C 1 dL_calledTrunk_3 rfl rfl ?_
  skip
  refine X_callVT (i := .inr 0) (ci := 6) (n := 1) (pc := 4) C [.int a0] hM m_c_X6_calledTrunk m_m_L_95 m_i_X6_calledTrunk m_s_X6_calledTrunk m_n_X6 ⟨by decide +kernel, by decide +kernel, by decide +kernel⟩ ⟨Nat.le_of_ble_eq_true rfl, Nat.le_of_ble_eq_true rfl⟩ ⟨Nat.le_of_ble_eq_true rfl, Nat.le_of_ble_eq_true rfl⟩ h0 rfl rfl rfl rfl (Nat.le_of_ble_eq_true rfl) rfl dL_calledTrunk_4 (fun v σ1 hp => ?_) (fun E σ1 hx => ?_)
  · obtain ⟨x, rfl⟩ := hV v σ1 hp
    show XW p l e _ s m args below meth c P A 4 _ _ _ σ1 7 [(0, _), (1, _), (2, _)] (.int x :: _)
    refine X_i2l (pc := 7) C dL_calledTrunk_7 ?_
    refine X_lastN (j := 0) (pc := 8) C h19 rfl (by omega) (by decide) dL_calledTrunk_8 ?_
    refine X_goto (pc := 9) C 15 dL_calledTrunk_9 (by decide) ?_
    refine X_iconst (pc := 15) (v := 0) C dL_calledTrunk_15 (by decide) ?_
    exact XW.tret (X_iret (pc := 16) C (Nat.le_of_ble_eq_true rfl) (Nat.le_of_ble_eq_true rfl) dL_calledTrunk_16 (Or.inl ⟨x, σ1, hp, rfl, rfl⟩))
  · obtain rfl := hE E σ1 hx
    refine X_catch (pc := 4) C hT [] ⟨0, 9, 12, 19⟩ [] rfl (fun z hz => nomatch hz) (by decide) (by decide) m_l_L_19 (by decide) (fun q => ?_)
    show XW p l e _ s m args below meth c P A 4 _ _ _ σ1 12 [(0, _), (1, _), (2, _)] [.ref q]
    refine X_astore_n (pc := 12) (lv1 := [(0, _), (1, _), (2, _), (3, _)]) C 3 dL_calledTrunk_12 rfl (by decide) rfl ?_
    refine X_iconst (pc := 13) (v := 1) C dL_calledTrunk_13 (by decide) ?_
    exact XW.tret (X_iret (pc := 14) C (Nat.le_of_ble_eq_true rfl) (Nat.le_of_ble_eq_true rfl) dL_calledTrunk_14 (Or.inr ⟨_, hx, rfl⟩))

theorem m_h_L_startTime : Cond.codeWith yL_startTime cL_startTime 4 (some .int) [(0, 9, 12, 19)] ∈ xTB := xm 1172 (by decide +kernel) (by decide +kernel)
set_option maxRecDepth 100000 in
set_option maxHeartbeats 4000000 in
theorem c_L_startTime (l : Launch) (P : XP) (σ : XS) (h0 : (.inr 0 : XI) ∈ P.2.2.2.1) (h19 : (.inr 19 : XI) ∈ P.2.2.2.1) (a0 : Int32) {Post : Option Value → XS → Prop} {XPost : String → XS → Prop} (hM : XTM l yX6_startTime cX6_startTime 2 (some .int) rm_X6_startTime P [.ref (P.2.2.1 (.inr 0)), .int a0] σ Post XPost) (hV : ∀ v τ, Post v τ → ∃ x : Int32, v = some (.int x)) (hE : ∀ E τ, XPost E τ → E = eIO) : XMH l yL_startTime cL_startTime 4 [(0, 9, 12, 19)] (rmL 2 rm_X6_startTime) P [.ref (P.2.2.1 (.inr 0)), .int a0, .ref (P.2.2.1 (.inr 19))] σ (LW [eIO] Post XPost) := by
  refine XMH.of (by decide +kernel) (Nat.le_of_ble_eq_true rfl) (fun p e s m args below meth c A C hT => ?_)
  replace C : XC p s m args meth c P A 4 RL cL_startTime (some .int) := C
  refine XW.eq (lv' := [(0, _), (1, _), (2, _)]) rfl rfl rfl ?_
  refine X_aload_n (pc := 0) C 2 dL_startTime_0 rfl rfl ?_
  refine X_iconst (pc := 1) (v := 0) C dL_startTime_1 (by decide) ?_
  refine X_aload_n (pc := 2) C 0 dL_startTime_2 rfl rfl ?_
  refine X_iload_n (pc := 3) C 1 dL_startTime_3 rfl rfl ?_
  skip
  refine X_callVT (i := .inr 0) (ci := 6) (n := 1) (pc := 4) C [.int a0] hM m_c_X6_startTime m_m_L_98 m_i_X6_startTime m_s_X6_startTime m_n_X6 ⟨by decide +kernel, by decide +kernel, by decide +kernel⟩ ⟨Nat.le_of_ble_eq_true rfl, Nat.le_of_ble_eq_true rfl⟩ ⟨Nat.le_of_ble_eq_true rfl, Nat.le_of_ble_eq_true rfl⟩ h0 rfl rfl rfl rfl (Nat.le_of_ble_eq_true rfl) rfl dL_startTime_4 (fun v σ1 hp => ?_) (fun E σ1 hx => ?_)
  · obtain ⟨x, rfl⟩ := hV v σ1 hp
    show XW p l e _ s m args below meth c P A 4 _ _ _ σ1 7 [(0, _), (1, _), (2, _)] (.int x :: _)
    refine X_i2l (pc := 7) C dL_startTime_7 ?_
    refine X_lastN (j := 0) (pc := 8) C h19 rfl (by omega) (by decide) dL_startTime_8 ?_
    refine X_goto (pc := 9) C 15 dL_startTime_9 (by decide) ?_
    refine X_iconst (pc := 15) (v := 0) C dL_startTime_15 (by decide) ?_
    exact XW.tret (X_iret (pc := 16) C (Nat.le_of_ble_eq_true rfl) (Nat.le_of_ble_eq_true rfl) dL_startTime_16 (Or.inl ⟨x, σ1, hp, rfl, rfl⟩))
  · obtain rfl := hE E σ1 hx
    refine X_catch (pc := 4) C hT [] ⟨0, 9, 12, 19⟩ [] rfl (fun z hz => nomatch hz) (by decide) (by decide) m_l_L_19 (by decide) (fun q => ?_)
    show XW p l e _ s m args below meth c P A 4 _ _ _ σ1 12 [(0, _), (1, _), (2, _)] [.ref q]
    refine X_astore_n (pc := 12) (lv1 := [(0, _), (1, _), (2, _), (3, _)]) C 3 dL_startTime_12 rfl (by decide) rfl ?_
    refine X_iconst (pc := 13) (v := 1) C dL_startTime_13 (by decide) ?_
    exact XW.tret (X_iret (pc := 14) C (Nat.le_of_ble_eq_true rfl) (Nat.le_of_ble_eq_true rfl) dL_startTime_14 (Or.inr ⟨_, hx, rfl⟩))

theorem m_h_L_endTime : Cond.codeWith yL_endTime cL_endTime 4 (some .int) [(0, 9, 12, 19)] ∈ xTB := xm 1179 (by decide +kernel) (by decide +kernel)
set_option maxRecDepth 100000 in
set_option maxHeartbeats 4000000 in
theorem c_L_endTime (l : Launch) (P : XP) (σ : XS) (h0 : (.inr 0 : XI) ∈ P.2.2.2.1) (h19 : (.inr 19 : XI) ∈ P.2.2.2.1) (a0 : Int32) {Post : Option Value → XS → Prop} {XPost : String → XS → Prop} (hM : XTM l yX6_endTime cX6_endTime 2 (some .int) rm_X6_endTime P [.ref (P.2.2.1 (.inr 0)), .int a0] σ Post XPost) (hV : ∀ v τ, Post v τ → ∃ x : Int32, v = some (.int x)) (hE : ∀ E τ, XPost E τ → E = eIO) : XMH l yL_endTime cL_endTime 4 [(0, 9, 12, 19)] (rmL 2 rm_X6_endTime) P [.ref (P.2.2.1 (.inr 0)), .int a0, .ref (P.2.2.1 (.inr 19))] σ (LW [eIO] Post XPost) := by
  refine XMH.of (by decide +kernel) (Nat.le_of_ble_eq_true rfl) (fun p e s m args below meth c A C hT => ?_)
  replace C : XC p s m args meth c P A 4 RL cL_endTime (some .int) := C
  refine XW.eq (lv' := [(0, _), (1, _), (2, _)]) rfl rfl rfl ?_
  refine X_aload_n (pc := 0) C 2 dL_endTime_0 rfl rfl ?_
  refine X_iconst (pc := 1) (v := 0) C dL_endTime_1 (by decide) ?_
  refine X_aload_n (pc := 2) C 0 dL_endTime_2 rfl rfl ?_
  refine X_iload_n (pc := 3) C 1 dL_endTime_3 rfl rfl ?_
  skip
  refine X_callVT (i := .inr 0) (ci := 6) (n := 1) (pc := 4) C [.int a0] hM m_c_X6_endTime m_m_L_101 m_i_X6_endTime m_s_X6_endTime m_n_X6 ⟨by decide +kernel, by decide +kernel, by decide +kernel⟩ ⟨Nat.le_of_ble_eq_true rfl, Nat.le_of_ble_eq_true rfl⟩ ⟨Nat.le_of_ble_eq_true rfl, Nat.le_of_ble_eq_true rfl⟩ h0 rfl rfl rfl rfl (Nat.le_of_ble_eq_true rfl) rfl dL_endTime_4 (fun v σ1 hp => ?_) (fun E σ1 hx => ?_)
  · obtain ⟨x, rfl⟩ := hV v σ1 hp
    show XW p l e _ s m args below meth c P A 4 _ _ _ σ1 7 [(0, _), (1, _), (2, _)] (.int x :: _)
    refine X_i2l (pc := 7) C dL_endTime_7 ?_
    refine X_lastN (j := 0) (pc := 8) C h19 rfl (by omega) (by decide) dL_endTime_8 ?_
    refine X_goto (pc := 9) C 15 dL_endTime_9 (by decide) ?_
    refine X_iconst (pc := 15) (v := 0) C dL_endTime_15 (by decide) ?_
    exact XW.tret (X_iret (pc := 16) C (Nat.le_of_ble_eq_true rfl) (Nat.le_of_ble_eq_true rfl) dL_endTime_16 (Or.inl ⟨x, σ1, hp, rfl, rfl⟩))
  · obtain rfl := hE E σ1 hx
    refine X_catch (pc := 4) C hT [] ⟨0, 9, 12, 19⟩ [] rfl (fun z hz => nomatch hz) (by decide) (by decide) m_l_L_19 (by decide) (fun q => ?_)
    show XW p l e _ s m args below meth c P A 4 _ _ _ σ1 12 [(0, _), (1, _), (2, _)] [.ref q]
    refine X_astore_n (pc := 12) (lv1 := [(0, _), (1, _), (2, _), (3, _)]) C 3 dL_endTime_12 rfl (by decide) rfl ?_
    refine X_iconst (pc := 13) (v := 1) C dL_endTime_13 (by decide) ?_
    exact XW.tret (X_iret (pc := 14) C (Nat.le_of_ble_eq_true rfl) (Nat.le_of_ble_eq_true rfl) dL_endTime_14 (Or.inr ⟨_, hx, rfl⟩))

theorem m_h_L_listeners : Cond.codeWith yL_listeners cL_listeners 4 (some .int) [(0, 9, 12, 19)] ∈ xTB := xm 1186 (by decide +kernel) (by decide +kernel)
set_option maxRecDepth 100000 in
set_option maxHeartbeats 4000000 in
theorem c_L_listeners (l : Launch) (P : XP) (σ : XS) (h0 : (.inr 0 : XI) ∈ P.2.2.2.1) (h19 : (.inr 19 : XI) ∈ P.2.2.2.1) (a0 : Int32) {Post : Option Value → XS → Prop} {XPost : String → XS → Prop} (hM : XTM l yX6_listeners cX6_listeners 2 (some .int) rm_X6_listeners P [.ref (P.2.2.1 (.inr 0)), .int a0] σ Post XPost) (hV : ∀ v τ, Post v τ → ∃ x : Int32, v = some (.int x)) (hE : ∀ E τ, XPost E τ → E = eIO) : XMH l yL_listeners cL_listeners 4 [(0, 9, 12, 19)] (rmL 2 rm_X6_listeners) P [.ref (P.2.2.1 (.inr 0)), .int a0, .ref (P.2.2.1 (.inr 19))] σ (LW [eIO] Post XPost) := by
  refine XMH.of (by decide +kernel) (Nat.le_of_ble_eq_true rfl) (fun p e s m args below meth c A C hT => ?_)
  replace C : XC p s m args meth c P A 4 RL cL_listeners (some .int) := C
  refine XW.eq (lv' := [(0, _), (1, _), (2, _)]) rfl rfl rfl ?_
  refine X_aload_n (pc := 0) C 2 dL_listeners_0 rfl rfl ?_
  refine X_iconst (pc := 1) (v := 0) C dL_listeners_1 (by decide) ?_
  refine X_aload_n (pc := 2) C 0 dL_listeners_2 rfl rfl ?_
  refine X_iload_n (pc := 3) C 1 dL_listeners_3 rfl rfl ?_
  skip
  refine X_callVT (i := .inr 0) (ci := 6) (n := 1) (pc := 4) C [.int a0] hM m_c_X6_listeners m_m_L_104 m_i_X6_listeners m_s_X6_listeners m_n_X6 ⟨by decide +kernel, by decide +kernel, by decide +kernel⟩ ⟨Nat.le_of_ble_eq_true rfl, Nat.le_of_ble_eq_true rfl⟩ ⟨Nat.le_of_ble_eq_true rfl, Nat.le_of_ble_eq_true rfl⟩ h0 rfl rfl rfl rfl (Nat.le_of_ble_eq_true rfl) rfl dL_listeners_4 (fun v σ1 hp => ?_) (fun E σ1 hx => ?_)
  · obtain ⟨x, rfl⟩ := hV v σ1 hp
    show XW p l e _ s m args below meth c P A 4 _ _ _ σ1 7 [(0, _), (1, _), (2, _)] (.int x :: _)
    refine X_i2l (pc := 7) C dL_listeners_7 ?_
    refine X_lastN (j := 0) (pc := 8) C h19 rfl (by omega) (by decide) dL_listeners_8 ?_
    refine X_goto (pc := 9) C 15 dL_listeners_9 (by decide) ?_
    refine X_iconst (pc := 15) (v := 0) C dL_listeners_15 (by decide) ?_
    exact XW.tret (X_iret (pc := 16) C (Nat.le_of_ble_eq_true rfl) (Nat.le_of_ble_eq_true rfl) dL_listeners_16 (Or.inl ⟨x, σ1, hp, rfl, rfl⟩))
  · obtain rfl := hE E σ1 hx
    refine X_catch (pc := 4) C hT [] ⟨0, 9, 12, 19⟩ [] rfl (fun z hz => nomatch hz) (by decide) (by decide) m_l_L_19 (by decide) (fun q => ?_)
    show XW p l e _ s m args below meth c P A 4 _ _ _ σ1 12 [(0, _), (1, _), (2, _)] [.ref q]
    refine X_astore_n (pc := 12) (lv1 := [(0, _), (1, _), (2, _), (3, _)]) C 3 dL_listeners_12 rfl (by decide) rfl ?_
    refine X_iconst (pc := 13) (v := 1) C dL_listeners_13 (by decide) ?_
    exact XW.tret (X_iret (pc := 14) C (Nat.le_of_ble_eq_true rfl) (Nat.le_of_ble_eq_true rfl) dL_listeners_14 (Or.inr ⟨_, hx, rfl⟩))

theorem m_h_L_volume : Cond.codeWith yL_volume cL_volume 4 (some .int) [(0, 9, 12, 19)] ∈ xTB := xm 1193 (by decide +kernel) (by decide +kernel)
set_option maxRecDepth 100000 in
set_option maxHeartbeats 4000000 in
theorem c_L_volume (l : Launch) (P : XP) (σ : XS) (h0 : (.inr 0 : XI) ∈ P.2.2.2.1) (h19 : (.inr 19 : XI) ∈ P.2.2.2.1) (a0 : Int32) {Post : Option Value → XS → Prop} {XPost : String → XS → Prop} (hM : XTM l yX6_volume cX6_volume 2 (some .int) rm_X6_volume P [.ref (P.2.2.1 (.inr 0)), .int a0] σ Post XPost) (hV : ∀ v τ, Post v τ → ∃ x : Int32, v = some (.int x)) (hE : ∀ E τ, XPost E τ → E = eIO) : XMH l yL_volume cL_volume 4 [(0, 9, 12, 19)] (rmL 2 rm_X6_volume) P [.ref (P.2.2.1 (.inr 0)), .int a0, .ref (P.2.2.1 (.inr 19))] σ (LW [eIO] Post XPost) := by
  refine XMH.of (by decide +kernel) (Nat.le_of_ble_eq_true rfl) (fun p e s m args below meth c A C hT => ?_)
  replace C : XC p s m args meth c P A 4 RL cL_volume (some .int) := C
  refine XW.eq (lv' := [(0, _), (1, _), (2, _)]) rfl rfl rfl ?_
  refine X_aload_n (pc := 0) C 2 dL_volume_0 rfl rfl ?_
  refine X_iconst (pc := 1) (v := 0) C dL_volume_1 (by decide) ?_
  refine X_aload_n (pc := 2) C 0 dL_volume_2 rfl rfl ?_
  refine X_iload_n (pc := 3) C 1 dL_volume_3 rfl rfl ?_
  skip
  refine X_callVT (i := .inr 0) (ci := 6) (n := 1) (pc := 4) C [.int a0] hM m_c_X6_volume m_m_L_107 m_i_X6_volume m_s_X6_volume m_n_X6 ⟨by decide +kernel, by decide +kernel, by decide +kernel⟩ ⟨Nat.le_of_ble_eq_true rfl, Nat.le_of_ble_eq_true rfl⟩ ⟨Nat.le_of_ble_eq_true rfl, Nat.le_of_ble_eq_true rfl⟩ h0 rfl rfl rfl rfl (Nat.le_of_ble_eq_true rfl) rfl dL_volume_4 (fun v σ1 hp => ?_) (fun E σ1 hx => ?_)
  · obtain ⟨x, rfl⟩ := hV v σ1 hp
    show XW p l e _ s m args below meth c P A 4 _ _ _ σ1 7 [(0, _), (1, _), (2, _)] (.int x :: _)
    refine X_i2l (pc := 7) C dL_volume_7 ?_
    refine X_lastN (j := 0) (pc := 8) C h19 rfl (by omega) (by decide) dL_volume_8 ?_
    refine X_goto (pc := 9) C 15 dL_volume_9 (by decide) ?_
    refine X_iconst (pc := 15) (v := 0) C dL_volume_15 (by decide) ?_
    exact XW.tret (X_iret (pc := 16) C (Nat.le_of_ble_eq_true rfl) (Nat.le_of_ble_eq_true rfl) dL_volume_16 (Or.inl ⟨x, σ1, hp, rfl, rfl⟩))
  · obtain rfl := hE E σ1 hx
    refine X_catch (pc := 4) C hT [] ⟨0, 9, 12, 19⟩ [] rfl (fun z hz => nomatch hz) (by decide) (by decide) m_l_L_19 (by decide) (fun q => ?_)
    show XW p l e _ s m args below meth c P A 4 _ _ _ σ1 12 [(0, _), (1, _), (2, _)] [.ref q]
    refine X_astore_n (pc := 12) (lv1 := [(0, _), (1, _), (2, _), (3, _)]) C 3 dL_volume_12 rfl (by decide) rfl ?_
    refine X_iconst (pc := 13) (v := 1) C dL_volume_13 (by decide) ?_
    exact XW.tret (X_iret (pc := 14) C (Nat.le_of_ble_eq_true rfl) (Nat.le_of_ble_eq_true rfl) dL_volume_14 (Or.inr ⟨_, hx, rfl⟩))

theorem m_h_L_charge : Cond.codeWith yL_charge cL_charge 4 (some .int) [(0, 9, 12, 19)] ∈ xTB := xm 1200 (by decide +kernel) (by decide +kernel)
set_option maxRecDepth 100000 in
set_option maxHeartbeats 4000000 in
theorem c_L_charge (l : Launch) (P : XP) (σ : XS) (h0 : (.inr 0 : XI) ∈ P.2.2.2.1) (h19 : (.inr 19 : XI) ∈ P.2.2.2.1) (a0 : Int32) {Post : Option Value → XS → Prop} {XPost : String → XS → Prop} (hM : XTM l yX6_charge cX6_charge 2 (some .int) rm_X6_charge P [.ref (P.2.2.1 (.inr 0)), .int a0] σ Post XPost) (hV : ∀ v τ, Post v τ → ∃ x : Int32, v = some (.int x)) (hE : ∀ E τ, XPost E τ → E = eIO) : XMH l yL_charge cL_charge 4 [(0, 9, 12, 19)] (rmL 2 rm_X6_charge) P [.ref (P.2.2.1 (.inr 0)), .int a0, .ref (P.2.2.1 (.inr 19))] σ (LW [eIO] Post XPost) := by
  refine XMH.of (by decide +kernel) (Nat.le_of_ble_eq_true rfl) (fun p e s m args below meth c A C hT => ?_)
  replace C : XC p s m args meth c P A 4 RL cL_charge (some .int) := C
  refine XW.eq (lv' := [(0, _), (1, _), (2, _)]) rfl rfl rfl ?_
  refine X_aload_n (pc := 0) C 2 dL_charge_0 rfl rfl ?_
  refine X_iconst (pc := 1) (v := 0) C dL_charge_1 (by decide) ?_
  refine X_aload_n (pc := 2) C 0 dL_charge_2 rfl rfl ?_
  refine X_iload_n (pc := 3) C 1 dL_charge_3 rfl rfl ?_
  skip
  refine X_callVT (i := .inr 0) (ci := 6) (n := 1) (pc := 4) C [.int a0] hM m_c_X6_charge m_m_L_110 m_i_X6_charge m_s_X6_charge m_n_X6 ⟨by decide +kernel, by decide +kernel, by decide +kernel⟩ ⟨Nat.le_of_ble_eq_true rfl, Nat.le_of_ble_eq_true rfl⟩ ⟨Nat.le_of_ble_eq_true rfl, Nat.le_of_ble_eq_true rfl⟩ h0 rfl rfl rfl rfl (Nat.le_of_ble_eq_true rfl) rfl dL_charge_4 (fun v σ1 hp => ?_) (fun E σ1 hx => ?_)
  · obtain ⟨x, rfl⟩ := hV v σ1 hp
    show XW p l e _ s m args below meth c P A 4 _ _ _ σ1 7 [(0, _), (1, _), (2, _)] (.int x :: _)
    refine X_i2l (pc := 7) C dL_charge_7 ?_
    refine X_lastN (j := 0) (pc := 8) C h19 rfl (by omega) (by decide) dL_charge_8 ?_
    refine X_goto (pc := 9) C 15 dL_charge_9 (by decide) ?_
    refine X_iconst (pc := 15) (v := 0) C dL_charge_15 (by decide) ?_
    exact XW.tret (X_iret (pc := 16) C (Nat.le_of_ble_eq_true rfl) (Nat.le_of_ble_eq_true rfl) dL_charge_16 (Or.inl ⟨x, σ1, hp, rfl, rfl⟩))
  · obtain rfl := hE E σ1 hx
    refine X_catch (pc := 4) C hT [] ⟨0, 9, 12, 19⟩ [] rfl (fun z hz => nomatch hz) (by decide) (by decide) m_l_L_19 (by decide) (fun q => ?_)
    show XW p l e _ s m args below meth c P A 4 _ _ _ σ1 12 [(0, _), (1, _), (2, _)] [.ref q]
    refine X_astore_n (pc := 12) (lv1 := [(0, _), (1, _), (2, _), (3, _)]) C 3 dL_charge_12 rfl (by decide) rfl ?_
    refine X_iconst (pc := 13) (v := 1) C dL_charge_13 (by decide) ?_
    exact XW.tret (X_iret (pc := 14) C (Nat.le_of_ble_eq_true rfl) (Nat.le_of_ble_eq_true rfl) dL_charge_14 (Or.inr ⟨_, hx, rfl⟩))

theorem m_h_L_obstacle : Cond.codeWith yL_obstacle cL_obstacle 4 (some .int) [(0, 9, 12, 19)] ∈ xTB := xm 1208 (by decide +kernel) (by decide +kernel)
set_option maxRecDepth 100000 in
set_option maxHeartbeats 4000000 in
theorem c_L_obstacle (l : Launch) (P : XP) (σ : XS) (h0 : (.inr 0 : XI) ∈ P.2.2.2.1) (h19 : (.inr 19 : XI) ∈ P.2.2.2.1) (a0 : Int32) {Post : Option Value → XS → Prop} {XPost : String → XS → Prop} (hM : XTM l yX6_obstacle cX6_obstacle 2 (some .int) rm_X6_obstacle P [.ref (P.2.2.1 (.inr 0)), .int a0] σ Post XPost) (hV : ∀ v τ, Post v τ → ∃ x : Int32, v = some (.int x)) (hE : ∀ E τ, XPost E τ → E = eIO) : XMH l yL_obstacle cL_obstacle 4 [(0, 9, 12, 19)] (rmL 2 rm_X6_obstacle) P [.ref (P.2.2.1 (.inr 0)), .int a0, .ref (P.2.2.1 (.inr 19))] σ (LW [eIO] Post XPost) := by
  refine XMH.of (by decide +kernel) (Nat.le_of_ble_eq_true rfl) (fun p e s m args below meth c A C hT => ?_)
  replace C : XC p s m args meth c P A 4 RL cL_obstacle (some .int) := C
  refine XW.eq (lv' := [(0, _), (1, _), (2, _)]) rfl rfl rfl ?_
  refine X_aload_n (pc := 0) C 2 dL_obstacle_0 rfl rfl ?_
  refine X_iconst (pc := 1) (v := 0) C dL_obstacle_1 (by decide) ?_
  refine X_aload_n (pc := 2) C 0 dL_obstacle_2 rfl rfl ?_
  refine X_iload_n (pc := 3) C 1 dL_obstacle_3 rfl rfl ?_
  skip
  refine X_callVT (i := .inr 0) (ci := 6) (n := 1) (pc := 4) C [.int a0] hM m_c_X6_obstacle m_m_L_113 m_i_X6_obstacle m_s_X6_obstacle m_n_X6 ⟨by decide +kernel, by decide +kernel, by decide +kernel⟩ ⟨Nat.le_of_ble_eq_true rfl, Nat.le_of_ble_eq_true rfl⟩ ⟨Nat.le_of_ble_eq_true rfl, Nat.le_of_ble_eq_true rfl⟩ h0 rfl rfl rfl rfl (Nat.le_of_ble_eq_true rfl) rfl dL_obstacle_4 (fun v σ1 hp => ?_) (fun E σ1 hx => ?_)
  · obtain ⟨x, rfl⟩ := hV v σ1 hp
    show XW p l e _ s m args below meth c P A 4 _ _ _ σ1 7 [(0, _), (1, _), (2, _)] (.int x :: _)
    refine X_i2l (pc := 7) C dL_obstacle_7 ?_
    refine X_lastN (j := 0) (pc := 8) C h19 rfl (by omega) (by decide) dL_obstacle_8 ?_
    refine X_goto (pc := 9) C 15 dL_obstacle_9 (by decide) ?_
    refine X_iconst (pc := 15) (v := 0) C dL_obstacle_15 (by decide) ?_
    exact XW.tret (X_iret (pc := 16) C (Nat.le_of_ble_eq_true rfl) (Nat.le_of_ble_eq_true rfl) dL_obstacle_16 (Or.inl ⟨x, σ1, hp, rfl, rfl⟩))
  · obtain rfl := hE E σ1 hx
    refine X_catch (pc := 4) C hT [] ⟨0, 9, 12, 19⟩ [] rfl (fun z hz => nomatch hz) (by decide) (by decide) m_l_L_19 (by decide) (fun q => ?_)
    show XW p l e _ s m args below meth c P A 4 _ _ _ σ1 12 [(0, _), (1, _), (2, _)] [.ref q]
    refine X_astore_n (pc := 12) (lv1 := [(0, _), (1, _), (2, _), (3, _)]) C 3 dL_obstacle_12 rfl (by decide) rfl ?_
    refine X_iconst (pc := 13) (v := 1) C dL_obstacle_13 (by decide) ?_
    exact XW.tret (X_iret (pc := 14) C (Nat.le_of_ble_eq_true rfl) (Nat.le_of_ble_eq_true rfl) dL_obstacle_14 (Or.inr ⟨_, hx, rfl⟩))

theorem m_h_L_queuePlace : Cond.codeWith yL_queuePlace cL_queuePlace 4 (some .int) [(0, 9, 12, 19)] ∈ xTB := xm 1216 (by decide +kernel) (by decide +kernel)
set_option maxRecDepth 100000 in
set_option maxHeartbeats 4000000 in
theorem c_L_queuePlace (l : Launch) (P : XP) (σ : XS) (h0 : (.inr 0 : XI) ∈ P.2.2.2.1) (h19 : (.inr 19 : XI) ∈ P.2.2.2.1) (a0 : Int32) {Post : Option Value → XS → Prop} {XPost : String → XS → Prop} (hM : XTM l yX6_queuePlace cX6_queuePlace 2 (some .int) rm_X6_queuePlace P [.ref (P.2.2.1 (.inr 0)), .int a0] σ Post XPost) (hV : ∀ v τ, Post v τ → ∃ x : Int32, v = some (.int x)) (hE : ∀ E τ, XPost E τ → E = eIO) : XMH l yL_queuePlace cL_queuePlace 4 [(0, 9, 12, 19)] (rmL 2 rm_X6_queuePlace) P [.ref (P.2.2.1 (.inr 0)), .int a0, .ref (P.2.2.1 (.inr 19))] σ (LW [eIO] Post XPost) := by
  refine XMH.of (by decide +kernel) (Nat.le_of_ble_eq_true rfl) (fun p e s m args below meth c A C hT => ?_)
  replace C : XC p s m args meth c P A 4 RL cL_queuePlace (some .int) := C
  refine XW.eq (lv' := [(0, _), (1, _), (2, _)]) rfl rfl rfl ?_
  refine X_aload_n (pc := 0) C 2 dL_queuePlace_0 rfl rfl ?_
  refine X_iconst (pc := 1) (v := 0) C dL_queuePlace_1 (by decide) ?_
  refine X_aload_n (pc := 2) C 0 dL_queuePlace_2 rfl rfl ?_
  refine X_iload_n (pc := 3) C 1 dL_queuePlace_3 rfl rfl ?_
  skip
  refine X_callVT (i := .inr 0) (ci := 6) (n := 1) (pc := 4) C [.int a0] hM m_c_X6_queuePlace m_m_L_116 m_i_X6_queuePlace m_s_X6_queuePlace m_n_X6 ⟨by decide +kernel, by decide +kernel, by decide +kernel⟩ ⟨Nat.le_of_ble_eq_true rfl, Nat.le_of_ble_eq_true rfl⟩ ⟨Nat.le_of_ble_eq_true rfl, Nat.le_of_ble_eq_true rfl⟩ h0 rfl rfl rfl rfl (Nat.le_of_ble_eq_true rfl) rfl dL_queuePlace_4 (fun v σ1 hp => ?_) (fun E σ1 hx => ?_)
  · obtain ⟨x, rfl⟩ := hV v σ1 hp
    show XW p l e _ s m args below meth c P A 4 _ _ _ σ1 7 [(0, _), (1, _), (2, _)] (.int x :: _)
    refine X_i2l (pc := 7) C dL_queuePlace_7 ?_
    refine X_lastN (j := 0) (pc := 8) C h19 rfl (by omega) (by decide) dL_queuePlace_8 ?_
    refine X_goto (pc := 9) C 15 dL_queuePlace_9 (by decide) ?_
    refine X_iconst (pc := 15) (v := 0) C dL_queuePlace_15 (by decide) ?_
    exact XW.tret (X_iret (pc := 16) C (Nat.le_of_ble_eq_true rfl) (Nat.le_of_ble_eq_true rfl) dL_queuePlace_16 (Or.inl ⟨x, σ1, hp, rfl, rfl⟩))
  · obtain rfl := hE E σ1 hx
    refine X_catch (pc := 4) C hT [] ⟨0, 9, 12, 19⟩ [] rfl (fun z hz => nomatch hz) (by decide) (by decide) m_l_L_19 (by decide) (fun q => ?_)
    show XW p l e _ s m args below meth c P A 4 _ _ _ σ1 12 [(0, _), (1, _), (2, _)] [.ref q]
    refine X_astore_n (pc := 12) (lv1 := [(0, _), (1, _), (2, _), (3, _)]) C 3 dL_queuePlace_12 rfl (by decide) rfl ?_
    refine X_iconst (pc := 13) (v := 1) C dL_queuePlace_13 (by decide) ?_
    exact XW.tret (X_iret (pc := 14) C (Nat.le_of_ble_eq_true rfl) (Nat.le_of_ble_eq_true rfl) dL_queuePlace_14 (Or.inr ⟨_, hx, rfl⟩))

theorem m_h_L_isUrgent : Cond.codeWith yL_isUrgent cL_isUrgent 4 (some .int) [(0, 16, 19, 19)] ∈ xTB := xm 1227 (by decide +kernel) (by decide +kernel)
set_option maxRecDepth 100000 in
set_option maxHeartbeats 4000000 in
theorem c_L_isUrgent (l : Launch) (P : XP) (σ : XS) (h0 : (.inr 0 : XI) ∈ P.2.2.2.1) (h19 : (.inr 19 : XI) ∈ P.2.2.2.1) (a0 : Int32) {Post : Option Value → XS → Prop} {XPost : String → XS → Prop} (hM : XTM l yX6_isUrgent cX6_isUrgent 2 (some .boolean) rm_X6_isUrgent P [.ref (P.2.2.1 (.inr 0)), .int a0] σ Post XPost) (hV : ∀ v τ, Post v τ → v = some (.int 0) ∨ v = some (.int 1)) (hE : ∀ E τ, XPost E τ → E = eIO) : XMH l yL_isUrgent cL_isUrgent 4 [(0, 16, 19, 19)] (rmL 2 rm_X6_isUrgent) P [.ref (P.2.2.1 (.inr 0)), .int a0, .ref (P.2.2.1 (.inr 19))] σ (LW [eIO] Post XPost) := by
  refine XMH.of (by decide +kernel) (Nat.le_of_ble_eq_true rfl) (fun p e s m args below meth c A C hT => ?_)
  replace C : XC p s m args meth c P A 4 RL cL_isUrgent (some .int) := C
  refine XW.eq (lv' := [(0, _), (1, _), (2, _)]) rfl rfl rfl ?_
  refine X_aload_n (pc := 0) C 2 dL_isUrgent_0 rfl rfl ?_
  refine X_iconst (pc := 1) (v := 0) C dL_isUrgent_1 (by decide) ?_
  refine X_aload_n (pc := 2) C 0 dL_isUrgent_2 rfl rfl ?_
  refine X_iload_n (pc := 3) C 1 dL_isUrgent_3 rfl rfl ?_
  skip
  refine X_callVT (i := .inr 0) (ci := 6) (n := 1) (pc := 4) C [.int a0] hM m_c_X6_isUrgent m_m_L_119 m_i_X6_isUrgent m_s_X6_isUrgent m_n_X6 ⟨by decide +kernel, by decide +kernel, by decide +kernel⟩ ⟨Nat.le_of_ble_eq_true rfl, Nat.le_of_ble_eq_true rfl⟩ ⟨Nat.le_of_ble_eq_true rfl, Nat.le_of_ble_eq_true rfl⟩ h0 rfl rfl rfl rfl (Nat.le_of_ble_eq_true rfl) rfl dL_isUrgent_4 (fun v σ1 hp => ?_) (fun E σ1 hx => ?_)
  · rcases hV v σ1 hp with rfl | rfl
    · show XW p l e _ s m args below meth c P A 4 _ _ _ σ1 7 [(0, _), (1, _), (2, _)] (.int 0 :: _)
      refine X_if_eq (pc := 7) C 14 dL_isUrgent_7 (by decide) (fun h7 => ?_) (fun h7 => ?_)
      · skip
        refine X_lconst (pc := 14) (v := 0) C dL_isUrgent_14 (by decide) ?_
        refine X_lastN (j := 0) (pc := 15) C h19 rfl (by omega) (by decide) dL_isUrgent_15 ?_
        refine X_goto (pc := 16) C 22 dL_isUrgent_16 (by decide) ?_
        refine X_iconst (pc := 22) (v := 0) C dL_isUrgent_22 (by decide) ?_
        exact XW.tret (X_iret (pc := 23) C (Nat.le_of_ble_eq_true rfl) (Nat.le_of_ble_eq_true rfl) dL_isUrgent_23 (Or.inl ⟨0, σ1, hp, rfl, rfl⟩))
      · exact absurd h7 (by decide)
    · show XW p l e _ s m args below meth c P A 4 _ _ _ σ1 7 [(0, _), (1, _), (2, _)] (.int 1 :: _)
      refine X_if_eq (pc := 7) C 14 dL_isUrgent_7 (by decide) (fun h7 => ?_) (fun h7 => ?_)
      · exact absurd h7 (by decide)
      · skip
        refine X_lconst (pc := 10) (v := 1) C dL_isUrgent_10 (by decide) ?_
        refine X_goto (pc := 11) C 15 dL_isUrgent_11 (by decide) ?_
        refine X_lastN (j := 0) (pc := 15) C h19 rfl (by omega) (by decide) dL_isUrgent_15 ?_
        refine X_goto (pc := 16) C 22 dL_isUrgent_16 (by decide) ?_
        refine X_iconst (pc := 22) (v := 0) C dL_isUrgent_22 (by decide) ?_
        exact XW.tret (X_iret (pc := 23) C (Nat.le_of_ble_eq_true rfl) (Nat.le_of_ble_eq_true rfl) dL_isUrgent_23 (Or.inl ⟨1, σ1, hp, rfl, rfl⟩))
  · obtain rfl := hE E σ1 hx
    refine X_catch (pc := 4) C hT [] ⟨0, 16, 19, 19⟩ [] rfl (fun z hz => nomatch hz) (by decide) (by decide) m_l_L_19 (by decide) (fun q => ?_)
    show XW p l e _ s m args below meth c P A 4 _ _ _ σ1 19 [(0, _), (1, _), (2, _)] [.ref q]
    refine X_astore_n (pc := 19) (lv1 := [(0, _), (1, _), (2, _), (3, _)]) C 3 dL_isUrgent_19 rfl (by decide) rfl ?_
    refine X_iconst (pc := 20) (v := 1) C dL_isUrgent_20 (by decide) ?_
    exact XW.tret (X_iret (pc := 21) C (Nat.le_of_ble_eq_true rfl) (Nat.le_of_ble_eq_true rfl) dL_isUrgent_21 (Or.inr ⟨_, hx, rfl⟩))

theorem m_h_L_listenersBetween : Cond.codeWith yL_listenersBetween cL_listenersBetween 5 (some .int) [(0, 10, 13, 19), (0, 10, 17, 13)] ∈ xTB := xm 1234 (by decide +kernel) (by decide +kernel)
set_option maxRecDepth 100000 in
set_option maxHeartbeats 4000000 in
theorem c_L_listenersBetween (l : Launch) (P : XP) (σ : XS) (h0 : (.inr 0 : XI) ∈ P.2.2.2.1) (h19 : (.inr 19 : XI) ∈ P.2.2.2.1) (a0 a1 : Int32) {Post : Option Value → XS → Prop} {XPost : String → XS → Prop} (hM : XTM l yX6_listenersBetween cX6_listenersBetween 3 (some .int) rm_X6_listenersBetween P [.ref (P.2.2.1 (.inr 0)), .int a0, .int a1] σ Post XPost) (hV : ∀ v τ, Post v τ → ∃ x : Int32, v = some (.int x)) (hE : ∀ E τ, XPost E τ → E = eIO ∨ E = eIA) : XMH l yL_listenersBetween cL_listenersBetween 5 [(0, 10, 13, 19), (0, 10, 17, 13)] (rmL 3 rm_X6_listenersBetween) P [.ref (P.2.2.1 (.inr 0)), .int a0, .int a1, .ref (P.2.2.1 (.inr 19))] σ (LW [eIO, eIA] Post XPost) := by
  refine XMH.of (by decide +kernel) (Nat.le_of_ble_eq_true rfl) (fun p e s m args below meth c A C hT => ?_)
  replace C : XC p s m args meth c P A 5 RL cL_listenersBetween (some .int) := C
  refine XW.eq (lv' := [(0, _), (1, _), (2, _), (3, _)]) rfl rfl rfl ?_
  refine X_aload_n (pc := 0) C 3 dL_listenersBetween_0 rfl rfl ?_
  refine X_iconst (pc := 1) (v := 0) C dL_listenersBetween_1 (by decide) ?_
  refine X_aload_n (pc := 2) C 0 dL_listenersBetween_2 rfl rfl ?_
  refine X_iload_n (pc := 3) C 1 dL_listenersBetween_3 rfl rfl ?_
  refine X_iload_n (pc := 4) C 2 dL_listenersBetween_4 rfl rfl ?_
  skip
  refine X_callVT (i := .inr 0) (ci := 6) (n := 2) (pc := 5) C [.int a0, .int a1] hM m_c_X6_listenersBetween m_m_L_122 m_i_X6_listenersBetween m_s_X6_listenersBetween m_n_X6 ⟨by decide +kernel, by decide +kernel, by decide +kernel⟩ ⟨Nat.le_of_ble_eq_true rfl, Nat.le_of_ble_eq_true rfl⟩ ⟨Nat.le_of_ble_eq_true rfl, Nat.le_of_ble_eq_true rfl⟩ h0 rfl rfl rfl rfl (Nat.le_of_ble_eq_true rfl) rfl dL_listenersBetween_5 (fun v σ1 hp => ?_) (fun E σ1 hx => ?_)
  · obtain ⟨x, rfl⟩ := hV v σ1 hp
    show XW p l e _ s m args below meth c P A 5 _ _ _ σ1 8 [(0, _), (1, _), (2, _), (3, _)] (.int x :: _)
    refine X_i2l (pc := 8) C dL_listenersBetween_8 ?_
    refine X_lastN (j := 0) (pc := 9) C h19 rfl (by omega) (by decide) dL_listenersBetween_9 ?_
    refine X_goto (pc := 10) C 21 dL_listenersBetween_10 (by decide) ?_
    refine X_iconst (pc := 21) (v := 0) C dL_listenersBetween_21 (by decide) ?_
    exact XW.tret (X_iret (pc := 22) C (Nat.le_of_ble_eq_true rfl) (Nat.le_of_ble_eq_true rfl) dL_listenersBetween_22 (Or.inl ⟨x, σ1, hp, rfl, rfl⟩))
  · rcases hE E σ1 hx with rfl | rfl
    · refine X_catch (pc := 5) C hT [] ⟨0, 10, 13, 19⟩ [⟨0, 10, 17, 13⟩] rfl (fun z hz => nomatch hz) (by decide) (by decide) m_l_L_19 (by decide) (fun q => ?_)
      show XW p l e _ s m args below meth c P A 5 _ _ _ σ1 13 [(0, _), (1, _), (2, _), (3, _)] [.ref q]
      refine X_astore (pc := 13) (lv1 := [(0, _), (1, _), (2, _), (3, _), (4, _)]) C dL_listenersBetween_13 (by decide) rfl ?_
      refine X_iconst (pc := 15) (v := 1) C dL_listenersBetween_15 (by decide) ?_
      exact XW.tret (X_iret (pc := 16) C (Nat.le_of_ble_eq_true rfl) (Nat.le_of_ble_eq_true rfl) dL_listenersBetween_16 (Or.inr ⟨_, hx, rfl⟩))
    · refine X_catch (pc := 5) C hT [⟨0, 10, 13, 19⟩] ⟨0, 10, 17, 13⟩ [] rfl (fun z hz => by obtain rfl := List.mem_singleton.mp hz; exact ⟨by decide, _, m_l_L_19, by decide⟩) (by decide) (by decide) m_l_L_13 (by decide) (fun q => ?_)
      show XW p l e _ s m args below meth c P A 5 _ _ _ σ1 17 [(0, _), (1, _), (2, _), (3, _)] [.ref q]
      refine X_astore (pc := 17) (lv1 := [(0, _), (1, _), (2, _), (3, _), (4, _)]) C dL_listenersBetween_17 (by decide) rfl ?_
      refine X_iconst (pc := 19) (v := 2) C dL_listenersBetween_19 (by decide) ?_
      exact XW.tret (X_iret (pc := 20) C (Nat.le_of_ble_eq_true rfl) (Nat.le_of_ble_eq_true rfl) dL_listenersBetween_20 (Or.inr ⟨_, hx, rfl⟩))

theorem m_h_L_startsIfEnded : Cond.codeWith yL_startsIfEnded cL_startsIfEnded 4 (some .int) [(0, 9, 12, 19)] ∈ xTB := xm 1247 (by decide +kernel) (by decide +kernel)
set_option maxRecDepth 100000 in
set_option maxHeartbeats 4000000 in
theorem c_L_startsIfEnded (l : Launch) (P : XP) (σ : XS) (h0 : (.inr 0 : XI) ∈ P.2.2.2.1) (h19 : (.inr 19 : XI) ∈ P.2.2.2.1) (a0 : Int32) {Post : Option Value → XS → Prop} {XPost : String → XS → Prop} (hM : XTM l yX6_startsIfEnded cX6_startsIfEnded 2 (some .int) rm_X6_startsIfEnded P [.ref (P.2.2.1 (.inr 0)), .int a0] σ Post XPost) (hV : ∀ v τ, Post v τ → ∃ x : Int32, v = some (.int x)) (hE : ∀ E τ, XPost E τ → E = eIO) : XMH l yL_startsIfEnded cL_startsIfEnded 4 [(0, 9, 12, 19)] (rmL 2 rm_X6_startsIfEnded) P [.ref (P.2.2.1 (.inr 0)), .int a0, .ref (P.2.2.1 (.inr 19))] σ (LW [eIO] Post XPost) := by
  refine XMH.of (by decide +kernel) (Nat.le_of_ble_eq_true rfl) (fun p e s m args below meth c A C hT => ?_)
  replace C : XC p s m args meth c P A 4 RL cL_startsIfEnded (some .int) := C
  refine XW.eq (lv' := [(0, _), (1, _), (2, _)]) rfl rfl rfl ?_
  refine X_aload_n (pc := 0) C 2 dL_startsIfEnded_0 rfl rfl ?_
  refine X_iconst (pc := 1) (v := 0) C dL_startsIfEnded_1 (by decide) ?_
  refine X_aload_n (pc := 2) C 0 dL_startsIfEnded_2 rfl rfl ?_
  refine X_iload_n (pc := 3) C 1 dL_startsIfEnded_3 rfl rfl ?_
  skip
  refine X_callVT (i := .inr 0) (ci := 6) (n := 1) (pc := 4) C [.int a0] hM m_c_X6_startsIfEnded m_m_L_125 m_i_X6_startsIfEnded m_s_X6_startsIfEnded m_n_X6 ⟨by decide +kernel, by decide +kernel, by decide +kernel⟩ ⟨Nat.le_of_ble_eq_true rfl, Nat.le_of_ble_eq_true rfl⟩ ⟨Nat.le_of_ble_eq_true rfl, Nat.le_of_ble_eq_true rfl⟩ h0 rfl rfl rfl rfl (Nat.le_of_ble_eq_true rfl) rfl dL_startsIfEnded_4 (fun v σ1 hp => ?_) (fun E σ1 hx => ?_)
  · obtain ⟨x, rfl⟩ := hV v σ1 hp
    show XW p l e _ s m args below meth c P A 4 _ _ _ σ1 7 [(0, _), (1, _), (2, _)] (.int x :: _)
    refine X_i2l (pc := 7) C dL_startsIfEnded_7 ?_
    refine X_lastN (j := 0) (pc := 8) C h19 rfl (by omega) (by decide) dL_startsIfEnded_8 ?_
    refine X_goto (pc := 9) C 15 dL_startsIfEnded_9 (by decide) ?_
    refine X_iconst (pc := 15) (v := 0) C dL_startsIfEnded_15 (by decide) ?_
    exact XW.tret (X_iret (pc := 16) C (Nat.le_of_ble_eq_true rfl) (Nat.le_of_ble_eq_true rfl) dL_startsIfEnded_16 (Or.inl ⟨x, σ1, hp, rfl, rfl⟩))
  · obtain rfl := hE E σ1 hx
    refine X_catch (pc := 4) C hT [] ⟨0, 9, 12, 19⟩ [] rfl (fun z hz => nomatch hz) (by decide) (by decide) m_l_L_19 (by decide) (fun q => ?_)
    show XW p l e _ s m args below meth c P A 4 _ _ _ σ1 12 [(0, _), (1, _), (2, _)] [.ref q]
    refine X_astore_n (pc := 12) (lv1 := [(0, _), (1, _), (2, _), (3, _)]) C 3 dL_startsIfEnded_12 rfl (by decide) rfl ?_
    refine X_iconst (pc := 13) (v := 1) C dL_startsIfEnded_13 (by decide) ?_
    exact XW.tret (X_iret (pc := 14) C (Nat.le_of_ble_eq_true rfl) (Nat.le_of_ble_eq_true rfl) dL_startsIfEnded_14 (Or.inr ⟨_, hx, rfl⟩))

theorem m_h_L_quietestCall : Cond.codeWith yL_quietestCall cL_quietestCall 4 (some .int) [(0, 9, 12, 19)] ∈ xTB := xm 1254 (by decide +kernel) (by decide +kernel)
set_option maxRecDepth 100000 in
set_option maxHeartbeats 4000000 in
theorem c_L_quietestCall (l : Launch) (P : XP) (σ : XS) (h0 : (.inr 0 : XI) ∈ P.2.2.2.1) (h19 : (.inr 19 : XI) ∈ P.2.2.2.1) (a0 : Int32) {Post : Option Value → XS → Prop} {XPost : String → XS → Prop} (hM : XTM l yX6_quietestCall cX6_quietestCall 2 (some .int) rm_X6_quietestCall P [.ref (P.2.2.1 (.inr 0)), .int a0] σ Post XPost) (hV : ∀ v τ, Post v τ → ∃ x : Int32, v = some (.int x)) (hE : ∀ E τ, XPost E τ → E = eIO) : XMH l yL_quietestCall cL_quietestCall 4 [(0, 9, 12, 19)] (rmL 2 rm_X6_quietestCall) P [.ref (P.2.2.1 (.inr 0)), .int a0, .ref (P.2.2.1 (.inr 19))] σ (LW [eIO] Post XPost) := by
  refine XMH.of (by decide +kernel) (Nat.le_of_ble_eq_true rfl) (fun p e s m args below meth c A C hT => ?_)
  replace C : XC p s m args meth c P A 4 RL cL_quietestCall (some .int) := C
  refine XW.eq (lv' := [(0, _), (1, _), (2, _)]) rfl rfl rfl ?_
  refine X_aload_n (pc := 0) C 2 dL_quietestCall_0 rfl rfl ?_
  refine X_iconst (pc := 1) (v := 0) C dL_quietestCall_1 (by decide) ?_
  refine X_aload_n (pc := 2) C 0 dL_quietestCall_2 rfl rfl ?_
  refine X_iload_n (pc := 3) C 1 dL_quietestCall_3 rfl rfl ?_
  skip
  refine X_callVT (i := .inr 0) (ci := 6) (n := 1) (pc := 4) C [.int a0] hM m_c_X6_quietestCall m_m_L_128 m_i_X6_quietestCall m_s_X6_quietestCall m_n_X6 ⟨by decide +kernel, by decide +kernel, by decide +kernel⟩ ⟨Nat.le_of_ble_eq_true rfl, Nat.le_of_ble_eq_true rfl⟩ ⟨Nat.le_of_ble_eq_true rfl, Nat.le_of_ble_eq_true rfl⟩ h0 rfl rfl rfl rfl (Nat.le_of_ble_eq_true rfl) rfl dL_quietestCall_4 (fun v σ1 hp => ?_) (fun E σ1 hx => ?_)
  · obtain ⟨x, rfl⟩ := hV v σ1 hp
    show XW p l e _ s m args below meth c P A 4 _ _ _ σ1 7 [(0, _), (1, _), (2, _)] (.int x :: _)
    refine X_i2l (pc := 7) C dL_quietestCall_7 ?_
    refine X_lastN (j := 0) (pc := 8) C h19 rfl (by omega) (by decide) dL_quietestCall_8 ?_
    refine X_goto (pc := 9) C 15 dL_quietestCall_9 (by decide) ?_
    refine X_iconst (pc := 15) (v := 0) C dL_quietestCall_15 (by decide) ?_
    exact XW.tret (X_iret (pc := 16) C (Nat.le_of_ble_eq_true rfl) (Nat.le_of_ble_eq_true rfl) dL_quietestCall_16 (Or.inl ⟨x, σ1, hp, rfl, rfl⟩))
  · obtain rfl := hE E σ1 hx
    refine X_catch (pc := 4) C hT [] ⟨0, 9, 12, 19⟩ [] rfl (fun z hz => nomatch hz) (by decide) (by decide) m_l_L_19 (by decide) (fun q => ?_)
    show XW p l e _ s m args below meth c P A 4 _ _ _ σ1 12 [(0, _), (1, _), (2, _)] [.ref q]
    refine X_astore_n (pc := 12) (lv1 := [(0, _), (1, _), (2, _), (3, _)]) C 3 dL_quietestCall_12 rfl (by decide) rfl ?_
    refine X_iconst (pc := 13) (v := 1) C dL_quietestCall_13 (by decide) ?_
    exact XW.tret (X_iret (pc := 14) C (Nat.le_of_ble_eq_true rfl) (Nat.le_of_ble_eq_true rfl) dL_quietestCall_14 (Or.inr ⟨_, hx, rfl⟩))

end XP70

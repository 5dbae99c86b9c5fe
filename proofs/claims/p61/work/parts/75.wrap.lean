/-! THE LAW'S OWN QUESTIONS AND CHANGES: what is thrown is caught and told as a number -/
def XMH (l : Launch) (y : MethodName) (cc : ByteArray) (nL : Nat) (hh : List (Nat × Nat × Nat × Nat)) (rm : Room) (P : XP) (as : List Value) (σ : XS) (Post : Option Value → XS → Prop) : Prop :=
  ∀ sz : Nat, vx_Met l y (Cond.codeWith y cc nL (some .int) hh :: xTB) rm (va_Pc as (XPre P σ sz)) (XQ P (va_A (xw P σ) sz) Post) (XXC P (va_A (xw P σ) sz) (fun _ _ => False)) rm.cells rm.slots (va_A (xw P σ) sz)
/-- one frame more -/
abbrev rmL (n : Nat) (r : Room) : Room := { frames := r.frames + 1, cells := r.cells, slots := r.slots, locals := 19 + n + r.locals }
/-- the number of what was thrown -/
def eN (E : String) : Int32 := if E = eIO then -17 else if E = eIA then -18 else -19
theorem eN_IO : eN eIO = -17 := by decide +kernel
theorem eN_IA : eN eIA = -18 := by decide +kernel
theorem eN_IS : eN eIS = -19 := by decide +kernel
def LW (Post : Option Value → XS → Prop) (XPost : String → XS → Prop) : Option Value → XS → Prop := fun v τ => (∃ x : Int32, Post (some (.int x)) τ ∧ v = some (.int x)) ∨ ∃ E, XPost E τ ∧ v = some (.int (eN E))
section XP75
variable {p : Program} {l : Launch} {e : Env} {R : Room} {s : State} {m : MethodId} {args : Array Value} {below : List Frame} {meth : Method} {c : Code} {P : XP} {A : Nat → Prop} {nL cells slots : Nat} {Q : State → Prop} {cc : ByteArray} {ret : Option FieldType} {σ : XS} {pc : Nat} {lv : List (Nat × Value)} {st : List Value}
variable {own : String}
theorem XMH.of {y : MethodName} {rm : Room} {as : List Value} {Post : Option Value → XS → Prop} {hh : List (Nat × Nat × Nat × Nat)} (hy : plainName y.cls = true) (hn : (lg_sl as).length ≤ nL)
    (body : ∀ (p : Program) (e : Env) (s : State) (m : MethodId) (args : Array Value) (below : List Frame) (meth : Method) (c : Code) (A : Nat → Prop), XC p s m args meth c P A nL y.cls cc (some .int) → c.exceptionTable.toList = tableOf hh → XW p l e rm s m args below meth c P A nL 0 0 (vx_MQ below (XQ P A Post) (XXC P A (fun _ _ => False)) args s rm.cells rm.slots A) σ 0 (lv_args 0 as) []) : XMH l y cc nL hh rm P as σ Post := by
  intro sz
  refine vx_ofWH (cc := cc) (maxL := nL) (ret := some .int) (hh := hh) hy rfl ?_
  intro p e s m args below meth c s₁ B hml hv
  obtain ⟨rfl, hsz, hP, hK, hD0, hE⟩ := hv
  have hts := atoms_spec (ws := Cond.codeWith y cc nL (some .int) hh :: xTB) B.pre
  have hT : c.exceptionTable.toList = tableOf hh := vx_table (x := y) B (hts _ List.mem_cons_self)
  have hown : s.vm.findClass y.cls = some m.cls := findClass_of_methodNamed B.named
  subst hsz
  have hD : va_D (va_A (xw P σ) s.heap.size) (xw P σ) := hD0.self
  have hl := lv_entry as (n := nL) hn
  rw [lg_entry_eq]
  exact body p e s m _ below meth c _ ⟨B.exec, B.bytes, hml, hown, fun w hw => hts w (List.mem_cons_of_mem _ hw), hK, fun σ1 => xw_D hD σ1, fun q h => Or.inr h, B.returns, B.notSynchronized, hE⟩ hT s.heap [] _ hP va_S.rf hl
theorem X_catch (C : XC p s m args meth c P A nL own cc ret) {hh : List (Nat × Nat × Nat × Nat)} (hT : c.exceptionTable.toList = tableOf hh) {E : String} (pre : List ExceptionTableEntry) (x : ExceptionTableEntry) (suf : List ExceptionTableEntry) (hsplit : tableOf hh = pre ++ x :: suf)
    (hpass : ∀ z ∈ pre, z.catchType ≠ 0 ∧ ∃ nm : String, Cond.classLink own z.catchType nm ∈ xTB ∧ (E, nm) ∈ xXn) (hx : covers x pc = true) (h0 : x.catchType ≠ 0) (hlink : Cond.classLink own x.catchType E ∈ xTB) (hcast : Cond.castable E E ∈ xXw)
    (k : ∀ q : Nat, XW p l e R s m args below meth c P A nL cells slots Q σ x.handlerPc lv [.ref q]) : XWX p l e R s m args below meth c P A nL cells slots Q σ pc lv E :=
  fun H locs ls rest q ce hP hS hl hce hcv hcl => vx_catch C.2.2.2.1 pre x suf (hT.trans hsplit) (fun z hz => by
    obtain ⟨z0, nm, h1, h2⟩ := hpass z hz
    exact Or.inr ⟨z0, nm, C.hts _ h1, C.hE.2.2.2.2.2.2 _ h2⟩) hx h0 (C.hts _ hlink) (va_Nw.use (xXw_t _ hcast) (C.hE.2.2.2.2.2.1 _ hcast)) hce hcv hcl (k q H locs ls hP hS hl)
theorem X_callSH (C : XC p s m args meth c P A nL own cc ret) {y : MethodName} {cy : ByteArray} {ny : Nat} {hh : List (Nat × Nat × Nat × Nat)} {rm : Room} (As : List Value) {n index : Nat} {Post : Option Value → XS → Prop} (hM : XMH l y cy ny hh rm P As σ Post) (hc : Cond.codeWith y cy ny (some .int) hh ∈ xTB) (hlk : Cond.methodLink own index y ∈ xTB) (hin : Cond.static y ∈ xTB) (hini : Cond.initialized y.cls ∈ xTB) (hd : y.cls ≠ "java/lang/invoke/MethodHandle" ∧ y.cls ≠ "java/lang/invoke/VarHandle" ∧ (parseMethodDescriptor y.desc).map (fun d => d.parameters.length) = some n) (hR : rm.frames + 1 ≤ R.frames ∧ 8 + (ny + 11) + rm.locals ≤ R.locals) (hcl : cells + rm.cells ≤ R.cells ∧ slots + rm.slots ≤ R.slots)
    (hn : As.length = n) (hst : (st.map fun v => v.category).sum ≤ 8) {st0 : List Value} (h0 : st0 = As.reverse ++ st) (d : decode cc pc = .ok (.invokestatic index, 3)) (k : ∀ (v : Option Value) (σ1 : XS), Post v σ1 → XW p l e R s m args below meth c P A nL (cells + rm.cells) (slots + rm.slots) Q σ1 (pc + 3) lv (v.toList ++ st)) : XW p l e R s m args below meth c P A nL cells slots Q σ pc lv st0 := by
  intro H locs ls hP hS hl
  subst h0
  have hG : GoodIn xTB (va_wsS own index y (Cond.codeWith y cy ny (some .int) hh :: xTB)) := fun w hw => by
    unfold va_wsS at hw
    rcases List.mem_append.mp hw with h | h
    · simp only [List.mem_cons, List.not_mem_nil, or_false] at h
      rcases h with rfl | rfl | rfl
      all_goals first | exact ⟨hin, xTB_good _ hin⟩ | exact ⟨hlk, xTB_good _ hlk⟩ | exact ⟨hini, xTB_good _ hini⟩
    · rcases List.mem_cons.mp h with rfl | h
      · exact ⟨hc, xTB_good _ hc⟩
      · exact ⟨h, xTB_good _ h⟩
  exact X_afterT (σ := σ) C hS hl (vx_runSX (As := As) (rest := st) ⟨C.1, C.2.1, C.2.2.1, C.2.2.2.1, C.hts⟩ (hM H.size) (vx_cwSW (ws' := xTB) n C.hts hG rfl rfl rfl hd hR) ⟨xBlind, fun U hU hW => ⟨rfl, xPre_at C hP hS hU hW⟩⟩ rfl hn hl.1 rfl (lv_room hst) d hcl) k (fun E σ1 hq => hq.elim)

theorem m_h_L_truncateInput : Cond.codeWith yL_truncateInput cL_truncateInput 3 (some .int) [(0, 5, 6, 13)] ∈ xTB := xm 739 (by decide +kernel) (by decide +kernel)
set_option maxRecDepth 100000 in
set_option maxHeartbeats 4000000 in
theorem c_L_truncateInput (l : Launch) (P : XP) (σ : XS) (h0 : (.inr 0 : XI) ∈ P.2.2.2.1) (a0 : Int32) {Post : Option Value → XS → Prop} {XPost : String → XS → Prop} (hM : XTM l yX6_truncateInput cX6_truncateInput 2 (some .int) rm_X6_truncateInput P [.ref (P.2.2.1 (.inr 0)), .int a0] σ Post XPost) (hV : ∀ v τ, Post v τ → ∃ x : Int32, v = some (.int x)) (hE : ∀ E τ, XPost E τ → E = eIA) : XMH l yL_truncateInput cL_truncateInput 3 [(0, 5, 6, 13)] (rmL 2 rm_X6_truncateInput) P [.ref (P.2.2.1 (.inr 0)), .int a0] σ (LW Post XPost) := by
  refine XMH.of (by decide +kernel) (Nat.le_of_ble_eq_true rfl) (fun p e s m args below meth c A C hT => ?_)
  replace C : XC p s m args meth c P A 3 RL cL_truncateInput (some .int) := C
  refine XW.eq (lv' := [(0, _), (1, _)]) rfl rfl rfl ?_
  refine X_aload_n (pc := 0) C 0 dL_truncateInput_0 rfl rfl ?_
  refine X_iload_n (pc := 1) C 1 dL_truncateInput_1 rfl rfl ?_
  skip
  refine X_callVT (i := .inr 0) (ci := 6) (n := 1) (pc := 2) C [.int a0] hM m_c_X6_truncateInput m_m_L_7 m_i_X6_truncateInput m_s_X6_truncateInput m_n_X6 ⟨by decide +kernel, by decide +kernel, by decide +kernel⟩ ⟨Nat.le_of_ble_eq_true rfl, Nat.le_of_ble_eq_true rfl⟩ ⟨Nat.le_of_ble_eq_true rfl, Nat.le_of_ble_eq_true rfl⟩ h0 rfl rfl rfl rfl (Nat.le_of_ble_eq_true rfl) rfl dL_truncateInput_2 (fun v σ1 hp => ?_) (fun E σ1 hx => ?_)
  · obtain ⟨x, rfl⟩ := hV v σ1 hp
    show XW p l e _ s m args below meth c P A 3 _ _ _ σ1 5 [(0, _), (1, _)] (.int x :: _)
    exact XW.tret (X_iret (pc := 5) C (Nat.le_of_ble_eq_true rfl) (Nat.le_of_ble_eq_true rfl) dL_truncateInput_5 (Or.inl ⟨x, hp, rfl⟩))
  · obtain rfl := hE E σ1 hx
    refine X_catch (pc := 2) C hT [] ⟨0, 5, 6, 13⟩ [] rfl (fun z hz => nomatch hz) (by decide) (by decide) m_l_L_13 (by decide) (fun q => ?_)
    show XW p l e _ s m args below meth c P A 3 _ _ _ σ1 6 [(0, _), (1, _)] [.ref q]
    refine X_astore_n (pc := 6) (lv1 := [(0, _), (1, _), (2, _)]) C 2 dL_truncateInput_6 rfl (by decide) rfl ?_
    refine X_bipush (pc := 7) (v := (-18)) C dL_truncateInput_7 (by decide) ?_
    exact XW.tret (X_iret (pc := 9) C (Nat.le_of_ble_eq_true rfl) (Nat.le_of_ble_eq_true rfl) dL_truncateInput_9 (Or.inr ⟨_, hx, by rw [eN_IA]⟩))

theorem m_h_L_call : Cond.codeWith yL_call cL_call 5 (some .int) [(0, 7, 8, 19), (0, 7, 13, 13), (0, 7, 18, 21)] ∈ xTB := xm 1021 (by decide +kernel) (by decide +kernel)
set_option maxRecDepth 100000 in
set_option maxHeartbeats 4000000 in
theorem c_L_call (l : Launch) (P : XP) (σ : XS) (h0 : (.inr 0 : XI) ∈ P.2.2.2.1) (a0 a1 a2 : Int32) {Post : Option Value → XS → Prop} {XPost : String → XS → Prop} (hM : XTM l yX6_call cX6_call 4 (some .int) rm_X6_call P [.ref (P.2.2.1 (.inr 0)), .int a0, .int a1, .int a2] σ Post XPost) (hV : ∀ v τ, Post v τ → ∃ x : Int32, v = some (.int x)) (hE : ∀ E τ, XPost E τ → E = eIO ∨ E = eIA ∨ E = eIS) : XMH l yL_call cL_call 5 [(0, 7, 8, 19), (0, 7, 13, 13), (0, 7, 18, 21)] (rmL 4 rm_X6_call) P [.ref (P.2.2.1 (.inr 0)), .int a0, .int a1, .int a2] σ (LW Post XPost) := by
  refine XMH.of (by decide +kernel) (Nat.le_of_ble_eq_true rfl) (fun p e s m args below meth c A C hT => ?_)
  replace C : XC p s m args meth c P A 5 RL cL_call (some .int) := C
  refine XW.eq (lv' := [(0, _), (1, _), (2, _), (3, _)]) rfl rfl rfl ?_
  refine X_aload_n (pc := 0) C 0 dL_call_0 rfl rfl ?_
  refine X_iload_n (pc := 1) C 1 dL_call_1 rfl rfl ?_
  refine X_iload_n (pc := 2) C 2 dL_call_2 rfl rfl ?_
  refine X_iload_n (pc := 3) C 3 dL_call_3 rfl rfl ?_
  skip
  refine X_callVT (i := .inr 0) (ci := 6) (n := 3) (pc := 4) C [.int a0, .int a1, .int a2] hM m_c_X6_call m_m_L_15 m_i_X6_call m_s_X6_call m_n_X6 ⟨by decide +kernel, by decide +kernel, by decide +kernel⟩ ⟨Nat.le_of_ble_eq_true rfl, Nat.le_of_ble_eq_true rfl⟩ ⟨Nat.le_of_ble_eq_true rfl, Nat.le_of_ble_eq_true rfl⟩ h0 rfl rfl rfl rfl (Nat.le_of_ble_eq_true rfl) rfl dL_call_4 (fun v σ1 hp => ?_) (fun E σ1 hx => ?_)
  · obtain ⟨x, rfl⟩ := hV v σ1 hp
    show XW p l e _ s m args below meth c P A 5 _ _ _ σ1 7 [(0, _), (1, _), (2, _), (3, _)] (.int x :: _)
    exact XW.tret (X_iret (pc := 7) C (Nat.le_of_ble_eq_true rfl) (Nat.le_of_ble_eq_true rfl) dL_call_7 (Or.inl ⟨x, hp, rfl⟩))
  · rcases hE E σ1 hx with rfl | rfl | rfl
    · refine X_catch (pc := 4) C hT [] ⟨0, 7, 8, 19⟩ [⟨0, 7, 13, 13⟩, ⟨0, 7, 18, 21⟩] rfl (fun z hz => nomatch hz) (by decide) (by decide) m_l_L_19 (by decide) (fun q => ?_)
      show XW p l e _ s m args below meth c P A 5 _ _ _ σ1 8 [(0, _), (1, _), (2, _), (3, _)] [.ref q]
      refine X_astore (pc := 8) (lv1 := [(0, _), (1, _), (2, _), (3, _), (4, _)]) C dL_call_8 (by decide) rfl ?_
      refine X_bipush (pc := 10) (v := (-17)) C dL_call_10 (by decide) ?_
      exact XW.tret (X_iret (pc := 12) C (Nat.le_of_ble_eq_true rfl) (Nat.le_of_ble_eq_true rfl) dL_call_12 (Or.inr ⟨_, hx, by rw [eN_IO]⟩))
    · refine X_catch (pc := 4) C hT [⟨0, 7, 8, 19⟩] ⟨0, 7, 13, 13⟩ [⟨0, 7, 18, 21⟩] rfl (fun z hz => by obtain rfl := List.mem_singleton.mp hz; exact ⟨by decide, _, m_l_L_19, by decide⟩) (by decide) (by decide) m_l_L_13 (by decide) (fun q => ?_)
      show XW p l e _ s m args below meth c P A 5 _ _ _ σ1 13 [(0, _), (1, _), (2, _), (3, _)] [.ref q]
      refine X_astore (pc := 13) (lv1 := [(0, _), (1, _), (2, _), (3, _), (4, _)]) C dL_call_13 (by decide) rfl ?_
      refine X_bipush (pc := 15) (v := (-18)) C dL_call_15 (by decide) ?_
      exact XW.tret (X_iret (pc := 17) C (Nat.le_of_ble_eq_true rfl) (Nat.le_of_ble_eq_true rfl) dL_call_17 (Or.inr ⟨_, hx, by rw [eN_IA]⟩))
    · refine X_catch (pc := 4) C hT [⟨0, 7, 8, 19⟩, ⟨0, 7, 13, 13⟩] ⟨0, 7, 18, 21⟩ [] rfl (fun z hz => by
        simp only [List.mem_cons, List.not_mem_nil, or_false] at hz
        rcases hz with rfl | rfl
        · exact ⟨by decide, _, m_l_L_19, by decide⟩
        · exact ⟨by decide, _, m_l_L_13, by decide⟩) (by decide) (by decide) m_l_L_21 (by decide) (fun q => ?_)
      show XW p l e _ s m args below meth c P A 5 _ _ _ σ1 18 [(0, _), (1, _), (2, _), (3, _)] [.ref q]
      refine X_astore (pc := 18) (lv1 := [(0, _), (1, _), (2, _), (3, _), (4, _)]) C dL_call_18 (by decide) rfl ?_
      refine X_bipush (pc := 20) (v := (-19)) C dL_call_20 (by decide) ?_
      exact XW.tret (X_iret (pc := 22) C (Nat.le_of_ble_eq_true rfl) (Nat.le_of_ble_eq_true rfl) dL_call_22 (Or.inr ⟨_, hx, by rw [eN_IS]⟩))

theorem m_h_L_callTrunk : Cond.codeWith yL_callTrunk cL_callTrunk 5 (some .int) [(0, 7, 8, 19), (0, 7, 13, 21)] ∈ xTB := xm 1059 (by decide +kernel) (by decide +kernel)
set_option maxRecDepth 100000 in
set_option maxHeartbeats 4000000 in
theorem c_L_callTrunk (l : Launch) (P : XP) (σ : XS) (h0 : (.inr 0 : XI) ∈ P.2.2.2.1) (a0 a1 a2 : Int32) {Post : Option Value → XS → Prop} {XPost : String → XS → Prop} (hM : XTM l yX6_callTrunk cX6_callTrunk 4 (some .int) rm_X6_callTrunk P [.ref (P.2.2.1 (.inr 0)), .int a0, .int a1, .int a2] σ Post XPost) (hV : ∀ v τ, Post v τ → ∃ x : Int32, v = some (.int x)) (hE : ∀ E τ, XPost E τ → E = eIO ∨ E = eIS) : XMH l yL_callTrunk cL_callTrunk 5 [(0, 7, 8, 19), (0, 7, 13, 21)] (rmL 4 rm_X6_callTrunk) P [.ref (P.2.2.1 (.inr 0)), .int a0, .int a1, .int a2] σ (LW Post XPost) := by
  refine XMH.of (by decide +kernel) (Nat.le_of_ble_eq_true rfl) (fun p e s m args below meth c A C hT => ?_)
  replace C : XC p s m args meth c P A 5 RL cL_callTrunk (some .int) := C
  refine XW.eq (lv' := [(0, _), (1, _), (2, _), (3, _)]) rfl rfl rfl ?_
  refine X_aload_n (pc := 0) C 0 dL_callTrunk_0 rfl rfl ?_
  refine X_iload_n (pc := 1) C 1 dL_callTrunk_1 rfl rfl ?_
  refine X_iload_n (pc := 2) C 2 dL_callTrunk_2 rfl rfl ?_
  refine X_iload_n (pc := 3) C 3 dL_callTrunk_3 rfl rfl ?_
  skip
  refine X_callVT (i := .inr 0) (ci := 6) (n := 3) (pc := 4) C [.int a0, .int a1, .int a2] hM m_c_X6_callTrunk m_m_L_23 m_i_X6_callTrunk m_s_X6_callTrunk m_n_X6 ⟨by decide +kernel, by decide +kernel, by decide +kernel⟩ ⟨Nat.le_of_ble_eq_true rfl, Nat.le_of_ble_eq_true rfl⟩ ⟨Nat.le_of_ble_eq_true rfl, Nat.le_of_ble_eq_true rfl⟩ h0 rfl rfl rfl rfl (Nat.le_of_ble_eq_true rfl) rfl dL_callTrunk_4 (fun v σ1 hp => ?_) (fun E σ1 hx => ?_)
  · obtain ⟨x, rfl⟩ := hV v σ1 hp
    show XW p l e _ s m args below meth c P A 5 _ _ _ σ1 7 [(0, _), (1, _), (2, _), (3, _)] (.int x :: _)
    exact XW.tret (X_iret (pc := 7) C (Nat.le_of_ble_eq_true rfl) (Nat.le_of_ble_eq_true rfl) dL_callTrunk_7 (Or.inl ⟨x, hp, rfl⟩))
  · rcases hE E σ1 hx with rfl | rfl
    · refine X_catch (pc := 4) C hT [] ⟨0, 7, 8, 19⟩ [⟨0, 7, 13, 21⟩] rfl (fun z hz => nomatch hz) (by decide) (by decide) m_l_L_19 (by decide) (fun q => ?_)
      show XW p l e _ s m args below meth c P A 5 _ _ _ σ1 8 [(0, _), (1, _), (2, _), (3, _)] [.ref q]
      refine X_astore (pc := 8) (lv1 := [(0, _), (1, _), (2, _), (3, _), (4, _)]) C dL_callTrunk_8 (by decide) rfl ?_
      refine X_bipush (pc := 10) (v := (-17)) C dL_callTrunk_10 (by decide) ?_
      exact XW.tret (X_iret (pc := 12) C (Nat.le_of_ble_eq_true rfl) (Nat.le_of_ble_eq_true rfl) dL_callTrunk_12 (Or.inr ⟨_, hx, by rw [eN_IO]⟩))
    · refine X_catch (pc := 4) C hT [⟨0, 7, 8, 19⟩] ⟨0, 7, 13, 21⟩ [] rfl (fun z hz => by obtain rfl := List.mem_singleton.mp hz; exact ⟨by decide, _, m_l_L_19, by decide⟩) (by decide) (by decide) m_l_L_21 (by decide) (fun q => ?_)
      show XW p l e _ s m args below meth c P A 5 _ _ _ σ1 13 [(0, _), (1, _), (2, _), (3, _)] [.ref q]
      refine X_astore (pc := 13) (lv1 := [(0, _), (1, _), (2, _), (3, _), (4, _)]) C dL_callTrunk_13 (by decide) rfl ?_
      refine X_bipush (pc := 15) (v := (-19)) C dL_callTrunk_15 (by decide) ?_
      exact XW.tret (X_iret (pc := 17) C (Nat.le_of_ble_eq_true rfl) (Nat.le_of_ble_eq_true rfl) dL_callTrunk_17 (Or.inr ⟨_, hx, by rw [eN_IS]⟩))

theorem m_h_L_end : Cond.codeWith yL_end cL_end 3 (some .int) [(0, 5, 6, 19), (0, 5, 10, 21)] ∈ xTB := xm 1066 (by decide +kernel) (by decide +kernel)
set_option maxRecDepth 100000 in
set_option maxHeartbeats 4000000 in
theorem c_L_end (l : Launch) (P : XP) (σ : XS) (h0 : (.inr 0 : XI) ∈ P.2.2.2.1) (a0 : Int32) {Post : Option Value → XS → Prop} {XPost : String → XS → Prop} (hM : XTM l yX6_end cX6_end 2 (some .int) rm_X6_end P [.ref (P.2.2.1 (.inr 0)), .int a0] σ Post XPost) (hV : ∀ v τ, Post v τ → ∃ x : Int32, v = some (.int x)) (hE : ∀ E τ, XPost E τ → E = eIO ∨ E = eIS) : XMH l yL_end cL_end 3 [(0, 5, 6, 19), (0, 5, 10, 21)] (rmL 2 rm_X6_end) P [.ref (P.2.2.1 (.inr 0)), .int a0] σ (LW Post XPost) := by
  refine XMH.of (by decide +kernel) (Nat.le_of_ble_eq_true rfl) (fun p e s m args below meth c A C hT => ?_)
  replace C : XC p s m args meth c P A 3 RL cL_end (some .int) := C
  refine XW.eq (lv' := [(0, _), (1, _)]) rfl rfl rfl ?_
  refine X_aload_n (pc := 0) C 0 dL_end_0 rfl rfl ?_
  refine X_iload_n (pc := 1) C 1 dL_end_1 rfl rfl ?_
  skip
  refine X_callVT (i := .inr 0) (ci := 6) (n := 1) (pc := 2) C [.int a0] hM m_c_X6_end m_m_L_26 m_i_X6_end m_s_X6_end m_n_X6 ⟨by decide +kernel, by decide +kernel, by decide +kernel⟩ ⟨Nat.le_of_ble_eq_true rfl, Nat.le_of_ble_eq_true rfl⟩ ⟨Nat.le_of_ble_eq_true rfl, Nat.le_of_ble_eq_true rfl⟩ h0 rfl rfl rfl rfl (Nat.le_of_ble_eq_true rfl) rfl dL_end_2 (fun v σ1 hp => ?_) (fun E σ1 hx => ?_)
  · obtain ⟨x, rfl⟩ := hV v σ1 hp
    show XW p l e _ s m args below meth c P A 3 _ _ _ σ1 5 [(0, _), (1, _)] (.int x :: _)
    exact XW.tret (X_iret (pc := 5) C (Nat.le_of_ble_eq_true rfl) (Nat.le_of_ble_eq_true rfl) dL_end_5 (Or.inl ⟨x, hp, rfl⟩))
  · rcases hE E σ1 hx with rfl | rfl
    · refine X_catch (pc := 2) C hT [] ⟨0, 5, 6, 19⟩ [⟨0, 5, 10, 21⟩] rfl (fun z hz => nomatch hz) (by decide) (by decide) m_l_L_19 (by decide) (fun q => ?_)
      show XW p l e _ s m args below meth c P A 3 _ _ _ σ1 6 [(0, _), (1, _)] [.ref q]
      refine X_astore_n (pc := 6) (lv1 := [(0, _), (1, _), (2, _)]) C 2 dL_end_6 rfl (by decide) rfl ?_
      refine X_bipush (pc := 7) (v := (-17)) C dL_end_7 (by decide) ?_
      exact XW.tret (X_iret (pc := 9) C (Nat.le_of_ble_eq_true rfl) (Nat.le_of_ble_eq_true rfl) dL_end_9 (Or.inr ⟨_, hx, by rw [eN_IO]⟩))
    · refine X_catch (pc := 2) C hT [⟨0, 5, 6, 19⟩] ⟨0, 5, 10, 21⟩ [] rfl (fun z hz => by obtain rfl := List.mem_singleton.mp hz; exact ⟨by decide, _, m_l_L_19, by decide⟩) (by decide) (by decide) m_l_L_21 (by decide) (fun q => ?_)
      show XW p l e _ s m args below meth c P A 3 _ _ _ σ1 10 [(0, _), (1, _)] [.ref q]
      refine X_astore_n (pc := 10) (lv1 := [(0, _), (1, _), (2, _)]) C 2 dL_end_10 rfl (by decide) rfl ?_
      refine X_bipush (pc := 11) (v := (-19)) C dL_end_11 (by decide) ?_
      exact XW.tret (X_iret (pc := 13) C (Nat.le_of_ble_eq_true rfl) (Nat.le_of_ble_eq_true rfl) dL_end_13 (Or.inr ⟨_, hx, by rw [eN_IS]⟩))

theorem m_h_L_waitFor : Cond.codeWith yL_waitFor cL_waitFor 3 (some .int) [(0, 5, 6, 13), (0, 5, 10, 21)] ∈ xTB := xm 631 (by decide +kernel) (by decide +kernel)
set_option maxRecDepth 100000 in
set_option maxHeartbeats 4000000 in
theorem c_L_waitFor (l : Launch) (P : XP) (σ : XS) (h0 : (.inr 0 : XI) ∈ P.2.2.2.1) (a0 : Int32) {Post : Option Value → XS → Prop} {XPost : String → XS → Prop} (hM : XTM l yX6_waitFor cX6_waitFor 2 (some .int) rm_X6_waitFor P [.ref (P.2.2.1 (.inr 0)), .int a0] σ Post XPost) (hV : ∀ v τ, Post v τ → ∃ x : Int32, v = some (.int x)) (hE : ∀ E τ, XPost E τ → E = eIA ∨ E = eIS) : XMH l yL_waitFor cL_waitFor 3 [(0, 5, 6, 13), (0, 5, 10, 21)] (rmL 2 rm_X6_waitFor) P [.ref (P.2.2.1 (.inr 0)), .int a0] σ (LW Post XPost) := by
  refine XMH.of (by decide +kernel) (Nat.le_of_ble_eq_true rfl) (fun p e s m args below meth c A C hT => ?_)
  replace C : XC p s m args meth c P A 3 RL cL_waitFor (some .int) := C
  refine XW.eq (lv' := [(0, _), (1, _)]) rfl rfl rfl ?_
  refine X_aload_n (pc := 0) C 0 dL_waitFor_0 rfl rfl ?_
  refine X_iload_n (pc := 1) C 1 dL_waitFor_1 rfl rfl ?_
  skip
  refine X_callVT (i := .inr 0) (ci := 6) (n := 1) (pc := 2) C [.int a0] hM m_c_X6_waitFor m_m_L_29 m_i_X6_waitFor m_s_X6_waitFor m_n_X6 ⟨by decide +kernel, by decide +kernel, by decide +kernel⟩ ⟨Nat.le_of_ble_eq_true rfl, Nat.le_of_ble_eq_true rfl⟩ ⟨Nat.le_of_ble_eq_true rfl, Nat.le_of_ble_eq_true rfl⟩ h0 rfl rfl rfl rfl (Nat.le_of_ble_eq_true rfl) rfl dL_waitFor_2 (fun v σ1 hp => ?_) (fun E σ1 hx => ?_)
  · obtain ⟨x, rfl⟩ := hV v σ1 hp
    show XW p l e _ s m args below meth c P A 3 _ _ _ σ1 5 [(0, _), (1, _)] (.int x :: _)
    exact XW.tret (X_iret (pc := 5) C (Nat.le_of_ble_eq_true rfl) (Nat.le_of_ble_eq_true rfl) dL_waitFor_5 (Or.inl ⟨x, hp, rfl⟩))
  · rcases hE E σ1 hx with rfl | rfl
    · refine X_catch (pc := 2) C hT [] ⟨0, 5, 6, 13⟩ [⟨0, 5, 10, 21⟩] rfl (fun z hz => nomatch hz) (by decide) (by decide) m_l_L_13 (by decide) (fun q => ?_)
      show XW p l e _ s m args below meth c P A 3 _ _ _ σ1 6 [(0, _), (1, _)] [.ref q]
      refine X_astore_n (pc := 6) (lv1 := [(0, _), (1, _), (2, _)]) C 2 dL_waitFor_6 rfl (by decide) rfl ?_
      refine X_bipush (pc := 7) (v := (-18)) C dL_waitFor_7 (by decide) ?_
      exact XW.tret (X_iret (pc := 9) C (Nat.le_of_ble_eq_true rfl) (Nat.le_of_ble_eq_true rfl) dL_waitFor_9 (Or.inr ⟨_, hx, by rw [eN_IA]⟩))
    · refine X_catch (pc := 2) C hT [⟨0, 5, 6, 13⟩] ⟨0, 5, 10, 21⟩ [] rfl (fun z hz => by obtain rfl := List.mem_singleton.mp hz; exact ⟨by decide, _, m_l_L_13, by decide⟩) (by decide) (by decide) m_l_L_21 (by decide) (fun q => ?_)
      show XW p l e _ s m args below meth c P A 3 _ _ _ σ1 10 [(0, _), (1, _)] [.ref q]
      refine X_astore_n (pc := 10) (lv1 := [(0, _), (1, _), (2, _)]) C 2 dL_waitFor_10 rfl (by decide) rfl ?_
      refine X_bipush (pc := 11) (v := (-19)) C dL_waitFor_11 (by decide) ?_
      exact XW.tret (X_iret (pc := 13) C (Nat.le_of_ble_eq_true rfl) (Nat.le_of_ble_eq_true rfl) dL_waitFor_13 (Or.inr ⟨_, hx, by rw [eN_IS]⟩))

theorem m_h_L_setCuriosity : Cond.codeWith yL_setCuriosity cL_setCuriosity 4 (some .int) [(0, 6, 7, 19), (0, 6, 11, 13)] ∈ xTB := xm 1083 (by decide +kernel) (by decide +kernel)
set_option maxRecDepth 100000 in
set_option maxHeartbeats 4000000 in
theorem c_L_setCuriosity (l : Launch) (P : XP) (σ : XS) (h0 : (.inr 0 : XI) ∈ P.2.2.2.1) (a0 a1 : Int32) {Post : Option Value → XS → Prop} {XPost : String → XS → Prop} (hM : XTM l yX6_setCuriosity cX6_setCuriosity 4 (some .int) rm_X6_setCuriosity P [.ref (P.2.2.1 (.inr 0)), .int a0, .int a1] σ Post XPost) (hV : ∀ v τ, Post v τ → ∃ x : Int32, v = some (.int x)) (hE : ∀ E τ, XPost E τ → E = eIO ∨ E = eIA) : XMH l yL_setCuriosity cL_setCuriosity 4 [(0, 6, 7, 19), (0, 6, 11, 13)] (rmL 4 rm_X6_setCuriosity) P [.ref (P.2.2.1 (.inr 0)), .int a0, .int a1] σ (LW Post XPost) := by
  refine XMH.of (by decide +kernel) (Nat.le_of_ble_eq_true rfl) (fun p e s m args below meth c A C hT => ?_)
  replace C : XC p s m args meth c P A 4 RL cL_setCuriosity (some .int) := C
  refine XW.eq (lv' := [(0, _), (1, _), (2, _)]) rfl rfl rfl ?_
  refine X_aload_n (pc := 0) C 0 dL_setCuriosity_0 rfl rfl ?_
  refine X_iload_n (pc := 1) C 1 dL_setCuriosity_1 rfl rfl ?_
  refine X_iload_n (pc := 2) C 2 dL_setCuriosity_2 rfl rfl ?_
  skip
  refine X_callVT (i := .inr 0) (ci := 6) (n := 2) (pc := 3) C [.int a0, .int a1] hM m_c_X6_setCuriosity m_m_L_32 m_i_X6_setCuriosity m_s_X6_setCuriosity m_n_X6 ⟨by decide +kernel, by decide +kernel, by decide +kernel⟩ ⟨Nat.le_of_ble_eq_true rfl, Nat.le_of_ble_eq_true rfl⟩ ⟨Nat.le_of_ble_eq_true rfl, Nat.le_of_ble_eq_true rfl⟩ h0 rfl rfl rfl rfl (Nat.le_of_ble_eq_true rfl) rfl dL_setCuriosity_3 (fun v σ1 hp => ?_) (fun E σ1 hx => ?_)
  · obtain ⟨x, rfl⟩ := hV v σ1 hp
    show XW p l e _ s m args below meth c P A 4 _ _ _ σ1 6 [(0, _), (1, _), (2, _)] (.int x :: _)
    exact XW.tret (X_iret (pc := 6) C (Nat.le_of_ble_eq_true rfl) (Nat.le_of_ble_eq_true rfl) dL_setCuriosity_6 (Or.inl ⟨x, hp, rfl⟩))
  · rcases hE E σ1 hx with rfl | rfl
    · refine X_catch (pc := 3) C hT [] ⟨0, 6, 7, 19⟩ [⟨0, 6, 11, 13⟩] rfl (fun z hz => nomatch hz) (by decide) (by decide) m_l_L_19 (by decide) (fun q => ?_)
      show XW p l e _ s m args below meth c P A 4 _ _ _ σ1 7 [(0, _), (1, _), (2, _)] [.ref q]
      refine X_astore_n (pc := 7) (lv1 := [(0, _), (1, _), (2, _), (3, _)]) C 3 dL_setCuriosity_7 rfl (by decide) rfl ?_
      refine X_bipush (pc := 8) (v := (-17)) C dL_setCuriosity_8 (by decide) ?_
      exact XW.tret (X_iret (pc := 10) C (Nat.le_of_ble_eq_true rfl) (Nat.le_of_ble_eq_true rfl) dL_setCuriosity_10 (Or.inr ⟨_, hx, by rw [eN_IO]⟩))
    · refine X_catch (pc := 3) C hT [⟨0, 6, 7, 19⟩] ⟨0, 6, 11, 13⟩ [] rfl (fun z hz => by obtain rfl := List.mem_singleton.mp hz; exact ⟨by decide, _, m_l_L_19, by decide⟩) (by decide) (by decide) m_l_L_13 (by decide) (fun q => ?_)
      show XW p l e _ s m args below meth c P A 4 _ _ _ σ1 11 [(0, _), (1, _), (2, _)] [.ref q]
      refine X_astore_n (pc := 11) (lv1 := [(0, _), (1, _), (2, _), (3, _)]) C 3 dL_setCuriosity_11 rfl (by decide) rfl ?_
      refine X_bipush (pc := 12) (v := (-18)) C dL_setCuriosity_12 (by decide) ?_
      exact XW.tret (X_iret (pc := 14) C (Nat.le_of_ble_eq_true rfl) (Nat.le_of_ble_eq_true rfl) dL_setCuriosity_14 (Or.inr ⟨_, hx, by rw [eN_IA]⟩))

theorem m_h_L_undo : Cond.codeWith yL_undo cL_undo 2 (some .int) [(0, 4, 5, 21)] ∈ xTB := xm 724 (by decide +kernel) (by decide +kernel)
set_option maxRecDepth 100000 in
set_option maxHeartbeats 4000000 in
theorem c_L_undo (l : Launch) (P : XP) (σ : XS) (h0 : (.inr 0 : XI) ∈ P.2.2.2.1) {Post : Option Value → XS → Prop} {XPost : String → XS → Prop} (hM : XTM l yX6_undo cX6_undo 1 (some .int) rm_X6_undo P [.ref (P.2.2.1 (.inr 0))] σ Post XPost) (hV : ∀ v τ, Post v τ → ∃ x : Int32, v = some (.int x)) (hE : ∀ E τ, XPost E τ → E = eIS) : XMH l yL_undo cL_undo 2 [(0, 4, 5, 21)] (rmL 1 rm_X6_undo) P [.ref (P.2.2.1 (.inr 0))] σ (LW Post XPost) := by
  refine XMH.of (by decide +kernel) (Nat.le_of_ble_eq_true rfl) (fun p e s m args below meth c A C hT => ?_)
  replace C : XC p s m args meth c P A 2 RL cL_undo (some .int) := C
  refine XW.eq (lv' := [(0, _)]) rfl rfl rfl ?_
  refine X_aload_n (pc := 0) C 0 dL_undo_0 rfl rfl ?_
  skip
  refine X_callVT (i := .inr 0) (ci := 6) (n := 0) (pc := 1) C [] hM m_c_X6_undo m_m_L_36 m_i_X6_undo m_s_X6_undo m_n_X6 ⟨by decide +kernel, by decide +kernel, by decide +kernel⟩ ⟨Nat.le_of_ble_eq_true rfl, Nat.le_of_ble_eq_true rfl⟩ ⟨Nat.le_of_ble_eq_true rfl, Nat.le_of_ble_eq_true rfl⟩ h0 rfl rfl rfl rfl (Nat.le_of_ble_eq_true rfl) rfl dL_undo_1 (fun v σ1 hp => ?_) (fun E σ1 hx => ?_)
  · obtain ⟨x, rfl⟩ := hV v σ1 hp
    show XW p l e _ s m args below meth c P A 2 _ _ _ σ1 4 [(0, _)] (.int x :: _)
    exact XW.tret (X_iret (pc := 4) C (Nat.le_of_ble_eq_true rfl) (Nat.le_of_ble_eq_true rfl) dL_undo_4 (Or.inl ⟨x, hp, rfl⟩))
  · obtain rfl := hE E σ1 hx
    refine X_catch (pc := 1) C hT [] ⟨0, 4, 5, 21⟩ [] rfl (fun z hz => nomatch hz) (by decide) (by decide) m_l_L_21 (by decide) (fun q => ?_)
    show XW p l e _ s m args below meth c P A 2 _ _ _ σ1 5 [(0, _)] [.ref q]
    refine X_astore_n (pc := 5) (lv1 := [(0, _), (1, _)]) C 1 dL_undo_5 rfl (by decide) rfl ?_
    refine X_bipush (pc := 6) (v := (-19)) C dL_undo_6 (by decide) ?_
    exact XW.tret (X_iret (pc := 8) C (Nat.le_of_ble_eq_true rfl) (Nat.le_of_ble_eq_true rfl) dL_undo_8 (Or.inr ⟨_, hx, by rw [eN_IS]⟩))

theorem m_h_L_isLineBusy : Cond.codeWith yL_isLineBusy cL_isLineBusy 3 (some .int) [(0, 13, 14, 19)] ∈ xTB := xm 919 (by decide +kernel) (by decide +kernel)
set_option maxRecDepth 100000 in
set_option maxHeartbeats 4000000 in
theorem c_L_isLineBusy (l : Launch) (P : XP) (σ : XS) (h0 : (.inr 0 : XI) ∈ P.2.2.2.1) (a0 : Int32) {Post : Option Value → XS → Prop} {XPost : String → XS → Prop} (hM : XTM l yX6_isLineBusy cX6_isLineBusy 2 (some .boolean) rm_X6_isLineBusy P [.ref (P.2.2.1 (.inr 0)), .int a0] σ Post XPost) (hV : ∀ v τ, Post v τ → v = some (.int 0) ∨ v = some (.int 1)) (hE : ∀ E τ, XPost E τ → E = eIO) : XMH l yL_isLineBusy cL_isLineBusy 3 [(0, 13, 14, 19)] (rmL 2 rm_X6_isLineBusy) P [.ref (P.2.2.1 (.inr 0)), .int a0] σ (LW Post XPost) := by
  refine XMH.of (by decide +kernel) (Nat.le_of_ble_eq_true rfl) (fun p e s m args below meth c A C hT => ?_)
  replace C : XC p s m args meth c P A 3 RL cL_isLineBusy (some .int) := C
  refine XW.eq (lv' := [(0, _), (1, _)]) rfl rfl rfl ?_
  refine X_aload_n (pc := 0) C 0 dL_isLineBusy_0 rfl rfl ?_
  refine X_iload_n (pc := 1) C 1 dL_isLineBusy_1 rfl rfl ?_
  skip
  refine X_callVT (i := .inr 0) (ci := 6) (n := 1) (pc := 2) C [.int a0] hM m_c_X6_isLineBusy m_m_L_40 m_i_X6_isLineBusy m_s_X6_isLineBusy m_n_X6 ⟨by decide +kernel, by decide +kernel, by decide +kernel⟩ ⟨Nat.le_of_ble_eq_true rfl, Nat.le_of_ble_eq_true rfl⟩ ⟨Nat.le_of_ble_eq_true rfl, Nat.le_of_ble_eq_true rfl⟩ h0 rfl rfl rfl rfl (Nat.le_of_ble_eq_true rfl) rfl dL_isLineBusy_2 (fun v σ1 hp => ?_) (fun E σ1 hx => ?_)
  · rcases hV v σ1 hp with rfl | rfl
    · show XW p l e _ s m args below meth c P A 3 _ _ _ σ1 5 [(0, _), (1, _)] (.int 0 :: _)
      refine X_if_eq (pc := 5) C 12 dL_isLineBusy_5 (by decide) (fun h7 => ?_) (fun h7 => ?_)
      · skip
        refine X_iconst (pc := 12) (v := 0) C dL_isLineBusy_12 (by decide) ?_
        exact XW.tret (X_iret (pc := 13) C (Nat.le_of_ble_eq_true rfl) (Nat.le_of_ble_eq_true rfl) dL_isLineBusy_13 (Or.inl ⟨0, hp, rfl⟩))
      · exact absurd h7 (by decide)
    · show XW p l e _ s m args below meth c P A 3 _ _ _ σ1 5 [(0, _), (1, _)] (.int 1 :: _)
      refine X_if_eq (pc := 5) C 12 dL_isLineBusy_5 (by decide) (fun h7 => ?_) (fun h7 => ?_)
      · exact absurd h7 (by decide)
      · skip
        refine X_iconst (pc := 8) (v := 1) C dL_isLineBusy_8 (by decide) ?_
        refine X_goto (pc := 9) C 13 dL_isLineBusy_9 (by decide) ?_
        exact XW.tret (X_iret (pc := 13) C (Nat.le_of_ble_eq_true rfl) (Nat.le_of_ble_eq_true rfl) dL_isLineBusy_13 (Or.inl ⟨1, hp, rfl⟩))
  · obtain rfl := hE E σ1 hx
    refine X_catch (pc := 2) C hT [] ⟨0, 13, 14, 19⟩ [] rfl (fun z hz => nomatch hz) (by decide) (by decide) m_l_L_19 (by decide) (fun q => ?_)
    show XW p l e _ s m args below meth c P A 3 _ _ _ σ1 14 [(0, _), (1, _)] [.ref q]
    refine X_astore_n (pc := 14) (lv1 := [(0, _), (1, _), (2, _)]) C 2 dL_isLineBusy_14 rfl (by decide) rfl ?_
    refine X_bipush (pc := 15) (v := (-17)) C dL_isLineBusy_15 (by decide) ?_
    exact XW.tret (X_iret (pc := 17) C (Nat.le_of_ble_eq_true rfl) (Nat.le_of_ble_eq_true rfl) dL_isLineBusy_17 (Or.inr ⟨_, hx, by rw [eN_IO]⟩))

theorem m_h_L_isTrunkBusy : Cond.codeWith yL_isTrunkBusy cL_isTrunkBusy 3 (some .int) [(0, 13, 14, 19)] ∈ xTB := xm 949 (by decide +kernel) (by decide +kernel)
set_option maxRecDepth 100000 in
set_option maxHeartbeats 4000000 in
theorem c_L_isTrunkBusy (l : Launch) (P : XP) (σ : XS) (h0 : (.inr 0 : XI) ∈ P.2.2.2.1) (a0 : Int32) {Post : Option Value → XS → Prop} {XPost : String → XS → Prop} (hM : XTM l yX6_isTrunkBusy cX6_isTrunkBusy 2 (some .boolean) rm_X6_isTrunkBusy P [.ref (P.2.2.1 (.inr 0)), .int a0] σ Post XPost) (hV : ∀ v τ, Post v τ → v = some (.int 0) ∨ v = some (.int 1)) (hE : ∀ E τ, XPost E τ → E = eIO) : XMH l yL_isTrunkBusy cL_isTrunkBusy 3 [(0, 13, 14, 19)] (rmL 2 rm_X6_isTrunkBusy) P [.ref (P.2.2.1 (.inr 0)), .int a0] σ (LW Post XPost) := by
  refine XMH.of (by decide +kernel) (Nat.le_of_ble_eq_true rfl) (fun p e s m args below meth c A C hT => ?_)
  replace C : XC p s m args meth c P A 3 RL cL_isTrunkBusy (some .int) := C
  refine XW.eq (lv' := [(0, _), (1, _)]) rfl rfl rfl ?_
  refine X_aload_n (pc := 0) C 0 dL_isTrunkBusy_0 rfl rfl ?_
  refine X_iload_n (pc := 1) C 1 dL_isTrunkBusy_1 rfl rfl ?_
  skip
  refine X_callVT (i := .inr 0) (ci := 6) (n := 1) (pc := 2) C [.int a0] hM m_c_X6_isTrunkBusy m_m_L_44 m_i_X6_isTrunkBusy m_s_X6_isTrunkBusy m_n_X6 ⟨by decide +kernel, by decide +kernel, by decide +kernel⟩ ⟨Nat.le_of_ble_eq_true rfl, Nat.le_of_ble_eq_true rfl⟩ ⟨Nat.le_of_ble_eq_true rfl, Nat.le_of_ble_eq_true rfl⟩ h0 rfl rfl rfl rfl (Nat.le_of_ble_eq_true rfl) rfl dL_isTrunkBusy_2 (fun v σ1 hp => ?_) (fun E σ1 hx => ?_)
  · rcases hV v σ1 hp with rfl | rfl
    · show XW p l e _ s m args below meth c P A 3 _ _ _ σ1 5 [(0, _), (1, _)] (.int 0 :: _)
      refine X_if_eq (pc := 5) C 12 dL_isTrunkBusy_5 (by decide) (fun h7 => ?_) (fun h7 => ?_)
      · skip
        refine X_iconst (pc := 12) (v := 0) C dL_isTrunkBusy_12 (by decide) ?_
        exact XW.tret (X_iret (pc := 13) C (Nat.le_of_ble_eq_true rfl) (Nat.le_of_ble_eq_true rfl) dL_isTrunkBusy_13 (Or.inl ⟨0, hp, rfl⟩))
      · exact absurd h7 (by decide)
    · show XW p l e _ s m args below meth c P A 3 _ _ _ σ1 5 [(0, _), (1, _)] (.int 1 :: _)
      refine X_if_eq (pc := 5) C 12 dL_isTrunkBusy_5 (by decide) (fun h7 => ?_) (fun h7 => ?_)
      · exact absurd h7 (by decide)
      · skip
        refine X_iconst (pc := 8) (v := 1) C dL_isTrunkBusy_8 (by decide) ?_
        refine X_goto (pc := 9) C 13 dL_isTrunkBusy_9 (by decide) ?_
        exact XW.tret (X_iret (pc := 13) C (Nat.le_of_ble_eq_true rfl) (Nat.le_of_ble_eq_true rfl) dL_isTrunkBusy_13 (Or.inl ⟨1, hp, rfl⟩))
  · obtain rfl := hE E σ1 hx
    refine X_catch (pc := 2) C hT [] ⟨0, 13, 14, 19⟩ [] rfl (fun z hz => nomatch hz) (by decide) (by decide) m_l_L_19 (by decide) (fun q => ?_)
    show XW p l e _ s m args below meth c P A 3 _ _ _ σ1 14 [(0, _), (1, _)] [.ref q]
    refine X_astore_n (pc := 14) (lv1 := [(0, _), (1, _), (2, _)]) C 2 dL_isTrunkBusy_14 rfl (by decide) rfl ?_
    refine X_bipush (pc := 15) (v := (-17)) C dL_isTrunkBusy_15 (by decide) ?_
    exact XW.tret (X_iret (pc := 17) C (Nat.le_of_ble_eq_true rfl) (Nat.le_of_ble_eq_true rfl) dL_isTrunkBusy_17 (Or.inr ⟨_, hx, by rw [eN_IO]⟩))

theorem m_h_L_toll : Cond.codeWith yL_toll cL_toll 3 (some .int) [(0, 5, 6, 19)] ∈ xTB := xm 859 (by decide +kernel) (by decide +kernel)
set_option maxRecDepth 100000 in
set_option maxHeartbeats 4000000 in
theorem c_L_toll (l : Launch) (P : XP) (σ : XS) (h0 : (.inr 0 : XI) ∈ P.2.2.2.1) (a0 : Int32) {Post : Option Value → XS → Prop} {XPost : String → XS → Prop} (hM : XTM l yX6_toll cX6_toll 2 (some .int) rm_X6_toll P [.ref (P.2.2.1 (.inr 0)), .int a0] σ Post XPost) (hV : ∀ v τ, Post v τ → ∃ x : Int32, v = some (.int x)) (hE : ∀ E τ, XPost E τ → E = eIO) : XMH l yL_toll cL_toll 3 [(0, 5, 6, 19)] (rmL 2 rm_X6_toll) P [.ref (P.2.2.1 (.inr 0)), .int a0] σ (LW Post XPost) := by
  refine XMH.of (by decide +kernel) (Nat.le_of_ble_eq_true rfl) (fun p e s m args below meth c A C hT => ?_)
  replace C : XC p s m args meth c P A 3 RL cL_toll (some .int) := C
  refine XW.eq (lv' := [(0, _), (1, _)]) rfl rfl rfl ?_
  refine X_aload_n (pc := 0) C 0 dL_toll_0 rfl rfl ?_
  refine X_iload_n (pc := 1) C 1 dL_toll_1 rfl rfl ?_
  skip
  refine X_callVT (i := .inr 0) (ci := 6) (n := 1) (pc := 2) C [.int a0] hM m_c_X6_toll m_m_L_47 m_i_X6_toll m_s_X6_toll m_n_X6 ⟨by decide +kernel, by decide +kernel, by decide +kernel⟩ ⟨Nat.le_of_ble_eq_true rfl, Nat.le_of_ble_eq_true rfl⟩ ⟨Nat.le_of_ble_eq_true rfl, Nat.le_of_ble_eq_true rfl⟩ h0 rfl rfl rfl rfl (Nat.le_of_ble_eq_true rfl) rfl dL_toll_2 (fun v σ1 hp => ?_) (fun E σ1 hx => ?_)
  · obtain ⟨x, rfl⟩ := hV v σ1 hp
    show XW p l e _ s m args below meth c P A 3 _ _ _ σ1 5 [(0, _), (1, _)] (.int x :: _)
    exact XW.tret (X_iret (pc := 5) C (Nat.le_of_ble_eq_true rfl) (Nat.le_of_ble_eq_true rfl) dL_toll_5 (Or.inl ⟨x, hp, rfl⟩))
  · obtain rfl := hE E σ1 hx
    refine X_catch (pc := 2) C hT [] ⟨0, 5, 6, 19⟩ [] rfl (fun z hz => nomatch hz) (by decide) (by decide) m_l_L_19 (by decide) (fun q => ?_)
    show XW p l e _ s m args below meth c P A 3 _ _ _ σ1 6 [(0, _), (1, _)] [.ref q]
    refine X_astore_n (pc := 6) (lv1 := [(0, _), (1, _), (2, _)]) C 2 dL_toll_6 rfl (by decide) rfl ?_
    refine X_bipush (pc := 7) (v := (-17)) C dL_toll_7 (by decide) ?_
    exact XW.tret (X_iret (pc := 9) C (Nat.le_of_ble_eq_true rfl) (Nat.le_of_ble_eq_true rfl) dL_toll_9 (Or.inr ⟨_, hx, by rw [eN_IO]⟩))

theorem m_h_L_lineOf : Cond.codeWith yL_lineOf cL_lineOf 3 (some .int) [(0, 5, 6, 19)] ∈ xTB := xm 906 (by decide +kernel) (by decide +kernel)
set_option maxRecDepth 100000 in
set_option maxHeartbeats 4000000 in
theorem c_L_lineOf (l : Launch) (P : XP) (σ : XS) (h0 : (.inr 0 : XI) ∈ P.2.2.2.1) (a0 : Int32) {Post : Option Value → XS → Prop} {XPost : String → XS → Prop} (hM : XTM l yX6_lineOf cX6_lineOf 2 (some .int) rm_X6_lineOf P [.ref (P.2.2.1 (.inr 0)), .int a0] σ Post XPost) (hV : ∀ v τ, Post v τ → ∃ x : Int32, v = some (.int x)) (hE : ∀ E τ, XPost E τ → E = eIO) : XMH l yL_lineOf cL_lineOf 3 [(0, 5, 6, 19)] (rmL 2 rm_X6_lineOf) P [.ref (P.2.2.1 (.inr 0)), .int a0] σ (LW Post XPost) := by
  refine XMH.of (by decide +kernel) (Nat.le_of_ble_eq_true rfl) (fun p e s m args below meth c A C hT => ?_)
  replace C : XC p s m args meth c P A 3 RL cL_lineOf (some .int) := C
  refine XW.eq (lv' := [(0, _), (1, _)]) rfl rfl rfl ?_
  refine X_aload_n (pc := 0) C 0 dL_lineOf_0 rfl rfl ?_
  refine X_iload_n (pc := 1) C 1 dL_lineOf_1 rfl rfl ?_
  skip
  refine X_callVT (i := .inr 0) (ci := 6) (n := 1) (pc := 2) C [.int a0] hM m_c_X6_lineOf m_m_L_50 m_i_X6_lineOf m_s_X6_lineOf m_n_X6 ⟨by decide +kernel, by decide +kernel, by decide +kernel⟩ ⟨Nat.le_of_ble_eq_true rfl, Nat.le_of_ble_eq_true rfl⟩ ⟨Nat.le_of_ble_eq_true rfl, Nat.le_of_ble_eq_true rfl⟩ h0 rfl rfl rfl rfl (Nat.le_of_ble_eq_true rfl) rfl dL_lineOf_2 (fun v σ1 hp => ?_) (fun E σ1 hx => ?_)
  · obtain ⟨x, rfl⟩ := hV v σ1 hp
    show XW p l e _ s m args below meth c P A 3 _ _ _ σ1 5 [(0, _), (1, _)] (.int x :: _)
    exact XW.tret (X_iret (pc := 5) C (Nat.le_of_ble_eq_true rfl) (Nat.le_of_ble_eq_true rfl) dL_lineOf_5 (Or.inl ⟨x, hp, rfl⟩))
  · obtain rfl := hE E σ1 hx
    refine X_catch (pc := 2) C hT [] ⟨0, 5, 6, 19⟩ [] rfl (fun z hz => nomatch hz) (by decide) (by decide) m_l_L_19 (by decide) (fun q => ?_)
    show XW p l e _ s m args below meth c P A 3 _ _ _ σ1 6 [(0, _), (1, _)] [.ref q]
    refine X_astore_n (pc := 6) (lv1 := [(0, _), (1, _), (2, _)]) C 2 dL_lineOf_6 rfl (by decide) rfl ?_
    refine X_bipush (pc := 7) (v := (-17)) C dL_lineOf_7 (by decide) ?_
    exact XW.tret (X_iret (pc := 9) C (Nat.le_of_ble_eq_true rfl) (Nat.le_of_ble_eq_true rfl) dL_lineOf_9 (Or.inr ⟨_, hx, by rw [eN_IO]⟩))

theorem m_h_L_curiosity : Cond.codeWith yL_curiosity cL_curiosity 3 (some .int) [(0, 5, 6, 19)] ∈ xTB := xm 1052 (by decide +kernel) (by decide +kernel)
set_option maxRecDepth 100000 in
set_option maxHeartbeats 4000000 in
theorem c_L_curiosity (l : Launch) (P : XP) (σ : XS) (h0 : (.inr 0 : XI) ∈ P.2.2.2.1) (a0 : Int32) {Post : Option Value → XS → Prop} {XPost : String → XS → Prop} (hM : XTM l yX6_curiosity cX6_curiosity 2 (some .int) rm_X6_curiosity P [.ref (P.2.2.1 (.inr 0)), .int a0] σ Post XPost) (hV : ∀ v τ, Post v τ → ∃ x : Int32, v = some (.int x)) (hE : ∀ E τ, XPost E τ → E = eIO) : XMH l yL_curiosity cL_curiosity 3 [(0, 5, 6, 19)] (rmL 2 rm_X6_curiosity) P [.ref (P.2.2.1 (.inr 0)), .int a0] σ (LW Post XPost) := by
  refine XMH.of (by decide +kernel) (Nat.le_of_ble_eq_true rfl) (fun p e s m args below meth c A C hT => ?_)
  replace C : XC p s m args meth c P A 3 RL cL_curiosity (some .int) := C
  refine XW.eq (lv' := [(0, _), (1, _)]) rfl rfl rfl ?_
  refine X_aload_n (pc := 0) C 0 dL_curiosity_0 rfl rfl ?_
  refine X_iload_n (pc := 1) C 1 dL_curiosity_1 rfl rfl ?_
  skip
  refine X_callVT (i := .inr 0) (ci := 6) (n := 1) (pc := 2) C [.int a0] hM m_c_X6_curiosity m_m_L_53 m_i_X6_curiosity m_s_X6_curiosity m_n_X6 ⟨by decide +kernel, by decide +kernel, by decide +kernel⟩ ⟨Nat.le_of_ble_eq_true rfl, Nat.le_of_ble_eq_true rfl⟩ ⟨Nat.le_of_ble_eq_true rfl, Nat.le_of_ble_eq_true rfl⟩ h0 rfl rfl rfl rfl (Nat.le_of_ble_eq_true rfl) rfl dL_curiosity_2 (fun v σ1 hp => ?_) (fun E σ1 hx => ?_)
  · obtain ⟨x, rfl⟩ := hV v σ1 hp
    show XW p l e _ s m args below meth c P A 3 _ _ _ σ1 5 [(0, _), (1, _)] (.int x :: _)
    exact XW.tret (X_iret (pc := 5) C (Nat.le_of_ble_eq_true rfl) (Nat.le_of_ble_eq_true rfl) dL_curiosity_5 (Or.inl ⟨x, hp, rfl⟩))
  · obtain rfl := hE E σ1 hx
    refine X_catch (pc := 2) C hT [] ⟨0, 5, 6, 19⟩ [] rfl (fun z hz => nomatch hz) (by decide) (by decide) m_l_L_19 (by decide) (fun q => ?_)
    show XW p l e _ s m args below meth c P A 3 _ _ _ σ1 6 [(0, _), (1, _)] [.ref q]
    refine X_astore_n (pc := 6) (lv1 := [(0, _), (1, _), (2, _)]) C 2 dL_curiosity_6 rfl (by decide) rfl ?_
    refine X_bipush (pc := 7) (v := (-17)) C dL_curiosity_7 (by decide) ?_
    exact XW.tret (X_iret (pc := 9) C (Nat.le_of_ble_eq_true rfl) (Nat.le_of_ble_eq_true rfl) dL_curiosity_9 (Or.inr ⟨_, hx, by rw [eN_IO]⟩))

theorem m_h_L_bill : Cond.codeWith yL_bill cL_bill 3 (some .int) [(0, 5, 6, 19)] ∈ xTB := xm 957 (by decide +kernel) (by decide +kernel)
set_option maxRecDepth 100000 in
set_option maxHeartbeats 4000000 in
theorem c_L_bill (l : Launch) (P : XP) (σ : XS) (h0 : (.inr 0 : XI) ∈ P.2.2.2.1) (a0 : Int32) {Post : Option Value → XS → Prop} {XPost : String → XS → Prop} (hM : XTM l yX6_bill cX6_bill 2 (some .int) rm_X6_bill P [.ref (P.2.2.1 (.inr 0)), .int a0] σ Post XPost) (hV : ∀ v τ, Post v τ → ∃ x : Int32, v = some (.int x)) (hE : ∀ E τ, XPost E τ → E = eIO) : XMH l yL_bill cL_bill 3 [(0, 5, 6, 19)] (rmL 2 rm_X6_bill) P [.ref (P.2.2.1 (.inr 0)), .int a0] σ (LW Post XPost) := by
  refine XMH.of (by decide +kernel) (Nat.le_of_ble_eq_true rfl) (fun p e s m args below meth c A C hT => ?_)
  replace C : XC p s m args meth c P A 3 RL cL_bill (some .int) := C
  refine XW.eq (lv' := [(0, _), (1, _)]) rfl rfl rfl ?_
  refine X_aload_n (pc := 0) C 0 dL_bill_0 rfl rfl ?_
  refine X_iload_n (pc := 1) C 1 dL_bill_1 rfl rfl ?_
  skip
  refine X_callVT (i := .inr 0) (ci := 6) (n := 1) (pc := 2) C [.int a0] hM m_c_X6_bill m_m_L_56 m_i_X6_bill m_s_X6_bill m_n_X6 ⟨by decide +kernel, by decide +kernel, by decide +kernel⟩ ⟨Nat.le_of_ble_eq_true rfl, Nat.le_of_ble_eq_true rfl⟩ ⟨Nat.le_of_ble_eq_true rfl, Nat.le_of_ble_eq_true rfl⟩ h0 rfl rfl rfl rfl (Nat.le_of_ble_eq_true rfl) rfl dL_bill_2 (fun v σ1 hp => ?_) (fun E σ1 hx => ?_)
  · obtain ⟨x, rfl⟩ := hV v σ1 hp
    show XW p l e _ s m args below meth c P A 3 _ _ _ σ1 5 [(0, _), (1, _)] (.int x :: _)
    exact XW.tret (X_iret (pc := 5) C (Nat.le_of_ble_eq_true rfl) (Nat.le_of_ble_eq_true rfl) dL_bill_5 (Or.inl ⟨x, hp, rfl⟩))
  · obtain rfl := hE E σ1 hx
    refine X_catch (pc := 2) C hT [] ⟨0, 5, 6, 19⟩ [] rfl (fun z hz => nomatch hz) (by decide) (by decide) m_l_L_19 (by decide) (fun q => ?_)
    show XW p l e _ s m args below meth c P A 3 _ _ _ σ1 6 [(0, _), (1, _)] [.ref q]
    refine X_astore_n (pc := 6) (lv1 := [(0, _), (1, _), (2, _)]) C 2 dL_bill_6 rfl (by decide) rfl ?_
    refine X_bipush (pc := 7) (v := (-17)) C dL_bill_7 (by decide) ?_
    exact XW.tret (X_iret (pc := 9) C (Nat.le_of_ble_eq_true rfl) (Nat.le_of_ble_eq_true rfl) dL_bill_9 (Or.inr ⟨_, hx, by rw [eN_IO]⟩))

theorem m_h_L_secretsKnown : Cond.codeWith yL_secretsKnown cL_secretsKnown 3 (some .int) [(0, 5, 6, 19)] ∈ xTB := xm 964 (by decide +kernel) (by decide +kernel)
set_option maxRecDepth 100000 in
set_option maxHeartbeats 4000000 in
theorem c_L_secretsKnown (l : Launch) (P : XP) (σ : XS) (h0 : (.inr 0 : XI) ∈ P.2.2.2.1) (a0 : Int32) {Post : Option Value → XS → Prop} {XPost : String → XS → Prop} (hM : XTM l yX6_secretsKnown cX6_secretsKnown 2 (some .int) rm_X6_secretsKnown P [.ref (P.2.2.1 (.inr 0)), .int a0] σ Post XPost) (hV : ∀ v τ, Post v τ → ∃ x : Int32, v = some (.int x)) (hE : ∀ E τ, XPost E τ → E = eIO) : XMH l yL_secretsKnown cL_secretsKnown 3 [(0, 5, 6, 19)] (rmL 2 rm_X6_secretsKnown) P [.ref (P.2.2.1 (.inr 0)), .int a0] σ (LW Post XPost) := by
  refine XMH.of (by decide +kernel) (Nat.le_of_ble_eq_true rfl) (fun p e s m args below meth c A C hT => ?_)
  replace C : XC p s m args meth c P A 3 RL cL_secretsKnown (some .int) := C
  refine XW.eq (lv' := [(0, _), (1, _)]) rfl rfl rfl ?_
  refine X_aload_n (pc := 0) C 0 dL_secretsKnown_0 rfl rfl ?_
  refine X_iload_n (pc := 1) C 1 dL_secretsKnown_1 rfl rfl ?_
  skip
  refine X_callVT (i := .inr 0) (ci := 6) (n := 1) (pc := 2) C [.int a0] hM m_c_X6_secretsKnown m_m_L_59 m_i_X6_secretsKnown m_s_X6_secretsKnown m_n_X6 ⟨by decide +kernel, by decide +kernel, by decide +kernel⟩ ⟨Nat.le_of_ble_eq_true rfl, Nat.le_of_ble_eq_true rfl⟩ ⟨Nat.le_of_ble_eq_true rfl, Nat.le_of_ble_eq_true rfl⟩ h0 rfl rfl rfl rfl (Nat.le_of_ble_eq_true rfl) rfl dL_secretsKnown_2 (fun v σ1 hp => ?_) (fun E σ1 hx => ?_)
  · obtain ⟨x, rfl⟩ := hV v σ1 hp
    show XW p l e _ s m args below meth c P A 3 _ _ _ σ1 5 [(0, _), (1, _)] (.int x :: _)
    exact XW.tret (X_iret (pc := 5) C (Nat.le_of_ble_eq_true rfl) (Nat.le_of_ble_eq_true rfl) dL_secretsKnown_5 (Or.inl ⟨x, hp, rfl⟩))
  · obtain rfl := hE E σ1 hx
    refine X_catch (pc := 2) C hT [] ⟨0, 5, 6, 19⟩ [] rfl (fun z hz => nomatch hz) (by decide) (by decide) m_l_L_19 (by decide) (fun q => ?_)
    show XW p l e _ s m args below meth c P A 3 _ _ _ σ1 6 [(0, _), (1, _)] [.ref q]
    refine X_astore_n (pc := 6) (lv1 := [(0, _), (1, _), (2, _)]) C 2 dL_secretsKnown_6 rfl (by decide) rfl ?_
    refine X_bipush (pc := 7) (v := (-17)) C dL_secretsKnown_7 (by decide) ?_
    exact XW.tret (X_iret (pc := 9) C (Nat.le_of_ble_eq_true rfl) (Nat.le_of_ble_eq_true rfl) dL_secretsKnown_9 (Or.inr ⟨_, hx, by rw [eN_IO]⟩))

theorem m_h_L_knowers : Cond.codeWith yL_knowers cL_knowers 3 (some .int) [(0, 5, 6, 19)] ∈ xTB := xm 971 (by decide +kernel) (by decide +kernel)
set_option maxRecDepth 100000 in
set_option maxHeartbeats 4000000 in
theorem c_L_knowers (l : Launch) (P : XP) (σ : XS) (h0 : (.inr 0 : XI) ∈ P.2.2.2.1) (a0 : Int32) {Post : Option Value → XS → Prop} {XPost : String → XS → Prop} (hM : XTM l yX6_knowers cX6_knowers 2 (some .int) rm_X6_knowers P [.ref (P.2.2.1 (.inr 0)), .int a0] σ Post XPost) (hV : ∀ v τ, Post v τ → ∃ x : Int32, v = some (.int x)) (hE : ∀ E τ, XPost E τ → E = eIO) : XMH l yL_knowers cL_knowers 3 [(0, 5, 6, 19)] (rmL 2 rm_X6_knowers) P [.ref (P.2.2.1 (.inr 0)), .int a0] σ (LW Post XPost) := by
  refine XMH.of (by decide +kernel) (Nat.le_of_ble_eq_true rfl) (fun p e s m args below meth c A C hT => ?_)
  replace C : XC p s m args meth c P A 3 RL cL_knowers (some .int) := C
  refine XW.eq (lv' := [(0, _), (1, _)]) rfl rfl rfl ?_
  refine X_aload_n (pc := 0) C 0 dL_knowers_0 rfl rfl ?_
  refine X_iload_n (pc := 1) C 1 dL_knowers_1 rfl rfl ?_
  skip
  refine X_callVT (i := .inr 0) (ci := 6) (n := 1) (pc := 2) C [.int a0] hM m_c_X6_knowers m_m_L_62 m_i_X6_knowers m_s_X6_knowers m_n_X6 ⟨by decide +kernel, by decide +kernel, by decide +kernel⟩ ⟨Nat.le_of_ble_eq_true rfl, Nat.le_of_ble_eq_true rfl⟩ ⟨Nat.le_of_ble_eq_true rfl, Nat.le_of_ble_eq_true rfl⟩ h0 rfl rfl rfl rfl (Nat.le_of_ble_eq_true rfl) rfl dL_knowers_2 (fun v σ1 hp => ?_) (fun E σ1 hx => ?_)
  · obtain ⟨x, rfl⟩ := hV v σ1 hp
    show XW p l e _ s m args below meth c P A 3 _ _ _ σ1 5 [(0, _), (1, _)] (.int x :: _)
    exact XW.tret (X_iret (pc := 5) C (Nat.le_of_ble_eq_true rfl) (Nat.le_of_ble_eq_true rfl) dL_knowers_5 (Or.inl ⟨x, hp, rfl⟩))
  · obtain rfl := hE E σ1 hx
    refine X_catch (pc := 2) C hT [] ⟨0, 5, 6, 19⟩ [] rfl (fun z hz => nomatch hz) (by decide) (by decide) m_l_L_19 (by decide) (fun q => ?_)
    show XW p l e _ s m args below meth c P A 3 _ _ _ σ1 6 [(0, _), (1, _)] [.ref q]
    refine X_astore_n (pc := 6) (lv1 := [(0, _), (1, _), (2, _)]) C 2 dL_knowers_6 rfl (by decide) rfl ?_
    refine X_bipush (pc := 7) (v := (-17)) C dL_knowers_7 (by decide) ?_
    exact XW.tret (X_iret (pc := 9) C (Nat.le_of_ble_eq_true rfl) (Nat.le_of_ble_eq_true rfl) dL_knowers_9 (Or.inr ⟨_, hx, by rw [eN_IO]⟩))

theorem m_h_L_callState : Cond.codeWith yL_callState cL_callState 3 (some .int) [(0, 5, 6, 19)] ∈ xTB := xm 771 (by decide +kernel) (by decide +kernel)
set_option maxRecDepth 100000 in
set_option maxHeartbeats 4000000 in
theorem c_L_callState (l : Launch) (P : XP) (σ : XS) (h0 : (.inr 0 : XI) ∈ P.2.2.2.1) (a0 : Int32) {Post : Option Value → XS → Prop} {XPost : String → XS → Prop} (hM : XTM l yX6_callState cX6_callState 2 (some .int) rm_X6_callState P [.ref (P.2.2.1 (.inr 0)), .int a0] σ Post XPost) (hV : ∀ v τ, Post v τ → ∃ x : Int32, v = some (.int x)) (hE : ∀ E τ, XPost E τ → E = eIO) : XMH l yL_callState cL_callState 3 [(0, 5, 6, 19)] (rmL 2 rm_X6_callState) P [.ref (P.2.2.1 (.inr 0)), .int a0] σ (LW Post XPost) := by
  refine XMH.of (by decide +kernel) (Nat.le_of_ble_eq_true rfl) (fun p e s m args below meth c A C hT => ?_)
  replace C : XC p s m args meth c P A 3 RL cL_callState (some .int) := C
  refine XW.eq (lv' := [(0, _), (1, _)]) rfl rfl rfl ?_
  refine X_aload_n (pc := 0) C 0 dL_callState_0 rfl rfl ?_
  refine X_iload_n (pc := 1) C 1 dL_callState_1 rfl rfl ?_
  skip
  refine X_callVT (i := .inr 0) (ci := 6) (n := 1) (pc := 2) C [.int a0] hM m_c_X6_callState m_m_L_65 m_i_X6_callState m_s_X6_callState m_n_X6 ⟨by decide +kernel, by decide +kernel, by decide +kernel⟩ ⟨Nat.le_of_ble_eq_true rfl, Nat.le_of_ble_eq_true rfl⟩ ⟨Nat.le_of_ble_eq_true rfl, Nat.le_of_ble_eq_true rfl⟩ h0 rfl rfl rfl rfl (Nat.le_of_ble_eq_true rfl) rfl dL_callState_2 (fun v σ1 hp => ?_) (fun E σ1 hx => ?_)
  · obtain ⟨x, rfl⟩ := hV v σ1 hp
    show XW p l e _ s m args below meth c P A 3 _ _ _ σ1 5 [(0, _), (1, _)] (.int x :: _)
    exact XW.tret (X_iret (pc := 5) C (Nat.le_of_ble_eq_true rfl) (Nat.le_of_ble_eq_true rfl) dL_callState_5 (Or.inl ⟨x, hp, rfl⟩))
  · obtain rfl := hE E σ1 hx
    refine X_catch (pc := 2) C hT [] ⟨0, 5, 6, 19⟩ [] rfl (fun z hz => nomatch hz) (by decide) (by decide) m_l_L_19 (by decide) (fun q => ?_)
    show XW p l e _ s m args below meth c P A 3 _ _ _ σ1 6 [(0, _), (1, _)] [.ref q]
    refine X_astore_n (pc := 6) (lv1 := [(0, _), (1, _), (2, _)]) C 2 dL_callState_6 rfl (by decide) rfl ?_
    refine X_bipush (pc := 7) (v := (-17)) C dL_callState_7 (by decide) ?_
    exact XW.tret (X_iret (pc := 9) C (Nat.le_of_ble_eq_true rfl) (Nat.le_of_ble_eq_true rfl) dL_callState_9 (Or.inr ⟨_, hx, by rw [eN_IO]⟩))

theorem m_h_L_callerOf : Cond.codeWith yL_callerOf cL_callerOf 3 (some .int) [(0, 5, 6, 19)] ∈ xTB := xm 810 (by decide +kernel) (by decide +kernel)
set_option maxRecDepth 100000 in
set_option maxHeartbeats 4000000 in
theorem c_L_callerOf (l : Launch) (P : XP) (σ : XS) (h0 : (.inr 0 : XI) ∈ P.2.2.2.1) (a0 : Int32) {Post : Option Value → XS → Prop} {XPost : String → XS → Prop} (hM : XTM l yX6_callerOf cX6_callerOf 2 (some .int) rm_X6_callerOf P [.ref (P.2.2.1 (.inr 0)), .int a0] σ Post XPost) (hV : ∀ v τ, Post v τ → ∃ x : Int32, v = some (.int x)) (hE : ∀ E τ, XPost E τ → E = eIO) : XMH l yL_callerOf cL_callerOf 3 [(0, 5, 6, 19)] (rmL 2 rm_X6_callerOf) P [.ref (P.2.2.1 (.inr 0)), .int a0] σ (LW Post XPost) := by
  refine XMH.of (by decide +kernel) (Nat.le_of_ble_eq_true rfl) (fun p e s m args below meth c A C hT => ?_)
  replace C : XC p s m args meth c P A 3 RL cL_callerOf (some .int) := C
  refine XW.eq (lv' := [(0, _), (1, _)]) rfl rfl rfl ?_
  refine X_aload_n (pc := 0) C 0 dL_callerOf_0 rfl rfl ?_
  refine X_iload_n (pc := 1) C 1 dL_callerOf_1 rfl rfl ?_
  skip
  refine X_callVT (i := .inr 0) (ci := 6) (n := 1) (pc := 2) C [.int a0] hM m_c_X6_callerOf m_m_L_68 m_i_X6_callerOf m_s_X6_callerOf m_n_X6 ⟨by decide +kernel, by decide +kernel, by decide +kernel⟩ ⟨Nat.le_of_ble_eq_true rfl, Nat.le_of_ble_eq_true rfl⟩ ⟨Nat.le_of_ble_eq_true rfl, Nat.le_of_ble_eq_true rfl⟩ h0 rfl rfl rfl rfl (Nat.le_of_ble_eq_true rfl) rfl dL_callerOf_2 (fun v σ1 hp => ?_) (fun E σ1 hx => ?_)
  · obtain ⟨x, rfl⟩ := hV v σ1 hp
    show XW p l e _ s m args below meth c P A 3 _ _ _ σ1 5 [(0, _), (1, _)] (.int x :: _)
    exact XW.tret (X_iret (pc := 5) C (Nat.le_of_ble_eq_true rfl) (Nat.le_of_ble_eq_true rfl) dL_callerOf_5 (Or.inl ⟨x, hp, rfl⟩))
  · obtain rfl := hE E σ1 hx
    refine X_catch (pc := 2) C hT [] ⟨0, 5, 6, 19⟩ [] rfl (fun z hz => nomatch hz) (by decide) (by decide) m_l_L_19 (by decide) (fun q => ?_)
    show XW p l e _ s m args below meth c P A 3 _ _ _ σ1 6 [(0, _), (1, _)] [.ref q]
    refine X_astore_n (pc := 6) (lv1 := [(0, _), (1, _), (2, _)]) C 2 dL_callerOf_6 rfl (by decide) rfl ?_
    refine X_bipush (pc := 7) (v := (-17)) C dL_callerOf_7 (by decide) ?_
    exact XW.tret (X_iret (pc := 9) C (Nat.le_of_ble_eq_true rfl) (Nat.le_of_ble_eq_true rfl) dL_callerOf_9 (Or.inr ⟨_, hx, by rw [eN_IO]⟩))

theorem m_h_L_calledSubscriber : Cond.codeWith yL_calledSubscriber cL_calledSubscriber 3 (some .int) [(0, 5, 6, 19)] ∈ xTB := xm 817 (by decide +kernel) (by decide +kernel)
set_option maxRecDepth 100000 in
set_option maxHeartbeats 4000000 in
theorem c_L_calledSubscriber (l : Launch) (P : XP) (σ : XS) (h0 : (.inr 0 : XI) ∈ P.2.2.2.1) (a0 : Int32) {Post : Option Value → XS → Prop} {XPost : String → XS → Prop} (hM : XTM l yX6_calledSubscriber cX6_calledSubscriber 2 (some .int) rm_X6_calledSubscriber P [.ref (P.2.2.1 (.inr 0)), .int a0] σ Post XPost) (hV : ∀ v τ, Post v τ → ∃ x : Int32, v = some (.int x)) (hE : ∀ E τ, XPost E τ → E = eIO) : XMH l yL_calledSubscriber cL_calledSubscriber 3 [(0, 5, 6, 19)] (rmL 2 rm_X6_calledSubscriber) P [.ref (P.2.2.1 (.inr 0)), .int a0] σ (LW Post XPost) := by
  refine XMH.of (by decide +kernel) (Nat.le_of_ble_eq_true rfl) (fun p e s m args below meth c A C hT => ?_)
  replace C : XC p s m args meth c P A 3 RL cL_calledSubscriber (some .int) := C
  refine XW.eq (lv' := [(0, _), (1, _)]) rfl rfl rfl ?_
  refine X_aload_n (pc := 0) C 0 dL_calledSubscriber_0 rfl rfl ?_
  refine X_iload_n (pc := 1) C 1 dL_calledSubscriber_1 rfl rfl ?_
  skip
  refine X_callVT (i := .inr 0) (ci := 6) (n := 1) (pc := 2) C [.int a0] hM m_c_X6_calledSubscriber m_m_L_71 m_i_X6_calledSubscriber m_s_X6_calledSubscriber m_n_X6 ⟨by decide +kernel, by decide +kernel, by decide +kernel⟩ ⟨Nat.le_of_ble_eq_true rfl, Nat.le_of_ble_eq_true rfl⟩ ⟨Nat.le_of_ble_eq_true rfl, Nat.le_of_ble_eq_true rfl⟩ h0 rfl rfl rfl rfl (Nat.le_of_ble_eq_true rfl) rfl dL_calledSubscriber_2 (fun v σ1 hp => ?_) (fun E σ1 hx => ?_)
  · obtain ⟨x, rfl⟩ := hV v σ1 hp
    show XW p l e _ s m args below meth c P A 3 _ _ _ σ1 5 [(0, _), (1, _)] (.int x :: _)
    exact XW.tret (X_iret (pc := 5) C (Nat.le_of_ble_eq_true rfl) (Nat.le_of_ble_eq_true rfl) dL_calledSubscriber_5 (Or.inl ⟨x, hp, rfl⟩))
  · obtain rfl := hE E σ1 hx
    refine X_catch (pc := 2) C hT [] ⟨0, 5, 6, 19⟩ [] rfl (fun z hz => nomatch hz) (by decide) (by decide) m_l_L_19 (by decide) (fun q => ?_)
    show XW p l e _ s m args below meth c P A 3 _ _ _ σ1 6 [(0, _), (1, _)] [.ref q]
    refine X_astore_n (pc := 6) (lv1 := [(0, _), (1, _), (2, _)]) C 2 dL_calledSubscriber_6 rfl (by decide) rfl ?_
    refine X_bipush (pc := 7) (v := (-17)) C dL_calledSubscriber_7 (by decide) ?_
    exact XW.tret (X_iret (pc := 9) C (Nat.le_of_ble_eq_true rfl) (Nat.le_of_ble_eq_true rfl) dL_calledSubscriber_9 (Or.inr ⟨_, hx, by rw [eN_IO]⟩))

theorem m_h_L_calledTrunk : Cond.codeWith yL_calledTrunk cL_calledTrunk 3 (some .int) [(0, 5, 6, 19)] ∈ xTB := xm 803 (by decide +kernel) (by decide +kernel)
set_option maxRecDepth 100000 in
set_option maxHeartbeats 4000000 in
theorem c_L_calledTrunk (l : Launch) (P : XP) (σ : XS) (h0 : (.inr 0 : XI) ∈ P.2.2.2.1) (a0 : Int32) {Post : Option Value → XS → Prop} {XPost : String → XS → Prop} (hM : XTM l yX6_calledTrunk cX6_calledTrunk 2 (some .int) rm_X6_calledTrunk P [.ref (P.2.2.1 (.inr 0)), .int a0] σ Post XPost) (hV : ∀ v τ, Post v τ → ∃ x : Int32, v = some (.int x)) (hE : ∀ E τ, XPost E τ → E = eIO) : XMH l yL_calledTrunk cL_calledTrunk 3 [(0, 5, 6, 19)] (rmL 2 rm_X6_calledTrunk) P [.ref (P.2.2.1 (.inr 0)), .int a0] σ (LW Post XPost) := by
  refine XMH.of (by decide +kernel) (Nat.le_of_ble_eq_true rfl) (fun p e s m args below meth c A C hT => ?_)
  replace C : XC p s m args meth c P A 3 RL cL_calledTrunk (some .int) := C
  refine XW.eq (lv' := [(0, _), (1, _)]) rfl rfl rfl ?_
  refine X_aload_n (pc := 0) C 0 dL_calledTrunk_0 rfl rfl ?_
  refine X_iload_n (pc := 1) C 1 dL_calledTrunk_1 rfl rfl ?_
  skip
  refine X_callVT (i := .inr 0) (ci := 6) (n := 1) (pc := 2) C [.int a0] hM m_c_X6_calledTrunk m_m_L_74 m_i_X6_calledTrunk m_s_X6_calledTrunk m_n_X6 ⟨by decide +kernel, by decide +kernel, by decide +kernel⟩ ⟨Nat.le_of_ble_eq_true rfl, Nat.le_of_ble_eq_true rfl⟩ ⟨Nat.le_of_ble_eq_true rfl, Nat.le_of_ble_eq_true rfl⟩ h0 rfl rfl rfl rfl (Nat.le_of_ble_eq_true rfl) rfl dL_calledTrunk_2 (fun v σ1 hp => ?_) (fun E σ1 hx => ?_)
  · obtain ⟨x, rfl⟩ := hV v σ1 hp
    show XW p l e _ s m args below meth c P A 3 _ _ _ σ1 5 [(0, _), (1, _)] (.int x :: _)
    exact XW.tret (X_iret (pc := 5) C (Nat.le_of_ble_eq_true rfl) (Nat.le_of_ble_eq_true rfl) dL_calledTrunk_5 (Or.inl ⟨x, hp, rfl⟩))
  · obtain rfl := hE E σ1 hx
    refine X_catch (pc := 2) C hT [] ⟨0, 5, 6, 19⟩ [] rfl (fun z hz => nomatch hz) (by decide) (by decide) m_l_L_19 (by decide) (fun q => ?_)
    show XW p l e _ s m args below meth c P A 3 _ _ _ σ1 6 [(0, _), (1, _)] [.ref q]
    refine X_astore_n (pc := 6) (lv1 := [(0, _), (1, _), (2, _)]) C 2 dL_calledTrunk_6 rfl (by decide) rfl ?_
    refine X_bipush (pc := 7) (v := (-17)) C dL_calledTrunk_7 (by decide) ?_
    exact XW.tret (X_iret (pc := 9) C (Nat.le_of_ble_eq_true rfl) (Nat.le_of_ble_eq_true rfl) dL_calledTrunk_9 (Or.inr ⟨_, hx, by rw [eN_IO]⟩))

theorem m_h_L_startTime : Cond.codeWith yL_startTime cL_startTime 3 (some .int) [(0, 5, 6, 19)] ∈ xTB := xm 824 (by decide +kernel) (by decide +kernel)
set_option maxRecDepth 100000 in
set_option maxHeartbeats 4000000 in
theorem c_L_startTime (l : Launch) (P : XP) (σ : XS) (h0 : (.inr 0 : XI) ∈ P.2.2.2.1) (a0 : Int32) {Post : Option Value → XS → Prop} {XPost : String → XS → Prop} (hM : XTM l yX6_startTime cX6_startTime 2 (some .int) rm_X6_startTime P [.ref (P.2.2.1 (.inr 0)), .int a0] σ Post XPost) (hV : ∀ v τ, Post v τ → ∃ x : Int32, v = some (.int x)) (hE : ∀ E τ, XPost E τ → E = eIO) : XMH l yL_startTime cL_startTime 3 [(0, 5, 6, 19)] (rmL 2 rm_X6_startTime) P [.ref (P.2.2.1 (.inr 0)), .int a0] σ (LW Post XPost) := by
  refine XMH.of (by decide +kernel) (Nat.le_of_ble_eq_true rfl) (fun p e s m args below meth c A C hT => ?_)
  replace C : XC p s m args meth c P A 3 RL cL_startTime (some .int) := C
  refine XW.eq (lv' := [(0, _), (1, _)]) rfl rfl rfl ?_
  refine X_aload_n (pc := 0) C 0 dL_startTime_0 rfl rfl ?_
  refine X_iload_n (pc := 1) C 1 dL_startTime_1 rfl rfl ?_
  skip
  refine X_callVT (i := .inr 0) (ci := 6) (n := 1) (pc := 2) C [.int a0] hM m_c_X6_startTime m_m_L_77 m_i_X6_startTime m_s_X6_startTime m_n_X6 ⟨by decide +kernel, by decide +kernel, by decide +kernel⟩ ⟨Nat.le_of_ble_eq_true rfl, Nat.le_of_ble_eq_true rfl⟩ ⟨Nat.le_of_ble_eq_true rfl, Nat.le_of_ble_eq_true rfl⟩ h0 rfl rfl rfl rfl (Nat.le_of_ble_eq_true rfl) rfl dL_startTime_2 (fun v σ1 hp => ?_) (fun E σ1 hx => ?_)
  · obtain ⟨x, rfl⟩ := hV v σ1 hp
    show XW p l e _ s m args below meth c P A 3 _ _ _ σ1 5 [(0, _), (1, _)] (.int x :: _)
    exact XW.tret (X_iret (pc := 5) C (Nat.le_of_ble_eq_true rfl) (Nat.le_of_ble_eq_true rfl) dL_startTime_5 (Or.inl ⟨x, hp, rfl⟩))
  · obtain rfl := hE E σ1 hx
    refine X_catch (pc := 2) C hT [] ⟨0, 5, 6, 19⟩ [] rfl (fun z hz => nomatch hz) (by decide) (by decide) m_l_L_19 (by decide) (fun q => ?_)
    show XW p l e _ s m args below meth c P A 3 _ _ _ σ1 6 [(0, _), (1, _)] [.ref q]
    refine X_astore_n (pc := 6) (lv1 := [(0, _), (1, _), (2, _)]) C 2 dL_startTime_6 rfl (by decide) rfl ?_
    refine X_bipush (pc := 7) (v := (-17)) C dL_startTime_7 (by decide) ?_
    exact XW.tret (X_iret (pc := 9) C (Nat.le_of_ble_eq_true rfl) (Nat.le_of_ble_eq_true rfl) dL_startTime_9 (Or.inr ⟨_, hx, by rw [eN_IO]⟩))

theorem m_h_L_endTime : Cond.codeWith yL_endTime cL_endTime 3 (some .int) [(0, 5, 6, 19)] ∈ xTB := xm 831 (by decide +kernel) (by decide +kernel)
set_option maxRecDepth 100000 in
set_option maxHeartbeats 4000000 in
theorem c_L_endTime (l : Launch) (P : XP) (σ : XS) (h0 : (.inr 0 : XI) ∈ P.2.2.2.1) (a0 : Int32) {Post : Option Value → XS → Prop} {XPost : String → XS → Prop} (hM : XTM l yX6_endTime cX6_endTime 2 (some .int) rm_X6_endTime P [.ref (P.2.2.1 (.inr 0)), .int a0] σ Post XPost) (hV : ∀ v τ, Post v τ → ∃ x : Int32, v = some (.int x)) (hE : ∀ E τ, XPost E τ → E = eIO) : XMH l yL_endTime cL_endTime 3 [(0, 5, 6, 19)] (rmL 2 rm_X6_endTime) P [.ref (P.2.2.1 (.inr 0)), .int a0] σ (LW Post XPost) := by
  refine XMH.of (by decide +kernel) (Nat.le_of_ble_eq_true rfl) (fun p e s m args below meth c A C hT => ?_)
  replace C : XC p s m args meth c P A 3 RL cL_endTime (some .int) := C
  refine XW.eq (lv' := [(0, _), (1, _)]) rfl rfl rfl ?_
  refine X_aload_n (pc := 0) C 0 dL_endTime_0 rfl rfl ?_
  refine X_iload_n (pc := 1) C 1 dL_endTime_1 rfl rfl ?_
  skip
  refine X_callVT (i := .inr 0) (ci := 6) (n := 1) (pc := 2) C [.int a0] hM m_c_X6_endTime m_m_L_80 m_i_X6_endTime m_s_X6_endTime m_n_X6 ⟨by decide +kernel, by decide +kernel, by decide +kernel⟩ ⟨Nat.le_of_ble_eq_true rfl, Nat.le_of_ble_eq_true rfl⟩ ⟨Nat.le_of_ble_eq_true rfl, Nat.le_of_ble_eq_true rfl⟩ h0 rfl rfl rfl rfl (Nat.le_of_ble_eq_true rfl) rfl dL_endTime_2 (fun v σ1 hp => ?_) (fun E σ1 hx => ?_)
  · obtain ⟨x, rfl⟩ := hV v σ1 hp
    show XW p l e _ s m args below meth c P A 3 _ _ _ σ1 5 [(0, _), (1, _)] (.int x :: _)
    exact XW.tret (X_iret (pc := 5) C (Nat.le_of_ble_eq_true rfl) (Nat.le_of_ble_eq_true rfl) dL_endTime_5 (Or.inl ⟨x, hp, rfl⟩))
  · obtain rfl := hE E σ1 hx
    refine X_catch (pc := 2) C hT [] ⟨0, 5, 6, 19⟩ [] rfl (fun z hz => nomatch hz) (by decide) (by decide) m_l_L_19 (by decide) (fun q => ?_)
    show XW p l e _ s m args below meth c P A 3 _ _ _ σ1 6 [(0, _), (1, _)] [.ref q]
    refine X_astore_n (pc := 6) (lv1 := [(0, _), (1, _), (2, _)]) C 2 dL_endTime_6 rfl (by decide) rfl ?_
    refine X_bipush (pc := 7) (v := (-17)) C dL_endTime_7 (by decide) ?_
    exact XW.tret (X_iret (pc := 9) C (Nat.le_of_ble_eq_true rfl) (Nat.le_of_ble_eq_true rfl) dL_endTime_9 (Or.inr ⟨_, hx, by rw [eN_IO]⟩))

theorem m_h_L_listeners : Cond.codeWith yL_listeners cL_listeners 3 (some .int) [(0, 5, 6, 19)] ∈ xTB := xm 838 (by decide +kernel) (by decide +kernel)
set_option maxRecDepth 100000 in
set_option maxHeartbeats 4000000 in
theorem c_L_listeners (l : Launch) (P : XP) (σ : XS) (h0 : (.inr 0 : XI) ∈ P.2.2.2.1) (a0 : Int32) {Post : Option Value → XS → Prop} {XPost : String → XS → Prop} (hM : XTM l yX6_listeners cX6_listeners 2 (some .int) rm_X6_listeners P [.ref (P.2.2.1 (.inr 0)), .int a0] σ Post XPost) (hV : ∀ v τ, Post v τ → ∃ x : Int32, v = some (.int x)) (hE : ∀ E τ, XPost E τ → E = eIO) : XMH l yL_listeners cL_listeners 3 [(0, 5, 6, 19)] (rmL 2 rm_X6_listeners) P [.ref (P.2.2.1 (.inr 0)), .int a0] σ (LW Post XPost) := by
  refine XMH.of (by decide +kernel) (Nat.le_of_ble_eq_true rfl) (fun p e s m args below meth c A C hT => ?_)
  replace C : XC p s m args meth c P A 3 RL cL_listeners (some .int) := C
  refine XW.eq (lv' := [(0, _), (1, _)]) rfl rfl rfl ?_
  refine X_aload_n (pc := 0) C 0 dL_listeners_0 rfl rfl ?_
  refine X_iload_n (pc := 1) C 1 dL_listeners_1 rfl rfl ?_
  skip
  refine X_callVT (i := .inr 0) (ci := 6) (n := 1) (pc := 2) C [.int a0] hM m_c_X6_listeners m_m_L_83 m_i_X6_listeners m_s_X6_listeners m_n_X6 ⟨by decide +kernel, by decide +kernel, by decide +kernel⟩ ⟨Nat.le_of_ble_eq_true rfl, Nat.le_of_ble_eq_true rfl⟩ ⟨Nat.le_of_ble_eq_true rfl, Nat.le_of_ble_eq_true rfl⟩ h0 rfl rfl rfl rfl (Nat.le_of_ble_eq_true rfl) rfl dL_listeners_2 (fun v σ1 hp => ?_) (fun E σ1 hx => ?_)
  · obtain ⟨x, rfl⟩ := hV v σ1 hp
    show XW p l e _ s m args below meth c P A 3 _ _ _ σ1 5 [(0, _), (1, _)] (.int x :: _)
    exact XW.tret (X_iret (pc := 5) C (Nat.le_of_ble_eq_true rfl) (Nat.le_of_ble_eq_true rfl) dL_listeners_5 (Or.inl ⟨x, hp, rfl⟩))
  · obtain rfl := hE E σ1 hx
    refine X_catch (pc := 2) C hT [] ⟨0, 5, 6, 19⟩ [] rfl (fun z hz => nomatch hz) (by decide) (by decide) m_l_L_19 (by decide) (fun q => ?_)
    show XW p l e _ s m args below meth c P A 3 _ _ _ σ1 6 [(0, _), (1, _)] [.ref q]
    refine X_astore_n (pc := 6) (lv1 := [(0, _), (1, _), (2, _)]) C 2 dL_listeners_6 rfl (by decide) rfl ?_
    refine X_bipush (pc := 7) (v := (-17)) C dL_listeners_7 (by decide) ?_
    exact XW.tret (X_iret (pc := 9) C (Nat.le_of_ble_eq_true rfl) (Nat.le_of_ble_eq_true rfl) dL_listeners_9 (Or.inr ⟨_, hx, by rw [eN_IO]⟩))

theorem m_h_L_volume : Cond.codeWith yL_volume cL_volume 3 (some .int) [(0, 5, 6, 19)] ∈ xTB := xm 848 (by decide +kernel) (by decide +kernel)
set_option maxRecDepth 100000 in
set_option maxHeartbeats 4000000 in
theorem c_L_volume (l : Launch) (P : XP) (σ : XS) (h0 : (.inr 0 : XI) ∈ P.2.2.2.1) (a0 : Int32) {Post : Option Value → XS → Prop} {XPost : String → XS → Prop} (hM : XTM l yX6_volume cX6_volume 2 (some .int) rm_X6_volume P [.ref (P.2.2.1 (.inr 0)), .int a0] σ Post XPost) (hV : ∀ v τ, Post v τ → ∃ x : Int32, v = some (.int x)) (hE : ∀ E τ, XPost E τ → E = eIO) : XMH l yL_volume cL_volume 3 [(0, 5, 6, 19)] (rmL 2 rm_X6_volume) P [.ref (P.2.2.1 (.inr 0)), .int a0] σ (LW Post XPost) := by
  refine XMH.of (by decide +kernel) (Nat.le_of_ble_eq_true rfl) (fun p e s m args below meth c A C hT => ?_)
  replace C : XC p s m args meth c P A 3 RL cL_volume (some .int) := C
  refine XW.eq (lv' := [(0, _), (1, _)]) rfl rfl rfl ?_
  refine X_aload_n (pc := 0) C 0 dL_volume_0 rfl rfl ?_
  refine X_iload_n (pc := 1) C 1 dL_volume_1 rfl rfl ?_
  skip
  refine X_callVT (i := .inr 0) (ci := 6) (n := 1) (pc := 2) C [.int a0] hM m_c_X6_volume m_m_L_86 m_i_X6_volume m_s_X6_volume m_n_X6 ⟨by decide +kernel, by decide +kernel, by decide +kernel⟩ ⟨Nat.le_of_ble_eq_true rfl, Nat.le_of_ble_eq_true rfl⟩ ⟨Nat.le_of_ble_eq_true rfl, Nat.le_of_ble_eq_true rfl⟩ h0 rfl rfl rfl rfl (Nat.le_of_ble_eq_true rfl) rfl dL_volume_2 (fun v σ1 hp => ?_) (fun E σ1 hx => ?_)
  · obtain ⟨x, rfl⟩ := hV v σ1 hp
    show XW p l e _ s m args below meth c P A 3 _ _ _ σ1 5 [(0, _), (1, _)] (.int x :: _)
    exact XW.tret (X_iret (pc := 5) C (Nat.le_of_ble_eq_true rfl) (Nat.le_of_ble_eq_true rfl) dL_volume_5 (Or.inl ⟨x, hp, rfl⟩))
  · obtain rfl := hE E σ1 hx
    refine X_catch (pc := 2) C hT [] ⟨0, 5, 6, 19⟩ [] rfl (fun z hz => nomatch hz) (by decide) (by decide) m_l_L_19 (by decide) (fun q => ?_)
    show XW p l e _ s m args below meth c P A 3 _ _ _ σ1 6 [(0, _), (1, _)] [.ref q]
    refine X_astore_n (pc := 6) (lv1 := [(0, _), (1, _), (2, _)]) C 2 dL_volume_6 rfl (by decide) rfl ?_
    refine X_bipush (pc := 7) (v := (-17)) C dL_volume_7 (by decide) ?_
    exact XW.tret (X_iret (pc := 9) C (Nat.le_of_ble_eq_true rfl) (Nat.le_of_ble_eq_true rfl) dL_volume_9 (Or.inr ⟨_, hx, by rw [eN_IO]⟩))

theorem m_h_L_charge : Cond.codeWith yL_charge cL_charge 3 (some .int) [(0, 5, 6, 19)] ∈ xTB := xm 871 (by decide +kernel) (by decide +kernel)
set_option maxRecDepth 100000 in
set_option maxHeartbeats 4000000 in
theorem c_L_charge (l : Launch) (P : XP) (σ : XS) (h0 : (.inr 0 : XI) ∈ P.2.2.2.1) (a0 : Int32) {Post : Option Value → XS → Prop} {XPost : String → XS → Prop} (hM : XTM l yX6_charge cX6_charge 2 (some .int) rm_X6_charge P [.ref (P.2.2.1 (.inr 0)), .int a0] σ Post XPost) (hV : ∀ v τ, Post v τ → ∃ x : Int32, v = some (.int x)) (hE : ∀ E τ, XPost E τ → E = eIO) : XMH l yL_charge cL_charge 3 [(0, 5, 6, 19)] (rmL 2 rm_X6_charge) P [.ref (P.2.2.1 (.inr 0)), .int a0] σ (LW Post XPost) := by
  refine XMH.of (by decide +kernel) (Nat.le_of_ble_eq_true rfl) (fun p e s m args below meth c A C hT => ?_)
  replace C : XC p s m args meth c P A 3 RL cL_charge (some .int) := C
  refine XW.eq (lv' := [(0, _), (1, _)]) rfl rfl rfl ?_
  refine X_aload_n (pc := 0) C 0 dL_charge_0 rfl rfl ?_
  refine X_iload_n (pc := 1) C 1 dL_charge_1 rfl rfl ?_
  skip
  refine X_callVT (i := .inr 0) (ci := 6) (n := 1) (pc := 2) C [.int a0] hM m_c_X6_charge m_m_L_89 m_i_X6_charge m_s_X6_charge m_n_X6 ⟨by decide +kernel, by decide +kernel, by decide +kernel⟩ ⟨Nat.le_of_ble_eq_true rfl, Nat.le_of_ble_eq_true rfl⟩ ⟨Nat.le_of_ble_eq_true rfl, Nat.le_of_ble_eq_true rfl⟩ h0 rfl rfl rfl rfl (Nat.le_of_ble_eq_true rfl) rfl dL_charge_2 (fun v σ1 hp => ?_) (fun E σ1 hx => ?_)
  · obtain ⟨x, rfl⟩ := hV v σ1 hp
    show XW p l e _ s m args below meth c P A 3 _ _ _ σ1 5 [(0, _), (1, _)] (.int x :: _)
    exact XW.tret (X_iret (pc := 5) C (Nat.le_of_ble_eq_true rfl) (Nat.le_of_ble_eq_true rfl) dL_charge_5 (Or.inl ⟨x, hp, rfl⟩))
  · obtain rfl := hE E σ1 hx
    refine X_catch (pc := 2) C hT [] ⟨0, 5, 6, 19⟩ [] rfl (fun z hz => nomatch hz) (by decide) (by decide) m_l_L_19 (by decide) (fun q => ?_)
    show XW p l e _ s m args below meth c P A 3 _ _ _ σ1 6 [(0, _), (1, _)] [.ref q]
    refine X_astore_n (pc := 6) (lv1 := [(0, _), (1, _), (2, _)]) C 2 dL_charge_6 rfl (by decide) rfl ?_
    refine X_bipush (pc := 7) (v := (-17)) C dL_charge_7 (by decide) ?_
    exact XW.tret (X_iret (pc := 9) C (Nat.le_of_ble_eq_true rfl) (Nat.le_of_ble_eq_true rfl) dL_charge_9 (Or.inr ⟨_, hx, by rw [eN_IO]⟩))

theorem m_h_L_obstacle : Cond.codeWith yL_obstacle cL_obstacle 3 (some .int) [(0, 5, 6, 19)] ∈ xTB := xm 879 (by decide +kernel) (by decide +kernel)
set_option maxRecDepth 100000 in
set_option maxHeartbeats 4000000 in
theorem c_L_obstacle (l : Launch) (P : XP) (σ : XS) (h0 : (.inr 0 : XI) ∈ P.2.2.2.1) (a0 : Int32) {Post : Option Value → XS → Prop} {XPost : String → XS → Prop} (hM : XTM l yX6_obstacle cX6_obstacle 2 (some .int) rm_X6_obstacle P [.ref (P.2.2.1 (.inr 0)), .int a0] σ Post XPost) (hV : ∀ v τ, Post v τ → ∃ x : Int32, v = some (.int x)) (hE : ∀ E τ, XPost E τ → E = eIO) : XMH l yL_obstacle cL_obstacle 3 [(0, 5, 6, 19)] (rmL 2 rm_X6_obstacle) P [.ref (P.2.2.1 (.inr 0)), .int a0] σ (LW Post XPost) := by
  refine XMH.of (by decide +kernel) (Nat.le_of_ble_eq_true rfl) (fun p e s m args below meth c A C hT => ?_)
  replace C : XC p s m args meth c P A 3 RL cL_obstacle (some .int) := C
  refine XW.eq (lv' := [(0, _), (1, _)]) rfl rfl rfl ?_
  refine X_aload_n (pc := 0) C 0 dL_obstacle_0 rfl rfl ?_
  refine X_iload_n (pc := 1) C 1 dL_obstacle_1 rfl rfl ?_
  skip
  refine X_callVT (i := .inr 0) (ci := 6) (n := 1) (pc := 2) C [.int a0] hM m_c_X6_obstacle m_m_L_92 m_i_X6_obstacle m_s_X6_obstacle m_n_X6 ⟨by decide +kernel, by decide +kernel, by decide +kernel⟩ ⟨Nat.le_of_ble_eq_true rfl, Nat.le_of_ble_eq_true rfl⟩ ⟨Nat.le_of_ble_eq_true rfl, Nat.le_of_ble_eq_true rfl⟩ h0 rfl rfl rfl rfl (Nat.le_of_ble_eq_true rfl) rfl dL_obstacle_2 (fun v σ1 hp => ?_) (fun E σ1 hx => ?_)
  · obtain ⟨x, rfl⟩ := hV v σ1 hp
    show XW p l e _ s m args below meth c P A 3 _ _ _ σ1 5 [(0, _), (1, _)] (.int x :: _)
    exact XW.tret (X_iret (pc := 5) C (Nat.le_of_ble_eq_true rfl) (Nat.le_of_ble_eq_true rfl) dL_obstacle_5 (Or.inl ⟨x, hp, rfl⟩))
  · obtain rfl := hE E σ1 hx
    refine X_catch (pc := 2) C hT [] ⟨0, 5, 6, 19⟩ [] rfl (fun z hz => nomatch hz) (by decide) (by decide) m_l_L_19 (by decide) (fun q => ?_)
    show XW p l e _ s m args below meth c P A 3 _ _ _ σ1 6 [(0, _), (1, _)] [.ref q]
    refine X_astore_n (pc := 6) (lv1 := [(0, _), (1, _), (2, _)]) C 2 dL_obstacle_6 rfl (by decide) rfl ?_
    refine X_bipush (pc := 7) (v := (-17)) C dL_obstacle_7 (by decide) ?_
    exact XW.tret (X_iret (pc := 9) C (Nat.le_of_ble_eq_true rfl) (Nat.le_of_ble_eq_true rfl) dL_obstacle_9 (Or.inr ⟨_, hx, by rw [eN_IO]⟩))

theorem m_h_L_queuePlace : Cond.codeWith yL_queuePlace cL_queuePlace 3 (some .int) [(0, 5, 6, 19)] ∈ xTB := xm 887 (by decide +kernel) (by decide +kernel)
set_option maxRecDepth 100000 in
set_option maxHeartbeats 4000000 in
theorem c_L_queuePlace (l : Launch) (P : XP) (σ : XS) (h0 : (.inr 0 : XI) ∈ P.2.2.2.1) (a0 : Int32) {Post : Option Value → XS → Prop} {XPost : String → XS → Prop} (hM : XTM l yX6_queuePlace cX6_queuePlace 2 (some .int) rm_X6_queuePlace P [.ref (P.2.2.1 (.inr 0)), .int a0] σ Post XPost) (hV : ∀ v τ, Post v τ → ∃ x : Int32, v = some (.int x)) (hE : ∀ E τ, XPost E τ → E = eIO) : XMH l yL_queuePlace cL_queuePlace 3 [(0, 5, 6, 19)] (rmL 2 rm_X6_queuePlace) P [.ref (P.2.2.1 (.inr 0)), .int a0] σ (LW Post XPost) := by
  refine XMH.of (by decide +kernel) (Nat.le_of_ble_eq_true rfl) (fun p e s m args below meth c A C hT => ?_)
  replace C : XC p s m args meth c P A 3 RL cL_queuePlace (some .int) := C
  refine XW.eq (lv' := [(0, _), (1, _)]) rfl rfl rfl ?_
  refine X_aload_n (pc := 0) C 0 dL_queuePlace_0 rfl rfl ?_
  refine X_iload_n (pc := 1) C 1 dL_queuePlace_1 rfl rfl ?_
  skip
  refine X_callVT (i := .inr 0) (ci := 6) (n := 1) (pc := 2) C [.int a0] hM m_c_X6_queuePlace m_m_L_95 m_i_X6_queuePlace m_s_X6_queuePlace m_n_X6 ⟨by decide +kernel, by decide +kernel, by decide +kernel⟩ ⟨Nat.le_of_ble_eq_true rfl, Nat.le_of_ble_eq_true rfl⟩ ⟨Nat.le_of_ble_eq_true rfl, Nat.le_of_ble_eq_true rfl⟩ h0 rfl rfl rfl rfl (Nat.le_of_ble_eq_true rfl) rfl dL_queuePlace_2 (fun v σ1 hp => ?_) (fun E σ1 hx => ?_)
  · obtain ⟨x, rfl⟩ := hV v σ1 hp
    show XW p l e _ s m args below meth c P A 3 _ _ _ σ1 5 [(0, _), (1, _)] (.int x :: _)
    exact XW.tret (X_iret (pc := 5) C (Nat.le_of_ble_eq_true rfl) (Nat.le_of_ble_eq_true rfl) dL_queuePlace_5 (Or.inl ⟨x, hp, rfl⟩))
  · obtain rfl := hE E σ1 hx
    refine X_catch (pc := 2) C hT [] ⟨0, 5, 6, 19⟩ [] rfl (fun z hz => nomatch hz) (by decide) (by decide) m_l_L_19 (by decide) (fun q => ?_)
    show XW p l e _ s m args below meth c P A 3 _ _ _ σ1 6 [(0, _), (1, _)] [.ref q]
    refine X_astore_n (pc := 6) (lv1 := [(0, _), (1, _), (2, _)]) C 2 dL_queuePlace_6 rfl (by decide) rfl ?_
    refine X_bipush (pc := 7) (v := (-17)) C dL_queuePlace_7 (by decide) ?_
    exact XW.tret (X_iret (pc := 9) C (Nat.le_of_ble_eq_true rfl) (Nat.le_of_ble_eq_true rfl) dL_queuePlace_9 (Or.inr ⟨_, hx, by rw [eN_IO]⟩))

theorem m_h_L_startsIfEnded : Cond.codeWith yL_startsIfEnded cL_startsIfEnded 3 (some .int) [(0, 5, 6, 19)] ∈ xTB := xm 1076 (by decide +kernel) (by decide +kernel)
set_option maxRecDepth 100000 in
set_option maxHeartbeats 4000000 in
theorem c_L_startsIfEnded (l : Launch) (P : XP) (σ : XS) (h0 : (.inr 0 : XI) ∈ P.2.2.2.1) (a0 : Int32) {Post : Option Value → XS → Prop} {XPost : String → XS → Prop} (hM : XTM l yX6_startsIfEnded cX6_startsIfEnded 2 (some .int) rm_X6_startsIfEnded P [.ref (P.2.2.1 (.inr 0)), .int a0] σ Post XPost) (hV : ∀ v τ, Post v τ → ∃ x : Int32, v = some (.int x)) (hE : ∀ E τ, XPost E τ → E = eIO) : XMH l yL_startsIfEnded cL_startsIfEnded 3 [(0, 5, 6, 19)] (rmL 2 rm_X6_startsIfEnded) P [.ref (P.2.2.1 (.inr 0)), .int a0] σ (LW Post XPost) := by
  refine XMH.of (by decide +kernel) (Nat.le_of_ble_eq_true rfl) (fun p e s m args below meth c A C hT => ?_)
  replace C : XC p s m args meth c P A 3 RL cL_startsIfEnded (some .int) := C
  refine XW.eq (lv' := [(0, _), (1, _)]) rfl rfl rfl ?_
  refine X_aload_n (pc := 0) C 0 dL_startsIfEnded_0 rfl rfl ?_
  refine X_iload_n (pc := 1) C 1 dL_startsIfEnded_1 rfl rfl ?_
  skip
  refine X_callVT (i := .inr 0) (ci := 6) (n := 1) (pc := 2) C [.int a0] hM m_c_X6_startsIfEnded m_m_L_98 m_i_X6_startsIfEnded m_s_X6_startsIfEnded m_n_X6 ⟨by decide +kernel, by decide +kernel, by decide +kernel⟩ ⟨Nat.le_of_ble_eq_true rfl, Nat.le_of_ble_eq_true rfl⟩ ⟨Nat.le_of_ble_eq_true rfl, Nat.le_of_ble_eq_true rfl⟩ h0 rfl rfl rfl rfl (Nat.le_of_ble_eq_true rfl) rfl dL_startsIfEnded_2 (fun v σ1 hp => ?_) (fun E σ1 hx => ?_)
  · obtain ⟨x, rfl⟩ := hV v σ1 hp
    show XW p l e _ s m args below meth c P A 3 _ _ _ σ1 5 [(0, _), (1, _)] (.int x :: _)
    exact XW.tret (X_iret (pc := 5) C (Nat.le_of_ble_eq_true rfl) (Nat.le_of_ble_eq_true rfl) dL_startsIfEnded_5 (Or.inl ⟨x, hp, rfl⟩))
  · obtain rfl := hE E σ1 hx
    refine X_catch (pc := 2) C hT [] ⟨0, 5, 6, 19⟩ [] rfl (fun z hz => nomatch hz) (by decide) (by decide) m_l_L_19 (by decide) (fun q => ?_)
    show XW p l e _ s m args below meth c P A 3 _ _ _ σ1 6 [(0, _), (1, _)] [.ref q]
    refine X_astore_n (pc := 6) (lv1 := [(0, _), (1, _), (2, _)]) C 2 dL_startsIfEnded_6 rfl (by decide) rfl ?_
    refine X_bipush (pc := 7) (v := (-17)) C dL_startsIfEnded_7 (by decide) ?_
    exact XW.tret (X_iret (pc := 9) C (Nat.le_of_ble_eq_true rfl) (Nat.le_of_ble_eq_true rfl) dL_startsIfEnded_9 (Or.inr ⟨_, hx, by rw [eN_IO]⟩))

theorem m_h_L_listenersBetween : Cond.codeWith yL_listenersBetween cL_listenersBetween 4 (some .int) [(0, 6, 7, 19), (0, 6, 11, 13)] ∈ xTB := xm 1039 (by decide +kernel) (by decide +kernel)
set_option maxRecDepth 100000 in
set_option maxHeartbeats 4000000 in
theorem c_L_listenersBetween (l : Launch) (P : XP) (σ : XS) (h0 : (.inr 0 : XI) ∈ P.2.2.2.1) (a0 a1 : Int32) {Post : Option Value → XS → Prop} {XPost : String → XS → Prop} (hM : XTM l yX6_listenersBetween cX6_listenersBetween 3 (some .int) rm_X6_listenersBetween P [.ref (P.2.2.1 (.inr 0)), .int a0, .int a1] σ Post XPost) (hV : ∀ v τ, Post v τ → ∃ x : Int32, v = some (.int x)) (hE : ∀ E τ, XPost E τ → E = eIO ∨ E = eIA) : XMH l yL_listenersBetween cL_listenersBetween 4 [(0, 6, 7, 19), (0, 6, 11, 13)] (rmL 3 rm_X6_listenersBetween) P [.ref (P.2.2.1 (.inr 0)), .int a0, .int a1] σ (LW Post XPost) := by
  refine XMH.of (by decide +kernel) (Nat.le_of_ble_eq_true rfl) (fun p e s m args below meth c A C hT => ?_)
  replace C : XC p s m args meth c P A 4 RL cL_listenersBetween (some .int) := C
  refine XW.eq (lv' := [(0, _), (1, _), (2, _)]) rfl rfl rfl ?_
  refine X_aload_n (pc := 0) C 0 dL_listenersBetween_0 rfl rfl ?_
  refine X_iload_n (pc := 1) C 1 dL_listenersBetween_1 rfl rfl ?_
  refine X_iload_n (pc := 2) C 2 dL_listenersBetween_2 rfl rfl ?_
  skip
  refine X_callVT (i := .inr 0) (ci := 6) (n := 2) (pc := 3) C [.int a0, .int a1] hM m_c_X6_listenersBetween m_m_L_101 m_i_X6_listenersBetween m_s_X6_listenersBetween m_n_X6 ⟨by decide +kernel, by decide +kernel, by decide +kernel⟩ ⟨Nat.le_of_ble_eq_true rfl, Nat.le_of_ble_eq_true rfl⟩ ⟨Nat.le_of_ble_eq_true rfl, Nat.le_of_ble_eq_true rfl⟩ h0 rfl rfl rfl rfl (Nat.le_of_ble_eq_true rfl) rfl dL_listenersBetween_3 (fun v σ1 hp => ?_) (fun E σ1 hx => ?_)
  · obtain ⟨x, rfl⟩ := hV v σ1 hp
    show XW p l e _ s m args below meth c P A 4 _ _ _ σ1 6 [(0, _), (1, _), (2, _)] (.int x :: _)
    exact XW.tret (X_iret (pc := 6) C (Nat.le_of_ble_eq_true rfl) (Nat.le_of_ble_eq_true rfl) dL_listenersBetween_6 (Or.inl ⟨x, hp, rfl⟩))
  · rcases hE E σ1 hx with rfl | rfl
    · refine X_catch (pc := 3) C hT [] ⟨0, 6, 7, 19⟩ [⟨0, 6, 11, 13⟩] rfl (fun z hz => nomatch hz) (by decide) (by decide) m_l_L_19 (by decide) (fun q => ?_)
      show XW p l e _ s m args below meth c P A 4 _ _ _ σ1 7 [(0, _), (1, _), (2, _)] [.ref q]
      refine X_astore_n (pc := 7) (lv1 := [(0, _), (1, _), (2, _), (3, _)]) C 3 dL_listenersBetween_7 rfl (by decide) rfl ?_
      refine X_bipush (pc := 8) (v := (-17)) C dL_listenersBetween_8 (by decide) ?_
      exact XW.tret (X_iret (pc := 10) C (Nat.le_of_ble_eq_true rfl) (Nat.le_of_ble_eq_true rfl) dL_listenersBetween_10 (Or.inr ⟨_, hx, by rw [eN_IO]⟩))
    · refine X_catch (pc := 3) C hT [⟨0, 6, 7, 19⟩] ⟨0, 6, 11, 13⟩ [] rfl (fun z hz => by obtain rfl := List.mem_singleton.mp hz; exact ⟨by decide, _, m_l_L_19, by decide⟩) (by decide) (by decide) m_l_L_13 (by decide) (fun q => ?_)
      show XW p l e _ s m args below meth c P A 4 _ _ _ σ1 11 [(0, _), (1, _), (2, _)] [.ref q]
      refine X_astore_n (pc := 11) (lv1 := [(0, _), (1, _), (2, _), (3, _)]) C 3 dL_listenersBetween_11 rfl (by decide) rfl ?_
      refine X_bipush (pc := 12) (v := (-18)) C dL_listenersBetween_12 (by decide) ?_
      exact XW.tret (X_iret (pc := 14) C (Nat.le_of_ble_eq_true rfl) (Nat.le_of_ble_eq_true rfl) dL_listenersBetween_14 (Or.inr ⟨_, hx, by rw [eN_IA]⟩))

end XP75

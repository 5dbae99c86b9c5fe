/-! THROWS: contracts of methods that return or throw; what the face asks first -/
def XXC (P : XP) (A : Nat → Prop) (XPost : String → XS → Prop) : String → State → State → Prop := fun E st t => (∃ σ1 : XS, XPost E σ1 ∧ va_P P.1 vwCl (xw P σ1) t.heap) ∧ va_F A st t
def XTM (l : Launch) (y : MethodName) (cc : ByteArray) (nL : Nat) (ret : Option FieldType) (rm : Room) (P : XP) (as : List Value) (σ : XS) (Post : Option Value → XS → Prop) (XPost : String → XS → Prop) : Prop :=
  ∀ sz : Nat, vx_Met l y (Cond.code y cc nL ret :: xTB) rm (va_Pc as (XPre P σ sz)) (XQ P (va_A (xw P σ) sz) Post) (XXC P (va_A (xw P σ) sz) XPost) rm.cells rm.slots (va_A (xw P σ) sz)
/-- .. where the outcome (a value, or the name of what is thrown) and the world are known -/
abbrev XO : Type := Option Value ⊕ String
abbrev XTF (l : Launch) (y : MethodName) (cc : ByteArray) (nL : Nat) (ret : Option FieldType) (rm : Room) (P : XP) (as : List Value) (σ : XS) (o : XO) (σ1 : XS) : Prop := XTM l y cc nL ret rm P as σ (fun v τ => o = .inl v ∧ τ = σ1) (fun E τ => o = .inr E ∧ τ = σ1)
/-- at pc something of class E is on its way -/
def XWX (p : Program) (l : Launch) (e : Env) (R : Room) (s : State) (m : MethodId) (args : Array Value) (below : List Frame) (meth : Method) (c : Code) (P : XP) (A : Nat → Prop) (nL cells slots : Nat) (Q : State → Prop) (σ : XS) (pc : Nat) (lv : List (Nat × Value)) (E : String) : Prop :=
  ∀ (H : Heap) (locs : List Loc) (ls : Array Slot) (rest : List Value) (q : Addr) (ce : Cell), va_P P.1 vwCl (xw P σ) H → va_S A s.heap H locs → lv_has ls nL lv → H[q]? = some ce → ce.vm = .none → s.vm.findClass E = some ce.cls → vx_W p l e R s m args below meth c H locs cells slots Q (F0 m pc ls rest) q
def oth (r : XO) (v : XO) : XO := match r with
  | .inr E => .inr E
  | .inl _ => v
theorem oth_e {r v : XO} {E : String} (h : r = .inr E) : oth r v = .inr E := by rw [h]; rfl
theorem oth_v {r v : XO} {x : Option Value} (h : r = .inl x) : oth r v = v := by rw [h]; rfl
abbrev eIO : String := "java/lang/IndexOutOfBoundsException"
abbrev eIA : String := "java/lang/IllegalArgumentException"
abbrev eIS : String := "java/lang/IllegalStateException"
abbrev eSup : List String := ["java/lang/RuntimeException", "java/lang/Exception"]
theorem fit_IndexOutOfBoundsException : Bundle.fit eIO = true := by decide +kernel
theorem fit_IllegalArgumentException : Bundle.fit eIA = true := by decide +kernel
theorem fit_IllegalStateException : Bundle.fit eIS = true := by decide +kernel
theorem fit_n : ∀ n ∈ eSup, Bundle.fit n = true := by decide +kernel
theorem tw_of {L : List Cond} (ps : List Nat) (hp : L = ps.filterMap (fun i => lw_tb2[i]?)) (h : L.all (fun w => goodWord w || decide (w ∈ xXw)) = true) : ∀ w ∈ L, w ∈ xTB ∨ w ∈ xXw := by
  intro w hw
  have h1 := List.all_eq_true.mp h w hw
  rw [Bool.or_eq_true] at h1
  rcases h1 with h1 | h1
  · rw [hp] at hw
    obtain ⟨i, -, hi⟩ := List.mem_filterMap.mp hw
    exact Or.inl (List.mem_filter.mpr ⟨List.mem_of_getElem? hi, h1⟩)
  · exact Or.inr (of_decide_eq_true h1)
theorem tw_332 : ∀ w ∈ vx_atS RX6 332 eIO eSup, w ∈ xTB ∨ w ∈ xXw := tw_of [27, 660, 669, 673, 676, 678, 661, 662, 39, 40, 663, 668, 674, 694, 650, 695, 652, 696, 654, 664, 666, 656, 690, 691, 693, 656, 796, 797, 798, 684, 642, 684, 685, 686, 687, 644, 687, 688, 689, 690, 646, 795, 786, 787, 788, 672, 789, 790, 791, 792, 659, 658, 793] (by decide +kernel) (by decide +kernel)
theorem tw_89 : ∀ w ∈ vx_atS RX6 89 eIA eSup, w ∈ xTB ∨ w ∈ xXw := tw_of [27, 660, 669, 673, 676, 678, 661, 662, 39, 40, 663, 668, 674, 694, 650, 695, 652, 696, 654, 664, 666, 656, 690, 691, 693, 656, 681, 682, 683, 684, 642, 684, 685, 686, 687, 644, 687, 688, 689, 690, 646, 680, 639, 640, 647, 648, 649, 651, 653, 655, 659, 658, 657] (by decide +kernel) (by decide +kernel)
theorem tw_153 : ∀ w ∈ vx_atS RX6 153 eIS eSup, w ∈ xTB ∨ w ∈ xXw := tw_of [27, 660, 669, 673, 676, 678, 661, 662, 39, 40, 663, 668, 674, 694, 650, 695, 652, 696, 654, 664, 666, 656, 690, 691, 693, 656, 717, 718, 719, 684, 642, 684, 685, 686, 687, 644, 687, 688, 689, 690, 646, 716, 707, 708, 709, 671, 710, 711, 712, 713, 659, 658, 714] (by decide +kernel) (by decide +kernel)
theorem xTB_ot : ∀ w, w ∈ xTB ∨ w ∈ xXw → vx_ot w = true := fun w hw => by
  unfold vx_ot
  rcases hw with hw | hw
  · rw [(List.mem_filter.mp hw).2, Bool.or_true]
  · rw [xXw_t w hw, Bool.true_or]
/-- a requirement: nothing, or what is thrown -/
def rq (c : Prop) [Decidable c] (E : String) : XO := if c then .inl none else .inr E
theorem rq_y {c : Prop} [Decidable c] {E : String} {v : Option Value} (h : rq c E = .inl v) : c := by
  unfold rq at h
  by_cases g : c
  · exact g
  · rw [if_neg g] at h; cases h
theorem rq_t {c : Prop} [Decidable c] {E : String} (h : c) : rq c E = .inl none := if_pos h
theorem rq_f {c : Prop} [Decidable c] {E : String} (h : ¬ c) : rq c E = .inr E := if_neg h
section XP20
variable {p : Program} {l : Launch} {e : Env} {R : Room} {s : State} {m : MethodId} {args : Array Value} {below : List Frame} {meth : Method} {c : Code} {P : XP} {A : Nat → Prop} {nL cells slots : Nat} {Q : State → Prop} {cc : ByteArray} {ret : Option FieldType} {σ : XS} {pc : Nat} {lv : List (Nat × Value)} {st : List Value} {own : String}
theorem XTM.of {y : MethodName} {rm : Room} {as : List Value} {Post : Option Value → XS → Prop} {XPost : String → XS → Prop} (hy : plainName y.cls = true) (hn : (lg_sl as).length ≤ nL)
    (body : ∀ (p : Program) (e : Env) (s : State) (m : MethodId) (args : Array Value) (below : List Frame) (meth : Method) (c : Code) (A : Nat → Prop), XC p s m args meth c P A nL y.cls cc ret → (∀ x ∈ c.exceptionTable.toList, False) → XW p l e rm s m args below meth c P A nL 0 0 (vx_MQ below (XQ P A Post) (XXC P A XPost) args s rm.cells rm.slots A) σ 0 (lv_args 0 as) []) : XTM l y cc nL ret rm P as σ Post XPost := by
  intro sz
  refine vx_ofW (cc := cc) (maxL := nL) (ret := ret) hy rfl ?_
  intro p e s m args below meth c s₁ B hml hT hv
  obtain ⟨rfl, hsz, hP, hK, hD0, hE⟩ := hv
  have hts := atoms_spec (ws := Cond.code y cc nL ret :: xTB) B.pre
  have hown : s.vm.findClass y.cls = some m.cls := findClass_of_methodNamed B.named
  subst hsz
  have hD : va_D (va_A (xw P σ) s.heap.size) (xw P σ) := hD0.self
  have hl := lv_entry as (n := nL) hn
  rw [lg_entry_eq]
  exact body p e s m _ below meth c _ ⟨B.exec, B.bytes, hml, hown, fun w hw => hts w (List.mem_cons_of_mem _ hw), hK, fun σ1 => xw_D hD σ1, fun q h => Or.inr h, B.returns, B.notSynchronized, hE⟩ hT s.heap [] _ hP va_S.rf hl
theorem XW.tret {Post : Option Value → XS → Prop} {XPost : String → XS → Prop} {mc ms : Nat} (k : XW p l e R s m args below meth c P A nL cells slots (MQ below (XQ P A Post) args s mc ms A) σ pc lv st) : XW p l e R s m args below meth c P A nL cells slots (vx_MQ below (XQ P A Post) (XXC P A XPost) args s mc ms A) σ pc lv st := fun H locs ls hP hS hl => vx_ret (k H locs ls hP hS hl)
theorem X_out {Post : Option Value → XS → Prop} {XPost : String → XS → Prop} {mc ms : Nat} {E : String} (C : XC p s m args meth c P A nL own cc ret) (hT : ∀ x ∈ c.exceptionTable.toList, False) (hc : cells ≤ mc) (hs : slots ≤ ms) (hx : XPost E σ) : XWX p l e R s m args below meth c P A nL cells slots (vx_MQ below (XQ P A Post) (XXC P A XPost) args s mc ms A) σ pc lv E :=
  fun H locs ls rest q ce hP hS hl hce hcv hcl => vx_out (fun x hx => (hT x hx).elim) C.hlk hce hcv hcl (fun t ht _ => ⟨⟨σ, hx, by rw [ht]; exact hP⟩, hS.F ht⟩) hS.2.2 hc hs
theorem X_thrS {Post : Option Value → XS → Prop} {XPost : String → XS → Prop} {mc ms : Nat} (C : XC p s m args meth c P A nL own cc ret) (hT : ∀ x ∈ c.exceptionTable.toList, False) (hl0 : l.stackTraces = false) {cls text : String} {ik is ic q : Nat} {names : List String} (hcls : Bundle.fit cls = true) (hnames : ∀ n ∈ names, Bundle.fit n = true) (hk : Cond.classLink own ik cls ∈ xTB) (hini : Cond.initialized cls ∈ xTB) (htx : (own, is, text, q) ∈ xRl) (hat : ∀ w ∈ vx_atS own ic cls names, w ∈ xTB ∨ w ∈ xXw)
    (d0 : decode cc pc = .ok (.new ik, 3)) (d3 : decode cc (pc + 3) = .ok (.dup, 1)) (d4 : decode cc (pc + 4) = .ok (.ldc is, 2)) (d6 : decode cc (pc + 6) = .ok (.invokespecial ic, 3)) (d9 : decode cc (pc + 9) = .ok (.athrow, 1))
    (hfr : names.length + 3 < R.frames) (hlo : (st.map fun v => v.category).sum + (13 * (names.length + 1) + 43) ≤ R.locals) (hc1 : cells + 1 ≤ R.cells) (hs1 : slots + 6 ≤ R.slots) (hc : cells + 1 ≤ mc) (hs : slots + 6 ≤ ms) (hx : XPost cls σ) : XW p l e R s m args below meth c P A nL cells slots (vx_MQ below (XQ P A Post) (XXC P A XPost) args s mc ms A) σ pc lv st := by
  intro H locs ls hP hS hl
  exact vx_throwS C.1 C.2.1 hl0 C.2.2.2.1 hcls hnames (C.hts _ hk) (C.hts _ hini) (C.hE.2.2.1 _ htx) (fun w hw => (hat w hw).elim (C.hts w) (fun h => va_Nw.use (xXw_t w h) (C.hE.2.2.2.2.2.1 w h))) (fun w hw => by
    rcases List.mem_cons.mp hw with rfl | hw
    · exact xTB_ot _ (Or.inl hk)
    · rcases List.mem_cons.mp hw with rfl | hw
      · exact xTB_ot _ (Or.inl hini)
      · exact xTB_ot _ (hat w hw)) C.hE.2.2.2.1 C.hE.2.2.2.2.1 hS (hl.1.trans C.2.2.1.symm) d0 d3 d4 d6 d9 (fun x hx => (hT x hx).elim) hfr hlo hc1 hs1 C.hlk
    (fun t _ hz hq => ⟨⟨σ, hx, hP.kept (fun k q9 hk => hq _ (vx_lt hP hk))⟩, Nat.le_trans hS.1 hz, fun q9 h1 h2 => by rw [hq q9 (Nat.lt_of_lt_of_le h1 hS.1)]; exact hS.2.1 q9 h1 h2⟩) hS.2.2 hc hs
theorem X_thrW {Post : Option Value → XS → Prop} {XPost : String → XS → Prop} {mc ms : Nat} (C : XC p s m args meth c P A nL own cc ret) (hT : ∀ x ∈ c.exceptionTable.toList, False) (hl0 : l.stackTraces = false) {cls text : String} {ik is ic q : Nat} {names : List String} (hcls : Bundle.fit cls = true) (hnames : ∀ n ∈ names, Bundle.fit n = true) (hk : Cond.classLink own ik cls ∈ xTB) (hini : Cond.initialized cls ∈ xTB) (htx : (own, is, text, q) ∈ xRl) (hat : ∀ w ∈ vx_atS own ic cls names, w ∈ xTB ∨ w ∈ xXw)
    (d0 : decode cc pc = .ok (.new ik, 3)) (d3 : decode cc (pc + 3) = .ok (.dup, 1)) (d4 : decode cc (pc + 4) = .ok (.ldc_w is, 3)) (d7 : decode cc (pc + 7) = .ok (.invokespecial ic, 3)) (d10 : decode cc (pc + 10) = .ok (.athrow, 1))
    (hfr : names.length + 3 < R.frames) (hlo : (st.map fun v => v.category).sum + (13 * (names.length + 1) + 43) ≤ R.locals) (hc1 : cells + 1 ≤ R.cells) (hs1 : slots + 6 ≤ R.slots) (hc : cells + 1 ≤ mc) (hs : slots + 6 ≤ ms) (hx : XPost cls σ) : XW p l e R s m args below meth c P A nL cells slots (vx_MQ below (XQ P A Post) (XXC P A XPost) args s mc ms A) σ pc lv st := by
  intro H locs ls hP hS hl
  exact vx_throwSW C.1 C.2.1 hl0 C.2.2.2.1 hcls hnames (C.hts _ hk) (C.hts _ hini) (C.hE.2.2.1 _ htx) (fun w hw => (hat w hw).elim (C.hts w) (fun h => va_Nw.use (xXw_t w h) (C.hE.2.2.2.2.2.1 w h))) (fun w hw => by
    rcases List.mem_cons.mp hw with rfl | hw
    · exact xTB_ot _ (Or.inl hk)
    · rcases List.mem_cons.mp hw with rfl | hw
      · exact xTB_ot _ (Or.inl hini)
      · exact xTB_ot _ (hat w hw)) C.hE.2.2.2.1 C.hE.2.2.2.2.1 hS (hl.1.trans C.2.2.1.symm) d0 d3 d4 d7 d10 (fun x hx => (hT x hx).elim) hfr hlo hc1 hs1 C.hlk
    (fun t _ hz hq => ⟨⟨σ, hx, hP.kept (fun k q9 hk => hq _ (vx_lt hP hk))⟩, Nat.le_trans hS.1 hz, fun q9 h1 h2 => by rw [hq q9 (Nat.lt_of_lt_of_le h1 hS.1)]; exact hS.2.1 q9 h1 h2⟩) hS.2.2 hc hs
theorem X_afterT {H : Heap} {locs : List Loc} {ls : Array Slot} {mc ms : Nat} {st0 st1 : List Value} {Post : Option Value → XS → Prop} {XPost : String → XS → Prop} {a : Array Value} (C : XC p s m args meth c P A nL own cc ret) (hS : va_S A s.heap H locs) (hl : lv_has ls nL lv)
    (hr : vx_Run p l e R s m args below meth c H locs cells slots mc ms (F0 m pc ls st0) st1 (XQ P (va_A (xw P σ) H.size) Post a) (XXC P (va_A (xw P σ) H.size) XPost) (va_A (xw P σ) H.size))
    (k : ∀ (v : Option Value) (σ1 : XS), Post v σ1 → XW p l e R s m args below meth c P A nL (cells + mc) (slots + ms) Q σ1 (pc + 3) lv (v.toList ++ st1))
    (kx : ∀ (E : String) (σ1 : XS), XPost E σ1 → XWX p l e R s m args below meth c P A nL (cells + mc) (slots + ms) Q σ1 pc lv E) : W p l e R s m args below meth c H locs cells slots Q (F0 m pc ls st0) := by
  intro T hT X
  have hF := xw_free (σ := σ) C.hD C.hA hS
  rcases hr T hT X with ⟨v, st₀, t, T', L, h0, X', hL, e1, e2, ⟨⟨v1, σ1, hv, hp, hPt⟩, hz, hk⟩, stp⟩ | ⟨q9, st₀, t, T', L, E, ce, h0, X', hL, e1, e2, ⟨⟨σ1, hp, hPt⟩, hz, hk⟩, hce, hcv, hcl, stp⟩
  · cases hv
    rw [h0] at hz hk
    obtain ⟨t2, a1, b1⟩ := k v σ1 hp T'.heap (locs ++ L) ls (by rw [e1]; exact hPt)
      ⟨Nat.le_trans hS.1 (by rw [e1]; exact hz), fun q h1 h2 => by rw [e1, hk q (Nat.lt_of_lt_of_le h1 hS.1) (fun z => h2 (hF q z))]; exact hS.2.1 q h1 h2, fun q hq => by
        rcases List.mem_append.mp hq with h | h
        · exact hS.2.2 q h
        · exact hF _ (hL q h)⟩ hl T' rfl X'
    exact ⟨t2, stp t2 a1, b1⟩
  · rw [h0] at hz hk
    obtain ⟨t2, a1, b1⟩ := kx E σ1 hp T'.heap (locs ++ L) ls st1 q9 ce (by rw [e1]; exact hPt)
      ⟨Nat.le_trans hS.1 (by rw [e1]; exact hz), fun q h1 h2 => by rw [e1, hk q (Nat.lt_of_lt_of_le h1 hS.1) (fun z => h2 (hF q z))]; exact hS.2.1 q h1 h2, fun q hq => by
        rcases List.mem_append.mp hq with h | h
        · exact hS.2.2 q h
        · exact hF _ (hL q h)⟩ hl (by rw [e1]; exact hce) hcv hcl T' rfl X'
    exact ⟨t2, stp.trans a1, b1⟩
theorem X_callVT (C : XC p s m args meth c P A nL own cc ret) {y : MethodName} {cy : ByteArray} {ny : Nat} {ry : Option FieldType} {rm : Room} {i : XI} {ci : Nat} {tm : List (Option XI)} {q9 : vw_C} (As : List Value) {n index : Nat} {Post : Option Value → XS → Prop} {XPost : String → XS → Prop} (hM : XTM l y cy ny ry rm P (.ref (P.2.2.1 i) :: As) σ Post XPost) (hc : Cond.code y cy ny ry ∈ xTB) (hlk : Cond.methodLink own index y ∈ xTB) (hin : Cond.instanceMethod y ∈ xTB) (hse : Cond.selects y.cls y y ∈ xTB) (hini : Cond.initialized y.cls ∈ xTB) (hd : y.cls ≠ "java/lang/invoke/MethodHandle" ∧ y.cls ≠ "java/lang/invoke/VarHandle" ∧ (parseMethodDescriptor y.desc).map (fun d => d.parameters.length) = some n) (hR : rm.frames + 1 ≤ R.frames ∧ 8 + (ny + 11) + rm.locals ≤ R.locals) (hcl : cells + rm.cells ≤ R.cells ∧ slots + rm.slots ≤ R.slots)
    (hi : i ∈ P.2.2.2.1) (hs : xsh i = .inl (ci, tm)) (hci : vwCl[ci]? = some q9) (hq : q9.1 = y.cls) (hn : As.length = n) (hst : (st.map fun v => v.category).sum ≤ 8) {st0 : List Value} (h0 : st0 = As.reverse ++ .ref (P.2.2.1 i) :: st) (d : decode cc pc = .ok (.invokevirtual index, 3)) (k : ∀ (v : Option Value) (σ1 : XS), Post v σ1 → XW p l e R s m args below meth c P A nL (cells + rm.cells) (slots + rm.slots) Q σ1 (pc + 3) lv (v.toList ++ st))
    (kx : ∀ (E : String) (σ1 : XS), XPost E σ1 → XWX p l e R s m args below meth c P A nL (cells + rm.cells) (slots + rm.slots) Q σ1 pc lv E) : XW p l e R s m args below meth c P A nL cells slots Q σ pc lv st0 := by
  intro H locs ls hP hS hl
  subst h0
  obtain ⟨q, hqq⟩ := xw_get (σ := σ) hi
  rw [xce_o hs] at hqq
  have hrecv := va_recv C.hK hP hci hqq
  rw [hq] at hrecv
  exact X_afterT (σ := σ) C hS hl (vx_runV (C := y.cls) (As := As) (rest := st) ⟨C.1, C.2.1, C.2.2.1, C.2.2.2.1, C.hts⟩ (hM H.size) ⟨callB_of n C.hts (xGood hc) rfl rfl rfl (C.hts _ hini) (C.hts _ hlk) hd hR, C.hts _ hin, C.hts _ hse⟩ ⟨xBlind, hrecv, fun U hU hW => ⟨rfl, xPre_at C hP hS hU hW⟩⟩ rfl hn hl.1 rfl (lv_room hst) d hcl) k kx
/-- a requirement asked: it answers nothing, or throws; nothing changes -/
theorem X_reqG (C : XC p s m args meth c P A nL own cc ret) {y : MethodName} {cy : ByteArray} {ny : Nat} {ry : Option FieldType} {rm : Room} {i : XI} {ci : Nat} {tm : List (Option XI)} {q9 : vw_C} (As : List Value) {n index : Nat} {o : XO} (hM : XTF l y cy ny ry rm P (.ref (P.2.2.1 i) :: As) σ o σ ∧ (∀ v, o = .inl v → v = none)) (hc : Cond.code y cy ny ry ∈ xTB) (hlk : Cond.methodLink own index y ∈ xTB) (hin : Cond.instanceMethod y ∈ xTB) (hse : Cond.selects y.cls y y ∈ xTB) (hini : Cond.initialized y.cls ∈ xTB) (hd : y.cls ≠ "java/lang/invoke/MethodHandle" ∧ y.cls ≠ "java/lang/invoke/VarHandle" ∧ (parseMethodDescriptor y.desc).map (fun d => d.parameters.length) = some n) (hR : rm.frames + 1 ≤ R.frames ∧ 8 + (ny + 11) + rm.locals ≤ R.locals) (hcl : cells + rm.cells ≤ R.cells ∧ slots + rm.slots ≤ R.slots)
    (hi : i ∈ P.2.2.2.1) (hs : xsh i = .inl (ci, tm)) (hci : vwCl[ci]? = some q9) (hq : q9.1 = y.cls) (hn : As.length = n) (hst : (st.map fun v => v.category).sum ≤ 8) {st0 : List Value} (h0 : st0 = As.reverse ++ .ref (P.2.2.1 i) :: st) (d : decode cc pc = .ok (.invokevirtual index, 3)) (k : o = .inl none → XW p l e R s m args below meth c P A nL (cells + rm.cells) (slots + rm.slots) Q σ (pc + 3) lv st)
    (kx : ∀ E : String, o = .inr E → XWX p l e R s m args below meth c P A nL (cells + rm.cells) (slots + rm.slots) Q σ pc lv E) : XW p l e R s m args below meth c P A nL cells slots Q σ pc lv st0 :=
  X_callVT C As hM.1 hc hlk hin hse hini hd hR hcl hi hs hci hq hn hst h0 d (fun v τ hv => by obtain ⟨e1, rfl⟩ := hv; obtain rfl := hM.2 v e1; exact k e1) (fun E τ hv => by obtain ⟨e1, rfl⟩ := hv; exact kx E e1)
theorem rq_none {c : Prop} [Decidable c] {E : String} : ∀ v, rq c E = .inl v → v = none := fun v h => by
  unfold rq at h
  by_cases g : c
  · rw [if_pos g] at h; cases h; rfl
  · rw [if_neg g] at h; cases h

def rqU (σ : XS) (x : Int32) : XO := rq (xok x (nuN σ 0)) eIO
def rqC (σ : XS) (x : Int32) : XO := rq (xok x (ncN σ 0)) eIO
def rqL (σ : XS) (x : Int32) : XO := rq (¬ x < 0 ∧ x < σ.1 (.inl (0, 0)) 4) eIO
def rqT (σ : XS) (x : Int32) : XO := rq (xok x (ntN σ 0)) eIO
def rqR (σ : XS) : XO := rq (ncN σ 0 < 40) eIS
def rqS (x : Int32) : XO := rq (xok x 2) eIA
def rqP (σ : XS) (x y : Int32) : XO := oth (rqU σ x) (oth (rqU σ y) (rq (¬ x = y) eIA))
theorem rqP_none {σ : XS} {x y : Int32} : ∀ v, rqP σ x y = .inl v → v = none := fun v h => by
  unfold rqP rqU rq at h
  by_cases g : xok x (nuN σ 0)
  · rw [if_pos g] at h
    by_cases g2 : xok y (nuN σ 0)
    · rw [if_pos g2] at h
      by_cases g3 : ¬ x = y
      · rw [if_pos g3] at h; cases h; rfl
      · rw [if_neg g3] at h; cases h
    · rw [if_neg g2] at h; cases h
  · rw [if_neg g] at h; cases h
set_option maxRecDepth 100000 in
set_option maxHeartbeats 4000000 in
theorem c_X6_requireSubscriber (l : Launch) (hl0 : l.stackTraces = false) (P : XP) (σ : XS) (h0 : xI0 P) (hb : ∀ b, b < 12 → xIn P b) (hB : Bd σ 0) (x : Int32) : XTF l yX6_requireSubscriber cX6_requireSubscriber 2 none rm_X6_requireSubscriber P [.ref (P.2.2.1 (.inr 0)), .int x] σ (rqU σ x) (σ) := by
  refine XTM.of (by decide +kernel) (Nat.le_of_ble_eq_true rfl) (fun p e s m args below meth c A C hT => ?_)
  replace C : XC p s m args meth c P A 2 RX6 cX6_requireSubscriber none := C
  refine XW.eq (lv' := [(0, _), (1, _)]) rfl rfl rfl ?_
  have hb0 : xIn P 0 := hb 0 (by decide)
  refine X_aload_n (pc := 0) C 0 dX6_requireSubscriber_0 rfl rfl ?_
  refine G_X6_12 (pc := 1) C (by assumption) dX6_requireSubscriber_1 ?_
  refine G_X6_98 (pc := 4) C (by assumption) dX6_requireSubscriber_4 ?_
  refine X_iload_n (pc := 7) C 1 dX6_requireSubscriber_7 rfl rfl ?_
  refine K_X6_325 (pc := 8) C (by assumption) (c_X5_has l P σ 0 (nuN σ 0) hb0 hB.2.1 hB.1 x) ⟨Nat.le_of_ble_eq_true rfl, Nat.le_of_ble_eq_true rfl⟩ ⟨rfl, rfl⟩ ⟨Nat.le_of_ble_eq_true rfl, Nat.le_of_ble_eq_true rfl⟩ (Nat.le_of_ble_eq_true rfl) dX6_requireSubscriber_8 ?_
  refine X_if_ne (pc := 11) C 25 dX6_requireSubscriber_11 (by decide) (fun h11 => ?_) (fun h11 => ?_)
  · skip
    exact XW.tret (X_vret (pc := 25) C (Nat.le_of_ble_eq_true rfl) (Nat.le_of_ble_eq_true rfl) dX6_requireSubscriber_25 ⟨rq_t (bz1 h11), rfl⟩)
  · skip
    exact X_thrW (pc := 14) (q := 16) C hT hl0 fit_IndexOutOfBoundsException fit_n m_l_X6_328 m_n_IndexOutOfBoundsException (List.mem_of_getElem? (i := 19) rfl) tw_332 dX6_requireSubscriber_14 dX6_requireSubscriber_17 dX6_requireSubscriber_18 dX6_requireSubscriber_21 dX6_requireSubscriber_24 (Nat.le_of_ble_eq_true rfl) (Nat.le_of_ble_eq_true rfl) (Nat.le_of_ble_eq_true rfl) (Nat.le_of_ble_eq_true rfl) (Nat.le_of_ble_eq_true rfl) (Nat.le_of_ble_eq_true rfl) ⟨rq_f (bz0 h11), rfl⟩

set_option maxRecDepth 100000 in
set_option maxHeartbeats 4000000 in
theorem c_X6_requireCall (l : Launch) (hl0 : l.stackTraces = false) (P : XP) (σ : XS) (h0 : xI0 P) (hb : ∀ b, b < 12 → xIn P b) (hB : Bd σ 0) (x : Int32) : XTF l yX6_requireCall cX6_requireCall 2 none rm_X6_requireCall P [.ref (P.2.2.1 (.inr 0)), .int x] σ (rqC σ x) (σ) := by
  refine XTM.of (by decide +kernel) (Nat.le_of_ble_eq_true rfl) (fun p e s m args below meth c A C hT => ?_)
  replace C : XC p s m args meth c P A 2 RX6 cX6_requireCall none := C
  refine XW.eq (lv' := [(0, _), (1, _)]) rfl rfl rfl ?_
  have hb0 : xIn P 0 := hb 0 (by decide)
  refine X_aload_n (pc := 0) C 0 dX6_requireCall_0 rfl rfl ?_
  refine G_X6_12 (pc := 1) C (by assumption) dX6_requireCall_1 ?_
  refine G_X6_139 (pc := 4) C (by assumption) dX6_requireCall_4 ?_
  refine X_iload_n (pc := 7) C 1 dX6_requireCall_7 rfl rfl ?_
  refine K_X6_339 (pc := 8) C (by assumption) (c_X1_has l P σ 0 (ncN σ 0) hb0 hB.2.2.2.1 hB.2.2.1 x) ⟨Nat.le_of_ble_eq_true rfl, Nat.le_of_ble_eq_true rfl⟩ ⟨rfl, rfl⟩ ⟨Nat.le_of_ble_eq_true rfl, Nat.le_of_ble_eq_true rfl⟩ (Nat.le_of_ble_eq_true rfl) dX6_requireCall_8 ?_
  refine X_if_ne (pc := 11) C 25 dX6_requireCall_11 (by decide) (fun h11 => ?_) (fun h11 => ?_)
  · skip
    exact XW.tret (X_vret (pc := 25) C (Nat.le_of_ble_eq_true rfl) (Nat.le_of_ble_eq_true rfl) dX6_requireCall_25 ⟨rq_t (bz1 h11), rfl⟩)
  · skip
    exact X_thrW (pc := 14) (q := 20) C hT hl0 fit_IndexOutOfBoundsException fit_n m_l_X6_328 m_n_IndexOutOfBoundsException (List.mem_of_getElem? (i := 23) rfl) tw_332 dX6_requireCall_14 dX6_requireCall_17 dX6_requireCall_18 dX6_requireCall_21 dX6_requireCall_24 (Nat.le_of_ble_eq_true rfl) (Nat.le_of_ble_eq_true rfl) (Nat.le_of_ble_eq_true rfl) (Nat.le_of_ble_eq_true rfl) (Nat.le_of_ble_eq_true rfl) (Nat.le_of_ble_eq_true rfl) ⟨rq_f (bz0 h11), rfl⟩

set_option maxRecDepth 100000 in
set_option maxHeartbeats 4000000 in
theorem c_X6_requireLine (l : Launch) (hl0 : l.stackTraces = false) (P : XP) (σ : XS) (h0 : xI0 P) (hb : ∀ b, b < 12 → xIn P b) (hB : Bd σ 0) (x : Int32) : XTF l yX6_requireLine cX6_requireLine 2 none rm_X6_requireLine P [.ref (P.2.2.1 (.inr 0)), .int x] σ (rqL σ x) (σ) := by
  refine XTM.of (by decide +kernel) (Nat.le_of_ble_eq_true rfl) (fun p e s m args below meth c A C hT => ?_)
  replace C : XC p s m args meth c P A 2 RX6 cX6_requireLine none := C
  refine XW.eq (lv' := [(0, _), (1, _)]) rfl rfl rfl ?_
  have hb0 : xIn P 0 := hb 0 (by decide)
  refine X_iload_n (pc := 0) C 1 dX6_requireLine_0 rfl rfl ?_
  refine X_if_lt (pc := 1) C 15 dX6_requireLine_1 (by decide) (fun h1 => ?_) (fun h1 => ?_)
  · skip
    exact X_thrW (pc := 15) (q := 28) C hT hl0 fit_IndexOutOfBoundsException fit_n m_l_X6_328 m_n_IndexOutOfBoundsException (List.mem_of_getElem? (i := 31) rfl) tw_332 dX6_requireLine_15 dX6_requireLine_18 dX6_requireLine_19 dX6_requireLine_22 dX6_requireLine_25 (Nat.le_of_ble_eq_true rfl) (Nat.le_of_ble_eq_true rfl) (Nat.le_of_ble_eq_true rfl) (Nat.le_of_ble_eq_true rfl) (Nat.le_of_ble_eq_true rfl) (Nat.le_of_ble_eq_true rfl) (by first | exact ⟨rq_f (fun q => q.1 h1), rfl⟩ | exact ⟨rq_f (fun q => h12 q.2), rfl⟩)
  · skip
    refine X_iload_n (pc := 4) C 1 dX6_requireLine_4 rfl rfl ?_
    refine X_aload_n (pc := 5) C 0 dX6_requireLine_5 rfl rfl ?_
    refine G_X6_12 (pc := 6) C (by assumption) dX6_requireLine_6 ?_
    refine G_X6_182 (pc := 9) C (by assumption) dX6_requireLine_9 ?_
    refine X_icmp_lt (pc := 12) C 26 dX6_requireLine_12 (by decide) (fun h12 => ?_) (fun h12 => ?_)
    · skip
      exact XW.tret (X_vret (pc := 26) C (Nat.le_of_ble_eq_true rfl) (Nat.le_of_ble_eq_true rfl) dX6_requireLine_26 ⟨rq_t ⟨h1, h12⟩, rfl⟩)
    · skip
      exact X_thrW (pc := 15) (q := 28) C hT hl0 fit_IndexOutOfBoundsException fit_n m_l_X6_328 m_n_IndexOutOfBoundsException (List.mem_of_getElem? (i := 31) rfl) tw_332 dX6_requireLine_15 dX6_requireLine_18 dX6_requireLine_19 dX6_requireLine_22 dX6_requireLine_25 (Nat.le_of_ble_eq_true rfl) (Nat.le_of_ble_eq_true rfl) (Nat.le_of_ble_eq_true rfl) (Nat.le_of_ble_eq_true rfl) (Nat.le_of_ble_eq_true rfl) (Nat.le_of_ble_eq_true rfl) (by first | exact ⟨rq_f (fun q => q.1 h1), rfl⟩ | exact ⟨rq_f (fun q => h12 q.2), rfl⟩)

set_option maxRecDepth 100000 in
set_option maxHeartbeats 4000000 in
theorem c_X6_requireTrunk (l : Launch) (hl0 : l.stackTraces = false) (P : XP) (σ : XS) (h0 : xI0 P) (hb : ∀ b, b < 12 → xIn P b) (hB : Bd σ 0) (x : Int32) : XTF l yX6_requireTrunk cX6_requireTrunk 2 none rm_X6_requireTrunk P [.ref (P.2.2.1 (.inr 0)), .int x] σ (rqT σ x) (σ) := by
  refine XTM.of (by decide +kernel) (Nat.le_of_ble_eq_true rfl) (fun p e s m args below meth c A C hT => ?_)
  replace C : XC p s m args meth c P A 2 RX6 cX6_requireTrunk none := C
  refine XW.eq (lv' := [(0, _), (1, _)]) rfl rfl rfl ?_
  have hb0 : xIn P 0 := hb 0 (by decide)
  have hnt := hB.2.2.2.2.2
  refine X_iload_n (pc := 0) C 1 dX6_requireTrunk_0 rfl rfl ?_
  refine X_if_lt (pc := 1) C 15 dX6_requireTrunk_1 (by decide) (fun h1 => ?_) (fun h1 => ?_)
  · skip
    exact X_thrW (pc := 15) (q := 19) C hT hl0 fit_IndexOutOfBoundsException fit_n m_l_X6_328 m_n_IndexOutOfBoundsException (List.mem_of_getElem? (i := 22) rfl) tw_332 dX6_requireTrunk_15 dX6_requireTrunk_18 dX6_requireTrunk_19 dX6_requireTrunk_22 dX6_requireTrunk_25 (Nat.le_of_ble_eq_true rfl) (Nat.le_of_ble_eq_true rfl) (Nat.le_of_ble_eq_true rfl) (Nat.le_of_ble_eq_true rfl) (Nat.le_of_ble_eq_true rfl) (Nat.le_of_ble_eq_true rfl) (by first | exact ⟨rq_f (xok_neg h1), rfl⟩ | exact ⟨rq_f (xok_big (Int32.not_lt.mp h12)), rfl⟩)
  · skip
    refine X_iload_n (pc := 4) C 1 dX6_requireTrunk_4 rfl rfl ?_
    refine X_aload_n (pc := 5) C 0 dX6_requireTrunk_5 rfl rfl ?_
    refine G_X6_12 (pc := 6) C (by assumption) dX6_requireTrunk_6 ?_
    refine G_X6_191 (pc := 9) C (by assumption) dX6_requireTrunk_9 ?_
    rw [hB.2.2.2.2.1]
    refine X_icmp_lt (pc := 12) C 26 dX6_requireTrunk_12 (by decide) (fun h12 => ?_) (fun h12 => ?_)
    · skip
      exact XW.tret (X_vret (pc := 26) C (Nat.le_of_ble_eq_true rfl) (Nat.le_of_ble_eq_true rfl) dX6_requireTrunk_26 ⟨rq_t (xok_yes h1 (fun q => Int32.not_le.mpr h12 q)), rfl⟩)
    · skip
      exact X_thrW (pc := 15) (q := 19) C hT hl0 fit_IndexOutOfBoundsException fit_n m_l_X6_328 m_n_IndexOutOfBoundsException (List.mem_of_getElem? (i := 22) rfl) tw_332 dX6_requireTrunk_15 dX6_requireTrunk_18 dX6_requireTrunk_19 dX6_requireTrunk_22 dX6_requireTrunk_25 (Nat.le_of_ble_eq_true rfl) (Nat.le_of_ble_eq_true rfl) (Nat.le_of_ble_eq_true rfl) (Nat.le_of_ble_eq_true rfl) (Nat.le_of_ble_eq_true rfl) (Nat.le_of_ble_eq_true rfl) (by first | exact ⟨rq_f (xok_neg h1), rfl⟩ | exact ⟨rq_f (xok_big (Int32.not_lt.mp h12)), rfl⟩)

set_option maxRecDepth 100000 in
set_option maxHeartbeats 4000000 in
theorem c_X6_requireRoomForCall (l : Launch) (hl0 : l.stackTraces = false) (P : XP) (σ : XS) (h0 : xI0 P) (hb : ∀ b, b < 12 → xIn P b) (hB : Bd σ 0) : XTF l yX6_requireRoomForCall cX6_requireRoomForCall 1 none rm_X6_requireRoomForCall P [.ref (P.2.2.1 (.inr 0))] σ (rqR σ) (σ) := by
  refine XTM.of (by decide +kernel) (Nat.le_of_ble_eq_true rfl) (fun p e s m args below meth c A C hT => ?_)
  replace C : XC p s m args meth c P A 1 RX6 cX6_requireRoomForCall none := C
  refine XW.eq (lv' := [(0, _)]) rfl rfl rfl ?_
  have hb0 : xIn P 0 := hb 0 (by decide)
  have hnc := hB.2.2.2.1
  refine X_aload_n (pc := 0) C 0 dX6_requireRoomForCall_0 rfl rfl ?_
  refine G_X6_12 (pc := 1) C (by assumption) dX6_requireRoomForCall_1 ?_
  refine G_X6_139 (pc := 4) C (by assumption) dX6_requireRoomForCall_4 ?_
  refine G_X6_194 (pc := 7) C (by assumption) dX6_requireRoomForCall_7 ?_
  rw [hB.2.2.1]
  refine X_bipush (pc := 10) (v := 40) C dX6_requireRoomForCall_10 (by decide) ?_
  refine X_icmp_lt (pc := 12) C 26 dX6_requireRoomForCall_12 (by decide) (fun h12 => ?_) (fun h12 => ?_)
  · skip
    exact XW.tret (X_vret (pc := 26) C (Nat.le_of_ble_eq_true rfl) (Nat.le_of_ble_eq_true rfl) dX6_requireRoomForCall_26 ⟨rq_t (nlt (a := ncN σ 0) (b := 40) h12), rfl⟩)
  · skip
    exact X_thrW (pc := 15) (q := 18) C hT hl0 fit_IllegalStateException fit_n m_l_X6_149 m_n_IllegalStateException (List.mem_of_getElem? (i := 21) rfl) tw_153 dX6_requireRoomForCall_15 dX6_requireRoomForCall_18 dX6_requireRoomForCall_19 dX6_requireRoomForCall_22 dX6_requireRoomForCall_25 (Nat.le_of_ble_eq_true rfl) (Nat.le_of_ble_eq_true rfl) (Nat.le_of_ble_eq_true rfl) (Nat.le_of_ble_eq_true rfl) (Nat.le_of_ble_eq_true rfl) (Nat.le_of_ble_eq_true rfl) ⟨rq_f (fun q => absurd (nnlt (a := ncN σ 0) (b := 40) h12) (by omega)), rfl⟩

set_option maxRecDepth 100000 in
set_option maxHeartbeats 4000000 in
theorem c_X6_requirePair (l : Launch) (hl0 : l.stackTraces = false) (P : XP) (σ : XS) (h0 : xI0 P) (hb : ∀ b, b < 12 → xIn P b) (hB : Bd σ 0) (x y : Int32) : XTF l yX6_requirePair cX6_requirePair 3 none rm_X6_requirePair P [.ref (P.2.2.1 (.inr 0)), .int x, .int y] σ (rqP σ x y) (σ) := by
  refine XTM.of (by decide +kernel) (Nat.le_of_ble_eq_true rfl) (fun p e s m args below meth c A C hT => ?_)
  replace C : XC p s m args meth c P A 3 RX6 cX6_requirePair none := C
  refine XW.eq (lv' := [(0, _), (1, _), (2, _)]) rfl rfl rfl ?_
  have hb0 : xIn P 0 := hb 0 (by decide)
  refine X_aload_n (pc := 0) C 0 dX6_requirePair_0 rfl rfl ?_
  refine X_iload_n (pc := 1) C 1 dX6_requirePair_1 rfl rfl ?_
  refine X_reqG (i := .inr 0) (ci := 6) (n := 1) (pc := 2) C [.int _] (⟨c_X6_requireSubscriber l hl0 P σ h0 hb hB x, rq_none⟩) m_c_X6_requireSubscriber m_m_X6_130 m_i_X6_requireSubscriber m_s_X6_requireSubscriber m_n_X6 ⟨by decide +kernel, by decide +kernel, by decide +kernel⟩ ⟨Nat.le_of_ble_eq_true rfl, Nat.le_of_ble_eq_true rfl⟩ ⟨Nat.le_of_ble_eq_true rfl, Nat.le_of_ble_eq_true rfl⟩ (h0 0 (by decide)) rfl rfl rfl rfl (Nat.le_of_ble_eq_true rfl) rfl dX6_requirePair_2 (fun g2 => ?_) (fun E9 g2 => X_out C hT (Nat.le_of_ble_eq_true rfl) (Nat.le_of_ble_eq_true rfl) ⟨oth_e g2, rfl⟩)
  refine X_aload_n (pc := 5) C 0 dX6_requirePair_5 rfl rfl ?_
  refine X_iload_n (pc := 6) C 2 dX6_requirePair_6 rfl rfl ?_
  refine X_reqG (i := .inr 0) (ci := 6) (n := 1) (pc := 7) C [.int _] (⟨c_X6_requireSubscriber l hl0 P σ h0 hb hB y, rq_none⟩) m_c_X6_requireSubscriber m_m_X6_130 m_i_X6_requireSubscriber m_s_X6_requireSubscriber m_n_X6 ⟨by decide +kernel, by decide +kernel, by decide +kernel⟩ ⟨Nat.le_of_ble_eq_true rfl, Nat.le_of_ble_eq_true rfl⟩ ⟨Nat.le_of_ble_eq_true rfl, Nat.le_of_ble_eq_true rfl⟩ (h0 0 (by decide)) rfl rfl rfl rfl (Nat.le_of_ble_eq_true rfl) rfl dX6_requirePair_7 (fun g7 => ?_) (fun E9 g7 => X_out C hT (Nat.le_of_ble_eq_true rfl) (Nat.le_of_ble_eq_true rfl) ⟨by rw [rqP, oth_v g2, oth_e g7], rfl⟩)
  refine X_iload_n (pc := 10) C 1 dX6_requirePair_10 rfl rfl ?_
  refine X_iload_n (pc := 11) C 2 dX6_requirePair_11 rfl rfl ?_
  refine X_icmp_ne (pc := 12) C 26 dX6_requirePair_12 (by decide) (fun h12 => ?_) (fun h12 => ?_)
  · skip
    exact XW.tret (X_vret (pc := 26) C (Nat.le_of_ble_eq_true rfl) (Nat.le_of_ble_eq_true rfl) dX6_requirePair_26 ⟨by rw [rqP, oth_v g2, oth_v g7, rq_t h12], rfl⟩)
  · skip
    exact X_thrW (pc := 15) (q := 17) C hT hl0 fit_IllegalArgumentException fit_n m_l_X6_85 m_n_IllegalArgumentException (List.mem_of_getElem? (i := 20) rfl) tw_89 dX6_requirePair_15 dX6_requirePair_18 dX6_requirePair_19 dX6_requirePair_22 dX6_requirePair_25 (Nat.le_of_ble_eq_true rfl) (Nat.le_of_ble_eq_true rfl) (Nat.le_of_ble_eq_true rfl) (Nat.le_of_ble_eq_true rfl) (Nat.le_of_ble_eq_true rfl) (Nat.le_of_ble_eq_true rfl) ⟨by rw [rqP, oth_v g2, oth_v g7, rq_f (fun q => q h12)], rfl⟩

end XP20

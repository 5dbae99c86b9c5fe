/-! CONSTRUCTORS: the walk over worlds in the making -/
/-- constructors called by nest mates; the boards' array class -/
def xN2 (U : State) : Prop := va_Nw (.methodLinkNest RX6 11 yX0_init "CordBoard") U ∧ va_Nw (.methodLinkNest RX0 11 yX5_init "CordBoard") U ∧ va_Nw (.methodLinkNest RX0 20 yX1_init "CordBoard") U ∧ va_Nw (.methodLinkNest RX6 18 yX4_init "CordBoard") U ∧ va_Nw (.methodLinkNest RX4 11 yX3_init "CordBoard") U ∧ va_Nw (.methodLinkNest RX4 20 yX0_init "CordBoard") U ∧ va_Nw (.methodLinkNest RX2 17 yX0_init "CordBoard") U ∧ va_AO "CordBoard$Board" U
theorem xN2.warm {s U : State} (hW : s.WarmedH U.vm) (h : xN2 s) : xN2 U := ⟨va_Nw.warmM hW h.1, va_Nw.warmM hW h.2.1, va_Nw.warmM hW h.2.2.1, va_Nw.warmM hW h.2.2.2.1, va_Nw.warmM hW h.2.2.2.2.1, va_Nw.warmM hW h.2.2.2.2.2.1, va_Nw.warmM hW h.2.2.2.2.2.2.1, va_AO.moved hW.alike h.2.2.2.2.2.2.2⟩
theorem xN2.same {s U : State} (hv : s.vm = U.vm) (h : xN2 s) : xN2 U := ⟨va_Nw.same rfl hv h.1, va_Nw.same rfl hv h.2.1, va_Nw.same rfl hv h.2.2.1, va_Nw.same rfl hv h.2.2.2.1, va_Nw.same rfl hv h.2.2.2.2.1, va_Nw.same rfl hv h.2.2.2.2.2.1, va_Nw.same rfl hv h.2.2.2.2.2.2.1, va_AO.moved (hv ▸ Vm.Alike.refl s.vm) h.2.2.2.2.2.2.2⟩
def BX (p : Program) (s : State) (m : MethodId) (args : Array Value) (meth : Method) (c : Code) (P0 : XP) (A : Nat → Prop) (nL : Nat) (own : String) (cc : ByteArray) : Prop :=
  p.tables.exec = Jvm.exec ∧ c.code = cc ∧ c.maxLocals = nL ∧ s.vm.findClass own = some m.cls ∧ (∀ w ∈ xTB, w.before args s = true) ∧ va_K P0.1 vwCl (xtys P0) s ∧ (∀ q : Nat, s.heap.size ≤ q → A q) ∧ meth.sig.returnType = none ∧ meth.locks = false ∧ meth.name = "<init>" ∧ xE P0 A s s.heap ∧ xN2 s
def BW (p : Program) (l : Launch) (e : Env) (R : Room) (s : State) (m : MethodId) (args : Array Value) (below : List Frame) (meth : Method) (c : Code) (P0 : XP) (A : Nat → Prop) (nL cells slots : Nat) (Q : State → Prop) (σ : XS) (hs : va_W) (N : List XI) (ad : XI → Nat) (pc : Nat) (lv : List (Nat × Value)) (st : List Value) : Prop :=
  ∀ (H : Heap) (locs : List Loc) (ls : Array Slot), BP P0 hs N ad σ H → BD A hs N ad → va_S A s.heap H locs → lv_has ls nL lv → W p l e R s m args below meth c H locs cells slots Q (F0 m pc ls st)
theorem BD.push {P0 : XP} {A : Nat → Prop} {hs : va_W} {N : List XI} {ad a1 : XI → Nat} {σ : XS} {q : Nat} {x : va_E} {i : XI} (h : va_D A ((hs ++ xwN P0 N ad σ) ++ [(q, x)])) (ea : ∀ j ∈ N, a1 j = ad j) (ei : a1 i = q) : BD A hs ([i] ++ N) a1 := by
  rw [va_D_nd] at h
  have e : ((hs ++ xwN P0 N ad σ) ++ [(q, x)]).map (fun z => z.1) = (hs.map (fun z => z.1) ++ N.map ad) ++ [q] := by
    rw [List.map_append, List.map_append, xwN_fst]
    rfl
  have h1 := h.1
  rw [e] at h1
  refine ⟨?_, fun y hy => h.2 y (List.mem_append_left _ (List.mem_append_left _ hy)), fun j hj => ?_⟩
  · rw [List.map_append, List.map_congr_left ea, show [i].map a1 = [q] from by rw [List.map_singleton, ei]]
    rw [List.append_assoc] at h1
    exact (List.Perm.append_left _ List.perm_append_comm).nodup_iff.mp h1
  · rcases List.mem_append.mp hj with hj | hj
    · obtain rfl := List.mem_singleton.mp hj
      rw [ei]
      exact h.2 _ (List.mem_append_right _ (List.mem_singleton.mpr rfl))
    · rw [ea j hj]
      exact h.2 _ (List.mem_append_left _ (List.mem_append_right _ (xwN_mem.mpr ⟨j, hj, rfl⟩)))
section XP79
variable {p : Program} {l : Launch} {e : Env} {R : Room} {s : State} {m : MethodId} {args : Array Value} {below : List Frame} {meth : Method} {c : Code} {P0 : XP} {A : Nat → Prop} {nL cells slots : Nat} {Q : State → Prop} {cc : ByteArray} {own : String} {σ : XS} {hs : va_W} {N : List XI} {ad : XI → Nat} {pc : Nat} {lv : List (Nat × Value)} {st : List Value}
theorem BX.hts (C : BX p s m args meth c P0 A nL own cc) : ∀ w ∈ xTB, w.before args s = true := C.2.2.2.2.1
theorem BX.hK (C : BX p s m args meth c P0 A nL own cc) : va_K P0.1 vwCl (xtys P0) s := C.2.2.2.2.2.1
theorem BX.hA (C : BX p s m args meth c P0 A nL own cc) : ∀ q : Nat, s.heap.size ≤ q → A q := C.2.2.2.2.2.2.1
theorem BX.hr (C : BX p s m args meth c P0 A nL own cc) : meth.sig.returnType = none := C.2.2.2.2.2.2.2.1
theorem BX.hlk (C : BX p s m args meth c P0 A nL own cc) : meth.locks = false := C.2.2.2.2.2.2.2.2.1
theorem BX.hin (C : BX p s m args meth c P0 A nL own cc) : meth.name = "<init>" := C.2.2.2.2.2.2.2.2.2.1
theorem BX.hE (C : BX p s m args meth c P0 A nL own cc) : xE P0 A s s.heap := C.2.2.2.2.2.2.2.2.2.2.1
theorem BX.hN (C : BX p s m args meth c P0 A nL own cc) : xN2 s := C.2.2.2.2.2.2.2.2.2.2.2
theorem B_aload_n (C : BX p s m args meth c P0 A nL own cc) {k : Fin 4} (i : Nat) {x : Nat} (d : decode cc pc = .ok (.aload_n k, 1)) (hi : (k : Nat) = i) (hl : xlk lv i = some (.ref x)) (k9 : BW p l e R s m args below meth c P0 A nL cells slots Q σ hs N ad (pc + 1) lv (.ref x :: st)) : BW p l e R s m args below meth c P0 A nL cells slots Q σ hs N ad pc lv st := fun H locs ls hP hD hS hz => lv_aload_n C.1 C.2.1 d hi (xlk_at hz hl) (k9 H locs ls hP hD hS hz)
theorem B_iload_n (C : BX p s m args meth c P0 A nL own cc) {k : Fin 4} (i : Nat) {x : Int32} (d : decode cc pc = .ok (.iload_n k, 1)) (hi : (k : Nat) = i) (hl : xlk lv i = some (.int x)) (k9 : BW p l e R s m args below meth c P0 A nL cells slots Q σ hs N ad (pc + 1) lv (.int x :: st)) : BW p l e R s m args below meth c P0 A nL cells slots Q σ hs N ad pc lv st := fun H locs ls hP hD hS hz => lv_iload_n C.1 C.2.1 d hi (xlk_at hz hl) (k9 H locs ls hP hD hS hz)
theorem B_iconst (C : BX p s m args meth c P0 A nL own cc) {n : Int} {v : Int32} (d : decode cc pc = .ok (.iconst n, 1)) (hv : Int32.ofInt n = v) (k : BW p l e R s m args below meth c P0 A nL cells slots Q σ hs N ad (pc + 1) lv (.int v :: st)) : BW p l e R s m args below meth c P0 A nL cells slots Q σ hs N ad pc lv st := fun H locs ls hP hD hS hl => lv_iconst C.1 C.2.1 d hv (k H locs ls hP hD hS hl)
theorem B_bipush (C : BX p s m args meth c P0 A nL own cc) {n : Int} {v : Int32} (d : decode cc pc = .ok (.bipush n, 2)) (hv : (Int8.ofInt n).toInt32 = v) (k : BW p l e R s m args below meth c P0 A nL cells slots Q σ hs N ad (pc + 2) lv (.int v :: st)) : BW p l e R s m args below meth c P0 A nL cells slots Q σ hs N ad pc lv st := fun H locs ls hP hD hS hl => lv_bipush C.1 C.2.1 d hv (k H locs ls hP hD hS hl)
theorem B_sipush (C : BX p s m args meth c P0 A nL own cc) {n : Int} {v : Int32} (d : decode cc pc = .ok (.sipush n, 3)) (hv : (Int16.ofInt n).toInt32 = v) (k : BW p l e R s m args below meth c P0 A nL cells slots Q σ hs N ad (pc + 3) lv (.int v :: st)) : BW p l e R s m args below meth c P0 A nL cells slots Q σ hs N ad pc lv st := fun H locs ls hP hD hS hl => lv_sipush C.1 C.2.1 d hv (k H locs ls hP hD hS hl)
theorem B_obj (C : BX p s m args meth c P0 A nL own cc) {idx : Nat} {x : Nat} (hlk : Cond.methodLink own idx objectInit ∈ xTB) (hR : 1 ≤ R.frames ∧ 12 ≤ R.locals) (d : decode cc pc = .ok (.invokespecial idx, 3)) (k : BW p l e R s m args below meth c P0 A nL cells slots Q σ hs N ad (pc + 3) lv []) : BW p l e R s m args below meth c P0 A nL cells slots Q σ hs N ad pc lv [.ref x] := fun H locs ls hP hD hS hl => by
  refine W.objInit C.1 C.2.1 C.2.2.2.1 (C.hts _ hlk) (C.hts _ m_i_objectInit) (C.hts _ m_c_obj) rfl (by rw [C.2.2.1]; exact hl.1) rfl d hR.1 hR.2 ?_
  exact k H locs ls hP hD hS hl
/-- field k of a raw thing -/
theorem B_putF (C : BX p s m args meth c P0 A nL own cc) {CN : String} {T : u_T} {nf ci index : Nat} (q0 : Nat) (k : Nat) {fs : List Value} {a : Nat} {v : Value} (ty0 : Nat → FieldType) (hty : ∀ k, k < nf → parseFieldDescriptor (T k).2.2.1 = some (ty0 k)) (hnm : ∀ a, a < nf → ∀ b, b < nf → a ≠ b → (T a).2.1 ≠ (T b).2.1) (hin : ∀ w ∈ u_ws CN T nf, w ∈ xTB) (he : hs[q0]? = some (a, .inr (ci, fs))) (hc : vwCl[ci]? = some (CN, T, nf)) (hk : k < nf) (hf : Cond.fieldLink own index (T k).1 (T k).2.1 (T k).2.2.1 ∈ xTB) (hfin : (T k).2.2.2 = true) (hdecl : (T k).1 = own) (hn : narrow (ty0 k) v = v) (hfit : fits (ty0 k) v = true) (hl9 : k < fs.length) (d : decode cc pc = .ok (.putfield index, 3))
    (kk : BW p l e R s m args below meth c P0 A nL cells slots Q σ (hs.set q0 (a, .inr (ci, fs.set k v))) N ad (pc + 3) lv st) : BW p l e R s m args below meth c P0 A nL cells slots Q σ hs N ad pc lv (v :: .ref a :: st) := fun H locs ls hP hD hS hl => by
  have hq : q0 < hs.length := (List.getElem?_eq_some_iff.mp he).1
  refine va_putF C.1 C.2.1 C.hts hin ty0 hty hnm C.2.2.2.1 C.hK (BP.p.mpr hP) (BD.d.mpr hD) hS q0 (by rw [List.getElem?_append_left hq]; exact he) hc k hk (C.hts _ hf) (fun _ h9 => h9) hfin C.hin hdecl (hty k hk) hn hfit hl9 d (fun H1 locs1 hP1 hD1 hS1 => ?_)
  rw [List.set_append_left _ _ hq] at hP1 hD1
  exact kk H1 locs1 ls (BP.p.mp hP1) (BD.d.mp hD1) hS1 hl
/-- a new array is a cell that is done -/
theorem B_newa (C : BX p s m args meth c P0 A nL own cc) {atype : ArrayType} {ty : FieldType} {t0 n : Nat} {v : Int32} (i : XI) (hty : newarray.typeOf atype = ty) (harr : Cond.arrayClass ty ∈ xTB) (ht : (xtys P0)[t0]? = some (P0.2.1 t0, ty)) (hnm : ∀ cA, va_RA s cA ty → s.vm.findClass ("[" ++ ty.toString) = some cA) (a0 : vp_A) (ha : ∀ cA : ClassId, vp_cell cA a0 = arrV cA n (fun _ => defaultValue ty)) (hx : ∀ ad1 : XI → Nat, xce (PN P0 [i] ad1) σ i = .inl (P0.2.1 t0, a0)) (hi : i ∉ N) (hc : clo N) (hv : v = nI n) (hn : n < 1000000) (hb9 : n * componentBytes ty ≤ 536870912) (hcl : cells + 1 ≤ R.cells ∧ slots + n ≤ R.slots) (d : decode cc pc = .ok (.newarray atype, 2))
    (kk : ∀ ad1 : XI → Nat, (∀ j ∈ N, ad1 j = ad j) → BW p l e R s m args below meth c P0 A nL (cells + 1) (slots + n) Q σ hs ([i] ++ N) ad1 (pc + 2) lv (.ref (ad1 i) :: st)) : BW p l e R s m args below meth c P0 A nL cells slots Q σ hs N ad pc lv (.int v :: st) := fun H locs ls hP hD hS hl => by
  subst hv
  subst hty
  refine va_newa C.1 C.2.1 (C.hts _ harr) rfl C.hK (BP.p.mpr hP) (BD.d.mpr hD) hS C.hA ha (Int32.not_lt.mpr ((nI_leI (a := 0) (n31 (by omega)) (n31 (by omega))).mpr (Nat.zero_le n))) (nI_clamp (by omega)) hb9 hcl.1 hcl.2 d (fun q cA H1 hK1 hP1 hD1 hS1 => ?_)
  have e1 := hnm _ (hK1.2 (xtys P0).length (cA, newarray.typeOf atype) (by rw [List.getElem?_append_right (Nat.le_refl _), Nat.sub_self]; rfl)).2
  have e2 := hnm _ (C.hK.2 t0 _ ht).2
  obtain rfl : cA = P0.2.1 t0 := Option.some.inj (e1.symm.trans e2)
  have hm := va_P_mem.mp hP1
  have hn9 := va_D_nd.mp hD1
  have ea : ∀ j ∈ N, (fun j => if j = i then q else ad j) j = ad j := fun j hj => if_neg (by intro z; subst z; exact hi hj)
  have ei : (fun j => if j = i then q else ad j) i = q := if_pos rfl
  have h2 := kk (fun j => if j = i then q else ad j) ea H1 locs ls ?_ ?_ hS1 hl
  · simp only [if_true] at h2
    exact h2
  · refine BP.cons (BP.p.mp (va_P.perm hP1 (fun y hy => List.mem_append_left _ hy))) hc ea (fun x hx9 => hm x (List.mem_append_left _ (List.mem_append_left _ hx9))) (fun j hj => ?_)
    obtain rfl := List.mem_singleton.mp hj
    rw [hx, if_pos rfl]
    exact hm _ (List.mem_append_right _ (List.mem_singleton.mpr rfl))
  · exact BD.push hD1 ea ei
/-- contracts of constructors: a raw thing at q becomes the cells M, i0 among them at q -/
def BPre (P0 : XP) (q : Nat) (x : va_E) (sz : Nat) (U : State) : Prop := U.heap.size = sz ∧ BP P0 [(q, x)] [] (fun _ => 0) ((fun _ _ => 0), (fun _ _ => 0)) U.heap ∧ va_K P0.1 vwCl (xtys P0) U ∧ xE P0 (va_A [(q, x)] sz) U U.heap ∧ xN2 U
def BQ (P0 : XP) (A : Nat → Prop) (q : Nat) (i0 : XI) (M : List XI) (σ : XS) : Array Value → State → Outcome → State → Prop := fun _ st oc t => (oc = .returned none ∧ ∃ ad : XI → Nat, ad i0 = q ∧ BP P0 [] M ad σ t.heap ∧ BD A [] M ad) ∧ va_F A st t
def BC (l : Launch) (y : MethodName) (cc : ByteArray) (nL : Nat) (rm : Room) (P0 : XP) (σ : XS) (x : va_E) (i0 : XI) (M : List XI) : Prop :=
  ∀ q sz : Nat, Met l y (Cond.code y cc nL none :: xTB) rm (va_Pc [.ref q] (BPre P0 q x sz)) (BQ P0 (va_A [(q, x)] sz) q i0 M σ) rm.cells rm.slots (va_A [(q, x)] sz)
theorem BC.of {y : MethodName} {rm : Room} {x : va_E} {i0 : XI} {M : List XI} (hy : plainName y.cls = true) (hy2 : y.name = "<init>") (hn : 1 ≤ nL)
    (body : ∀ (q : Nat) (p : Program) (e : Env) (s : State) (m : MethodId) (args : Array Value) (below : List Frame) (meth : Method) (c : Code) (A : Nat → Prop), BX p s m args meth c P0 A nL y.cls cc → BW p l e rm s m args below meth c P0 A nL 0 0 (MQ below (BQ P0 A q i0 M σ) args s rm.cells rm.slots A) σ [(q, x)] [] (fun _ => 0) 0 (lv_args 0 [.ref q]) []) : BC l y cc nL rm P0 σ x i0 M := by
  intro q sz
  refine Met.ofW (cc := cc) (maxL := nL) (ret := none) hy rfl ?_
  intro p e s m args below meth c s₁ B hml hv
  obtain ⟨rfl, hsz, hP, hK, hE, hN⟩ := hv
  have hts := atoms_spec (ws := Cond.code y cc nL none :: xTB) B.pre
  have hown : s.vm.findClass y.cls = some m.cls := findClass_of_methodNamed B.named
  have hin : meth.name = "<init>" := (name_of_methodNamed B.named B.method).1.trans hy2
  subst hsz
  have hl := lv_entry [.ref q] (n := nL) (show 1 ≤ nL from hn)
  rw [lg_entry_eq]
  refine body q p e s m _ below meth c _ ⟨B.exec, B.bytes, hml, hown, fun w hw => hts w (List.mem_cons_of_mem _ hw), hK, fun q h => Or.inr h, B.returns, B.notSynchronized, hin, hE, hN⟩ s.heap [] _ ⟨hP.1, fun i hi => nomatch hi⟩ ⟨by simp, fun z hz => ?_, fun i hi => nomatch hi⟩ va_S.rf hl
  obtain rfl := List.mem_singleton.mp hz
  exact Or.inl ⟨0, x, rfl⟩
/-- the end: the raw thing is the cell i0 -/
theorem B_end {mc ms : Nat} {args : Array Value} {q ci : Nat} {fs : List Value} {i0 : XI} {tm : List (Option XI)} (C : BX p s m args meth c P0 A nL own cc) (hx : xsh i0 = .inl (ci, tm)) (hi : i0 ∉ N) (hc : clo N) (hfs : ∀ ad1 : XI → Nat, ad1 i0 = q → (∀ j ∈ N, ad1 j = ad j) → fs = xfs (PN P0 [i0] ad1) σ i0 0 tm) (h1 : cells ≤ mc) (h2 : slots ≤ ms) (d : decode cc pc = .ok (.return_, 1)) : BW p l e R s m args below meth c P0 A nL cells slots (MQ below (BQ P0 A q i0 ([i0] ++ N) σ) args s mc ms A) σ [(q, .inr (ci, fs))] N ad pc lv [] := fun H locs ls hP hD hS _ => W.widen h1 h2 (W.vret C.1 C.2.1 C.hr (fun t ht _ => by
    have ea : ∀ j ∈ N, (fun j => if j = i0 then q else ad j) j = ad j := fun j hj => if_neg (by intro z; subst z; exact hi hj)
    have ei : (fun j => if j = i0 then q else ad j) i0 = q := if_pos rfl
    refine ⟨⟨rfl, fun j => if j = i0 then q else ad j, ei, ?_, ?_⟩, hS.F ht⟩
    · rw [ht]
      refine BP.cons hP hc ea (fun y hy => nomatch hy) (fun j hj => ?_)
      obtain rfl := List.mem_singleton.mp hj
      have e1 := hfs _ ei ea
      have e2 := hP.1 (q, .inr (ci, fs)) List.mem_cons_self
      rw [e1] at e2
      have e3 : xce (PN P0 [j] (fun j9 => if j9 = j then q else ad j9)) σ j = .inr (ci, xfs (PN P0 [j] (fun j9 => if j9 = j then q else ad j9)) σ j 0 tm) := by
        unfold xce
        rw [hx]
      rw [e3, if_pos rfl]
      exact e2
    · refine ⟨?_, (fun y hy => nomatch hy), (fun j hj => ?_)⟩
      · rw [List.map_append, List.map_congr_left ea, List.map_singleton, if_pos rfl]
        exact hD.1
      · rcases List.mem_append.mp hj with hj | hj
        · obtain rfl := List.mem_singleton.mp hj
          rw [ei]
          exact hD.2.1 _ List.mem_cons_self
        · rw [ea j hj]
          exact hD.2.2 j hj) hS.2.2 d C.hlk)
end XP79

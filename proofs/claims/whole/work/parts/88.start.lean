/-! THE CLAIM OUT OF ONE WALK OF THE LAW'S BODY. Your part is whole_start (and what it stands on); all else here is the same for every law, but numbers. -/
def R_law : String := "CordBoardLaw"
def lw_P (b : Addr) (xs : List Int32) (args : Array Value) (s : State) : Prop := args = #[.ref b] ∧ s.IntsAt b xs ∧ xs.length ≤ 3072 ∧ (Jvm.Cond.and given_1 narrow_1).before args s = true
/-- what a walk over the start with the record d0 says of its end, said of the start itself -/
theorem lw_closed {s t : State} {o : Outcome} {d0 : Drawn} {L : List Loc} {k n : Nat} (hd0 : s.drawn.sameBut d0 lw_cs) (hv : ∃ v, o = .returned v) (hW : (s.setDrawn d0).WarmedH t.vm) (hs : (s.setDrawn d0).sameButNew ({ t with vm := s.vm } : State) L k n) : State.butDraws s t lw_cs (fun t1 => Framed s o t1 L k n) := by
  have h2 : t.drawn = d0 := congrArg State.drawn hs.1
  refine ⟨⟨hv, hW, State.sameButNew.setDrawn hs s.drawn⟩, ?_, by decide⟩
  rw [h2]
  exact hd0
def lw_Q (_ : Array Value) (s : State) (o : Outcome) (t : State) : Prop := o = .returned (some (.int 1)) ∧ State.butDraws s t lw_cs (fun t1 => Framed s o t1 [] 601024 7293034)
def lw_Z (below : List Frame) (a : Array Value) (s : State) : State → Prop := fun t => ∃ o, t.status = .running ∧ Ended t below o ∧ lw_Q a s o t
/-- the law's own end, with 1 on the stack, nothing written that was there before, its room as the claim has it; d0: the record of draws at this point (at the entry s.drawn: begin with 'refine W.base ?_' and 'have hd0 := Drawn.sameBut.refl s.drawn lw_cs') -/
theorem lw_ret {p : Program} {l : Launch} {e : Env} {s : State} {m : MethodId} {below : List Frame} {meth : Method} {c : Code} {b : Nat} {d0 : Drawn} (hd0 : s.drawn.sameBut d0 lw_cs) (hx : p.tables.exec = Jvm.exec) (hb : c.code = code) (hr : meth.sig.returnType = ret) (hlocks : meth.locks = false) {pc : Nat} {H : Heap} {ls : Array Slot} (hdg : decode code pc = .ok (.ireturn, 1)) : W p l e room_1 (s.setDrawn d0) m #[Value.ref b] below meth c H [] 601024 7293034 (lw_Z below #[Value.ref b] s) (F0 m pc ls [.int 1]) := by
  intro T hT X
  obtain ⟨fs, hret, hrun, hended, hW, hframe⟩ := X.leave (v := some (.int 1)) (hlocks := hlocks) (fun h => by rw [hr] at h; cases h)
  have hmeth' : T.vm.method? m = some meth := X.method'
  refine ⟨T.setFrames fs, ?_, .returned (some (.int 1)), hrun, hended, rfl, lw_closed hd0 ⟨_, rfl⟩ hW hframe⟩
  jvm_step X.here [X.here.top, hx, hb, hdg, hmeth', hr, ret, narrow_b1]
  (try refine ⟨rfl, ?_⟩); (try refine ⟨rfl, ?_⟩)
  first | (intro acts; rw [hret _ acts rfl rfl rfl]) | rw [hret _ _ rfl rfl rfl]
  exact Steps.refl _
/-- what holds at the law's entry: the machine, the code, the tables' words (any of lw_tbl by 'hts w (by decide +kernel)'), the script of L ints xs at the cell b, what the Statement gives of the start (any of its parts by flat_of_before) -/
def lw_At (p : Program) (s : State) (m : MethodId) (meth : Method) (c : Code) (b L : Nat) (xs : Nat → Int32) : Prop :=
  p.tables.exec = Jvm.exec ∧ c.code = code ∧ meth.sig.returnType = ret ∧ c.maxLocals = 9 ∧ s.vm.findClass R_law = some m.cls ∧ (∀ w ∈ lw_tbl, w.before #[Value.ref b] s = true) ∧ va_X b L xs s s.heap ∧ b < s.heap.size ∧ meth.locks = false ∧ (Jvm.Cond.and given_1 narrow_1).before #[Value.ref b] s = true
section XP88
variable {p : Program} {l : Launch} {e : Env} {R : Room} {s : State} {m : MethodId} {args : Array Value} {below : List Frame} {meth : Method} {c : Code} {P0 : XP} {A : Nat → Prop} {nL cells slots : Nat} {Q : State → Prop} {cc : ByteArray} {own : String} {σ : XS} {hs : va_W} {N : List XI} {ad : XI → Nat} {pc : Nat} {lv : List (Nat × Value)} {st : List Value}
/-- what holds along the law's start -/
def LX (p : Program) (s : State) (m : MethodId) (args : Array Value) (c : Code) (P0 : XP) (A : Nat → Prop) (nL : Nat) (own : String) (cc : ByteArray) : Prop :=
  p.tables.exec = Jvm.exec ∧ c.code = cc ∧ c.maxLocals = nL ∧ s.vm.findClass own = some m.cls ∧ (∀ w ∈ xTB, w.before args s = true) ∧ va_K P0.1 vwCl (xtys P0) s ∧ (∀ q : Nat, s.heap.size ≤ q → A q) ∧ xE P0 A s s.heap ∧ xN2 s
theorem LX.hts (C : LX p s m args c P0 A nL own cc) : ∀ w ∈ xTB, w.before args s = true := C.2.2.2.2.1
theorem LX.hK (C : LX p s m args c P0 A nL own cc) : va_K P0.1 vwCl (xtys P0) s := C.2.2.2.2.2.1
theorem LX.hA (C : LX p s m args c P0 A nL own cc) : ∀ q : Nat, s.heap.size ≤ q → A q := C.2.2.2.2.2.2.1
theorem LX.hE (C : LX p s m args c P0 A nL own cc) : xE P0 A s s.heap := C.2.2.2.2.2.2.2.1
theorem LX.hN (C : LX p s m args c P0 A nL own cc) : xN2 s := C.2.2.2.2.2.2.2.2
theorem LX.x {ret : Option FieldType} (C : LX p s m args c P0 A nL own cc) (hD : BD A [] N ad) (hr : meth.sig.returnType = ret) (hlk : meth.locks = false) : XC p s m args meth c (PW P0 N ad) A nL own cc ret := ⟨C.1, C.2.1, C.2.2.1, C.2.2.2.1, C.hts, C.hK, fun _ => BD.d.mpr hD, C.hA, hr, hlk, C.hE⟩
theorem V_istore (C : LX p s m args c P0 A nL own cc) {i : Nat} {x : Int32} {lv1 : List (Nat × Value)} (d : decode cc pc = .ok (.istore i, 2)) (hn : i < nL) (hl : xst lv i (.int x) = lv1) (k9 : BW p l e R s m args below meth c P0 A nL cells slots Q σ hs N ad (pc + 2) lv1 st) : BW p l e R s m args below meth c P0 A nL cells slots Q σ hs N ad pc lv (.int x :: st) := fun H locs ls hP hD hS hz => lv_istore C.1 C.2.1 d hz hn rfl (fun ls1 h1 => k9 H locs ls1 hP hD hS (hl ▸ xst_has h1))
theorem V_astore_n (C : LX p s m args c P0 A nL own cc) {k : Fin 4} (i : Nat) {x : Nat} {lv1 : List (Nat × Value)} (d : decode cc pc = .ok (.astore_n k, 1)) (hi : (k : Nat) = i) (hn : i < nL) (hl : xst lv i (.ref x) = lv1) (k9 : BW p l e R s m args below meth c P0 A nL cells slots Q σ hs N ad (pc + 1) lv1 st) : BW p l e R s m args below meth c P0 A nL cells slots Q σ hs N ad pc lv (.ref x :: st) := fun H locs ls hP hD hS hz => lv_astore_n C.1 C.2.1 d hi hz hn rfl (fun ls1 h1 => k9 H locs ls1 hP hD hS (hl ▸ xst_has h1))
theorem V_new (C : LX p s m args c P0 A nL own cc) {CN : String} {T : u_T} {nf ci index : Nat} (ty : Nat → FieldType) (hty : ∀ k, k < nf → parseFieldDescriptor (T k).2.2.1 = some (ty k)) (hin : ∀ w ∈ u_ws CN T nf, w ∈ xTB) (hlk : Cond.classLink own index CN ∈ xTB) (hinst : Cond.instantiable CN nf ∈ xTB) (hini : Cond.initialized CN ∈ xTB) (hc : vwCl[ci]? = some (CN, T, nf)) {fs : List Value} (hfs : ∀ j, j < nf → defaultValue (ty j) = vp_V fs j) (hcl : cells + 1 ≤ R.cells ∧ slots + nf ≤ R.slots) (d : decode cc pc = .ok (.new index, 3))
    (kk : ∀ q : Nat, BW p l e R s m args below meth c P0 A nL (cells + 1) (slots + nf) Q σ (hs ++ [(q, .inr (ci, fs))]) N ad (pc + 3) lv (.ref q :: st)) : BW p l e R s m args below meth c P0 A nL cells slots Q σ hs N ad pc lv st := fun H locs ls hP hD hS hl =>
  va_new C.1 C.2.1 C.hts hin ty hty C.2.2.2.1 (C.hts _ hlk) (C.hts _ hinst) (C.hts _ hini) C.hK (BP.p.mpr hP) (BD.d.mpr hD) hS C.hA hc hfs hcl.1 hcl.2 d (fun q H1 hP1 hD1 hS1 => kk q H1 locs ls (BP.p.mp (va_P.perm hP1 (fun y hy => last_in.symm.mem_iff.mp hy))) (BD.d.mp (hD1.perm last_in)) hS1 hl)
theorem V_dup (C : LX p s m args c P0 A nL own cc) {x : Nat} (d : decode cc pc = .ok (.dup, 1)) (k : BW p l e R s m args below meth c P0 A nL cells slots Q σ hs N ad (pc + 1) lv (.ref x :: .ref x :: st)) : BW p l e R s m args below meth c P0 A nL cells slots Q σ hs N ad pc lv (.ref x :: st) := fun H locs ls hP hD hS hl => lv_dup C.1 C.2.1 d rfl (k H locs ls hP hD hS hl)
theorem V_after {H : Heap} {locs : List Loc} {ls : Array Slot} {mc ms q : Nat} {x : va_E} {i0 : XI} {M : List XI} {st0 st1 : List Value} {a : Array Value} (C : LX p s m args c P0 A nL own cc) (hP : BP P0 (hs ++ [(q, x)]) N ad σ H) (hD : BD A (hs ++ [(q, x)]) N ad) (hS : va_S A s.heap H locs) (hl : lv_has ls nL lv) (hc : clo N) (hcM : clo M) (hM : ∀ j ∈ N, j ∉ M) (hi0 : i0 ∈ M) {σ2 : XS} (ag : ∀ i ∈ M, σ.1 i = σ2.1 i ∧ σ.2 i = σ2.2 i)
    (hr : va_Run p l e R s m args below meth c H locs cells slots mc ms (F0 m pc ls st0) st1 (BQ P0 (va_A [(q, x)] H.size) q i0 M σ2 a) (va_A [(q, x)] H.size))
    (k : ∀ ad1 : XI → Nat, ad1 i0 = q → (∀ j ∈ N, ad1 j = ad j) → BW p l e R s m args below meth c P0 A nL (cells + mc) (slots + ms) Q σ hs (M ++ N) ad1 (pc + 3) lv st1) : W p l e R s m args below meth c H locs cells slots Q (F0 m pc ls st0) := by
  intro T hT X
  obtain ⟨v, st₀, t, T', L, h0, X', hL, e1, e2, ⟨⟨hv, ad1, e0, hP1, hD1⟩, hz, hk⟩, stp⟩ := hr T hT X
  cases hv
  have hP1 : BP P0 [] M ad1 σ t.heap := ⟨hP1.1, fun i hi => by
    rw [xce_cg (ag i hi).1 (ag i hi).2]
    exact hP1.2 i hi⟩
  rw [h0] at hz hk
  have hqA : A q := hD.2.1 _ (List.mem_append_right _ (List.mem_singleton.mpr rfl))
  have hF : ∀ z : Nat, va_A [(q, x)] H.size z → A z := fun z hz9 => by
    rcases hz9 with ⟨k9, e9, h9⟩ | h9
    · have := List.mem_of_getElem? h9
      obtain ⟨rfl, -⟩ := Prod.mk.inj (List.mem_singleton.mp this)
      exact hqA
    · exact C.hA z (Nat.le_trans hS.1 h9)
  have hlt : ∀ w, va_P P0.1 vwCl w H → ∀ z ∈ w, z.1 < H.size := fun w hw z hz9 => by
    obtain ⟨k9, h9⟩ := List.getElem?_of_mem hz9
    exact vx_lt hw h9
  have hP2 : va_P P0.1 vwCl (hs ++ xwN P0 N ad σ) H := va_P.perm (BP.p.mpr hP) (fun y hy => by
    rcases List.mem_append.mp hy with h | h
    · exact List.mem_append_left _ (List.mem_append_left _ h)
    · exact List.mem_append_right _ h)
  have hnd : (q :: (hs.map (fun z => z.1) ++ N.map ad)).Nodup := by
    have h1 := hD.1
    rw [List.map_append, List.append_assoc] at h1
    exact List.perm_middle.nodup_iff.mp h1
  have hnq := (List.nodup_cons.mp hnd).1
  have hY := (List.nodup_cons.mp hnd).2
  have hfst : (hs ++ xwN P0 N ad σ).map (fun z => z.1) = hs.map (fun z => z.1) ++ N.map ad := by rw [List.map_append, xwN_fst]
  have houtY : ∀ z ∈ hs.map (fun z => z.1) ++ N.map ad, ¬ va_A [(q, x)] H.size z := fun z hz9 hA9 => by
    rcases hA9 with ⟨k9, e9, h9⟩ | h9
    · obtain ⟨rfl, -⟩ := Prod.mk.inj (List.mem_singleton.mp (List.mem_of_getElem? h9))
      exact hnq hz9
    · rw [← hfst] at hz9
      obtain ⟨y, hy, rfl⟩ := List.mem_map.mp hz9
      exact absurd (hlt _ hP2 y hy) (Nat.not_lt.mpr h9)
  have hP3 : va_P P0.1 vwCl (hs ++ xwN P0 N ad σ) t.heap := hP2.kept (fun k9 y hy => hk y.1 (vx_lt hP2 hy) (houtY y.1 (by rw [← hfst]; exact List.mem_map.mpr ⟨y, List.mem_of_getElem? hy, rfl⟩)))
  haveI inst : ∀ j : XI, Decidable (j ∈ M) := fun _ => Classical.propDecidable _
  have ea : ∀ j ∈ N, (fun j => if j ∈ M then ad1 j else ad j) j = ad j := fun j hj => if_neg (hM j hj)
  have em : ∀ j ∈ M, (fun j => if j ∈ M then ad1 j else ad j) j = ad1 j := fun j hj => if_pos hj
  have hB := BP.ad hP1 hcM em
  have hnew : BP P0 hs (M ++ N) (fun j => if j ∈ M then ad1 j else ad j) σ t.heap := BP.cons (BP.p.mp hP3) hc ea (fun y hy => (BP.p.mp hP3).1 y hy) (fun j hj => hB.2 j hj)
  have hdn : BD A hs (M ++ N) (fun j => if j ∈ M then ad1 j else ad j) := by
    refine ⟨?_, fun y hy => hD.2.1 y (List.mem_append_left _ hy), fun j hj => ?_⟩
    · rw [List.map_append, List.map_congr_left ea, List.map_congr_left em]
      have h1 : (M.map ad1 ++ (hs.map (fun z => z.1) ++ N.map ad)).Nodup := by
        rw [List.nodup_append]
        refine ⟨hD1.1, hY, fun z hz9 y hy e9 => ?_⟩
        obtain ⟨j, hj, rfl⟩ := List.mem_map.mp hz9
        exact houtY y hy (e9 ▸ hD1.2.2 j hj)
      refine List.Perm.nodup_iff ?_ |>.mp h1
      rw [← List.append_assoc, ← List.append_assoc]
      exact List.Perm.append_right _ List.perm_append_comm
    · rcases List.mem_append.mp hj with hj | hj
      · rw [em j hj]
        exact hF _ (hD1.2.2 j hj)
      · rw [ea j hj]
        exact hD.2.2 j hj
  obtain ⟨t2, a1, b1⟩ := k _ ((em i0 hi0).trans e0) ea T'.heap (locs ++ L) ls (by rw [e1]; exact hnew) hdn
    ⟨Nat.le_trans hS.1 (by rw [e1]; exact hz), fun z h1 h2 => by rw [e1, hk z (Nat.lt_of_lt_of_le h1 hS.1) (fun y => h2 (hF z y))]; exact hS.2.1 z h1 h2, fun z hz9 => by
      rcases List.mem_append.mp hz9 with h | h
      · exact hS.2.2 z h
      · exact hF _ (hL z h)⟩ hl T' rfl X'
  exact ⟨t2, stp t2 a1, b1⟩
theorem vPre_at {H : Heap} {locs : List Loc} {U : State} {q : Nat} {x : va_E} (C : LX p s m args c P0 A nL own cc) (hP : BP P0 (hs ++ [(q, x)]) N ad σ H) (hD : BD A (hs ++ [(q, x)]) N ad) (hS : va_S A s.heap H locs) (hU : U.heap = H) (hW : s.WarmedH U.vm) : BPre P0 q x H.size U := by
  have hqA : A q := hD.2.1 _ (List.mem_append_right _ (List.mem_singleton.mpr rfl))
  have hF : ∀ z : Nat, va_A [(q, x)] H.size z → A z := fun z hz9 => by
    rcases hz9 with ⟨k9, e9, h9⟩ | h9
    · obtain ⟨rfl, -⟩ := Prod.mk.inj (List.mem_singleton.mp (List.mem_of_getElem? h9))
      exact hqA
    · exact C.hA z (Nat.le_trans hS.1 h9)
  refine ⟨by rw [hU], ⟨fun z hz => ?_, fun i hi => nomatch hi⟩, va_K.moved hW.alike C.hK, ?_, xN2.warm hW C.hN⟩
  · obtain rfl := List.mem_singleton.mp hz
    rw [hU]
    exact hP.1 _ (List.mem_append_right _ (List.mem_singleton.mpr rfl))
  · rw [hU]
    exact ((C.hE.kept hS.2.1).narrow hF).warm hW
theorem V_callI (C : LX p s m args c P0 A nL own cc) {y : MethodName} {cy : ByteArray} {ny index q : Nat} {rm : Room} {x : va_E} {i0 : XI} {M : List XI} {σ2 : XS} (ag : ∀ i ∈ M, σ.1 i = σ2.1 i ∧ σ.2 i = σ2.2 i) (hM : BC l y cy ny rm P0 σ2 x i0 M) (hcw : Cond.code y cy ny none ∈ xTB) (hlk : Cond.methodLink own index y ∈ xTB) (hin : Cond.instanceMethod y ∈ xTB) (hini : Cond.initialized y.cls ∈ xTB) (hy2 : y.name = "<init>") (hd : y.cls ≠ "java/lang/invoke/MethodHandle" ∧ y.cls ≠ "java/lang/invoke/VarHandle" ∧ (parseMethodDescriptor y.desc).map (fun d => d.parameters.length) = some 0) (hR : rm.frames + 1 ≤ R.frames ∧ 8 + (ny + 11) + rm.locals ≤ R.locals) (hcl : cells + rm.cells ≤ R.cells ∧ slots + rm.slots ≤ R.slots) (hc : clo N) (hcM : clo M) (hdis : ∀ j ∈ N, j ∉ M) (hi0 : i0 ∈ M) (hst : (st.map fun v => v.category).sum ≤ 8) (d : decode cc pc = .ok (.invokespecial index, 3))
    (kk : ∀ ad1 : XI → Nat, ad1 i0 = q → (∀ j ∈ N, ad1 j = ad j) → BW p l e R s m args below meth c P0 A nL (cells + rm.cells) (slots + rm.slots) Q σ hs (M ++ N) ad1 (pc + 3) lv st) : BW p l e R s m args below meth c P0 A nL cells slots Q σ (hs ++ [(q, x)]) N ad pc lv (.ref q :: st) := fun H locs ls hP hD hS hl =>
  V_after C hP hD hS hl hc hcM hdis hi0 ag (va_runI (As := []) (rest := st) ⟨C.1, C.2.1, C.2.2.1, C.2.2.2.1, C.hts⟩ (hM q H.size) ⟨callB_of 0 C.hts (xGood hcw) rfl rfl rfl (C.hts _ hini) (C.hts _ hlk) hd hR, hy2, C.hts _ hin⟩ ⟨bBlind, fun U hU hW => ⟨rfl, vPre_at C hP hD hS hU hW⟩⟩ rfl rfl hl.1 rfl (lv_room hst) d hcl) kk
theorem V_newa (C : LX p s m args c P0 A nL own cc) {atype : ArrayType} {ty : FieldType} {t0 n : Nat} {v : Int32} (i : XI) (hty : newarray.typeOf atype = ty) (harr : Cond.arrayClass ty ∈ xTB) (ht : (xtys P0)[t0]? = some (P0.2.1 t0, ty)) (hnm : ∀ cA, va_RA s cA ty → s.vm.findClass ("[" ++ ty.toString) = some cA) (a0 : vp_A) (ha : ∀ cA : ClassId, vp_cell cA a0 = arrV cA n (fun _ => defaultValue ty)) (hx : ∀ ad1 : XI → Nat, xce (PW P0 [i] ad1) σ i = .inl (P0.2.1 t0, a0)) (hi : i ∉ N) (hc : clo N) (hv : v = nI n) (hn : n < 1000000) (hb9 : n * componentBytes ty ≤ 536870912) (hcl : cells + 1 ≤ R.cells ∧ slots + n ≤ R.slots) (d : decode cc pc = .ok (.newarray atype, 2))
    (kk : ∀ ad1 : XI → Nat, (∀ j ∈ N, ad1 j = ad j) → BW p l e R s m args below meth c P0 A nL (cells + 1) (slots + n) Q σ hs ([i] ++ N) ad1 (pc + 2) lv (.ref (ad1 i) :: st)) : BW p l e R s m args below meth c P0 A nL cells slots Q σ hs N ad pc lv (.int v :: st) := fun H locs ls hP hD hS hl => by
  subst hv
  subst hty
  refine va_newa C.1 C.2.1 (C.hts _ harr) rfl C.hK (BP.p.mpr hP) (BD.d.mpr hD) hS C.hA ha (Int32.not_lt.mpr ((nI_leI (a := 0) (n31 (by omega)) (n31 (by omega))).mpr (Nat.zero_le n))) (nI_clamp (by omega)) hb9 hcl.1 hcl.2 d (fun q cA H1 hK1 hP1 hD1 hS1 => ?_)
  have e1 := hnm _ (hK1.2 (xtys P0).length (cA, newarray.typeOf atype) (by rw [List.getElem?_append_right (Nat.le_refl _), Nat.sub_self]; rfl)).2
  have e2 := hnm _ (C.hK.2 t0 _ ht).2
  obtain rfl : cA = P0.2.1 t0 := Option.some.inj (e1.symm.trans e2)
  have hm := va_P_mem.mp hP1
  have hn9 := va_D_nd.mp hD1
  have ea : ∀ j ∈ N, (fun j => if j = i then q else ad j) j = ad j := fun j hj => if_neg (by intro z; subst z; exact hi hj)
  have ei : (fun j => if j = i then q else ad j) i = q := if_pos rfl
  have h2 := kk (fun j => if j = i then q else ad j) ea H1 locs ls ?_ ?_ hS1 hl
  · simp only [if_true] at h2
    exact h2
  · refine BP.cons (BP.p.mp (va_P.perm hP1 (fun y hy => List.mem_append_left _ hy))) hc ea (fun x hx9 => hm x (List.mem_append_left _ (List.mem_append_left _ hx9))) (fun j hj => ?_)
    obtain rfl := List.mem_singleton.mp hj
    rw [hx, if_pos rfl]
    exact hm _ (List.mem_append_right _ (List.mem_singleton.mpr rfl))
  · exact BD.push hD1 ea ei
theorem V_iconst (C : LX p s m args c P0 A nL own cc) {n : Int} {v : Int32} (d : decode cc pc = .ok (.iconst n, 1)) (hv : Int32.ofInt n = v) (k : BW p l e R s m args below meth c P0 A nL cells slots Q σ hs N ad (pc + 1) lv (.int v :: st)) : BW p l e R s m args below meth c P0 A nL cells slots Q σ hs N ad pc lv st := fun H locs ls hP hD hS hl => lv_iconst C.1 C.2.1 d hv (k H locs ls hP hD hS hl)
end XP88
abbrev NL : List XI := [.inr 19] ++ (M7 ++ (M6 ++ []))
theorem NL_all {P0 : XP} {ad : XI → Nat} : xAll (PW P0 NL ad) := ⟨fun k hk => List.mem_append_right _ (List.mem_append_right _ (List.mem_append_left _ (M6_hasr hk))), fun k h1 h2 => List.mem_append_right _ (List.mem_append_left _ (M7_has h1 h2)), List.mem_append_left _ (List.mem_singleton.mpr rfl), fun b hb k hk => List.mem_append_right _ (List.mem_append_right _ (List.mem_append_left _ (M6_has hb hk)))⟩
theorem M67 : ∀ j ∈ M6 ++ [], j ∉ M7 := fun j hj h => by
  obtain ⟨k, rfl, h1, h2⟩ := M7_in h
  rw [List.append_nil] at hj
  rcases M6_in hj with ⟨k2, h3, h4⟩ | ⟨b, k2, h3, -⟩
  · have := Sum.inr.inj h3
    omega
  · cases h3
theorem M6_ag : ∀ i ∈ M6, (uLays sE).1 i = sE.1 i ∧ (uLays sE).2 i = sE.2 i := fun i hi => by
  refine ⟨?_, by rw [lays_l]⟩
  rcases M6_in hi with ⟨k, rfl, h⟩ | ⟨b, k, rfl, -⟩
  · have n : ∀ j, 9 ≤ j → (Sum.inr k : XI) ≠ .inr j := fun j hj h => by
      have := Sum.inr.inj h
      omega
    exact lays_o (n _ (by decide)) (n _ (by decide)) (n _ (by decide)) (n _ (by decide)) (n _ (by decide)) (n _ (by decide))
  · exact lays_o (by simp) (by simp) (by simp) (by simp) (by simp) (by simp)
theorem cloM7 : clo M7 := clo_app (fun k hk j hj => by
  obtain rfl := List.mem_singleton.mp hk
  simp only [rfs, xsh, List.filterMap_cons, id_eq, List.filterMap_nil, List.mem_cons, List.not_mem_nil, or_false] at hj
  have : ∃ k, j = .inr k ∧ 10 ≤ k ∧ k < 19 := by
    rcases hj with rfl | rfl | rfl | rfl | rfl | rfl | rfl | rfl | rfl <;> exact ⟨_, rfl, by decide, by decide⟩
  obtain ⟨k, rfl, h1, h2⟩ := this
  have h3 := M7_has (k := k) (by omega) h2
  exact h3) (clo_arr rfl (clo_arr rfl (clo_arr rfl (clo_arr rfl (clo_arr rfl (clo_arr rfl (clo_arr rfl (clo_arr rfl (clo_arr rfl clo_nil)))))))))
set_option maxRecDepth 100000 in
set_option maxHeartbeats 4000000 in
/-- the law's first instructions: both sides and the cell of answers are made -/
theorem law_start {p : Program} {e : Env} {s : State} {m : MethodId} {below : List Frame} {meth : Method} {c : Code} {l : Launch} {P0 : XP} {A : Nat → Prop} {Q : State → Prop} {b : Nat} (C : LX p s m #[Value.ref b] c P0 A 9 RL cL_law)
    (K : ∀ ad : XI → Nat, BD A [] NL ad → XW p l e room_1 s m #[Value.ref b] below meth c (PW P0 NL ad) A 9 2000 30000 Q (uLays sE) 23 (lvL (PW P0 NL ad) b 0) []) : BW p l e room_1 s m #[Value.ref b] below meth c P0 A 9 0 0 Q (uLays sE) [] [] (fun _ => 0) 0 [(0, .ref b)] [] := by
  have e19 : (uLays sE).2 (.inr 19) = fun _ => 0 := by
    rw [lays_l, (sE_o (k := 19) (by decide) (by decide) (by decide)).2]
    rfl
  refine V_new (pc := 0) (ci := 6) C tyX6 tyX6_ok inX6 m_l_L_8 m_x_X6 m_n_X6 rfl dvX6 ⟨(Nat.le_of_ble_eq_true rfl), (Nat.le_of_ble_eq_true rfl)⟩ dL_law_0 (fun q6 => ?_)
  refine V_dup (pc := 3) C dL_law_3 ?_
  refine V_callI (pc := 4) (hs := []) (q := q6) (i0 := .inr 0) (M := M6) C M6_ag (b_X6_init l P0) m_c_X6_init m_m_L_131 m_i_X6_init m_n_X6 rfl ⟨by decide +kernel, by decide +kernel, by decide +kernel⟩ ⟨(Nat.le_of_ble_eq_true rfl), (Nat.le_of_ble_eq_true rfl)⟩ ⟨(Nat.le_of_ble_eq_true rfl), (Nat.le_of_ble_eq_true rfl)⟩ clo_nil cloM6 (fun _ h => nomatch h) (M6_hasr (by decide)) (Nat.le_of_ble_eq_true rfl) dL_law_4 (fun a0 w0 e0 => ?_)
  refine V_astore_n (pc := 7) (lv1 := [(0, _), (1, _)]) C 1 dL_law_7 rfl (by decide) rfl ?_
  refine V_new (pc := 8) (ci := 7) C tyX7 tyX7_ok inX7 m_l_L_132 m_x_X7 m_n_X7 rfl dvX7 ⟨(Nat.le_of_ble_eq_true rfl), (Nat.le_of_ble_eq_true rfl)⟩ dL_law_8 (fun q7 => ?_)
  refine V_dup (pc := 11) C dL_law_11 ?_
  refine V_callI (pc := 12) (hs := []) (q := q7) (i0 := .inr 9) (M := M7) C (fun _ _ => ⟨rfl, rfl⟩) (b_X7_init l P0) m_c_X7_init m_m_L_134 m_i_X7_init m_n_X7 rfl ⟨by decide +kernel, by decide +kernel, by decide +kernel⟩ ⟨(Nat.le_of_ble_eq_true rfl), (Nat.le_of_ble_eq_true rfl)⟩ ⟨(Nat.le_of_ble_eq_true rfl), (Nat.le_of_ble_eq_true rfl)⟩ (clo_add cloM6 clo_nil) cloM7 M67 (M7_has (by decide) (by decide)) (Nat.le_of_ble_eq_true rfl) dL_law_12 (fun a1 w1 e1 => ?_)
  refine V_astore_n (pc := 15) (lv1 := [(0, _), (1, _), (2, _)]) C 2 dL_law_15 rfl (by decide) rfl ?_
  refine V_iconst (pc := 16) (v := 1) C dL_law_16 (by decide) ?_
  refine V_newa (atype := .long) (ty := .long) (pc := 17) (n := 1) (t0 := 2) C (.inr 19) rfl m_a_long rfl (fun _ h => h) (1, .inr (.inl ((uLays sE).2 (.inr 19)))) (fun cA => by rw [e19]; rfl) (fun _ => rfl) (fun h => by
    rcases List.mem_append.mp h with h | h
    · obtain ⟨k, h, h1, h2⟩ := M7_in h
      have := Sum.inr.inj h
      omega
    · rw [List.append_nil] at h
      rcases M6_in h with ⟨k, h, h1⟩ | ⟨b, k, h, -⟩
      · have := Sum.inr.inj h
        omega
      · cases h) (clo_add cloM7 (clo_add cloM6 clo_nil)) rfl (by decide) (by decide) ⟨(Nat.le_of_ble_eq_true rfl), (Nat.le_of_ble_eq_true rfl)⟩ dL_law_17 (fun a2 e2 => ?_)
  refine V_astore_n (pc := 19) (lv1 := [(0, _), (1, _), (2, _), (3, _)]) C 3 dL_law_19 rfl (by decide) rfl ?_
  refine V_iconst (pc := 20) (v := nI 0) C dL_law_20 (by decide) ?_
  refine V_istore (pc := 21) (lv1 := [(0, _), (1, _), (2, _), (3, _), (4, _)]) C dL_law_21 (by decide) rfl ?_
  have f0 : q6 = a2 (.inr 0) := ((e2 _ (List.mem_append_right _ (List.mem_append_left _ (M6_hasr (by decide))))).trans ((e1 _ (List.mem_append_left _ (M6_hasr (by decide)))).trans w0)).symm
  have f1 : q7 = a2 (.inr 9) := ((e2 _ (List.mem_append_left _ (M7_has (by decide) (by decide)))).trans w1).symm
  rw [f0, f1]
  exact BW.widen (Nat.le_of_ble_eq_true rfl) (Nat.le_of_ble_eq_true rfl) (B_toX (fun _ _ => ⟨rfl, rfl⟩) (fun hD => K a2 hD))
/-- YOUR PART: from the entry, for every script of at most 3072 ints, the law comes to its end with true ('hflags': the launch's flags, for a law that throws: no stack traces) -/
theorem whole_start {p : Program} {e : Env} {s : State} {m : MethodId} {below : List Frame} {meth : Method} {c : Code} (l : Launch) (hflags : l.flags = flags0) {b L : Nat} {xs : Nat → Int32} (hL : L ≤ 3072) (C0 : lw_At p s m meth c b L xs) : W p l e room_1 s m #[Value.ref b] below meth c s.heap [] 0 0 (lw_Z below #[Value.ref b] s) (entryFrame m ([Value.ref b] : List Value).toArray 9) := by
  obtain ⟨hx, hb, hr, hml, hown, hts, hX, hbl, hlocks, hgv⟩ := id C0
  have hl0 : l.stackTraces = false := by
    unfold Launch.stackTraces
    rw [hflags]
    decide +kernel
  have hAn : ∀ a : Nat, a < s.heap.size → ¬ (fun q : Nat => s.heap.size ≤ q) a := fun a h => Nat.not_le.mpr h
  obtain ⟨dC, dI, aC, hK⟩ := xK_of hts
  obtain ⟨adK, adV, hT1, hT2⟩ := tx_all (A := fun q : Nat => s.heap.size ≤ q) hgv hAn
  have hE : xE (((dC, dI), aC, (fun _ => 0), [], adK, adV) : XP) (fun q : Nat => s.heap.size ≤ q) s s.heap := xE_of hts hgv hAn hT1 hT2
  have C : LX p s m #[Value.ref b] c (((dC, dI), aC, (fun _ => 0), [], adK, adV) : XP) (fun q : Nat => s.heap.size ≤ q) 9 RL cL_law := ⟨hx, hb, hml, hown, fun w hw => hts w (xTB_tbl w hw), hK, fun q h => h, hE, xN2_of hts⟩
  generalize (((dC, dI), aC, (fun _ => 0), [], adK, adV) : XP) = P0 at C
  have hd0 : s.drawn.sameBut s.drawn lw_cs := fun c => ⟨Nat.le_refl _, fun _ => rfl⟩
  have key := law_start (below := below) (meth := meth) (e := e) (l := l) (Q := lw_Z below #[Value.ref b] s) C (fun ad hD => by
    have D : XC p s m #[Value.ref b] meth c (PW P0 NL ad) (fun q : Nat => s.heap.size ≤ q) 9 RL cL_law ret := C.x hD hr hlocks
    exact law_loop hl0 D NL_all (fun d => ⟨hX, hbl, hAn b hbl, hL⟩) (fun d1 σ1 i1 c1 s1 hd hc hs => by
      refine X_iconst (pc := 2906) (v := 1) (D.drawn d1) dL_law_2906 (by decide) ?_
      intro H locs ls hP hS hl
      exact W.widen hc hs (va_forget (fun z hz => hS.2.2 z hz) (lw_ret hd hx hb hr hlocks dL_law_2907))) 512 0 2000 30000 (uLays sE) s.drawn hd0 first_RV (by decide) (by omega) (by decide) (by decide))
  have hl := lv_entry [.ref b] (n := 9) (Nat.le_of_ble_eq_true rfl)
  rw [lg_entry_eq]
  exact key s.heap [] _ ⟨(fun z hz => nomatch hz), (fun i hi => nomatch hi)⟩ ⟨by simp, (fun z hz => nomatch hz), (fun i hi => nomatch hi)⟩ va_S.rf hl

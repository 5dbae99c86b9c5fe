/-! THE CLAIM OUT OF ONE WALK OF THE LAW'S BODY -/
def R_law : String := "CordBoardLaw"
def lw_P (b : Addr) (xs : List Int32) (args : Array Value) (s : State) : Prop := args = #[.ref b] ∧ s.IntsAt b xs ∧ xs.length ≤ 260 ∧ (Jvm.Cond.and given_1 narrow_1).before args s = true
/-- what a walk over the start with the record d0 says of its end, said of the start itself -/
theorem lw_closed {s t : State} {o : Outcome} {d0 : Drawn} {L : List Loc} {k n : Nat} (hd0 : s.drawn.sameBut d0 lw_cs) (hv : ∃ v, o = .returned v) (hW : (s.setDrawn d0).WarmedH t.vm) (hs : (s.setDrawn d0).sameButNew ({ t with vm := s.vm } : State) L k n) : State.butDraws s t lw_cs (fun t1 => Framed s o t1 L k n) := by
  have h2 : t.drawn = d0 := congrArg State.drawn hs.1
  refine ⟨⟨hv, hW, State.sameButNew.setDrawn hs s.drawn⟩, ?_, by decide⟩
  rw [h2]
  exact hd0
def lw_Q (_ : Array Value) (s : State) (o : Outcome) (t : State) : Prop := o = .returned (some (.int 1)) ∧ State.butDraws s t lw_cs (fun t1 => Framed s o t1 [] 600086 7301442)
def lw_Z (below : List Frame) (a : Array Value) (s : State) : State → Prop := fun t => ∃ o, t.status = .running ∧ Ended t below o ∧ lw_Q a s o t
/-- the law's own end, with 1 on the stack, nothing written that was there before, its room as the claim has it; d0: the record of draws at this point (at the entry s.drawn: begin with 'refine W.base ?_' and 'have hd0 := Drawn.sameBut.refl s.drawn lw_cs') -/
theorem lw_ret {p : Program} {l : Launch} {e : Env} {s : State} {m : MethodId} {below : List Frame} {meth : Method} {c : Code} {b : Nat} {d0 : Drawn} (hd0 : s.drawn.sameBut d0 lw_cs) (hx : p.tables.exec = Jvm.exec) (hb : c.code = code) (hr : meth.sig.returnType = ret) (hlocks : meth.locks = false) {pc : Nat} {H : Heap} {ls : Array Slot} (hdg : decode code pc = .ok (.ireturn, 1)) : W p l e room_1 (s.setDrawn d0) m #[Value.ref b] below meth c H [] 600086 7301442 (lw_Z below #[Value.ref b] s) (F0 m pc ls [.int 1]) := by
  intro T hT X
  obtain ⟨fs, hret, hrun, hended, hW, hframe⟩ := X.leave (v := some (.int 1)) (hlocks := hlocks) (fun h => by rw [hr] at h; cases h)
  have hmeth' : T.vm.method? m = some meth := X.method'
  refine ⟨T.setFrames fs, ?_, .returned (some (.int 1)), hrun, hended, rfl, lw_closed hd0 ⟨_, rfl⟩ hW hframe⟩
  jvm_step X.here [X.here.top, hx, hb, hdg, hmeth', hr, ret, narrow_b1]
  (try refine ⟨rfl, ?_⟩); (try refine ⟨rfl, ?_⟩)
  first | (intro acts; rw [hret _ acts rfl rfl rfl]) | rw [hret _ _ rfl rfl rfl]
  exact Steps.refl _
/-- what holds at the law's entry: the machine, the code, the tables' words (any of lw_tbl by 'hts w (by decide +kernel)'), the script of L ints xs at the cell b, what the Statement gives of the start (any of its parts by flat_of_before) -/
def lw_At (p : Program) (s : State) (m : MethodId) (meth : Method) (c : Code) (b L : Nat) (xs : Nat → Int32) : Prop :=
  p.tables.exec = Jvm.exec ∧ c.code = code ∧ meth.sig.returnType = ret ∧ c.maxLocals = 12 ∧ s.vm.findClass R_law = some m.cls ∧ (∀ w ∈ lw_tbl, w.before #[Value.ref b] s = true) ∧ va_X b L xs s s.heap ∧ b < s.heap.size ∧ meth.locks = false ∧ (Jvm.Cond.and given_1 narrow_1).before #[Value.ref b] s = true

section XP88
variable {p : Program} {l : Launch} {e : Env} {R : Room} {s : State} {m : MethodId} {args : Array Value} {below : List Frame} {meth : Method} {c : Code} {P0 : XP} {A : Nat → Prop} {nL cells slots : Nat} {Q : State → Prop} {cc : ByteArray} {own : String} {σ : XS} {hs : va_W} {N : List XI} {ad : XI → Nat} {pc : Nat} {lv : List (Nat × Value)} {st : List Value}
/-- what holds along the law's start -/
def LX (p : Program) (s : State) (m : MethodId) (args : Array Value) (c : Code) (P0 : XP) (A : Nat → Prop) (nL : Nat) (own : String) (cc : ByteArray) : Prop :=
  p.tables.exec = Jvm.exec ∧ c.code = cc ∧ c.maxLocals = nL ∧ s.vm.findClass own = some m.cls ∧ (∀ w ∈ xTB, w.before args s = true) ∧ va_K P0.1 vwCl (xtys P0) s ∧ (∀ q : Nat, s.heap.size ≤ q → A q) ∧ xE P0 A s s.heap ∧ xN2 s
theorem LX.hts (C : LX p s m args c P0 A nL own cc) : ∀ w ∈ xTB, w.before args s = true := C.2.2.2.2.1
theorem LX.hK (C : LX p s m args c P0 A nL own cc) : va_K P0.1 vwCl (xtys P0) s := C.2.2.2.2.2.1
theorem LX.hA (C : LX p s m args c P0 A nL own cc) : ∀ q : Nat, s.heap.size ≤ q → A q := C.2.2.2.2.2.2.1
theorem LX.hE (C : LX p s m args c P0 A nL own cc) : xE P0 A s s.heap := C.2.2.2.2.2.2.2.1
theorem LX.hN (C : LX p s m args c P0 A nL own cc) : xN2 s := C.2.2.2.2.2.2.2.2
theorem V_after {H : Heap} {locs : List Loc} {ls : Array Slot} {mc ms q : Nat} {x : va_E} {i0 : XI} {M : List XI} {st0 st1 : List Value} {a : Array Value} (C : LX p s m args c P0 A nL own cc) (hP : BP P0 (hs ++ [(q, x)]) N ad σ H) (hD : BD A (hs ++ [(q, x)]) N ad) (hS : va_S A s.heap H locs) (hl : lv_has ls nL lv) (hc : clo N) (hcM : clo M) (hM : ∀ j ∈ N, j ∉ M) (hi0 : i0 ∈ M) {σ2 : XS} (ag : ∀ i ∈ M, σ.1 i = σ2.1 i ∧ σ.2 i = σ2.2 i)
    (hr : va_Run p l e R s m args below meth c H locs cells slots mc ms (F0 m pc ls st0) st1 (BQ P0 (va_A [(q, x)] H.size) q i0 M σ2 a) (va_A [(q, x)] H.size))
    (k : ∀ ad1 : XI → Nat, ad1 i0 = q → (∀ j ∈ N, ad1 j = ad j) → BW p l e R s m args below meth c P0 A nL (cells + mc) (slots + ms) Q σ hs (M ++ N) ad1 (pc + 3) lv st1) : W p l e R s m args below meth c H locs cells slots Q (F0 m pc ls st0) := by
  intro T hT X
  obtain ⟨v, st₀, t, T', L, h0, X', hL, e1, e2, ⟨⟨hv, ad1, e0, hP1, hD1⟩, hz, hk⟩, stp⟩ := hr T hT X
  cases hv
  have hP1 : BP P0 [] M ad1 σ t.heap := ⟨hP1.1, fun i hi => by
    rw [xce_cg (ag i hi).1 (ag i hi).2]
    exact hP1.2 i hi⟩
  rw [h0] at hz hk
  have hqA : A q := hD.2.1 _ (List.mem_append_right _ (List.mem_singleton.mpr rfl))
  have hF : ∀ z : Nat, va_A [(q, x)] H.size z → A z := fun z hz9 => by
    rcases hz9 with ⟨k9, e9, h9⟩ | h9
    · have := List.mem_of_getElem? h9
      obtain ⟨rfl, -⟩ := Prod.mk.inj (List.mem_singleton.mp this)
      exact hqA
    · exact C.hA z (Nat.le_trans hS.1 h9)
  have hlt : ∀ w, va_P P0.1 vwCl w H → ∀ z ∈ w, z.1 < H.size := fun w hw z hz9 => by
    obtain ⟨k9, h9⟩ := List.getElem?_of_mem hz9
    exact vx_lt hw h9
  have hP2 : va_P P0.1 vwCl (hs ++ xwN P0 N ad σ) H := va_P.perm (BP.p.mpr hP) (fun y hy => by
    rcases List.mem_append.mp hy with h | h
    · exact List.mem_append_left _ (List.mem_append_left _ h)
    · exact List.mem_append_right _ h)
  have hnd : (q :: (hs.map (fun z => z.1) ++ N.map ad)).Nodup := by
    have h1 := hD.1
    rw [List.map_append, List.append_assoc] at h1
    exact List.perm_middle.nodup_iff.mp h1
  have hnq := (List.nodup_cons.mp hnd).1
  have hY := (List.nodup_cons.mp hnd).2
  have hfst : (hs ++ xwN P0 N ad σ).map (fun z => z.1) = hs.map (fun z => z.1) ++ N.map ad := by rw [List.map_append, xwN_fst]
  have houtY : ∀ z ∈ hs.map (fun z => z.1) ++ N.map ad, ¬ va_A [(q, x)] H.size z := fun z hz9 hA9 => by
    rcases hA9 with ⟨k9, e9, h9⟩ | h9
    · obtain ⟨rfl, -⟩ := Prod.mk.inj (List.mem_singleton.mp (List.mem_of_getElem? h9))
      exact hnq hz9
    · rw [← hfst] at hz9
      obtain ⟨y, hy, rfl⟩ := List.mem_map.mp hz9
      exact absurd (hlt _ hP2 y hy) (Nat.not_lt.mpr h9)
  have hP3 : va_P P0.1 vwCl (hs ++ xwN P0 N ad σ) t.heap := hP2.kept (fun k9 y hy => hk y.1 (vx_lt hP2 hy) (houtY y.1 (by rw [← hfst]; exact List.mem_map.mpr ⟨y, List.mem_of_getElem? hy, rfl⟩)))
  haveI inst : ∀ j : XI, Decidable (j ∈ M) := fun _ => Classical.propDecidable _
  have ea : ∀ j ∈ N, (fun j => if j ∈ M then ad1 j else ad j) j = ad j := fun j hj => if_neg (hM j hj)
  have em : ∀ j ∈ M, (fun j => if j ∈ M then ad1 j else ad j) j = ad1 j := fun j hj => if_pos hj
  have hB := BP.ad hP1 hcM em
  have hnew : BP P0 hs (M ++ N) (fun j => if j ∈ M then ad1 j else ad j) σ t.heap := BP.cons (BP.p.mp hP3) hc ea (fun y hy => (BP.p.mp hP3).1 y hy) (fun j hj => hB.2 j hj)
  have hdn : BD A hs (M ++ N) (fun j => if j ∈ M then ad1 j else ad j) := by
    refine ⟨?_, fun y hy => hD.2.1 y (List.mem_append_left _ hy), fun j hj => ?_⟩
    · rw [List.map_append, List.map_congr_left ea, List.map_congr_left em]
      have h1 : (M.map ad1 ++ (hs.map (fun z => z.1) ++ N.map ad)).Nodup := by
        rw [List.nodup_append]
        refine ⟨hD1.1, hY, fun z hz9 y hy e9 => ?_⟩
        obtain ⟨j, hj, rfl⟩ := List.mem_map.mp hz9
        exact houtY y hy (e9 ▸ hD1.2.2 j hj)
      refine List.Perm.nodup_iff ?_ |>.mp h1
      rw [← List.append_assoc, ← List.append_assoc]
      exact List.Perm.append_right _ List.perm_append_comm
    · rcases List.mem_append.mp hj with hj | hj
      · rw [em j hj]
        exact hF _ (hD1.2.2 j hj)
      · rw [ea j hj]
        exact hD.2.2 j hj
  obtain ⟨t2, a1, b1⟩ := k _ ((em i0 hi0).trans e0) ea T'.heap (locs ++ L) ls (by rw [e1]; exact hnew) hdn
    ⟨Nat.le_trans hS.1 (by rw [e1]; exact hz), fun z h1 h2 => by rw [e1, hk z (Nat.lt_of_lt_of_le h1 hS.1) (fun y => h2 (hF z y))]; exact hS.2.1 z h1 h2, fun z hz9 => by
      rcases List.mem_append.mp hz9 with h | h
      · exact hS.2.2 z h
      · exact hF _ (hL z h)⟩ hl T' rfl X'
  exact ⟨t2, stp t2 a1, b1⟩
theorem vPre_at {H : Heap} {locs : List Loc} {U : State} {q : Nat} {x : va_E} (C : LX p s m args c P0 A nL own cc) (hP : BP P0 (hs ++ [(q, x)]) N ad σ H) (hD : BD A (hs ++ [(q, x)]) N ad) (hS : va_S A s.heap H locs) (hU : U.heap = H) (hW : s.WarmedH U.vm) : BPre P0 q x H.size U := by
  have hqA : A q := hD.2.1 _ (List.mem_append_right _ (List.mem_singleton.mpr rfl))
  have hF : ∀ z : Nat, va_A [(q, x)] H.size z → A z := fun z hz9 => by
    rcases hz9 with ⟨k9, e9, h9⟩ | h9
    · obtain ⟨rfl, -⟩ := Prod.mk.inj (List.mem_singleton.mp (List.mem_of_getElem? h9))
      exact hqA
    · exact C.hA z (Nat.le_trans hS.1 h9)
  refine ⟨by rw [hU], ⟨fun z hz => ?_, fun i hi => nomatch hi⟩, va_K.moved hW.alike C.hK, ?_, xN2.warm hW C.hN⟩
  · obtain rfl := List.mem_singleton.mp hz
    rw [hU]
    exact hP.1 _ (List.mem_append_right _ (List.mem_singleton.mpr rfl))
  · rw [hU]
    exact ((C.hE.kept hS.2.1).narrow hF).warm hW
theorem V_callI (C : LX p s m args c P0 A nL own cc) {y : MethodName} {cy : ByteArray} {ny index q : Nat} {rm : Room} {x : va_E} {i0 : XI} {M : List XI} {σ2 : XS} (ag : ∀ i ∈ M, σ.1 i = σ2.1 i ∧ σ.2 i = σ2.2 i) (hM : BC l y cy ny rm P0 σ2 x i0 M) (hcw : Cond.code y cy ny none ∈ xTB) (hlk : Cond.methodLink own index y ∈ xTB) (hin : Cond.instanceMethod y ∈ xTB) (hini : Cond.initialized y.cls ∈ xTB) (hy2 : y.name = "<init>") (hd : y.cls ≠ "java/lang/invoke/MethodHandle" ∧ y.cls ≠ "java/lang/invoke/VarHandle" ∧ (parseMethodDescriptor y.desc).map (fun d => d.parameters.length) = some 0) (hR : rm.frames + 1 ≤ R.frames ∧ 8 + (ny + 11) + rm.locals ≤ R.locals) (hcl : cells + rm.cells ≤ R.cells ∧ slots + rm.slots ≤ R.slots) (hc : clo N) (hcM : clo M) (hdis : ∀ j ∈ N, j ∉ M) (hi0 : i0 ∈ M) (hst : (st.map fun v => v.category).sum ≤ 8) (d : decode cc pc = .ok (.invokespecial index, 3))
    (kk : ∀ ad1 : XI → Nat, ad1 i0 = q → (∀ j ∈ N, ad1 j = ad j) → BW p l e R s m args below meth c P0 A nL (cells + rm.cells) (slots + rm.slots) Q σ hs (M ++ N) ad1 (pc + 3) lv st) : BW p l e R s m args below meth c P0 A nL cells slots Q σ (hs ++ [(q, x)]) N ad pc lv (.ref q :: st) := fun H locs ls hP hD hS hl =>
  V_after C hP hD hS hl hc hcM hdis hi0 ag (va_runI (As := []) (rest := st) ⟨C.1, C.2.1, C.2.2.1, C.2.2.2.1, C.hts⟩ (hM q H.size) ⟨callB_of 0 C.hts (xGood hcw) rfl rfl rfl (C.hts _ hini) (C.hts _ hlk) hd hR, hy2, C.hts _ hin⟩ ⟨bBlind, fun U hU hW => ⟨rfl, vPre_at C hP hD hS hU hW⟩⟩ rfl rfl hl.1 rfl (lv_room hst) d hcl) kk
end XP88

def SC (s : State) (A : Nat → Prop) (b L : Nat) (xs : Nat → Int32) : Prop := va_X b L xs s s.heap ∧ b < s.heap.size ∧ ¬ A b ∧ L ≤ 260
section X99
variable {p : Program} {l : Launch} {e : Env}  {s : State} {m : MethodId} {args : Array Value} {below : List Frame} {meth : Method} {c : Code} {P : XP} {A : Nat → Prop} {nL cells slots : Nat} {Q : State → Prop} {cc : ByteArray} {ret : Option FieldType} {σ : XS} {pc : Nat} {lv : List (Nat × Value)} {st : List Value}
variable {P0 : XP} {own : String} {b L : Nat} {xs : Nat → Int32} {w : va_W}
theorem X_slen (C : XC p s m args meth c P A nL own cc ret) (hX : SC s A b L xs) (d : decode cc pc = .ok (.arraylength, 1)) (k : XW p l e room_1 s m args below meth c P A nL cells slots Q σ (pc + 1) lv (.int (nI L) :: st)) : XW p l e room_1 s m args below meth c P A nL cells slots Q σ pc lv (.ref b :: st) := fun H locs ls hP hS hl => va_slen C.1 C.2.1 hX.1 hX.2.1 hX.2.2.1 hS d (k H locs ls hP hS hl)
theorem X_sld (C : XC p s m args meth c P A nL own cc ret) (hX : SC s A b L xs) {j : Nat} (hj : j < L) (d : decode cc pc = .ok (.iaload, 1)) (k : XW p l e room_1 s m args below meth c P A nL cells slots Q σ (pc + 1) lv (.int (xs j) :: st)) : XW p l e room_1 s m args below meth c P A nL cells slots Q σ pc lv (.int (nI j) :: .ref b :: st) := fun H locs ls hP hS hl => by
  have h260 := hX.2.2.2
  refine va_sld C.1 C.2.1 hX.1 hX.2.1 hX.2.2.1 hS (vp_in_nI hj (n31 (by omega))) d ?_
  rw [nI_clamp (n31 (by omega))]
  exact k H locs ls hP hS hl
theorem xw_0 (h0 : P0.2.2.2.1 = []) : xw (xPR P0 w) σ = w := by
  rw [xw_pr, h0]
  rfl
theorem xw_6 {ad : XI → Nat} : xw (xPR (PN P0 M6 ad) w) σ = xwN P0 M6 ad σ ++ w := by
  rw [xw_pr, xwN_eq]
/-- the board's constructor: from raw things to the world by names -/
theorem X_board {q : Nat} (C : XC p s m args meth c (xPR P0 (w ++ [(q, .inr (6, fsX6))])) A nL RL cc ret) (h0 : P0.2.2.2.1 = []) (hN : xN2 s) (hcl : cells + 420 ≤ room_1.cells ∧ slots + 13000 ≤ room_1.slots) (hst : (st.map fun v => v.category).sum ≤ 8) (d : decode cc pc = .ok (.invokespecial 231, 3))
    (kk : ∀ ad : XI → Nat, ad (.inr 0) = q → XC p s m args meth c (xPR (PN P0 M6 ad) w) A nL RL cc ret → XW p l e room_1 s m args below meth c (xPR (PN P0 M6 ad) w) A nL (cells + 420) (slots + 13000) Q sX0 (pc + 3) lv st) : XW p l e room_1 s m args below meth c (xPR P0 (w ++ [(q, .inr (6, fsX6))])) A nL cells slots Q sX0 pc lv (.ref q :: st) := by
  have CL : LX p s m args c P0 A nL RL cc := ⟨C.1, C.2.1, C.2.2.1, C.2.2.2.1, C.hts, C.hK, C.hA, C.hE, hN⟩
  intro H locs ls hP hS hl
  have hD0 := C.hD sX0
  rw [xw_0 h0] at hP hD0
  have hnd := va_D_nd.mp hD0
  refine V_callI (rm := rb_X6_init) (i0 := .inr 0) (M := M6) (σ2 := sX0) (σ := sX0) (N := []) (ad := fun _ => 0) (hs := w) (q := q) CL (fun _ _ => ⟨rfl, rfl⟩) (b_X6_init l P0) m_c_X6_init m_m_L_231 m_i_X6_init m_n_X6 rfl ⟨by decide +kernel, by decide +kernel, by decide +kernel⟩ ⟨Nat.le_of_ble_eq_true rfl, Nat.le_of_ble_eq_true rfl⟩ hcl clo_nil cloM6 (fun _ h => nomatch h) (M6_hasr (by decide)) hst d (fun ad1 e0 _ => ?_) H locs ls ⟨fun z hz => va_P_mem.mp hP z hz, fun i hi => nomatch hi⟩ ⟨by rw [List.map_nil, List.append_nil]; exact hnd.1, hnd.2, fun i hi => nomatch hi⟩ hS hl
  rw [List.append_nil]
  intro H1 locs1 ls1 hP1 hD1 hS1 hl1
  have hD2 : va_D A (w ++ xwN P0 M6 ad1 sX0) := BD.d.mpr hD1
  have hP2 : va_P P0.1 vwCl (w ++ xwN P0 M6 ad1 sX0) H1 := BP.p.mpr hP1
  have D : XC p s m args meth c (xPR (PN P0 M6 ad1) w) A nL RL cc ret := ⟨C.1, C.2.1, C.2.2.1, C.2.2.2.1, C.hts, C.hK, fun σ1 => xw_D (σ := sX0) (by rw [xw_6]; exact hD2.perm List.perm_append_comm) σ1, C.hA, C.hr, C.hlk, C.hE⟩
  refine kk ad1 e0 D H1 locs1 ls1 ?_ hS1 hl1
  rw [xw_6]
  exact hP2.perm (fun z hz => (List.mem_append.mp hz).elim (fun h => List.mem_append_right _ h) (fun h => List.mem_append_left _ h))
end X99
theorem PN_XA {P0 : XP} {ad : XI → Nat} : XA (PN P0 M6 ad) := ⟨fun k hk => M6_hasr hk, fun b hb k hk => M6_has hb hk⟩
/-! the board as it is made -/
theorem sX_z : ∀ b, b < 12 → xZ sX0 b := fun b hb => by
  have z0 : ∀ b, xZ (uFill s0 8 121) b := fun b k _ => by rw [uFill_o (by simp) (by simp), uFill_o (by simp) (by simp)]; exact ⟨rfl, rfl⟩
  have z1 : xZ g3.2.1 b := by
    by_cases g : b = 1
    · subst g; exact first_fr.2.2 (z0 1)
    · exact first_fr.z g (z0 b)
  have z2 : xZ (uCopyB g3.2.1 0 1) b := (FS.copy (b := 0) (f := 1) (by decide) (first_fr.2.2 (z0 1))).z z1
  exact xZ_o z2 (xu_ne _ _ _ (by simp)) (xu_ne _ _ _ (by simp))
theorem sX_h : Hi sX0 0 0 := by
  have e : sX0.1 (.inr 4) = fun _ => 0 := by
    unfold sX0 uShort
    rw [xu_ne _ _ _ (by simp), (uCopyB_ne (fun k => by simp)).1, first_fr.1 _ (fun k => by simp) (by simp) (by simp), uFill_o (by simp) (by simp)]
    rfl
  unfold Hi
  rw [e]
  exact ⟨rfl, by decide, rfl, by decide⟩
theorem sX_t : Tx sX0 0 := ⟨xu_self _ _ _ _, by decide, fun i hi => absurd hi (Nat.not_lt_zero _)⟩
set_option maxRecDepth 100000 in
theorem sX_b : Bd sX0 0 := by
  obtain ⟨⟨a1, -⟩, ⟨b1, -⟩, c1, -, -⟩ := first_ok
  have a0 : ¬ g1.1 = 0 := by rw [a1]; decide
  have b0 : ¬ g2.1 = 0 := by rw [b1]; decide
  have c0 : ¬ g3.1 = 0 := by rw [c1]; decide
  have r0at : At w1 121 0 := At_text fill_Tx
  obtain ⟨r1at, r1bd, r1nu, r1nt⟩ := (rBrd_ok r0at).2 a0
  obtain ⟨r2at, r2bd, r2nu⟩ := rTols_ok 5 0 g1.2.1 g1.2.2 rfl r1at r1bd rfl r1nt b0
  exact (rUsers_ok r2at r2bd (r2nu.trans r1nu) c0).2.copy.short

section X99b
variable {p : Program} {l : Launch} {e : Env} {s : State} {m : MethodId} {below : List Frame} {meth : Method} {c : Code} {P0 P : XP} {A : Nat → Prop} {cells slots : Nat} {σ : XS} {b L : Nat} {xs : Nat → Int32} {w : va_W} {lv : List (Nat × Value)}
theorem W_fin (C : XC p s m #[Value.ref b] meth c P A 12 RL cL_law ret) (hA9 : ∀ q, A q → s.heap.size ≤ q) (hc : cells ≤ 600086) (hs : slots ≤ 7301442) : XW p l e room_1 s m #[Value.ref b] below meth c P A 12 cells slots (lw_Z below #[Value.ref b] s) σ 435 lv [] := by
  refine X_iconst (pc := 435) (v := 1) C dL_law_435 (by decide) ?_
  intro H locs ls hP hS hl
  exact W.widen hc hs (va_forget (fun z hz => hA9 _ (hS.2.2 z hz)) (lw_ret (d0 := s.drawn) (fun c => ⟨Nat.le_refl _, fun _ => rfl⟩) C.1 C.2.1 C.hr C.hlk dL_law_436))

set_option maxRecDepth 100000 in
set_option maxHeartbeats 4000000 in
theorem W_again (C : XC p s m #[Value.ref b] meth c P A 12 RL cL_law ret) (hA9 : ∀ q, A q → s.heap.size ≤ q) (hX : SC s A b L xs) (hc : cells ≤ 200000) (hs : slots ≤ 2000000) : XW p l e room_1 s m #[Value.ref b] below meth c P A 12 (cells) (slots) (lw_Z below #[Value.ref b] s) σ 22 [(0, .ref b), (2, .int (nI 1))] [] := by
  refine X_iload_n (pc := 22) C 2 dL_law_22 rfl rfl ?_
  refine X_aload_n (pc := 23) C 0 dL_law_23 rfl rfl ?_
  refine X_slen (pc := 24) C hX dL_law_24 ?_
  refine X_icmp_ge (pc := 25) C 435 dL_law_25 (by decide) (fun h => W_fin C hA9 (by omega) (by omega)) (fun h => ?_)
  refine X_iload_n (pc := 28) C 2 dL_law_28 rfl rfl ?_
  refine X_iconst (pc := 29) (v := nI 1) C dL_law_29 (by decide) ?_
  exact X_icmp_ge (pc := 30) C 435 dL_law_30 (by decide) (fun h => W_fin C hA9 (by omega) (by omega)) (fun h => absurd (Int32.le_refl _) h)

theorem brd_l {ln co : Nat} (h1 : ln < 100) (h2 : co < 100) : (brdT ln co).length ≤ 12 := by
  have a := (dg_ok ln h1).2.2
  have b := (dg_ok co h2).2.2
  have c := tx_l.1
  unfold brdT
  simp only [List.length_append, lc]
  omega
theorem brd_c {ln co : Nat} (h1 : ln < 100) (h2 : co < 100) : okC (brdT ln co) := (okC_tx (q := 12) (by decide)).app ((okC_dg h1).app ((okC_1 (x := 32) (by decide)).app ((okC_dg h2).app (okC_1 (x := 59) (by decide)))))
set_option maxRecDepth 100000 in
set_option maxHeartbeats 4000000 in
theorem W_body {a0 a1 : Nat} {fr : Nat → Option Nat} {f : Nat → Int32} (hl0 : l.stackTraces = false) (hP : XA P) (hX : SC s A b L xs) (hA9 : ∀ q, A q → s.heap.size ≤ q) (hBd : Bd σ 0) (hTx : Tx σ 0) (hHi : Hi σ 0 0) (hz : ∀ b, b < 12 → xZ σ b) (hw0 : w[0]? = some (a0, .inl (P.2.1 5, 3, .inr (.inr (.inr (.inr fr)))))) (hfr : ∀ j, j < 3 → fr j = some (xK P (9 + j))) (hw1 : w[1]? = some (iC P a1 f)) (hlen : w.length = 2) (hc : cells ≤ 430) (hs : slots ≤ 13100) (C : XC p s m #[Value.ref b] meth c (xPR P w) A 12 RL cL_law ret) : XW p l e room_1 s m #[Value.ref b] below meth c (xPR P w) A 12 (cells) (slots) (lw_Z below #[Value.ref b] s) σ 50 [(0, .ref b), (1, .ref a0), (2, .int (nI 0)), (3, .ref a1)] [.ref (P.2.2.1 (.inr 0))] := by
  refine X_astore (pc := 50) (lv1 := [(0, _), (1, _), (2, _), (3, _), (4, _)]) C dL_law_50 (by decide) rfl ?_
  refine X_iconst (pc := 52) (v := 1) C dL_law_52 (by decide) ?_
  refine X_aload_n (pc := 53) C 3 dL_law_53 rfl rfl ?_
  refine X_iconst (pc := 54) (v := nI 4) C dL_law_54 (by decide) ?_
  refine X_drwW (n := 4) (pc := 55) C hw1 (by decide) (by decide) ⟨by show _ ≤ 600086; omega, by show _ ≤ 7301442; omega⟩ (Nat.le_of_ble_eq_true rfl) dL_law_55 (fun jl fl hjl C => ?_)
  replace hw1 := set_at (q := iC P a1 fl) hw1
  replace hw0 : (w.set 1 (iC P a1 fl))[0]? = _ := (set_ne (by decide)).trans hw0
  replace hlen : (w.set 1 (iC P a1 fl)).length = 2 := by rw [List.length_set]; exact hlen
  generalize w.set 1 (iC P a1 fl) = w at hw0 hw1 hlen C ⊢
  refine X_iadd (pc := 58) C dL_law_58 ?_
  rw [show (1 : Int32) + nI jl = nI (1 + jl) from nI_add 1 jl]
  have hln : 1 ≤ 1 + jl ∧ 1 + jl ≤ 4 := by omega
  generalize 1 + jl = ln at hln ⊢
  have dgl := (dg_ok ln (by omega)).2.2
  obtain ⟨l12, l13, l14⟩ := tx_l
  refine X_istore (pc := 59) (lv1 := [(0, _), (1, _), (2, _), (3, _), (4, _), (5, _)]) C dL_law_59 (by decide) rfl ?_
  refine X_newO (ci := 7) (P := xPR P w) (pc := 61) C tyJ4 tyJ4_ok inJ4 m_l_L_232 m_x_J4 m_n_J4 rfl [.null, .int 0, .int 0, .int 0] (fun j hj => by match j, hj with | 0, _ => rfl | 1, _ => rfl | 2, _ => rfl | 3, _ => rfl) ⟨by show _ + 1 ≤ 600086; omega, by show _ + 4 ≤ 7301442; omega⟩ dL_law_61 (fun bb C => ?_)
  replace C : XC p s m #[Value.ref b] meth c (xPR P (w ++ [(bb, .inr (7, [.null, .int 0, .int 0, .int 0]))])) A 12 RL cL_law ret := C
  refine XW.cP (P1 := xPR P (w ++ [(bb, .inr (7, [.null, .int 0, .int 0, .int 0]))])) rfl ?_
  refine X_dup (pc := 64) C dL_law_64 rfl ?_
  refine X_ldcS (pc := 65) (q := 12) C (List.mem_of_getElem? (i := 12) rfl) dL_law_65 ?_
  refine X_callIP (n := 1) (pc := 67) C [.ref _] (c_J4_initS l (xPR P (w ++ [(bb, .inr (7, [.null, .int 0, .int 0, .int 0]))])) σ w.length bb push_at 12 (by decide) (by decide)) m_c_J4_init_a7421 m_m_L_236 rfl m_i_J4_init_a7421 m_n_J4 ⟨by decide +kernel, by decide +kernel, by decide +kernel⟩ ⟨Nat.le_of_ble_eq_true rfl, Nat.le_of_ble_eq_true rfl⟩ ⟨by show _ + 2 ≤ 600086; omega, by show _ + 2300 ≤ 7301442; omega⟩ rfl (Nat.le_of_ble_eq_true rfl) rfl dL_law_67 (fun v9 w1 h9 C => ?_)
  obtain ⟨rfl, k1, q1, n1, hsb, ⟨hl1, hl2⟩, hkp⟩ := h9
  have hl3 : (w ++ [(bb, (.inr (7, [.null, .int 0, .int 0, .int 0]) : va_E))]).length = 3 := by rw [List.length_append, hlen]; rfl
  have hw : TB P w1 a0 a1 bb (tx 12) := by
    refine ⟨⟨fr, (hkp 0 (by show 0 < (w ++ _).length; omega) (by omega)).trans (push_old hw0), hfr⟩, ⟨fl, (hkp 1 (by show 1 < (w ++ _).length; omega) (by omega)).trans (push_old hw1)⟩, Nat.le_trans (Nat.le_of_eq hl3.symm) hl1, k1, q1, n1, Nat.le_trans (Nat.le_of_eq hl3.symm) hl2, ?_⟩
    rw [hlen] at hsb
    exact hsb
  refine XW.up (c1 := cells + 10) (s1 := slots + 2400) (by show _ + 2 ≤ _; omega) (by show _ + 2300 ≤ _; omega) ?_
  clear hkp hl1 hl2 hsb
  refine X_iload (pc := 70) C dL_law_70 rfl ?_
  refine X_tbI (pc := 72) C hw (by omega) (by (try simp only [List.length_append, lc]); omega) ⟨by show _ ≤ 600086; omega, by show _ ≤ 7301442; omega⟩ (Nat.le_of_ble_eq_true rfl) dL_law_72 (fun w hw C => ?_)
  refine X_bipush (pc := 75) (v := nI 32) C dL_law_75 (by decide) ?_
  refine X_tbC (pc := 77) C hw (by decide) (by (try simp only [List.length_append, lc]); omega) ⟨by show _ ≤ 600086; omega, by show _ ≤ 7301442; omega⟩ (Nat.le_of_ble_eq_true rfl) dL_law_77 (fun w hw C => ?_)
  refine X_iconst (pc := 80) (v := 1) C dL_law_80 (by decide) ?_
  refine X_aload_n (pc := 81) C 3 dL_law_81 rfl rfl ?_
  refine X_iconst (pc := 82) (v := nI 3) C dL_law_82 (by decide) ?_
  refine X_tbD (n := 3) (pc := 83) C hw (by decide) (by decide) ⟨by show _ ≤ 600086; omega, by show _ ≤ 7301442; omega⟩ (Nat.le_of_ble_eq_true rfl) dL_law_83 (fun jc w hjc hw C => ?_)
  refine X_iadd (pc := 86) C dL_law_86 ?_
  rw [show (1 : Int32) + nI jc = nI (1 + jc) from nI_add 1 jc]
  have hco : 1 ≤ 1 + jc ∧ 1 + jc ≤ 6 := by omega
  generalize 1 + jc = co at hco ⊢
  have dgc := (dg_ok co (by omega)).2.2
  refine X_tbI (pc := 87) C hw (by omega) (by (try simp only [List.length_append, lc]); omega) ⟨by show _ ≤ 600086; omega, by show _ ≤ 7301442; omega⟩ (Nat.le_of_ble_eq_true rfl) dL_law_87 (fun w hw C => ?_)
  refine X_bipush (pc := 90) (v := nI 59) C dL_law_90 (by decide) ?_
  refine X_tbC (pc := 92) C hw (by decide) (by (try simp only [List.length_append, lc]); omega) ⟨by show _ ≤ 600086; omega, by show _ ≤ 7301442; omega⟩ (Nat.le_of_ble_eq_true rfl) dL_law_92 (fun w hw C => ?_)
  refine X_astore (pc := 95) (lv1 := [(0, _), (1, _), (2, _), (3, _), (4, _), (5, _), (6, _)]) C dL_law_95 (by decide) rfl ?_
  refine X_aload_n (pc := 97) C 3 dL_law_97 rfl rfl ?_
  refine X_iconst (pc := 98) (v := nI 3) C dL_law_98 (by decide) ?_
  refine X_tbD (n := 3) (pc := 99) C hw (by decide) (by decide) ⟨by show _ ≤ 600086; omega, by show _ ≤ 7301442; omega⟩ (Nat.le_of_ble_eq_true rfl) dL_law_99 (fun jt w hjt hw C => ?_)
  refine X_istore (pc := 102) (lv1 := [(0, _), (1, _), (2, _), (3, _), (4, _), (5, _), (6, _), (7, _)]) C dL_law_102 (by decide) rfl ?_
  skip
  have hw2 : TB P w a0 a1 bb (brdT ln co ++ tkT []) := by
    show TB P w a0 a1 bb (brdT ln co ++ [])
    rw [List.append_nil]
    unfold brdT
    simp only [← List.append_assoc]
    exact hw
  have bl := brd_l (ln := ln) (co := co) (by omega) (by omega)
  have bc := brd_c (ln := ln) (co := co) (by omega) (by omega)
  refine XW.up (c1 := 500) (s1 := 30000) (by omega) (by omega) ?_
  refine W_trunks (B0 := brdT ln co) (fun tl w htl hx hw hok hlen2 C => ?_) jt [] (by show 0 + jt ≤ 2; omega) (fun x hx => nomatch hx) w 500 30000 hw2 (by show okC (brdT ln co ++ []); rw [List.append_nil]; exact bc) (by show (brdT ln co ++ []).length ≤ _; rw [List.append_nil]; omega) (by omega) (by omega) C
  refine X_iconst (pc := 139) (v := nI 0) C dL_law_139 (by decide) ?_
  refine X_istore (pc := 140) (lv1 := [(0, _), (1, _), (2, _), (3, _), (4, _), (5, _), (6, _), (7, _)]) C dL_law_140 (by decide) rfl ?_
  refine X_iconst (pc := 142) (v := nI 0) C dL_law_142 (by decide) ?_
  refine X_istore (pc := 143) (lv1 := [(0, _), (1, _), (2, _), (3, _), (4, _), (5, _), (6, _), (7, _), (8, _)]) C dL_law_143 (by decide) rfl ?_
  refine W_users (B0 := brdT ln co ++ tkT tl) hln (fun us w hne h12 hus hpw hw hok hlen3 C => ?_) (3 * ln) 0 (Nat.zero_add _) [] w 1000 130000 (Nat.le_refl _) (fun h => absurd h (by omega)) (fun q hq => nomatch hq) List.Pairwise.nil (by show TB P w a0 a1 bb (_ ++ []); rw [List.append_nil]; exact hw) (by show okC (_ ++ []); rw [List.append_nil]; exact hok) (by show (_ ++ []).length ≤ _; rw [List.append_nil]; omega) (by omega) (by omega) C
  exact W_load hl0 hP hBd hTx hHi hz hln hco htl hx hne h12 hus hpw (List.append_assoc _ _ _) hw hok hlen3 (fun w σ cells slots h1 h2 C => W_again C hA9 hX h1 h2) C

set_option maxRecDepth 100000 in
set_option maxHeartbeats 4000000 in
theorem W_law (hl0 : l.stackTraces = false) (h0 : P0.2.2.2.1 = []) (hN : xN2 s) (hX : SC s A b L xs) (hA9 : ∀ q, A q → s.heap.size ≤ q) (C : XC p s m #[Value.ref b] meth c (xPR P0 []) A 12 RL cL_law ret) : XW p l e room_1 s m #[Value.ref b] below meth c (xPR P0 []) A 12 (0) (0) (lw_Z below #[Value.ref b] s) sX0 0 [(0, .ref b)] [] := by
  refine X_iconst (pc := 0) (v := nI 3) C dL_law_0 (by decide) ?_
  refine X_newS (n := 3) (pc := 1) C m_l_L_105 rfl (by decide) ⟨by show _ ≤ 600086; omega, by show _ ≤ 7301442; omega⟩ dL_law_1 (fun a0 C => ?_)
  replace C : XC p s m #[Value.ref b] meth c (xPR P0 ([(a0, .inl (P0.2.1 5, 3, .inr (.inr (.inr (.inr (fun _ => none))))))])) A 12 RL cL_law ret := C
  refine XW.cP (P1 := xPR P0 ([(a0, .inl (P0.2.1 5, 3, .inr (.inr (.inr (.inr (fun _ => none))))))])) rfl ?_
  refine X_dup (pc := 4) C dL_law_4 rfl ?_
  refine X_iconst (pc := 5) (v := nI 0) C dL_law_5 (by decide) ?_
  refine X_ldcS (pc := 6) (q := 9) C (List.mem_of_getElem? (i := 9) rfl) dL_law_6 ?_
  refine X_rAast (pc := 8) C 0 (j := 0) (q := 9) rfl (by decide) (by decide) (by decide) dL_law_8 (fun C => ?_)
  replace C : XC p s m #[Value.ref b] meth c (xPR P0 ([(a0, .inl (P0.2.1 5, 3, .inr (.inr (.inr (.inr (va_up (fun _ => none) 0 (some (xK P0 9))))))))])) A 12 RL cL_law ret := C
  refine XW.cP (P1 := xPR P0 ([(a0, .inl (P0.2.1 5, 3, .inr (.inr (.inr (.inr (va_up (fun _ => none) 0 (some (xK P0 9))))))))])) rfl ?_
  refine X_dup (pc := 9) C dL_law_9 rfl ?_
  refine X_iconst (pc := 10) (v := nI 1) C dL_law_10 (by decide) ?_
  refine X_ldcS (pc := 11) (q := 10) C (List.mem_of_getElem? (i := 10) rfl) dL_law_11 ?_
  refine X_rAast (pc := 13) C 0 (j := 1) (q := 10) rfl (by decide) (by decide) (by decide) dL_law_13 (fun C => ?_)
  replace C : XC p s m #[Value.ref b] meth c (xPR P0 ([(a0, .inl (P0.2.1 5, 3, .inr (.inr (.inr (.inr (va_up (va_up (fun _ => none) 0 (some (xK P0 9))) 1 (some (xK P0 10))))))))])) A 12 RL cL_law ret := C
  refine XW.cP (P1 := xPR P0 ([(a0, .inl (P0.2.1 5, 3, .inr (.inr (.inr (.inr (va_up (va_up (fun _ => none) 0 (some (xK P0 9))) 1 (some (xK P0 10))))))))])) rfl ?_
  refine X_dup (pc := 14) C dL_law_14 rfl ?_
  refine X_iconst (pc := 15) (v := nI 2) C dL_law_15 (by decide) ?_
  refine X_ldcS (pc := 16) (q := 11) C (List.mem_of_getElem? (i := 11) rfl) dL_law_16 ?_
  refine X_rAast (pc := 18) C 0 (j := 2) (q := 11) rfl (by decide) (by decide) (by decide) dL_law_18 (fun C => ?_)
  replace C : XC p s m #[Value.ref b] meth c (xPR P0 ([(a0, .inl (P0.2.1 5, 3, .inr (.inr (.inr (.inr (va_up (va_up (va_up (fun _ => none) 0 (some (xK P0 9))) 1 (some (xK P0 10))) 2 (some (xK P0 11))))))))])) A 12 RL cL_law ret := C
  refine XW.cP (P1 := xPR P0 ([(a0, .inl (P0.2.1 5, 3, .inr (.inr (.inr (.inr (va_up (va_up (va_up (fun _ => none) 0 (some (xK P0 9))) 1 (some (xK P0 10))) 2 (some (xK P0 11))))))))])) rfl ?_
  refine X_astore_n (pc := 19) (lv1 := [(0, _), (1, _)]) C 1 dL_law_19 rfl (by decide) rfl ?_
  refine X_iconst (pc := 20) (v := nI 0) C dL_law_20 (by decide) ?_
  refine X_istore_n (pc := 21) (lv1 := [(0, _), (1, _), (2, _)]) C 2 dL_law_21 rfl (by decide) rfl ?_
  refine X_iload_n (pc := 22) C 2 dL_law_22 rfl rfl ?_
  refine X_aload_n (pc := 23) C 0 dL_law_23 rfl rfl ?_
  refine X_slen (pc := 24) C hX dL_law_24 ?_
  refine X_icmp_ge (pc := 25) C 435 dL_law_25 (by decide) (fun h => W_fin C hA9 (by omega) (by omega)) (fun h25 => ?_)
  
  have hL0 : 0 < L := Nat.lt_of_not_le (fun z => h25 ((nI_leI (b := 0) (n31 (by have := hX.2.2.2; omega)) (by decide)).mpr z))
  refine X_iload_n (pc := 28) C 2 dL_law_28 rfl rfl ?_
  refine X_iconst (pc := 29) (v := nI 1) C dL_law_29 (by decide) ?_
  refine X_icmp_ge (pc := 30) C 435 dL_law_30 (by decide) (fun h => W_fin C hA9 (by omega) (by omega)) (fun h30 => ?_)
  refine X_iconst (pc := 33) (v := nI 1) C dL_law_33 (by decide) ?_
  refine X_newI (n := 1) (pc := 34) C rfl (by decide) ⟨by show _ ≤ 600086; omega, by show _ ≤ 7301442; omega⟩ dL_law_34 (fun a1 C => ?_)
  replace C : XC p s m #[Value.ref b] meth c (xPR P0 ([(a0, .inl (P0.2.1 5, 3, .inr (.inr (.inr (.inr (va_up (va_up (va_up (fun _ => none) 0 (some (xK P0 9))) 1 (some (xK P0 10))) 2 (some (xK P0 11)))))))), (a1, .inl (P0.2.1 0, 1, .inl (fun _ => 0)))])) A 12 RL cL_law ret := C
  refine XW.cP (P1 := xPR P0 ([(a0, .inl (P0.2.1 5, 3, .inr (.inr (.inr (.inr (va_up (va_up (va_up (fun _ => none) 0 (some (xK P0 9))) 1 (some (xK P0 10))) 2 (some (xK P0 11)))))))), (a1, .inl (P0.2.1 0, 1, .inl (fun _ => 0)))])) rfl ?_
  refine X_dup (pc := 36) C dL_law_36 rfl ?_
  refine X_iconst (pc := 37) (v := nI 0) C dL_law_37 (by decide) ?_
  refine X_aload_n (pc := 38) C 0 dL_law_38 rfl rfl ?_
  refine X_iload_n (pc := 39) C 2 dL_law_39 rfl rfl ?_
  refine X_sld (pc := 40) C hX (j := 0) hL0 dL_law_40 ?_
  refine X_rIast (pc := 41) C 1 (j := 0) rfl (by decide) (by decide) dL_law_41 (fun C => ?_)
  replace C : XC p s m #[Value.ref b] meth c (xPR P0 ([(a0, .inl (P0.2.1 5, 3, .inr (.inr (.inr (.inr (va_up (va_up (va_up (fun _ => none) 0 (some (xK P0 9))) 1 (some (xK P0 10))) 2 (some (xK P0 11)))))))), (a1, .inl (P0.2.1 0, 1, .inl (upd (fun _ => 0) 0 (xs 0))))])) A 12 RL cL_law ret := C
  refine XW.cP (P1 := xPR P0 ([(a0, .inl (P0.2.1 5, 3, .inr (.inr (.inr (.inr (va_up (va_up (va_up (fun _ => none) 0 (some (xK P0 9))) 1 (some (xK P0 10))) 2 (some (xK P0 11)))))))), (a1, .inl (P0.2.1 0, 1, .inl (upd (fun _ => 0) 0 (xs 0))))])) rfl ?_
  refine X_astore_n (pc := 42) (lv1 := [(0, _), (1, _), (2, _), (3, _)]) C 3 dL_law_42 rfl (by decide) rfl ?_
  refine X_newO (ci := 6) (pc := 43) C tyX6 tyX6_ok inX6 m_l_L_8 m_x_X6 m_n_X6 rfl fsX6 dvX6 ⟨by show _ + 1 ≤ 600086; omega, by show _ + 7 ≤ 7301442; omega⟩ dL_law_43 (fun q6 C => ?_)
  replace C : XC p s m #[Value.ref b] meth c (xPR P0 ([(a0, .inl (P0.2.1 5, 3, .inr (.inr (.inr (.inr (va_up (va_up (va_up (fun _ => none) 0 (some (xK P0 9))) 1 (some (xK P0 10))) 2 (some (xK P0 11)))))))), (a1, .inl (P0.2.1 0, 1, .inl (upd (fun _ => 0) 0 (xs 0))))] ++ [(q6, .inr (6, fsX6))])) A 12 RL cL_law ret := C
  refine XW.cP (P1 := xPR P0 ([(a0, .inl (P0.2.1 5, 3, .inr (.inr (.inr (.inr (va_up (va_up (va_up (fun _ => none) 0 (some (xK P0 9))) 1 (some (xK P0 10))) 2 (some (xK P0 11)))))))), (a1, .inl (P0.2.1 0, 1, .inl (upd (fun _ => 0) 0 (xs 0))))] ++ [(q6, .inr (6, fsX6))])) rfl ?_
  refine X_dup (pc := 46) C dL_law_46 rfl ?_
  refine X_board (w := [(a0, .inl (P0.2.1 5, 3, .inr (.inr (.inr (.inr (va_up (va_up (va_up (fun _ => none) 0 (some (xK P0 9))) 1 (some (xK P0 10))) 2 (some (xK P0 11)))))))), (a1, .inl (P0.2.1 0, 1, .inl (upd (fun _ => 0) 0 (xs 0))))]) (pc := 47) C h0 hN ⟨by show _ + 420 ≤ 600086; omega, by show _ + 13000 ≤ 7301442; omega⟩ (Nat.le_of_ble_eq_true rfl) dL_law_47 (fun ad e0 D => ?_)
  subst e0
  replace C := D
  skip
  refine W_body hl0 PN_XA hX hA9 sX_b sX_t sX_h sX_z rfl (fun j hj => ?_) rfl rfl (by omega) (by omega) C
  match j, hj with
  | 0, _ => rfl
  | 1, _ => rfl
  | 2, _ => rfl
end X99b

/-- from the entry, for every script, the law comes to its end with true -/
theorem whole_start {p : Program} {e : Env} {s : State} {m : MethodId} {below : List Frame} {meth : Method} {c : Code} (l : Launch) (hflags : l.flags = flags0) {b L : Nat} {xs : Nat → Int32} (hL : L ≤ 260) (C0 : lw_At p s m meth c b L xs) : W p l e room_1 s m #[Value.ref b] below meth c s.heap [] 0 0 (lw_Z below #[Value.ref b] s) (entryFrame m ([Value.ref b] : List Value).toArray 12) := by
  obtain ⟨hx, hb, hr, hml, hown, hts, hX, hbl, hlocks, hgv⟩ := id C0
  have hl0 : l.stackTraces = false := by
    unfold Launch.stackTraces
    rw [hflags]
    decide +kernel
  have hAn : ∀ a : Nat, a < s.heap.size → ¬ (fun q : Nat => s.heap.size ≤ q) a := fun a h => Nat.not_le.mpr h
  have hxt : ∀ w ∈ xTB, w.before #[Value.ref b] s = true := fun w hw => hts2 hts w (xTB_tbl w hw)
  obtain ⟨dC, dI, aC, hK⟩ := xK_of hts hxt
  obtain ⟨adK, adV, hT1, hT2⟩ := tx_all (A := fun q : Nat => s.heap.size ≤ q) hgv hAn
  have hE : xE (((dC, dI), aC, (fun _ => 0), [], adK, adV, []) : XP) (fun q : Nat => s.heap.size ≤ q) s s.heap := xE_of hts hgv hAn hT1 hT2
  have D : XC p s m #[Value.ref b] meth c (((dC, dI), aC, (fun _ => 0), [], adK, adV, []) : XP) (fun q : Nat => s.heap.size ≤ q) 12 RL cL_law ret := ⟨hx, hb, hml, hown, hxt, hK, fun σ => va_D_nd.mpr ⟨List.nodup_nil, fun q hq => nomatch hq⟩, fun q h => h, hr, hlocks, hE⟩
  have key := W_law (P0 := (((dC, dI), aC, (fun _ => 0), [], adK, adV, []) : XP)) (below := below) (meth := meth) (e := e) (l := l) hl0 rfl (xN2_of hts) (⟨hX, hbl, hAn b hbl, hL⟩ : SC s (fun q : Nat => s.heap.size ≤ q) b L xs) (fun q h => h) D
  have hl := lv_entry [.ref b] (n := 12) (Nat.le_of_ble_eq_true rfl)
  rw [lg_entry_eq]
  exact key s.heap [] _ (va_P_mem.mpr (fun z hz => nomatch hz)) va_S.rf hl
set_option maxHeartbeats 4000000 in
theorem lw_walk (l : Launch) (hflags : l.flags = flags0) (b : Addr) (xs : List Int32) : MetFree l x (headSpec (Jvm.Cond.code x code maxLocals ret :: tables_1) room_1) (lw_P b xs) (fun _ _ _ _ _ => True) lw_Q := by
  refine MetFree.of_bodyS (code := code) (maxLocals := maxLocals) (ret := ret) (by decide) ?_ ?_
  · intro args s m h hn
    obtain ⟨meth, c, h1, h2, h3, h4, h5, h6, -, -⟩ := Cond.code_spec hn (atoms_spec (ws := Jvm.Cond.code x code maxLocals ret :: tables_1) h _ List.mem_cons_self)
    exact ⟨meth, c, h1, h2, h3, h4, h5, h6⟩
  · intro p e s m args below meth c s₁ B hml0 hP _
    obtain ⟨rfl, hx, hbd, hgv⟩ := hP
    obtain ⟨scr, harrAt, hlist, hof, hsmall⟩ := hx
    obtain ⟨hcb, hkn, -, -⟩ := State.arrayAt?_spec harrAt
    have hown : s.vm.findClass R_law = some m.cls := findClass_of_methodNamed B.named
    have hts0 : ∀ c ∈ (Jvm.Cond.code x code maxLocals ret :: tables_1), c.before #[Value.ref b] s = true := atoms_spec (ws := Jvm.Cond.code x code maxLocals ret :: tables_1) B.pre
    have hts : ∀ w ∈ lw_tbl, w.before #[Value.ref b] s = true := k2_hts_sels lw_privs (fun w hw => hts0 w (List.mem_cons_of_mem _ hw)) lw_privs_ok
    have hml : c.maxLocals = 12 := B.maxLocals_eq (hts0 _ List.mem_cons_self)
    have X₀ : Stand p l e room_1 s m #[Value.ref b] below meth c s₁ [] 0 0 := Stand.of_body B
    have hh0 : s₁.heap = s.heap := by rw [B.state]; rfl
    have hsz : scr.slots.size = xs.length := by rw [← Array.length_toList, hlist, List.length_map]
    have hval : ∀ j : Nat, j < xs.length → scr.slots[j]? = some (.int (xs.getD j 0)) := fun j hj => by
      rw [← Array.getElem?_toList, hlist]
      simp [hj]
    have hbl : b < s.heap.size := (Array.getElem?_eq_some_iff.mp hcb).1
    have hX : va_X b xs.length (fun j => xs.getD j 0) s s.heap := ⟨scr, hcb, hof, hkn, hsz, hval⟩
    have K : W p l e room_1 s m #[Value.ref b] below meth c s₁.heap [] 0 0 (lw_Z below #[Value.ref b] s) (entryFrame m ([Value.ref b] : List Value).toArray 12) := by
      rw [hh0]
      exact whole_start l hflags hbd ⟨B.exec, B.bytes, B.returns, hml, hown, hts, hX, hbl, B.notSynchronized, hgv⟩
    obtain ⟨t, a1, o, b1, b2, b3⟩ := K s₁ rfl X₀
    exact ⟨t, o, a1, b1, b2, b3⟩
theorem lw_pre_spec {args : Array Value} {s : State} (h : (Jvm.Cond.and given_1 narrow_1).before args s = true) (hr : rest_1_c.before args s = true) : ∃ (b : Addr) (xs : List Int32), lw_P b xs args s := by
  have hs := flat_of_before _ h
  have hq := flat_of_before _ hr
  have hc : (Cond.count 1).before args s = true := hs _ (by decide +kernel)
  have harr : (Cond.arrayOf (.arg 0) .int).before args s = true := hs _ (by decide +kernel)
  have hle : (Cond.le (.length (.arg 0)) (.int 260)).before args s = true := hs _ (by decide +kernel)
  have hlen : (Cond.isInt (.length (.arg 0))).before args s = true := hq _ (by decide +kernel)
  have hall : (Cond.all (.arg 0) (.isInt (.elem (.arg 0) (.index 0)))).before args s = true := hq _ (by decide +kernel)
  obtain ⟨b, xs, hb, hx⟩ := State.ints_of_pre rfl harr hlen hall
  have hsm : xs.length < 2 ^ 31 := hx.choose_spec.2.2.2
  have hev : (Term.length (.arg 0)).eval args s none [] s = some (.int xs.length.toInt32) := hx.length_eval hb
  have hv := Cond.le_ints hev (show (Term.int 260).eval args s none [] s = some (.int 260) from rfl)
  have hd : xs.length.toInt32 ≤ 260 := by
    simpa [Cond.before, Cond.holds, hv] using hle
  have hN : xs.length ≤ 260 := (Int32.ofNat_le_ofNat hsm (by decide)).mp (show Int32.ofNat xs.length ≤ Int32.ofNat 260 from hd)
  exact ⟨b, xs, Cond.one_arg hc (show args[0]? = some (.ref b) from hb), hx, hN, h⟩
theorem lw_comes (l : Launch) (hflags : l.flags = flags0) : Comes l x (Jvm.Cond.code x code maxLocals ret :: tables_1) room_1 (fun tb e args s => Calls_1 tb e args s ∧ rest_1 tb e args s ∧ Pre_1 tb e args s)
    (fun _ _ args s o t => lw_Q args s o t) := by
  intro p e ha hc hk s m args below hf hfit hheap happ hpre
  obtain ⟨b, xs, hP⟩ := lw_pre_spec hpre.2.2 hpre.2.1
  obtain ⟨k, o, h1, h2, h3, hQ⟩ := lw_walk l hflags b xs p e ha hc hk s m args below hf ((Spec.applies_iff_loose hf).mp happ).1 hP trivial
  exact ⟨k, o, h1, h2, h3, hQ⟩
theorem lw_frame {s t : State} {o : Outcome} {args : Array Value} (h : State.butDraws s t lw_cs (fun t1 => Framed s o t1 [] 600086 7301442)) :
    State.butDraws s t [Jvm.Choice.named "NaN.bits"] (fun t1 => Framed s o t1 (fieldLocs frame_1_writes args s ++ arrayLocs frame_1_arrays args s ++ staticLocs frame_1_statics s) 600086 7301442) := h
theorem lw_limb (L : Cond) (hL : ∀ (args : Array Value) (s t : State), L.after args s (.returned (some (.int 1))) t = true) :
    ArmFor flags0 classFile x code maxLocals ret World_1 tables_1 room_1 Calls_1 rest_1 Pre_1
      (fun tb e a s o t => postC L tb e a s o t ∧ State.butDraws s t [Jvm.Choice.named "NaN.bits"] (fun t1 => Framed s o t1 (fieldLocs frame_1_writes a s ++ arrayLocs frame_1_arrays a s ++ staticLocs frame_1_statics s) 600086 7301442)) := by
  intro l hflags _ _ p e ha hc hk s m args below hf hfit hheap happ hpre
  obtain ⟨k, o, h1, h2, h3, rfl, hF⟩ := lw_comes l hflags p e ha hc hk s m args below hf hfit hheap happ hpre
  exact ⟨k, _, h1, h2, h3, hL args s _, lw_frame hF⟩
theorem i_vc : Claimed_1_1 ∧ Claimed_1_2 := ⟨lw_limb limb_1_1 (fun args s t => by simp [limb_1_1, Cond.after, Cond.holds, Cond.value]), lw_limb limb_1_2 (fun args s t => Cond.after_iff.mpr (by
  first | (rw [show limb_1_2 = Cond.eq .result (.int 1) from rfl, Cond.eq_ints (x := 1) (y := 1) rfl rfl]; simp; done) | (simp [limb_1_2, Cond.value, Term.eval]; done)))⟩

/-! CONSTRUCTORS: new things -/
section XP81
variable {p : Program} {l : Launch} {e : Env} {R : Room} {s : State} {m : MethodId} {args : Array Value} {below : List Frame} {meth : Method} {c : Code} {P0 : XP} {A : Nat → Prop} {nL cells slots : Nat} {Q : State → Prop} {cc : ByteArray} {own : String} {σ : XS} {hs : va_W} {N : List XI} {ad : XI → Nat} {pc : Nat} {lv : List (Nat × Value)} {st : List Value}
/-- the one made last stands behind the raw ones -/
theorem last_in {hs ws : va_W} {x : Nat × va_E} : ((hs ++ ws) ++ [x]).Perm ((hs ++ [x]) ++ ws) := by
  rw [List.append_assoc, List.append_assoc]
  exact List.Perm.append_left _ List.perm_append_comm
theorem B_new (C : BX p s m args meth c P0 A nL own cc) {CN : String} {T : u_T} {nf ci index : Nat} (ty : Nat → FieldType) (hty : ∀ k, k < nf → parseFieldDescriptor (T k).2.2.1 = some (ty k)) (hin : ∀ w ∈ u_ws CN T nf, w ∈ xTB) (hlk : Cond.classLink own index CN ∈ xTB) (hinst : Cond.instantiable CN nf ∈ xTB) (hini : Cond.initialized CN ∈ xTB) (hc : vwCl[ci]? = some (CN, T, nf)) {fs : List Value} (hfs : ∀ j, j < nf → defaultValue (ty j) = vp_V fs j) (hcl : cells + 1 ≤ R.cells ∧ slots + nf ≤ R.slots) (d : decode cc pc = .ok (.new index, 3))
    (kk : ∀ q : Nat, BW p l e R s m args below meth c P0 A nL (cells + 1) (slots + nf) Q σ (hs ++ [(q, .inr (ci, fs))]) N ad (pc + 3) lv (.ref q :: st)) : BW p l e R s m args below meth c P0 A nL cells slots Q σ hs N ad pc lv st := fun H locs ls hP hD hS hl =>
  va_new C.1 C.2.1 C.hts hin ty hty C.2.2.2.1 (C.hts _ hlk) (C.hts _ hinst) (C.hts _ hini) C.hK (BP.p.mpr hP) (BD.d.mpr hD) hS C.hA hc hfs hcl.1 hcl.2 d (fun q H1 hP1 hD1 hS1 => kk q H1 locs ls (BP.p.mp (va_P.perm hP1 (fun y hy => last_in.symm.mem_iff.mp hy))) (BD.d.mp (hD1.perm last_in)) hS1 hl)
theorem B_dup (C : BX p s m args meth c P0 A nL own cc) {x : Nat} (d : decode cc pc = .ok (.dup, 1)) (k : BW p l e R s m args below meth c P0 A nL cells slots Q σ hs N ad (pc + 1) lv (.ref x :: .ref x :: st)) : BW p l e R s m args below meth c P0 A nL cells slots Q σ hs N ad pc lv (.ref x :: st) := fun H locs ls hP hD hS hl => lv_dup C.1 C.2.1 d rfl (k H locs ls hP hD hS hl)
/-- behind a constructor's call -/
theorem B_after {H : Heap} {locs : List Loc} {ls : Array Slot} {mc ms q : Nat} {x : va_E} {i0 : XI} {M : List XI} {st0 st1 : List Value} {a : Array Value} (C : BX p s m args meth c P0 A nL own cc) (hP : BP P0 (hs ++ [(q, x)]) N ad σ H) (hD : BD A (hs ++ [(q, x)]) N ad) (hS : va_S A s.heap H locs) (hl : lv_has ls nL lv) (hc : clo N) (hcM : clo M) (hM : ∀ j ∈ N, j ∉ M) (hi0 : i0 ∈ M)
    (hr : va_Run p l e R s m args below meth c H locs cells slots mc ms (F0 m pc ls st0) st1 (BQ P0 (va_A [(q, x)] H.size) q i0 M σ a) (va_A [(q, x)] H.size))
    (k : ∀ ad1 : XI → Nat, ad1 i0 = q → (∀ j ∈ N, ad1 j = ad j) → BW p l e R s m args below meth c P0 A nL (cells + mc) (slots + ms) Q σ hs (M ++ N) ad1 (pc + 3) lv st1) : W p l e R s m args below meth c H locs cells slots Q (F0 m pc ls st0) := by
  intro T hT X
  obtain ⟨v, st₀, t, T', L, h0, X', hL, e1, e2, ⟨⟨hv, ad1, e0, hP1, hD1⟩, hz, hk⟩, stp⟩ := hr T hT X
  cases hv
  rw [h0] at hz hk
  have hqA : A q := hD.2.1 _ (List.mem_append_right _ (List.mem_singleton.mpr rfl))
  have hF : ∀ z : Nat, va_A [(q, x)] H.size z → A z := fun z hz9 => by
    rcases hz9 with ⟨k9, e9, h9⟩ | h9
    · have := List.mem_of_getElem? h9
      obtain ⟨rfl, -⟩ := Prod.mk.inj (List.mem_singleton.mp this)
      exact hqA
    · exact C.hA z (Nat.le_trans hS.1 h9)
  have hlt : ∀ w, va_P P0.1 vwCl w H → ∀ z ∈ w, z.1 < H.size := fun w hw z hz9 => by
    obtain ⟨k9, h9⟩ := List.getElem?_of_mem hz9
    exact vx_lt hw h9
  have hP2 : va_P P0.1 vwCl (hs ++ xwN P0 N ad σ) H := va_P.perm (BP.p.mpr hP) (fun y hy => by
    rcases List.mem_append.mp hy with h | h
    · exact List.mem_append_left _ (List.mem_append_left _ h)
    · exact List.mem_append_right _ h)
  have hnd : (q :: (hs.map (fun z => z.1) ++ N.map ad)).Nodup := by
    have h1 := hD.1
    rw [List.map_append, List.append_assoc] at h1
    exact List.perm_middle.nodup_iff.mp h1
  have hnq := (List.nodup_cons.mp hnd).1
  have hY := (List.nodup_cons.mp hnd).2
  have hfst : (hs ++ xwN P0 N ad σ).map (fun z => z.1) = hs.map (fun z => z.1) ++ N.map ad := by rw [List.map_append, xwN_fst]
  have houtY : ∀ z ∈ hs.map (fun z => z.1) ++ N.map ad, ¬ va_A [(q, x)] H.size z := fun z hz9 hA9 => by
    rcases hA9 with ⟨k9, e9, h9⟩ | h9
    · obtain ⟨rfl, -⟩ := Prod.mk.inj (List.mem_singleton.mp (List.mem_of_getElem? h9))
      exact hnq hz9
    · rw [← hfst] at hz9
      obtain ⟨y, hy, rfl⟩ := List.mem_map.mp hz9
      exact absurd (hlt _ hP2 y hy) (Nat.not_lt.mpr h9)
  have hP3 : va_P P0.1 vwCl (hs ++ xwN P0 N ad σ) t.heap := hP2.kept (fun k9 y hy => hk y.1 (vx_lt hP2 hy) (houtY y.1 (by rw [← hfst]; exact List.mem_map.mpr ⟨y, List.mem_of_getElem? hy, rfl⟩)))
  haveI inst : ∀ j : XI, Decidable (j ∈ M) := fun _ => Classical.propDecidable _
  have ea : ∀ j ∈ N, (fun j => if j ∈ M then ad1 j else ad j) j = ad j := fun j hj => if_neg (hM j hj)
  have em : ∀ j ∈ M, (fun j => if j ∈ M then ad1 j else ad j) j = ad1 j := fun j hj => if_pos hj
  have hB := BP.ad hP1 hcM em
  have hnew : BP P0 hs (M ++ N) (fun j => if j ∈ M then ad1 j else ad j) σ t.heap := BP.cons (BP.p.mp hP3) hc ea (fun y hy => (BP.p.mp hP3).1 y hy) (fun j hj => hB.2 j hj)
  have hdn : BD A hs (M ++ N) (fun j => if j ∈ M then ad1 j else ad j) := by
    refine ⟨?_, fun y hy => hD.2.1 y (List.mem_append_left _ hy), fun j hj => ?_⟩
    · rw [List.map_append, List.map_congr_left ea, List.map_congr_left em]
      have h1 : (M.map ad1 ++ (hs.map (fun z => z.1) ++ N.map ad)).Nodup := by
        rw [List.nodup_append]
        refine ⟨hD1.1, hY, fun z hz9 y hy e9 => ?_⟩
        obtain ⟨j, hj, rfl⟩ := List.mem_map.mp hz9
        exact houtY y hy (e9 ▸ hD1.2.2 j hj)
      refine List.Perm.nodup_iff ?_ |>.mp h1
      rw [← List.append_assoc, ← List.append_assoc]
      exact List.Perm.append_right _ List.perm_append_comm
    · rcases List.mem_append.mp hj with hj | hj
      · rw [em j hj]
        exact hF _ (hD1.2.2 j hj)
      · rw [ea j hj]
        exact hD.2.2 j hj
  obtain ⟨t2, a1, b1⟩ := k _ ((em i0 hi0).trans e0) ea T'.heap (locs ++ L) ls (by rw [e1]; exact hnew) hdn
    ⟨Nat.le_trans hS.1 (by rw [e1]; exact hz), fun z h1 h2 => by rw [e1, hk z (Nat.lt_of_lt_of_le h1 hS.1) (fun y => h2 (hF z y))]; exact hS.2.1 z h1 h2, fun z hz9 => by
      rcases List.mem_append.mp hz9 with h | h
      · exact hS.2.2 z h
      · exact hF _ (hL z h)⟩ hl T' rfl X'
  exact ⟨t2, stp t2 a1, b1⟩
theorem bBlind {q sz : Nat} {x : va_E} : FrameBlind (va_Pc [.ref q] (BPre P0 q x sz)) := fun a U g mk z => by
  obtain ⟨q0, q1, qP, qK, qE, qN⟩ := z
  exact ⟨q0, q1, qP, va_K.moved (u := U) (U := U.calling g mk a) (Vm.Alike.refl U.vm) qK, xE.same (u := U) (U := U.calling g mk a) (H := U.heap) rfl qE, xN2.same (s := U) (U := U.calling g mk a) rfl qN⟩
theorem bPre_at {H : Heap} {locs : List Loc} {U : State} {q : Nat} {x : va_E} (C : BX p s m args meth c P0 A nL own cc) (hP : BP P0 (hs ++ [(q, x)]) N ad σ H) (hD : BD A (hs ++ [(q, x)]) N ad) (hS : va_S A s.heap H locs) (hU : U.heap = H) (hW : s.WarmedH U.vm) : BPre P0 q x H.size U := by
  have hqA : A q := hD.2.1 _ (List.mem_append_right _ (List.mem_singleton.mpr rfl))
  have hF : ∀ z : Nat, va_A [(q, x)] H.size z → A z := fun z hz9 => by
    rcases hz9 with ⟨k9, e9, h9⟩ | h9
    · obtain ⟨rfl, -⟩ := Prod.mk.inj (List.mem_singleton.mp (List.mem_of_getElem? h9))
      exact hqA
    · exact C.hA z (Nat.le_trans hS.1 h9)
  refine ⟨by rw [hU], ⟨fun z hz => ?_, fun i hi => nomatch hi⟩, va_K.moved hW.alike C.hK, ?_, xN2.warm hW C.hN⟩
  · obtain rfl := List.mem_singleton.mp hz
    rw [hU]
    exact hP.1 _ (List.mem_append_right _ (List.mem_singleton.mpr rfl))
  · rw [hU]
    exact ((C.hE.kept hS.2.1).narrow hF).warm hW
/-- a nest mate's constructor is called -/
theorem B_callN (C : BX p s m args meth c P0 A nL own cc) {y : MethodName} {cy : ByteArray} {ny index q : Nat} {rm : Room} {x : va_E} {i0 : XI} {M : List XI} {host : String} (hM : BC l y cy ny rm P0 σ x i0 M) (hcw : Cond.code y cy ny none ∈ xTB) (hlk : va_Nw (.methodLinkNest own index y host) s) (hin : Cond.instanceMethod y ∈ xTB) (hini : Cond.initialized y.cls ∈ xTB) (hy2 : y.name = "<init>") (hd : y.cls ≠ "java/lang/invoke/MethodHandle" ∧ y.cls ≠ "java/lang/invoke/VarHandle" ∧ (parseMethodDescriptor y.desc).map (fun d => d.parameters.length) = some 0) (hR : rm.frames + 1 ≤ R.frames ∧ 8 + (ny + 11) + rm.locals ≤ R.locals) (hcl : cells + rm.cells ≤ R.cells ∧ slots + rm.slots ≤ R.slots) (hc : clo N) (hcM : clo M) (hdis : ∀ j ∈ N, j ∉ M) (hi0 : i0 ∈ M) (hst : (st.map fun v => v.category).sum ≤ 8) (d : decode cc pc = .ok (.invokespecial index, 3))
    (kk : ∀ ad1 : XI → Nat, ad1 i0 = q → (∀ j ∈ N, ad1 j = ad j) → BW p l e R s m args below meth c P0 A nL (cells + rm.cells) (slots + rm.slots) Q σ hs (M ++ N) ad1 (pc + 3) lv st) : BW p l e R s m args below meth c P0 A nL cells slots Q σ (hs ++ [(q, x)]) N ad pc lv (.ref q :: st) := fun H locs ls hP hD hS hl =>
  B_after C hP hD hS hl hc hcM hdis hi0 (va_runIN (As := []) (rest := st) ⟨C.1, C.2.1, C.2.2.1, C.2.2.2.1, C.hts⟩ (hM q H.size) ⟨va_cnB 0 C.hts (xGood hcw) rfl rfl rfl hlk (C.hts _ hini) hd hR, hy2, C.hts _ hin⟩ ⟨bBlind, fun U hU hW => ⟨rfl, bPre_at C hP hD hS hU hW⟩⟩ rfl rfl hl.1 rfl (lv_room hst) d hcl) kk
/-- a constructor is called -/
theorem B_callI (C : BX p s m args meth c P0 A nL own cc) {y : MethodName} {cy : ByteArray} {ny index q : Nat} {rm : Room} {x : va_E} {i0 : XI} {M : List XI} (hM : BC l y cy ny rm P0 σ x i0 M) (hcw : Cond.code y cy ny none ∈ xTB) (hlk : Cond.methodLink own index y ∈ xTB) (hin : Cond.instanceMethod y ∈ xTB) (hini : Cond.initialized y.cls ∈ xTB) (hy2 : y.name = "<init>") (hd : y.cls ≠ "java/lang/invoke/MethodHandle" ∧ y.cls ≠ "java/lang/invoke/VarHandle" ∧ (parseMethodDescriptor y.desc).map (fun d => d.parameters.length) = some 0) (hR : rm.frames + 1 ≤ R.frames ∧ 8 + (ny + 11) + rm.locals ≤ R.locals) (hcl : cells + rm.cells ≤ R.cells ∧ slots + rm.slots ≤ R.slots) (hc : clo N) (hcM : clo M) (hdis : ∀ j ∈ N, j ∉ M) (hi0 : i0 ∈ M) (hst : (st.map fun v => v.category).sum ≤ 8) (d : decode cc pc = .ok (.invokespecial index, 3))
    (kk : ∀ ad1 : XI → Nat, ad1 i0 = q → (∀ j ∈ N, ad1 j = ad j) → BW p l e R s m args below meth c P0 A nL (cells + rm.cells) (slots + rm.slots) Q σ hs (M ++ N) ad1 (pc + 3) lv st) : BW p l e R s m args below meth c P0 A nL cells slots Q σ (hs ++ [(q, x)]) N ad pc lv (.ref q :: st) := fun H locs ls hP hD hS hl =>
  B_after C hP hD hS hl hc hcM hdis hi0 (va_runI (As := []) (rest := st) ⟨C.1, C.2.1, C.2.2.1, C.2.2.2.1, C.hts⟩ (hM q H.size) ⟨callB_of 0 C.hts (xGood hcw) rfl rfl rfl (C.hts _ hini) (C.hts _ hlk) hd hR, hy2, C.hts _ hin⟩ ⟨bBlind, fun U hU hW => ⟨rfl, bPre_at C hP hD hS hU hW⟩⟩ rfl rfl hl.1 rfl (lv_room hst) d hcl) kk
end XP81

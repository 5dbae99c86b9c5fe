/-! CONSTRUCTORS: new things -/
section XP81
variable {p : Program} {l : Launch} {e : Env} {R : Room} {s : State} {m : MethodId} {args : Array Value} {below : List Frame} {meth : Method} {c : Code} {P0 : XP} {A : Nat → Prop} {nL cells slots : Nat} {Q : State → Prop} {cc : ByteArray} {own : String} {σ : XS} {hs : va_W} {N : List XI} {ad : XI → Nat} {pc : Nat} {lv : List (Nat × Value)} {st : List Value}
/-- the one made last stands behind the raw ones -/
theorem last_in {hs ws : va_W} {x : Nat × va_E} : ((hs ++ ws) ++ [x]).Perm ((hs ++ [x]) ++ ws) := by
  rw [List.append_assoc, List.append_assoc]
  exact List.Perm.append_left _ List.perm_append_comm
theorem B_new (C : BX p s m args meth c P0 A nL own cc) {CN : String} {T : u_T} {nf ci index : Nat} (ty : Nat → FieldType) (hty : ∀ k, k < nf → parseFieldDescriptor (T k).2.2.1 = some (ty k)) (hin : ∀ w ∈ u_ws CN T nf, w ∈ xTB) (hlk : Cond.classLink own index CN ∈ xTB) (hinst : Cond.instantiable CN nf ∈ xTB) (hini : Cond.initialized CN ∈ xTB) (hc : vwCl[ci]? = some (CN, T, nf)) {fs : List Value} (hfs : ∀ j, j < nf → defaultValue (ty j) = vp_V fs j) (hcl : cells + 1 ≤ R.cells ∧ slots + nf ≤ R.slots) (d : decode cc pc = .ok (.new index, 3))
    (kk : ∀ q : Nat, BW p l e R s m args below meth c P0 A nL (cells + 1) (slots + nf) Q σ (hs ++ [(q, .inr (ci, fs))]) N ad (pc + 3) lv (.ref q :: st)) : BW p l e R s m args below meth c P0 A nL cells slots Q σ hs N ad pc lv st := fun H locs ls hP hD hS hl =>
  va_new C.1 C.2.1 C.hts hin ty hty C.2.2.2.1 (C.hts _ hlk) (C.hts _ hinst) (C.hts _ hini) C.hK (BP.p.mpr hP) (BD.d.mpr hD) hS C.hA hc hfs hcl.1 hcl.2 d (fun q H1 hP1 hD1 hS1 => kk q H1 locs ls (BP.p.mp (va_P.perm hP1 (fun y hy => last_in.symm.mem_iff.mp hy))) (BD.d.mp (hD1.perm last_in)) hS1 hl)
theorem B_dup (C : BX p s m args meth c P0 A nL own cc) {x : Nat} (d : decode cc pc = .ok (.dup, 1)) (k : BW p l e R s m args below meth c P0 A nL cells slots Q σ hs N ad (pc + 1) lv (.ref x :: .ref x :: st)) : BW p l e R s m args below meth c P0 A nL cells slots Q σ hs N ad pc lv (.ref x :: st) := fun H locs ls hP hD hS hl => lv_dup C.1 C.2.1 d rfl (k H locs ls hP hD hS hl)
end XP81

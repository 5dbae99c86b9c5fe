/-! RAW CELLS: things told as they are, behind the named cells of a world; contracts that change them -/
abbrev xRaw (P : XP) : va_W := P.2.2.2.2.2.2
/-- the same world with other raw cells -/
abbrev xPR (P : XP) (w : va_W) : XP := (P.1, P.2.1, P.2.2.1, P.2.2.2.1, P.2.2.2.2.1, P.2.2.2.2.2.1, w)
theorem xfs_pr {P : XP} {w : va_W} {σ : XS} {i : XI} : ∀ (tm : List (Option XI)) (k : Nat), xfs (xPR P w) σ i k tm = xfs P σ i k tm
  | [], _ => rfl
  | t :: ts, k => by
    rw [xfs, xfs, xfs_pr ts (k + 1)]
    cases t <;> rfl
theorem xce_pr {P : XP} {w : va_W} {σ : XS} {i : XI} : xce (xPR P w) σ i = xce P σ i := by
  unfold xce
  cases h : xsh i with
  | inl q => exact congrArg (fun z => Sum.inr (q.1, z)) (xfs_pr q.2 0)
  | inr q =>
    rcases q with ⟨kd, n⟩
    match kd with
    | 0 => rfl
    | 1 => rfl
    | 2 => rfl
    | _ + 3 => rfl
theorem xw_pr {P : XP} {w : va_W} {σ : XS} : xw (xPR P w) σ = P.2.2.2.1.map (fun i => (P.2.2.1 i, xce P σ i)) ++ w := by
  unfold xw
  refine congrArg (· ++ w) (List.map_congr_left (fun i _ => ?_))
  rw [xce_pr]
theorem xw_raw {P : XP} {σ : XS} {i : Nat} {q : Nat × va_E} (h : (xRaw P)[i]? = some q) : (xw P σ)[P.2.2.2.1.length + i]? = some q := by
  unfold xw
  rw [List.getElem?_append_right (by rw [List.length_map]; omega), List.length_map, Nat.add_sub_cancel_left]
  exact h
theorem xw_rset {P : XP} {σ : XS} {i : Nat} {q : Nat × va_E} : (xw P σ).set (P.2.2.2.1.length + i) q = xw (xPR P ((xRaw P).set i q)) σ := by
  rw [xw_pr (P := P) (w := (xRaw P).set i q)]
  unfold xw
  rw [List.set_append_right _ _ (by rw [List.length_map]; omega), List.length_map, Nat.add_sub_cancel_left]
theorem xw_rpush {P : XP} {σ : XS} {q : Nat × va_E} : xw P σ ++ [q] = xw (xPR P (xRaw P ++ [q])) σ := by
  rw [xw_pr (P := P) (w := xRaw P ++ [q])]
  unfold xw
  rw [List.append_assoc]
section XRAW
variable {p : Program} {l : Launch} {e : Env} {R : Room} {s : State} {m : MethodId} {args : Array Value} {below : List Frame} {meth : Method} {c : Code} {P : XP} {A : Nat → Prop} {nL cells slots : Nat} {Q : State → Prop} {own : String} {cc : ByteArray} {ret : Option FieldType} {σ : XS} {pc : Nat} {lv : List (Nat × Value)} {st : List Value}
theorem XC.pr (C : XC p s m args meth c P A nL own cc ret) {w : va_W} {σ0 : XS} (hD : va_D A (xw (xPR P w) σ0)) : XC p s m args meth c (xPR P w) A nL own cc ret := ⟨C.1, C.2.1, C.2.2.1, C.2.2.2.1, C.hts, C.hK, fun σ1 => xw_D hD σ1, C.hA, C.hr, C.hlk, C.hE⟩
/-- a new array of ints or bytes -/
theorem X_newR (C : XC p s m args meth c P A nL own cc ret) {atype : ArrayType} {ty : FieldType} {t0 n : Nat} {v : Int32} (hty : newarray.typeOf atype = ty) (harr : Cond.arrayClass ty ∈ xTB) (ht : (xtys P)[t0]? = some (P.2.1 t0, ty)) (hnm : ∀ cA, va_RA s cA ty → s.vm.findClass ("[" ++ ty.toString) = some cA) (ha : ∀ cA : ClassId, vp_cell cA (n, .inl (fun _ => 0)) = arrV cA n (fun _ => defaultValue ty)) (hv : v = nI n) (hn : n < 1000000) (hb9 : n * componentBytes ty ≤ 536870912) (hcl : cells + 1 ≤ R.cells ∧ slots + n ≤ R.slots) (d : decode cc pc = .ok (.newarray atype, 2))
    (kk : ∀ a : Nat, XC p s m args meth c (xPR P (xRaw P ++ [(a, .inl (P.2.1 t0, n, .inl (fun _ => 0)))])) A nL own cc ret → XW p l e R s m args below meth c (xPR P (xRaw P ++ [(a, .inl (P.2.1 t0, n, .inl (fun _ => 0)))])) A nL (cells + 1) (slots + n) Q σ (pc + 2) lv (.ref a :: st)) : XW p l e R s m args below meth c P A nL cells slots Q σ pc lv (.int v :: st) := fun H locs ls hP hS hl => by
  subst hv
  subst hty
  refine va_newa C.1 C.2.1 (C.hts _ harr) rfl C.hK hP (C.hD σ) hS C.hA ha (Int32.not_lt.mpr ((nI_leI (a := 0) (n31 (by omega)) (n31 (by omega))).mpr (Nat.zero_le n))) (nI_clamp (n31 (by omega))) hb9 hcl.1 hcl.2 d (fun q cA H1 hK1 hP1 hD1 hS1 => ?_)
  have e1 := hnm _ (hK1.2 (xtys P).length (cA, newarray.typeOf atype) (by rw [List.getElem?_append_right (Nat.le_refl _), Nat.sub_self]; rfl)).2
  have e2 := hnm _ (C.hK.2 t0 _ ht).2
  obtain rfl : cA = P.2.1 t0 := Option.some.inj (e1.symm.trans e2)
  rw [xw_rpush] at hP1 hD1
  exact kk q (C.pr hD1) H1 locs ls hP1 hS1 hl
theorem X_newI (C : XC p s m args meth c P A nL own cc ret) {n : Nat} {v : Int32} (hv : v = nI n) (hn : n < 1000000) (hcl : cells + 1 ≤ R.cells ∧ slots + n ≤ R.slots) (d : decode cc pc = .ok (.newarray .int, 2))
    (kk : ∀ a : Nat, XC p s m args meth c (xPR P (xRaw P ++ [(a, .inl (P.2.1 0, n, .inl (fun _ => 0)))])) A nL own cc ret → XW p l e R s m args below meth c (xPR P (xRaw P ++ [(a, .inl (P.2.1 0, n, .inl (fun _ => 0)))])) A nL (cells + 1) (slots + n) Q σ (pc + 2) lv (.ref a :: st)) : XW p l e R s m args below meth c P A nL cells slots Q σ pc lv (.int v :: st) :=
  X_newR (atype := .int) (ty := .int) (t0 := 0) C rfl m_a_int rfl (fun _ h => h) (fun _ => rfl) hv hn (by show n * 4 ≤ _; omega) hcl d kk
theorem X_newB (C : XC p s m args meth c P A nL own cc ret) {n : Nat} {v : Int32} (hv : v = nI n) (hn : n < 1000000) (hcl : cells + 1 ≤ R.cells ∧ slots + n ≤ R.slots) (d : decode cc pc = .ok (.newarray .byte, 2))
    (kk : ∀ a : Nat, XC p s m args meth c (xPR P (xRaw P ++ [(a, .inl (P.2.1 4, n, .inl (fun _ => 0)))])) A nL own cc ret → XW p l e R s m args below meth c (xPR P (xRaw P ++ [(a, .inl (P.2.1 4, n, .inl (fun _ => 0)))])) A nL (cells + 1) (slots + n) Q σ (pc + 2) lv (.ref a :: st)) : XW p l e R s m args below meth c P A nL cells slots Q σ pc lv (.int v :: st) :=
  X_newR (atype := .byte) (ty := .byte) (t0 := 4) C rfl m_a_byte rfl (fun _ h => h) (fun _ => rfl) hv hn (by show n * 1 ≤ _; omega) hcl d kk
/-- a new thing -/
theorem X_newO (C : XC p s m args meth c P A nL own cc ret) {CN : String} {T : u_T} {N ci index : Nat} (ty : Nat → FieldType) (hty : ∀ k, k < N → parseFieldDescriptor (T k).2.2.1 = some (ty k)) (hin : ∀ w ∈ u_ws CN T N, w ∈ xTB) (hlk : Cond.classLink own index CN ∈ xTB) (hinst : Cond.instantiable CN N ∈ xTB) (hini : Cond.initialized CN ∈ xTB) (hc : vwCl[ci]? = some (CN, T, N)) (fs : List Value) (hfs : ∀ j, j < N → defaultValue (ty j) = vp_V fs j) (hcl : cells + 1 ≤ R.cells ∧ slots + N ≤ R.slots) (d : decode cc pc = .ok (.new index, 3))
    (kk : ∀ a : Nat, XC p s m args meth c (xPR P (xRaw P ++ [(a, .inr (ci, fs))])) A nL own cc ret → XW p l e R s m args below meth c (xPR P (xRaw P ++ [(a, .inr (ci, fs))])) A nL (cells + 1) (slots + N) Q σ (pc + 3) lv (.ref a :: st)) : XW p l e R s m args below meth c P A nL cells slots Q σ pc lv st := fun H locs ls hP hS hl => by
  refine va_new C.1 C.2.1 C.hts hin ty hty C.2.2.2.1 (C.hts _ hlk) (C.hts _ hinst) (C.hts _ hini) C.hK hP (C.hD σ) hS C.hA hc hfs hcl.1 hcl.2 d (fun q H1 hP1 hD1 hS1 => ?_)
  rw [xw_rpush] at hP1 hD1
  exact kk q (C.pr hD1) H1 locs ls hP1 hS1 hl
/-- a new array of texts -/
theorem X_newS (C : XC p s m args meth c P A nL own cc ret) {index n : Nat} {v : Int32} (hlk : Cond.classLink own index RJ0 ∈ xTB) (hv : v = nI n) (hn : n < 1000000) (hcl : cells + 1 ≤ R.cells ∧ slots + n ≤ R.slots) (d : decode cc pc = .ok (.anewarray index, 3))
    (kk : ∀ a : Nat, XC p s m args meth c (xPR P (xRaw P ++ [(a, .inl (P.2.1 5, n, .inr (.inr (.inr (.inr (fun _ => none))))))])) A nL own cc ret → XW p l e R s m args below meth c (xPR P (xRaw P ++ [(a, .inl (P.2.1 5, n, .inr (.inr (.inr (.inr (fun _ => none))))))])) A nL (cells + 1) (slots + n) Q σ (pc + 3) lv (.ref a :: st)) : XW p l e R s m args below meth c P A nL cells slots Q σ pc lv (.int v :: st) := fun H locs ls hP hS hl => by
  subst hv
  refine va_newq C.1 C.2.1 C.2.2.2.1 (C.hts _ hlk) C.hE.2.1.2.2.2.1 C.hK hP (C.hD σ) hS C.hA (Int32.not_lt.mpr ((nI_leI (a := 0) (n31 (by omega)) (n31 (by omega))).mpr (Nat.zero_le n))) (nI_clamp (n31 (by omega))) (by omega) hcl.1 hcl.2 d (fun q cA H1 hK1 hP1 hD1 hS1 => ?_)
  have e1 := va_nmO (hK1.2 (xtys P).length (cA, .object RJ0) (by rw [List.getElem?_append_right (Nat.le_refl _), Nat.sub_self]; rfl)).2 rfl
  have e2 := va_nmO (C.hK.2 5 (P.2.1 5, .object RJ0) rfl).2 rfl
  obtain rfl : cA = P.2.1 5 := Option.some.inj (e1.symm.trans e2)
  rw [xw_rpush] at hP1 hD1
  exact kk q (C.pr hD1) H1 locs ls hP1 hS1 hl
/-- a constant text into an array of texts -/
theorem X_rAast (C : XC p s m args meth c P A nL own cc ret) (i : Nat) {a n j q : Nat} {f : Nat → Option Nat} (h : (xRaw P)[i]? = some (a, .inl (P.2.1 5, n, .inr (.inr (.inr (.inr f)))))) (hj : j < n) (hn : n ≤ 1000000) (hq : q < 15) (d : decode cc pc = .ok (.aastore, 1))
    (kk : XC p s m args meth c (xPR P ((xRaw P).set i (a, .inl (P.2.1 5, n, .inr (.inr (.inr (.inr (va_up f j (some (P.2.2.2.2.1 q))))))))))  A nL own cc ret → XW p l e R s m args below meth c (xPR P ((xRaw P).set i (a, .inl (P.2.1 5, n, .inr (.inr (.inr (.inr (va_up f j (some (P.2.2.2.2.1 q)))))))))) A nL cells slots Q σ (pc + 1) lv st) : XW p l e R s m args below meth c P A nL cells slots Q σ pc lv (.ref (P.2.2.2.2.1 q) :: .int (nI j) :: .ref a :: st) := fun H locs ls hP hS hl => by
  have hany : va_Any RJ0 s H (P.2.2.2.2.1 q) := by
    obtain ⟨cell, g1, g2, g3⟩ := vk_recv C.hE.2.1.1 hq hS
    obtain ⟨kC, hkC, -⟩ := Vm.findClass_spec g3
    refine ⟨cell, g1, g2, ⟨kC, hkC⟩, fun comp hcomp => ?_⟩
    have := (C.hK.1 8 (RJ0, TJ0, 4) rfl).2
    obtain ⟨f1, -⟩ := id this
    have e1 : P.1.1 8 = cell.cls := Option.some.inj (f1.symm.trans g3)
    have e2 : P.1.1 8 = comp := Option.some.inj (f1.symm.trans hcomp)
    rw [← e1, ← e2]
    exact va_assign this
  refine va_astqM C.1 C.2.1 C.hK hP (C.hD σ) hS (P.2.2.2.1.length + i) 5 (xw_raw h) rfl hany (vp_in_nI hj (n31 (by omega))) d (fun H1 locs1 hP1 hD1 hS1 => ?_)
  rw [nI_clamp (n31 (by omega)), xw_rset] at hP1 hD1
  exact kk (C.pr hD1) H1 locs1 ls hP1 hS1 hl
theorem X_rAald (C : XC p s m args meth c P A nL own cc ret) (i : Nat) {a n j : Nat} {f : Nat → Option Nat} (h : (xRaw P)[i]? = some (a, .inl (P.2.1 5, n, .inr (.inr (.inr (.inr f)))))) (hj : j < n) (hn : n ≤ 1000000) (d : decode cc pc = .ok (.aaload, 1)) (kk : XW p l e R s m args below meth c P A nL cells slots Q σ (pc + 1) lv (va_rf (f j) :: st)) : XW p l e R s m args below meth c P A nL cells slots Q σ pc lv (.int (nI j) :: .ref a :: st) := fun H locs ls hP hS hl => by
  refine va_aldq C.1 C.2.1 C.hK hP (P.2.2.2.1.length + i) 5 (xw_raw h) rfl (vp_in_nI hj (n31 (by omega))) d ?_
  rw [nI_clamp (n31 (by omega))]
  exact kk H locs ls hP hS hl
/-- loads and stores -/
theorem X_rIald (C : XC p s m args meth c P A nL own cc ret) (i : Nat) {a n j : Nat} {f : Nat → Int32} (h : (xRaw P)[i]? = some (a, .inl (P.2.1 0, n, .inl f))) (hj : j < n) (hn : n ≤ 1000000) (d : decode cc pc = .ok (.iaload, 1)) (kk : XW p l e R s m args below meth c P A nL cells slots Q σ (pc + 1) lv (.int (f j) :: st)) : XW p l e R s m args below meth c P A nL cells slots Q σ pc lv (.int (nI j) :: .ref a :: st) := fun H locs ls hP hS hl => by
  refine va_iald C.1 C.2.1 C.hK hP (P.2.2.2.1.length + i) 0 (xw_raw h) rfl (vp_in_nI hj (n31 (by omega))) d ?_
  rw [nI_clamp (n31 (by omega))]
  exact kk H locs ls hP hS hl
theorem X_rIast (C : XC p s m args meth c P A nL own cc ret) (i : Nat) {a n j : Nat} {f : Nat → Int32} {x : Int32} (h : (xRaw P)[i]? = some (a, .inl (P.2.1 0, n, .inl f))) (hj : j < n) (hn : n ≤ 1000000) (d : decode cc pc = .ok (.iastore, 1))
    (kk : XC p s m args meth c (xPR P ((xRaw P).set i (a, .inl (P.2.1 0, n, .inl (upd f j x))))) A nL own cc ret → XW p l e R s m args below meth c (xPR P ((xRaw P).set i (a, .inl (P.2.1 0, n, .inl (upd f j x))))) A nL cells slots Q σ (pc + 1) lv st) : XW p l e R s m args below meth c P A nL cells slots Q σ pc lv (.int x :: .int (nI j) :: .ref a :: st) := fun H locs ls hP hS hl => by
  refine va_iast C.1 C.2.1 C.hK hP (C.hD σ) hS (P.2.2.2.1.length + i) 0 (xw_raw h) rfl (vp_in_nI hj (n31 (by omega))) d (fun H1 locs1 hP1 hD1 hS1 => ?_)
  rw [nI_clamp (n31 (by omega)), xw_rset] at hP1 hD1
  exact kk (C.pr hD1) H1 locs1 ls hP1 hS1 hl
theorem X_rBald (C : XC p s m args meth c P A nL own cc ret) (i : Nat) {a n j : Nat} {f : Nat → Int32} (h : (xRaw P)[i]? = some (a, .inl (P.2.1 4, n, .inl f))) (hj : j < n) (hn : n ≤ 1000000) (d : decode cc pc = .ok (.baload, 1)) (kk : XW p l e R s m args below meth c P A nL cells slots Q σ (pc + 1) lv (.int (f j) :: st)) : XW p l e R s m args below meth c P A nL cells slots Q σ pc lv (.int (nI j) :: .ref a :: st) := fun H locs ls hP hS hl => by
  refine va_bald C.1 C.2.1 C.hK hP (P.2.2.2.1.length + i) 4 (xw_raw h) rfl (vp_in_nI hj (n31 (by omega))) d ?_
  rw [nI_clamp (n31 (by omega))]
  exact kk H locs ls hP hS hl
theorem X_rBast (C : XC p s m args meth c P A nL own cc ret) (i : Nat) {a n j : Nat} {f : Nat → Int32} {x : Int32} (h : (xRaw P)[i]? = some (a, .inl (P.2.1 4, n, .inl f))) (hj : j < n) (hn : n ≤ 1000000) (d : decode cc pc = .ok (.bastore, 1))
    (kk : XC p s m args meth c (xPR P ((xRaw P).set i (a, .inl (P.2.1 4, n, .inl (upd f j (vp_nar .byte x)))))) A nL own cc ret → XW p l e R s m args below meth c (xPR P ((xRaw P).set i (a, .inl (P.2.1 4, n, .inl (upd f j (vp_nar .byte x)))))) A nL cells slots Q σ (pc + 1) lv st) : XW p l e R s m args below meth c P A nL cells slots Q σ pc lv (.int x :: .int (nI j) :: .ref a :: st) := fun H locs ls hP hS hl => by
  refine va_bast C.1 C.2.1 C.hK hP (C.hD σ) hS (P.2.2.2.1.length + i) 4 (xw_raw h) rfl (vp_in_nI hj (n31 (by omega))) d (fun H1 locs1 hP1 hD1 hS1 => ?_)
  rw [nI_clamp (n31 (by omega)), xw_rset] at hP1 hD1
  exact kk (C.pr hD1) H1 locs1 ls hP1 hS1 hl
theorem X_rAlen (C : XC p s m args meth c P A nL own cc ret) (i : Nat) (t0 : Nat) {ty : FieldType} {a n : Nat} {x : Nat → Int32} (h : (xRaw P)[i]? = some (a, .inl (P.2.1 t0, n, .inl x))) (ht : (xtys P)[t0]? = some (P.2.1 t0, ty)) (d : decode cc pc = .ok (.arraylength, 1)) (kk : XW p l e R s m args below meth c P A nL cells slots Q σ (pc + 1) lv (.int (nI n) :: st)) : XW p l e R s m args below meth c P A nL cells slots Q σ pc lv (.ref a :: st) := fun H locs ls hP hS hl =>
  va_alen C.1 C.2.1 C.hK hP (P.2.2.2.1.length + i) t0 (xw_raw h) ht rfl d (kk H locs ls hP hS hl)
/-- fields -/
theorem X_rget (C : XC p s m args meth c P A nL own cc ret) (i k : Nat) {a ci idx : Nat} {fs : List Value} {CN : String} {T : u_T} {N : Nat} {v : Value} (h : (xRaw P)[i]? = some (a, .inr (ci, fs))) (hc : vwCl[ci]? = some (CN, T, N)) (hin : ∀ w ∈ u_ws CN T N, w ∈ xTB) (hk : k < N) (hv : fs[k]? = some v) (hf : Cond.fieldLink own idx (T k).1 (T k).2.1 (T k).2.2.1 ∈ xTB) (d : decode cc pc = .ok (.getfield idx, 3)) (kk : XW p l e R s m args below meth c P A nL cells slots Q σ (pc + 3) lv (v :: st)) : XW p l e R s m args below meth c P A nL cells slots Q σ pc lv (.ref a :: st) := fun H locs ls hP hS hl =>
  va_get C.1 C.2.1 C.hts hin C.2.2.2.1 C.hK hP (P.2.2.2.1.length + i) (xw_raw h) hc k hk (C.hts _ hf) (fun _ h9 => h9) hv d (kk H locs ls hP hS hl)
theorem X_rput (C : XC p s m args meth c P A nL own cc ret) (i k : Nat) {a ci idx : Nat} {fs : List Value} {CN : String} {T : u_T} {N : Nat} {v : Value} (ty0 : Nat → FieldType) (hty : ∀ k, k < N → parseFieldDescriptor (T k).2.2.1 = some (ty0 k)) (hnm : ∀ a, a < N → ∀ b, b < N → a ≠ b → (T a).2.1 ≠ (T b).2.1) (h : (xRaw P)[i]? = some (a, .inr (ci, fs))) (hc : vwCl[ci]? = some (CN, T, N)) (hin : ∀ w ∈ u_ws CN T N, w ∈ xTB) (hk : k < N) (hl9 : k < fs.length) (hf : Cond.fieldLink own idx (T k).1 (T k).2.1 (T k).2.2.1 ∈ xTB) (hfin : (T k).2.2.2 = false) (hn : narrow (ty0 k) v = v) (hfit : fits (ty0 k) v = true) (d : decode cc pc = .ok (.putfield idx, 3))
    (kk : XC p s m args meth c (xPR P ((xRaw P).set i (a, .inr (ci, fs.set k v)))) A nL own cc ret → XW p l e R s m args below meth c (xPR P ((xRaw P).set i (a, .inr (ci, fs.set k v)))) A nL cells slots Q σ (pc + 3) lv st) : XW p l e R s m args below meth c P A nL cells slots Q σ pc lv (v :: .ref a :: st) := fun H locs ls hP hS hl => by
  refine va_put C.1 C.2.1 C.hts hin ty0 hty hnm C.2.2.2.1 C.hK hP (C.hD σ) hS (P.2.2.2.1.length + i) (xw_raw h) hc k hk (C.hts _ hf) (fun _ h9 => h9) hfin (hty k hk) hn hfit hl9 d (fun H1 locs1 hP1 hD1 hS1 => ?_)
  rw [xw_rset] at hP1 hD1
  exact kk (C.pr hD1) H1 locs1 ls hP1 hS1 hl
theorem X_rputF (C : XC p s m args meth c P A nL own cc ret) (hin2 : meth.name = "<init>") (i k : Nat) {a ci idx : Nat} {fs : List Value} {CN : String} {T : u_T} {N : Nat} {v : Value} (ty0 : Nat → FieldType) (hty : ∀ k, k < N → parseFieldDescriptor (T k).2.2.1 = some (ty0 k)) (hnm : ∀ a, a < N → ∀ b, b < N → a ≠ b → (T a).2.1 ≠ (T b).2.1) (h : (xRaw P)[i]? = some (a, .inr (ci, fs))) (hc : vwCl[ci]? = some (CN, T, N)) (hin : ∀ w ∈ u_ws CN T N, w ∈ xTB) (hk : k < N) (hl9 : k < fs.length) (hf : Cond.fieldLink own idx (T k).1 (T k).2.1 (T k).2.2.1 ∈ xTB) (hfin : (T k).2.2.2 = true) (hdecl : (T k).1 = own) (hn : narrow (ty0 k) v = v) (hfit : fits (ty0 k) v = true) (d : decode cc pc = .ok (.putfield idx, 3))
    (kk : XC p s m args meth c (xPR P ((xRaw P).set i (a, .inr (ci, fs.set k v)))) A nL own cc ret → XW p l e R s m args below meth c (xPR P ((xRaw P).set i (a, .inr (ci, fs.set k v)))) A nL cells slots Q σ (pc + 3) lv st) : XW p l e R s m args below meth c P A nL cells slots Q σ pc lv (v :: .ref a :: st) := fun H locs ls hP hS hl => by
  refine va_putF C.1 C.2.1 C.hts hin ty0 hty hnm C.2.2.2.1 C.hK hP (C.hD σ) hS (P.2.2.2.1.length + i) (xw_raw h) hc k hk (C.hts _ hf) (fun _ h9 => h9) hfin hin2 hdecl (hty k hk) hn hfit hl9 d (fun H1 locs1 hP1 hD1 hS1 => ?_)
  rw [xw_rset] at hP1 hD1
  exact kk (C.pr hD1) H1 locs1 ls hP1 hS1 hl
/-- bytes copied, between raw cells and out of a constant text -/
theorem X_rcopy (C : XC p s m args meth c P A nL own cc ret) (i j : Nat) {a0 a n0 n1 sp dp n idx : Nat} {f g : Nat → Int32} (hi : (xRaw P)[i]? = some (a0, .inl (P.2.1 4, n0, .inl f))) (hj : (xRaw P)[j]? = some (a, .inl (P.2.1 4, n1, .inl g))) (hlk : Cond.methodLink own idx arraycopyName ∈ xTB) (h4 : sp + n ≤ n0) (h5 : dp + n ≤ n1) (hb : n0 ≤ 1000000 ∧ n1 ≤ 1000000) (hfit : ∀ i, i < n → fits .byte (.int (f (sp + i))) = true) (hfr : 1 ≤ R.frames) (hlo : (st.map fun v => v.category).sum + 40 ≤ R.locals) (d : decode cc pc = .ok (.invokestatic idx, 3))
    (kk : XC p s m args meth c (xPR P ((xRaw P).set j (a, .inl (P.2.1 4, n1, .inl (va_cpy f g sp dp n))))) A nL own cc ret → XW p l e R s m args below meth c (xPR P ((xRaw P).set j (a, .inl (P.2.1 4, n1, .inl (va_cpy f g sp dp n))))) A nL cells slots Q σ (pc + 3) lv st) : XW p l e R s m args below meth c P A nL cells slots Q σ pc lv (.int (nI n) :: .int (nI dp) :: .ref a :: .int (nI sp) :: .ref a0 :: st) := fun H locs ls hP hS hl => by
  have z : ∀ k : Nat, k ≤ 1000000 → ¬ nI k < 0 := fun k hk => Int32.not_lt.mpr ((nI_leI (a := 0) (n31 (by omega)) (n31 (by omega))).mpr (Nat.zero_le k))
  have cl : ∀ k : Nat, k ≤ 1000000 → (nI k).toNatClampNeg = k := fun k hk => nI_clamp (n31 hk)
  refine va_copyi C.1 C.2.1 (by rw [C.2.2.1]; exact hl.1.symm) C.2.2.2.1 (C.hts _ hlk) (C.hts _ m_v_arraycopyName) (C.hts _ m_t_arraycopyName) (C.hts _ m_n_J10) C.hK hP (C.hD σ) hS (P.2.2.2.1.length + i) (P.2.2.2.1.length + j) 4 4 (ty := .byte) (xw_raw hi) (xw_raw hj) rfl rfl rfl (z _ (by omega)) (z _ (by omega)) (z _ (by omega)) (by rw [cl _ (by omega), cl _ (by omega)]; exact h4) (by rw [cl _ (by omega), cl _ (by omega)]; exact h5) (by rw [cl n (by omega), cl sp (by omega)]; exact hfit) hfr (Nat.le_trans (Nat.add_le_add_left (Nat.le_of_ble_eq_true rfl) _) hlo) d (fun H1 locs1 hP1 hD1 hS1 => ?_)
  rw [cl _ (by omega), cl _ (by omega), cl _ (by omega), xw_rset] at hP1 hD1
  exact kk (C.pr hD1) H1 locs1 ls hP1 hS1 hl
end XRAW

/-! CONSTRUCTORS: arrays of boards, fields of raw things -/
section XP82
variable {p : Program} {l : Launch} {e : Env} {R : Room} {s : State} {m : MethodId} {args : Array Value} {below : List Frame} {meth : Method} {c : Code} {P0 : XP} {A : Nat → Prop} {nL cells slots : Nat} {Q : State → Prop} {cc : ByteArray} {own : String} {σ : XS} {hs : va_W} {N : List XI} {ad : XI → Nat} {pc : Nat} {lv : List (Nat × Value)} {st : List Value}
/-- an array of boards -/
abbrev qE (P0 : XP) (n : Nat) (f : Nat → Option Nat) : va_E := .inl (P0.2.1 3, n, .inr (.inr (.inr (.inr f))))
theorem B_newq (C : BX p s m args meth c P0 A nL own cc) {index n : Nat} {v : Int32} (hlk : Cond.classLink own index RX0 ∈ xTB) (hv : v = nI n) (hn : n < 1000000) (hcl : cells + 1 ≤ R.cells ∧ slots + n ≤ R.slots) (d : decode cc pc = .ok (.anewarray index, 3))
    (kk : ∀ q : Nat, BW p l e R s m args below meth c P0 A nL (cells + 1) (slots + n) Q σ (hs ++ [(q, qE P0 n (fun _ => none))]) N ad (pc + 3) lv (.ref q :: st)) : BW p l e R s m args below meth c P0 A nL cells slots Q σ hs N ad pc lv (.int v :: st) := fun H locs ls hP hD hS hl => by
  subst hv
  refine va_newq C.1 C.2.1 C.2.2.2.1 (C.hts _ hlk) C.hN.2.2.2.2.2.2.2 C.hK (BP.p.mpr hP) (BD.d.mpr hD) hS C.hA (Int32.not_lt.mpr ((nI_leI (a := 0) (n31 (by omega)) (n31 (by omega))).mpr (Nat.zero_le n))) (nI_clamp (n31 (by omega))) (by omega) hcl.1 hcl.2 d (fun q cA H1 hK1 hP1 hD1 hS1 => ?_)
  have e1 := va_nmO (hK1.2 (xtys P0).length (cA, .object RX0) (by rw [List.getElem?_append_right (Nat.le_refl _), Nat.sub_self]; rfl)).2 rfl
  have e2 := va_nmO (C.hK.2 3 (P0.2.1 3, .object RX0) rfl).2 rfl
  obtain rfl : cA = P0.2.1 3 := Option.some.inj (e1.symm.trans e2)
  exact kk q H1 locs ls (BP.p.mp (va_P.perm hP1 (fun y hy => last_in.symm.mem_iff.mp hy))) (BD.d.mp (hD1.perm last_in)) hS1 hl
/-- a board that is done goes into the array -/
theorem B_astq (C : BX p s m args meth c P0 A nL own cc) (q0 : Nat) {b a n j : Nat} {f : Nat → Option Nat} (ha : hs[q0]? = some (a, qE P0 n f)) (hi : (.inl (b, 0) : XI) ∈ N) (hj : j < n) (hn : n < 1000000) (d : decode cc pc = .ok (.aastore, 1))
    (kk : BW p l e R s m args below meth c P0 A nL cells slots Q σ (hs.set q0 (a, qE P0 n (va_up f j (some (ad (.inl (b, 0))))))) N ad (pc + 1) lv st) : BW p l e R s m args below meth c P0 A nL cells slots Q σ hs N ad pc lv (.ref (ad (.inl (b, 0))) :: .int (nI j) :: .ref a :: st) := fun H locs ls hP hD hS hl => by
  have hq : q0 < hs.length := (List.getElem?_eq_some_iff.mp ha).1
  obtain ⟨qk, hqk⟩ := List.getElem?_of_mem (List.mem_append_right hs (xwN_mem (P0 := P0) (σ := σ) (ad := ad).mpr ⟨_, hi, rfl⟩))
  rw [show xce (PN P0 N ad) σ (.inl (b, 0)) = .inr (0, xfs (PN P0 N ad) σ (.inl (b, 0)) 0 [some (.inl (b, 1)), some (.inl (b, 8)), some (.inl (b, 19)), none, none, none, none]) from xce_o rfl] at hqk
  refine va_astq C.1 C.2.1 C.hK (BP.p.mpr hP) (BD.d.mpr hD) hS q0 3 qk 0 (r := (RX0, TX0, 7)) (by rw [List.getElem?_append_left hq]; exact ha) rfl hqk rfl (vp_in_nI hj (n31 (by omega))) d (fun H1 locs1 hP1 hD1 hS1 => ?_)
  rw [nI_clamp (n31 (by omega))] at hP1 hD1
  rw [List.set_append_left _ _ hq] at hP1 hD1
  exact kk H1 locs1 ls (BP.p.mp hP1) (BD.d.mp hD1) hS1 hl
/-- a raw thing's field is read -/
theorem B_get (C : BX p s m args meth c P0 A nL own cc) {CN : String} {T : u_T} {nf ci index : Nat} (q0 k : Nat) {fs : List Value} {a : Nat} {v : Value} (hin : ∀ w ∈ u_ws CN T nf, w ∈ xTB) (he : hs[q0]? = some (a, .inr (ci, fs))) (hc : vwCl[ci]? = some (CN, T, nf)) (hk : k < nf) (hf : Cond.fieldLink own index (T k).1 (T k).2.1 (T k).2.2.1 ∈ xTB) (hv : fs[k]? = some v) (d : decode cc pc = .ok (.getfield index, 3))
    (kk : BW p l e R s m args below meth c P0 A nL cells slots Q σ hs N ad (pc + 3) lv (v :: st)) : BW p l e R s m args below meth c P0 A nL cells slots Q σ hs N ad pc lv (.ref a :: st) := fun H locs ls hP hD hS hl =>
  va_get C.1 C.2.1 C.hts hin C.2.2.2.1 C.hK (BP.p.mpr hP) q0 (by rw [List.getElem?_append_left (List.getElem?_eq_some_iff.mp he).1]; exact he) hc k hk (C.hts _ hf) (fun _ h9 => h9) hv d (kk H locs ls hP hD hS hl)
/-- a raw thing's field that is not final is written -/
theorem B_put (C : BX p s m args meth c P0 A nL own cc) {CN : String} {T : u_T} {nf ci index : Nat} (q0 : Nat) (k : Nat) {fs : List Value} {a : Nat} {v : Value} (ty0 : Nat → FieldType) (hty : ∀ k, k < nf → parseFieldDescriptor (T k).2.2.1 = some (ty0 k)) (hnm : ∀ a, a < nf → ∀ b, b < nf → a ≠ b → (T a).2.1 ≠ (T b).2.1) (hin : ∀ w ∈ u_ws CN T nf, w ∈ xTB) (he : hs[q0]? = some (a, .inr (ci, fs))) (hc : vwCl[ci]? = some (CN, T, nf)) (hk : k < nf) (hf : Cond.fieldLink own index (T k).1 (T k).2.1 (T k).2.2.1 ∈ xTB) (hfin : (T k).2.2.2 = false) (hn : narrow (ty0 k) v = v) (hfit : fits (ty0 k) v = true) (hl9 : k < fs.length) (d : decode cc pc = .ok (.putfield index, 3))
    (kk : BW p l e R s m args below meth c P0 A nL cells slots Q σ (hs.set q0 (a, .inr (ci, fs.set k v))) N ad (pc + 3) lv st) : BW p l e R s m args below meth c P0 A nL cells slots Q σ hs N ad pc lv (v :: .ref a :: st) := fun H locs ls hP hD hS hl => by
  have hq : q0 < hs.length := (List.getElem?_eq_some_iff.mp he).1
  refine va_put C.1 C.2.1 C.hts hin ty0 hty hnm C.2.2.2.1 C.hK (BP.p.mpr hP) (BD.d.mpr hD) hS q0 (by rw [List.getElem?_append_left hq]; exact he) hc k hk (C.hts _ hf) (fun _ h9 => h9) hfin (hty k hk) hn hfit hl9 d (fun H1 locs1 hP1 hD1 hS1 => ?_)
  rw [List.set_append_left _ _ hq] at hP1 hD1
  exact kk H1 locs1 ls (BP.p.mp hP1) (BD.d.mp hD1) hS1 hl
/-- the raw thing made last is done: it is the cell i0 -/
theorem B_seal {q : Nat} {x : va_E} (i0 : XI) (hi : i0 ∉ N) (hc : clo N) (hx : ∀ ad1 : XI → Nat, ad1 i0 = q → (∀ j ∈ N, ad1 j = ad j) → ∀ H : Heap, va_at P0.1 vwCl (q, x) H → va_at P0.1 vwCl (q, xce (PN P0 [i0] ad1) σ i0) H)
    (kk : ∀ ad1 : XI → Nat, ad1 i0 = q → (∀ j ∈ N, ad1 j = ad j) → BW p l e R s m args below meth c P0 A nL cells slots Q σ hs ([i0] ++ N) ad1 pc lv st) : BW p l e R s m args below meth c P0 A nL cells slots Q σ (hs ++ [(q, x)]) N ad pc lv st := fun H locs ls hP hD hS hl => by
  have ea : ∀ j ∈ N, (fun j => if j = i0 then q else ad j) j = ad j := fun j hj => if_neg (by intro z; subst z; exact hi hj)
  have ei : (fun j => if j = i0 then q else ad j) i0 = q := if_pos rfl
  refine kk _ ei ea H locs ls ?_ ?_ hS hl
  · refine BP.cons (hs := hs) ⟨fun z hz => hP.1 z (List.mem_append_left _ hz), hP.2⟩ hc ea (fun y hy => hP.1 y (List.mem_append_left _ hy)) (fun j hj => ?_)
    obtain rfl := List.mem_singleton.mp hj
    rw [if_pos rfl]
    exact hx _ ei ea H (hP.1 _ (List.mem_append_right _ (List.mem_singleton.mpr rfl)))
  · refine ⟨?_, fun y hy => hD.2.1 y (List.mem_append_left _ hy), fun j hj => ?_⟩
    · rw [List.map_append, List.map_congr_left ea, List.map_singleton, if_pos rfl]
      have h1 := hD.1
      rw [List.map_append, List.append_assoc] at h1
      exact h1
    · rcases List.mem_append.mp hj with hj | hj
      · obtain rfl := List.mem_singleton.mp hj
        rw [ei]
        exact hD.2.1 _ (List.mem_append_right _ (List.mem_singleton.mpr rfl))
      · rw [ea j hj]
        exact hD.2.2 j hj
end XP82

abbrev fsX0 : List Value := [.null, .null, .null, .int 0, .int 0, .int 0, .int 0]
theorem dvX0 : ∀ j, j < 7 → defaultValue (tyX0 j) = vp_V fsX0 j := fun j h => by
  match j, h with
  | 0, _ => rfl
  | 1, _ => rfl
  | 2, _ => rfl
  | 3, _ => rfl
  | 4, _ => rfl
  | 5, _ => rfl
  | 6, _ => rfl
  | n + 7, h => exact absurd h (by omega)
abbrev fsX1 : List Value := [.null, .null, .null, .null, .null, .null, .null, .null, .null, .null, .int 0]
theorem dvX1 : ∀ j, j < 11 → defaultValue (tyX1 j) = vp_V fsX1 j := fun j h => by
  match j, h with
  | 0, _ => rfl
  | 1, _ => rfl
  | 2, _ => rfl
  | 3, _ => rfl
  | 4, _ => rfl
  | 5, _ => rfl
  | 6, _ => rfl
  | 7, _ => rfl
  | 8, _ => rfl
  | 9, _ => rfl
  | 10, _ => rfl
  | n + 11, h => exact absurd h (by omega)
abbrev fsX2 : List Value := [.null, .int 0, .int 0]
theorem dvX2 : ∀ j, j < 3 → defaultValue (tyX2 j) = vp_V fsX2 j := fun j h => by
  match j, h with
  | 0, _ => rfl
  | 1, _ => rfl
  | 2, _ => rfl
  | n + 3, h => exact absurd h (by omega)
abbrev fsX3 : List Value := [.null, .int 0, .int 0, .int 0, .int 0, .int 0]
theorem dvX3 : ∀ j, j < 6 → defaultValue (tyX3 j) = vp_V fsX3 j := fun j h => by
  match j, h with
  | 0, _ => rfl
  | 1, _ => rfl
  | 2, _ => rfl
  | 3, _ => rfl
  | 4, _ => rfl
  | 5, _ => rfl
  | n + 6, h => exact absurd h (by omega)
abbrev fsX4 : List Value := [.null, .null, .int 0, .int 0]
theorem dvX4 : ∀ j, j < 4 → defaultValue (tyX4 j) = vp_V fsX4 j := fun j h => by
  match j, h with
  | 0, _ => rfl
  | 1, _ => rfl
  | 2, _ => rfl
  | 3, _ => rfl
  | n + 4, h => exact absurd h (by omega)
abbrev fsX5 : List Value := [.null, .null, .null, .null, .null, .null, .int 0]
theorem dvX5 : ∀ j, j < 7 → defaultValue (tyX5 j) = vp_V fsX5 j := fun j h => by
  match j, h with
  | 0, _ => rfl
  | 1, _ => rfl
  | 2, _ => rfl
  | 3, _ => rfl
  | 4, _ => rfl
  | 5, _ => rfl
  | 6, _ => rfl
  | n + 7, h => exact absurd h (by omega)
abbrev fsX6 : List Value := [.null, .null, .null, .null, .null, .null, .int 0]
theorem dvX6 : ∀ j, j < 7 → defaultValue (tyX6 j) = vp_V fsX6 j := fun j h => by
  match j, h with
  | 0, _ => rfl
  | 1, _ => rfl
  | 2, _ => rfl
  | 3, _ => rfl
  | 4, _ => rfl
  | 5, _ => rfl
  | 6, _ => rfl
  | n + 7, h => exact absurd h (by omega)
section XP82B
abbrev M5 (b : Nat) : List XI := [.inl (b, 1), .inl (b, 7), .inl (b, 6), .inl (b, 5), .inl (b, 4), .inl (b, 3), .inl (b, 2)]
abbrev M1 (b : Nat) : List XI := [.inl (b, 8), .inl (b, 18), .inl (b, 17), .inl (b, 16), .inl (b, 15), .inl (b, 14), .inl (b, 13), .inl (b, 12), .inl (b, 11), .inl (b, 10), .inl (b, 9)]
/-- all of board b -/
abbrev M0 (b : Nat) : List XI := [.inl (b, 0)] ++ ([.inl (b, 19)] ++ (M1 b ++ (M5 b ++ [])))
theorem clo_nil : clo [] := fun _ h => nomatch h
theorem clo5 (b : Nat) : clo (M5 b) := fun i hi => by
  simp only [M5, List.mem_cons, List.not_mem_nil, or_false] at hi
  rcases hi with rfl | rfl | rfl | rfl | rfl | rfl | rfl <;> simp [rfs, xsh, M5]
theorem clo1 (b : Nat) : clo (M1 b) := fun i hi => by
  simp only [M1, List.mem_cons, List.not_mem_nil, or_false] at hi
  rcases hi with rfl | rfl | rfl | rfl | rfl | rfl | rfl | rfl | rfl | rfl | rfl <;> simp [rfs, xsh, M1]
theorem clo_arr {i : XI} (h : rfs i = []) {N : List XI} (hN : clo N) : clo ([i] ++ N) := clo_app (fun k hk j hj => by
  obtain rfl := List.mem_singleton.mp hk
  rw [h] at hj
  exact absurd hj List.not_mem_nil) hN
theorem clo_19 (b : Nat) : clo ([.inl (b, 19)] ++ (M1 b ++ (M5 b ++ []))) := clo_arr rfl (clo_app (fun i hi j hj => List.mem_append_left _ (clo1 b i hi j hj)) (clo_app (fun i hi j hj => List.mem_append_left _ (clo5 b i hi j hj)) clo_nil))
theorem clo0 (b : Nat) : clo (M0 b) := clo_app (fun k hk j hj => by
  obtain rfl := List.mem_singleton.mp hk
  simp only [rfs, xsh, List.filterMap_cons, id_eq, List.filterMap_nil, List.mem_cons, List.not_mem_nil, or_false] at hj
  rcases hj with rfl | rfl | rfl <;> simp [M1, M5]) (clo_19 b)
abbrev rb_X0_init : Room := { frames := 2, cells := 30, slots := 800, locals := 70 }
set_option maxRecDepth 100000 in
set_option maxHeartbeats 4000000 in
theorem b_X0_init (l : Launch) (P0 : XP) (b : Nat) : BC l yX0_init cX0_init 1 rb_X0_init P0 s0 (.inr (0, fsX0)) (.inl (b, 0)) (M0 b) := by
  refine BC.of (by decide +kernel) (by decide +kernel) (by decide) (fun q p e s m args below meth c A C => ?_)
  replace C : BX p s m args meth c P0 A 1 RX0 cX0_init := C
  refine B_aload_n (pc := 0) C 0 dX0_init_0 rfl rfl ?_
  refine B_obj (pc := 1) C m_m_X0_3 ⟨(Nat.le_of_ble_eq_true rfl), (Nat.le_of_ble_eq_true rfl)⟩ dX0_init_1 ?_
  refine B_aload_n (pc := 4) C 0 dX0_init_4 rfl rfl ?_
  refine B_new (pc := 5) (ci := 5) C tyX5 tyX5_ok inX5 m_l_X0_9 m_x_X5 m_n_X5 rfl dvX5 ⟨(Nat.le_of_ble_eq_true rfl), (Nat.le_of_ble_eq_true rfl)⟩ dX0_init_5 (fun q5 => ?_)
  refine B_dup (pc := 8) C dX0_init_8 ?_
  refine B_callN (pc := 9) (q := q5) (i0 := .inl (b, 1)) (M := M5 b) C (b_X5_init l P0 b) m_c_X5_init C.hN.2.1 m_i_X5_init m_n_X5 rfl ⟨by decide +kernel, by decide +kernel, by decide +kernel⟩ ⟨(Nat.le_of_ble_eq_true rfl), (Nat.le_of_ble_eq_true rfl)⟩ ⟨(Nat.le_of_ble_eq_true rfl), (Nat.le_of_ble_eq_true rfl)⟩ clo_nil (clo5 b) (fun _ h => nomatch h) List.mem_cons_self (Nat.le_of_ble_eq_true rfl) dX0_init_9 (fun a0 w0 e0 => ?_)
  refine B_putF (pc := 12) C 0 0 tyX0 tyX0_ok nmX0 inX0 rfl rfl (by decide) m_f_X0_12 rfl rfl rfl rfl (Nat.le_of_ble_eq_true rfl) dX0_init_12 ?_
  refine B_aload_n (pc := 15) C 0 dX0_init_15 rfl rfl ?_
  refine B_new (pc := 16) (ci := 1) C tyX1 tyX1_ok inX1 m_l_X0_18 m_x_X1 m_n_X1 rfl dvX1 ⟨(Nat.le_of_ble_eq_true rfl), (Nat.le_of_ble_eq_true rfl)⟩ dX0_init_16 (fun q1 => ?_)
  refine B_dup (pc := 19) C dX0_init_19 ?_
  refine B_callN (pc := 20) (q := q1) (i0 := .inl (b, 8)) (M := M1 b) C (b_X1_init l P0 b) m_c_X1_init C.hN.2.2.1 m_i_X1_init m_n_X1 rfl ⟨by decide +kernel, by decide +kernel, by decide +kernel⟩ ⟨(Nat.le_of_ble_eq_true rfl), (Nat.le_of_ble_eq_true rfl)⟩ ⟨(Nat.le_of_ble_eq_true rfl), (Nat.le_of_ble_eq_true rfl)⟩ (clo_app (fun i hi j hj => List.mem_append_left _ (clo5 b i hi j hj)) clo_nil) (clo1 b) (fun j hj => by
    simp only [M5, List.append_nil, List.mem_cons, List.not_mem_nil, or_false] at hj
    rcases hj with rfl | rfl | rfl | rfl | rfl | rfl | rfl <;> simp) List.mem_cons_self (Nat.le_of_ble_eq_true rfl) dX0_init_20 (fun a1 w1 e1 => ?_)
  refine B_putF (pc := 23) C 0 1 tyX0 tyX0_ok nmX0 inX0 rfl rfl (by decide) m_f_X0_21 rfl rfl rfl rfl (Nat.le_of_ble_eq_true rfl) dX0_init_23 ?_
  refine B_aload_n (pc := 26) C 0 dX0_init_26 rfl rfl ?_
  refine B_iconst (pc := 27) (v := 4) C dX0_init_27 (by decide) ?_
  refine B_newa (atype := .int) (ty := .int) (pc := 28) (n := 4) (t0 := 0) C (.inl (b, 19)) rfl m_a_int rfl (fun _ h => h) (4, .inl (fun _ => 0)) (fun _ => rfl) (fun _ => rfl) (by simp [M1, M5]) (clo_app (fun i hi j hj => List.mem_append_left _ (clo1 b i hi j hj)) (clo_app (fun i hi j hj => List.mem_append_left _ (clo5 b i hi j hj)) clo_nil)) rfl (by decide) (by decide) ⟨(Nat.le_of_ble_eq_true rfl), (Nat.le_of_ble_eq_true rfl)⟩ dX0_init_28 (fun a2 e2 => ?_)
  refine B_putF (pc := 30) C 0 2 tyX0 tyX0_ok nmX0 inX0 rfl rfl (by decide) m_f_X0_25 rfl rfl rfl rfl (Nat.le_of_ble_eq_true rfl) dX0_init_30 ?_
  refine B_end (pc := 33) C rfl (by simp [M1, M5]) (clo_19 b) (fun ad1 _ e => ?_) (Nat.le_of_ble_eq_true rfl) (Nat.le_of_ble_eq_true rfl) dX0_init_33
  have f0 : ad1 (.inl (b, 1)) = q5 := (((e _ (by simp [M5])).trans (e2 _ (by simp [M5]))).trans (e1 _ (by simp [M5]))).trans w0
  have f1 : ad1 (.inl (b, 8)) = q1 := ((e _ (by simp [M1])).trans (e2 _ (by simp [M1]))).trans w1
  have f2 : ad1 (.inl (b, 19)) = a2 (.inl (b, 19)) := e _ (by simp)
  simp only [xfs, xv, f0, f1, f2]
  rfl

end XP82B

/-! THE LAW'S TURN -/
theorem XW.widen {p : Program} {l : Launch} {e : Env} {R : Room} {s : State} {m : MethodId} {args : Array Value} {below : List Frame} {meth : Method} {c : Code} {P : XP} {A : Nat → Prop} {nL cells slots k n : Nat} {Q : State → Prop} {σ : XS} {pc : Nat} {lv : List (Nat × Value)} {st : List Value} (h1 : cells ≤ k) (h2 : slots ≤ n) (kk : XW p l e R s m args below meth c P A nL k n Q σ pc lv st) : XW p l e R s m args below meth c P A nL cells slots Q σ pc lv st := fun H locs ls hP hS hl => W.widen h1 h2 (kk H locs ls hP hS hl)
theorem ub01 (x : Int32) : ub x = 0 ∨ ub x = 1 := by
  unfold ub
  by_cases h : x = 0
  · rw [if_pos h]; exact Or.inl rfl
  · rw [if_neg h]; exact Or.inr rfl
/-- the law's locals at its turn's beginning -/
abbrev lvL (P : XP) (b i : Nat) : List (Nat × Value) := [(0, .ref b), (1, .ref (P.2.2.1 (.inr 0))), (2, .ref (P.2.2.1 (.inr 9))), (3, .ref (P.2.2.1 (.inr 19))), (4, .int (nI i))]
section XP74
variable {p : Program} {l : Launch} {e : Env} {s : State} {m : MethodId} {args : Array Value} {below : List Frame} {meth : Method} {c : Code} {P : XP} {A : Nat → Prop} {nL cells slots : Nat} {Q : State → Prop} {cc : ByteArray} {ret : Option FieldType} {own : String} {σ : XS} {pc : Nat} {lv : List (Nat × Value)} {st : List Value} {b L i : Nat} {xs : Nat → Int32}
/-- the script is where it was -/
def SC (s : State) (A : Nat → Prop) (b L : Nat) (xs : Nat → Int32) : Prop := va_X b L xs s s.heap ∧ b < s.heap.size ∧ ¬ A b ∧ L ≤ 3072
theorem X_slen (C : XC p s m args meth c P A nL own cc ret) (hX : SC s A b L xs) (d : decode cc pc = .ok (.arraylength, 1)) (k : XW p l e room_1 s m args below meth c P A nL cells slots Q σ (pc + 1) lv (.int (nI L) :: st)) : XW p l e room_1 s m args below meth c P A nL cells slots Q σ pc lv (.ref b :: st) := fun H locs ls hP hS hl => va_slen C.1 C.2.1 hX.1 hX.2.1 hX.2.2.1 hS d (k H locs ls hP hS hl)
theorem X_arg0 (C : XC p s m args meth c P A nL own cc ret) (hX : SC s A b L xs) (hi : i + 6 ≤ L) (h0 : xlk lv 0 = some (.ref b)) (h4 : xlk lv 4 = some (.int (nI i))) (d0 : decode cc pc = .ok (.aload_n 0, 1)) (d1 : decode cc (pc + 1) = .ok (.iload 4, 2)) (d3 : decode cc (pc + 3) = .ok (.iaload, 1)) (kt : XW p l e room_1 s m args below meth c P A nL cells slots Q σ (pc + 4) lv (.int (xs i) :: st)) : XW p l e room_1 s m args below meth c P A nL cells slots Q σ pc lv st := by
  have hL := hX.2.2.2
  refine X_aload_n C 0 d0 rfl h0 ?_
  refine X_iload C d1 h4 ?_
  intro H locs ls hP hS hl
  refine va_sld C.1 C.2.1 hX.1 hX.2.1 hX.2.2.1 hS (vp_in_nI (by omega) (by omega)) d3 ?_
  rw [nI_clamp (by omega)]
  exact kt H locs ls hP hS hl
theorem X_arg (C : XC p s m args meth c P A nL own cc ret) (hX : SC s A b L xs) (hi : i + 6 ≤ L) (k : Nat) {kz : Int} (hk : k < 6) (hv : Int32.ofInt kz = nI k) (h0 : xlk lv 0 = some (.ref b)) (h4 : xlk lv 4 = some (.int (nI i))) (d0 : decode cc pc = .ok (.aload_n 0, 1)) (d1 : decode cc (pc + 1) = .ok (.iload 4, 2)) (d3 : decode cc (pc + 3) = .ok (.iconst kz, 1)) (d4 : decode cc (pc + 4) = .ok (.iadd, 1)) (d5 : decode cc (pc + 5) = .ok (.iaload, 1)) (kt : XW p l e room_1 s m args below meth c P A nL cells slots Q σ (pc + 6) lv (.int (xs (i + k)) :: st)) : XW p l e room_1 s m args below meth c P A nL cells slots Q σ pc lv st := by
  have hL := hX.2.2.2
  refine X_aload_n C 0 d0 rfl h0 ?_
  refine X_iload C d1 h4 ?_
  refine X_iconst C d3 hv ?_
  refine X_iadd C d4 ?_
  rw [nI_add]
  intro H locs ls hP hS hl
  refine va_sld C.1 C.2.1 hX.1 hX.2.1 hX.2.2.1 hS (vp_in_nI (by omega) (by omega)) d5 ?_
  rw [nI_clamp (by omega)]
  exact kt H locs ls hP hS hl
theorem X_ub (C : XC p s m args meth c P A nL own cc ret) {x : Int32} (t7 t8 : Nat) (e7 : pc + 7 = t7) (e8 : pc + 8 = t8) (d0 : decode cc pc = .ok (.ifCond .eq 7, 3)) (d3 : decode cc (pc + 3) = .ok (.iconst 1, 1)) (d4 : decode cc (pc + 4) = .ok (.goto 4, 3)) (d7 : decode cc t7 = .ok (.iconst 0, 1)) (kt : XW p l e room_1 s m args below meth c P A nL cells slots Q σ t8 lv (.int (ub x) :: st)) : XW p l e room_1 s m args below meth c P A nL cells slots Q σ pc lv (.int x :: st) := by
  subst e7 e8
  refine X_if_eq C (pc + 7) d0 (by omega) (fun h => ?_) (fun h => ?_)
  · refine X_iconst (v := 0) C d7 (by decide) ?_
    rw [show ub x = 0 from if_pos h] at kt
    exact kt
  · refine X_iconst (v := 1) C d3 (by decide) ?_
    refine X_goto C (pc + 8) d4 (by omega) ?_
    rw [show ub x = 1 from if_neg h] at kt
    exact kt
/-- a call that makes no cell -/
theorem X_vI (C : XC p s m args meth c P A nL own cc ret) {y : MethodName} {cy : ByteArray} {ny : Nat} {ry : Option FieldType} {rm : Room} {i9 : XI} {ci : Nat} {tm : List (Option XI)} {q9 : vw_C} (As : List Value) {n index : Nat} {v : Value} {σ1 : XS} (hM : XF l y cy ny ry rm P (.ref (P.2.2.1 i9) :: As) σ (some v) σ1) (hc : Cond.code y cy ny ry ∈ xTB) (hlk : Cond.methodLink own index y ∈ xTB) (hin : Cond.instanceMethod y ∈ xTB) (hse : Cond.selects y.cls y y ∈ xTB) (hini : Cond.initialized y.cls ∈ xTB) (hd : y.cls ≠ "java/lang/invoke/MethodHandle" ∧ y.cls ≠ "java/lang/invoke/VarHandle" ∧ (parseMethodDescriptor y.desc).map (fun d => d.parameters.length) = some n) (hR : rm.frames + 1 ≤ room_1.frames ∧ 8 + (ny + 11) + rm.locals ≤ room_1.locals) (h0 : rm.cells = 0 ∧ rm.slots = 0) (hcl : cells ≤ room_1.cells ∧ slots ≤ room_1.slots)
    (hi : i9 ∈ P.2.2.2.1) (hs : xsh i9 = .inl (ci, tm)) (hci : vwCl[ci]? = some q9) (hq : q9.1 = y.cls) (hn : As.length = n) (hst : (st.map fun v => v.category).sum ≤ 8) {st0 : List Value} (h00 : st0 = As.reverse ++ .ref (P.2.2.1 i9) :: st) (d : decode cc pc = .ok (.invokevirtual index, 3)) (k : XW p l e room_1 s m args below meth c P A nL cells slots Q σ1 (pc + 3) lv (v :: st)) : XW p l e room_1 s m args below meth c P A nL cells slots Q σ pc lv st0 :=
  X_callV C As hM hc hlk hin hse hini hd hR (by rw [h0.1, h0.2]; exact hcl) hi hs hci hq hn hst h00 d (fun v9 σ9 h9 => by obtain ⟨rfl, rfl⟩ := h9; rw [h0.1, h0.2]; exact k)

theorem c_thrown (l : Launch) (P : XP) (hP : xAll P) (σ : XS) : XF l yX7_thrown cX7_thrown 1 (some .int) rm_X7_thrown P [.ref (P.2.2.1 (.inr 9))] σ (some (.int (σ.1 (.inr 9) 7))) σ := by
  have h := c_X7_thrown l P σ (σ.1 (.inr 10)) (σ.1 (.inr 9)) (σ.1 (.inr 18)) hP.2.1
  rw [← mW_id σ] at h
  exact h
set_option maxRecDepth 100000 in
set_option maxHeartbeats 4000000 in
/-- the turn's end after a method that may throw: answers compared as ints -/
theorem X_tailI (C : XC p s m args meth c P A 9 RL cL_law ret) (hP : xAll P) {k v : Int32} (h7 : σ.1 (.inr 9) 7 = k) (h0 : k = 0 → σ.2 (.inr 19) 0 = v.toInt64) (hcl : cells ≤ room_1.cells ∧ slots ≤ room_1.slots) {off : Int} (d0 : decode cL_law pc = .ok (.istore 6, 2)) (d2 : decode cL_law (pc + 2) = .ok (.aload_n 2, 1)) (d3 : decode cL_law (pc + 3) = .ok (.invokevirtual 146, 3)) (d6 : decode cL_law (pc + 6) = .ok (.iload 5, 2)) (d8 : decode cL_law (pc + 8) = .ok (.if_icmp .eq 5, 3)) (d13 : decode cL_law (pc + 13) = .ok (.iload 5, 2)) (d15 : decode cL_law (pc + 15) = .ok (.ifCond .ne 15, 3)) (d18 : decode cL_law (pc + 18) = .ok (.aload_n 3, 1)) (d19 : decode cL_law (pc + 19) = .ok (.iconst 0, 1)) (d20 : decode cL_law (pc + 20) = .ok (.laload, 1)) (d21 : decode cL_law (pc + 21) = .ok (.iload 6, 2)) (d23 : decode cL_law (pc + 23) = .ok (.i2l, 1)) (d24 : decode cL_law (pc + 24) = .ok (.lcmp, 1)) (d25 : decode cL_law (pc + 25) = .ok (.ifCond .eq 5, 3)) (d30 : decode cL_law (pc + 30) = .ok (.goto off, 3)) (hoff : ((pc + 30 : Nat) : Int) + off = ((2900 : Nat) : Int)) (kk : XW p l e room_1 s m args below meth c P A 9 cells slots Q σ 2900 (lvL P b i) []) : XW p l e room_1 s m args below meth c P A 9 cells slots Q σ pc [(0, .ref b), (1, .ref (P.2.2.1 (.inr 0))), (2, .ref (P.2.2.1 (.inr 9))), (3, .ref (P.2.2.1 (.inr 19))), (4, .int (nI i)), (5, .int k)] (.int v :: []) := by
  refine X_istore (lv1 := [(0, .ref b), (1, .ref (P.2.2.1 (.inr 0))), (2, .ref (P.2.2.1 (.inr 9))), (3, .ref (P.2.2.1 (.inr 19))), (4, .int (nI i)), (5, .int k), (6, .int v)]) C d0 (by decide) rfl ?_
  refine X_aload_n C 2 d2 rfl rfl ?_
  refine X_vI (i9 := .inr 9) (ci := 7) (n := 0) C [] (c_thrown l P hP σ) m_c_X7_thrown m_m_L_146 m_i_X7_thrown m_s_X7_thrown m_n_X7 ⟨by decide +kernel, by decide +kernel, by decide +kernel⟩ ⟨Nat.le_of_ble_eq_true rfl, Nat.le_of_ble_eq_true rfl⟩ ⟨rfl, rfl⟩ hcl (hP.2.1 9 (by decide) (by decide)) rfl rfl rfl rfl (Nat.le_of_ble_eq_true rfl) rfl d3 ?_
  refine X_iload C d6 rfl ?_
  refine X_icmp_eq C (pc + 13) d8 (by omega) (fun _ => ?_) (fun q => absurd h7 q)
  refine X_iload C d13 rfl ?_
  have kz : XW p l e room_1 s m args below meth c P A 9 cells slots Q σ (pc + 30) [(0, .ref b), (1, .ref (P.2.2.1 (.inr 0))), (2, .ref (P.2.2.1 (.inr 9))), (3, .ref (P.2.2.1 (.inr 19))), (4, .int (nI i)), (5, .int k), (6, .int v)] [] := X_goto C 2900 d30 hoff (XW.less [0, 1, 2, 3, 4] rfl kk)
  refine X_if_ne C (pc + 30) d15 (by omega) (fun _ => kz) (fun q => ?_)
  refine X_aload_n C 3 d18 rfl rfl ?_
  refine X_iconst (v := 0) C d19 (by decide) ?_
  refine X_laldN (j := 0) C hP.2.2.1 rfl (by decide) (by decide) d20 ?_
  refine X_iload C d21 rfl ?_
  refine X_i2l C d23 ?_
  refine X_lcmp C d24 ?_
  refine X_if_eq C (pc + 30) d25 (by omega) (fun _ => kz) (fun z => absurd (h0 q) (lcmp1 z))
set_option maxRecDepth 100000 in
set_option maxHeartbeats 4000000 in
/-- .. as booleans -/
theorem X_tailB (C : XC p s m args meth c P A 9 RL cL_law ret) (hP : xAll P) {k v : Int32} (h7 : σ.1 (.inr 9) 7 = k) (h0 : k = 0 → σ.2 (.inr 19) 0 = v.toInt64) (hv : v = 0 ∨ v = 1) (hcl : cells ≤ room_1.cells ∧ slots ≤ room_1.slots) {off : Int} (d0 : decode cL_law pc = .ok (.istore 6, 2)) (d2 : decode cL_law (pc + 2) = .ok (.aload_n 2, 1)) (d3 : decode cL_law (pc + 3) = .ok (.invokevirtual 146, 3)) (d6 : decode cL_law (pc + 6) = .ok (.iload 5, 2)) (d8 : decode cL_law (pc + 8) = .ok (.if_icmp .eq 5, 3)) (d13 : decode cL_law (pc + 13) = .ok (.iload 5, 2)) (d15 : decode cL_law (pc + 15) = .ok (.ifCond .ne 22, 3)) (d18 : decode cL_law (pc + 18) = .ok (.aload_n 3, 1)) (d19 : decode cL_law (pc + 19) = .ok (.iconst 0, 1)) (d20 : decode cL_law (pc + 20) = .ok (.laload, 1)) (d21 : decode cL_law (pc + 21) = .ok (.iload 6, 2)) (d23 : decode cL_law (pc + 23) = .ok (.ifCond .eq 7, 3)) (d26 : decode cL_law (pc + 26) = .ok (.lconst 1, 1)) (d27 : decode cL_law (pc + 27) = .ok (.goto 4, 3)) (d30 : decode cL_law (pc + 30) = .ok (.lconst 0, 1)) (d31 : decode cL_law (pc + 31) = .ok (.lcmp, 1)) (d32 : decode cL_law (pc + 32) = .ok (.ifCond .eq 5, 3)) (d37 : decode cL_law (pc + 37) = .ok (.goto off, 3)) (hoff : ((pc + 37 : Nat) : Int) + off = ((2900 : Nat) : Int)) (kk : XW p l e room_1 s m args below meth c P A 9 cells slots Q σ 2900 (lvL P b i) []) : XW p l e room_1 s m args below meth c P A 9 cells slots Q σ pc [(0, .ref b), (1, .ref (P.2.2.1 (.inr 0))), (2, .ref (P.2.2.1 (.inr 9))), (3, .ref (P.2.2.1 (.inr 19))), (4, .int (nI i)), (5, .int k)] (.int v :: []) := by
  refine X_istore (lv1 := [(0, .ref b), (1, .ref (P.2.2.1 (.inr 0))), (2, .ref (P.2.2.1 (.inr 9))), (3, .ref (P.2.2.1 (.inr 19))), (4, .int (nI i)), (5, .int k), (6, .int v)]) C d0 (by decide) rfl ?_
  refine X_aload_n C 2 d2 rfl rfl ?_
  refine X_vI (i9 := .inr 9) (ci := 7) (n := 0) C [] (c_thrown l P hP σ) m_c_X7_thrown m_m_L_146 m_i_X7_thrown m_s_X7_thrown m_n_X7 ⟨by decide +kernel, by decide +kernel, by decide +kernel⟩ ⟨Nat.le_of_ble_eq_true rfl, Nat.le_of_ble_eq_true rfl⟩ ⟨rfl, rfl⟩ hcl (hP.2.1 9 (by decide) (by decide)) rfl rfl rfl rfl (Nat.le_of_ble_eq_true rfl) rfl d3 ?_
  refine X_iload C d6 rfl ?_
  refine X_icmp_eq C (pc + 13) d8 (by omega) (fun _ => ?_) (fun q => absurd h7 q)
  refine X_iload C d13 rfl ?_
  have kz : XW p l e room_1 s m args below meth c P A 9 cells slots Q σ (pc + 37) [(0, .ref b), (1, .ref (P.2.2.1 (.inr 0))), (2, .ref (P.2.2.1 (.inr 9))), (3, .ref (P.2.2.1 (.inr 19))), (4, .int (nI i)), (5, .int k), (6, .int v)] [] := X_goto C 2900 d37 hoff (XW.less [0, 1, 2, 3, 4] rfl kk)
  refine X_if_ne C (pc + 37) d15 (by omega) (fun _ => kz) (fun q => ?_)
  refine X_aload_n C 3 d18 rfl rfl ?_
  refine X_iconst (v := 0) C d19 (by decide) ?_
  refine X_laldN (j := 0) C hP.2.2.1 rfl (by decide) (by decide) d20 ?_
  refine X_iload C d21 rfl ?_
  have kl : ∀ z : Int64, σ.2 (.inr 19) 0 = z → XW p l e room_1 s m args below meth c P A 9 cells slots Q σ (pc + 31) [(0, .ref b), (1, .ref (P.2.2.1 (.inr 0))), (2, .ref (P.2.2.1 (.inr 9))), (3, .ref (P.2.2.1 (.inr 19))), (4, .int (nI i)), (5, .int k), (6, .int v)] [.long z, .long (σ.2 (.inr 19) 0)] := fun z hz => by
    refine X_lcmp C d31 ?_
    refine X_if_eq C (pc + 37) d32 (by omega) (fun _ => kz) (fun y => absurd hz (lcmp1 y))
  refine X_if_eq C (pc + 30) d23 (by omega) (fun hz => ?_) (fun hz => ?_)
  · refine X_lconst (v := 0) C d30 (by decide) ?_
    exact kl 0 (by rw [h0 q, hz]; rfl)
  · refine X_lconst (v := 1) C d26 (by decide) ?_
    refine X_goto C (pc + 31) d27 (by omega) ?_
    rcases hv with rfl | rfl
    · exact absurd rfl hz
    · exact kl 1 (by rw [h0 q]; rfl)
end XP74

/-! THE LAW'S TURNS THAT DRAW -/
theorem i64 : (0x7ff0000000000000 : UInt64).toNat = 9218868437227405312 := by decide +kernel
theorem k64 : (0x7fffffffffffffff : UInt64).toNat = 2 ^ 63 - 1 := by decide +kernel
theorem i32 : (0x7f800000 : UInt32).toNat = 2139095040 := by decide +kernel
theorem k32 : (0x7fffffff : UInt32).toNat = 2 ^ 31 - 1 := by decide +kernel
theorem p63 : (2 : Nat) ^ 63 = 9223372036854775808 := by decide +kernel
theorem p31 : (2 : Nat) ^ 31 = 2147483648 := by decide +kernel
theorem t64 : FP.Core.b64.tails = 4503599627370496 := by decide +kernel
theorem e64 : FP.Core.b64.exps = 2048 := by decide +kernel
theorem t32 : FP.Core.b32.tails = 8388608 := by decide +kernel
theorem e32 : FP.Core.b32.exps = 256 := by decide +kernel
theorem nan64 {a : UInt64} (h : isNaN64 a = true) : FP.Core.decode FP.Core.b64 a.toNat = .nan := by
  unfold isNaN64 at h
  rw [decide_eq_true_iff, gt_iff_lt, UInt64.lt_iff_toNat_lt, UInt64.toNat_and, k64, Nat.and_two_pow_sub_one_eq_mod, i64, p63] at h
  generalize a.toNat = n at h ⊢
  unfold FP.Core.decode FP.Core.fieldE FP.Core.fieldT
  rw [t64, e64, if_pos (by omega), if_neg (by omega)]
theorem nan32 {a : UInt32} (h : isNaN32 a = true) : FP.Core.decode FP.Core.b32 a.toNat = .nan := by
  unfold isNaN32 at h
  rw [decide_eq_true_iff, gt_iff_lt, UInt32.lt_iff_toNat_lt, UInt32.toNat_and, k32, Nat.and_two_pow_sub_one_eq_mod, i32, p31] at h
  generalize a.toNat = n at h ⊢
  unfold FP.Core.decode FP.Core.fieldE FP.Core.fieldT
  rw [t32, e32, if_pos (by omega), if_neg (by omega)]
theorem y64 : (0x7ff8000000000000 : UInt64).toNat % 9223372036854775808 = 9221120237041090560 := by decide +kernel
theorem or64 (x z : UInt64) : isNaN64 (x ||| 0x7ff8000000000000 ||| z) = true := by
  unfold isNaN64
  rw [decide_eq_true_iff, gt_iff_lt, UInt64.lt_iff_toNat_lt, UInt64.toNat_and, k64, Nat.and_two_pow_sub_one_eq_mod, i64, UInt64.toNat_or, UInt64.toNat_or, Nat.or_mod_two_pow, Nat.or_mod_two_pow, p63, y64]
  generalize x.toNat % 9223372036854775808 = u
  generalize z.toNat % 9223372036854775808 = v
  have h : 9221120237041090560 ≤ u ||| 9221120237041090560 := Nat.right_le_or
  have h2 : u ||| 9221120237041090560 ≤ u ||| 9221120237041090560 ||| v := Nat.left_le_or
  omega
theorem nan_f2d {a : UInt32} (h : isNaN32 a = true) : isNaN64 (FP.f2d a) = true := by
  have h1 : FP.Core.fIsNaN a = true := by
    unfold FP.Core.fIsNaN FP.Core.isNaN
    rw [nan32 h]
    rfl
  unfold FP.f2d
  rw [if_pos h1]
  exact or64 _ _
theorem nan_cmp {r : UInt64} (h : isNaN64 r = true) : ¬ Op.cmpValue (FP.dcmp r r) .l = 0 := by
  have h1 : FP.dcmp r r = none := by
    unfold FP.dcmp FP.Core.dcmp FP.Core.cmp
    rw [nan64 h]
    rfl
  rw [h1]
  intro q
  exact absurd (show (-1 : Int32) = 0 from q) (by decide)
/-- one number, or two NaNs -/
def EQN (a b : UInt64) : Prop := a = b ∨ (isNaN64 a = true ∧ isNaN64 b = true)
theorem al64 {a x : UInt64} (h : alike64 a x = true) : a = x ∨ (isNaN64 a = true ∧ isNaN64 x = true) := by
  unfold alike64 at h
  rw [Bool.or_eq_true, decide_eq_true_iff, Bool.and_eq_true] at h
  exact h
theorem al32 {a x : UInt32} (h : alike32 a x = true) : a = x ∨ (isNaN32 a = true ∧ isNaN32 x = true) := by
  unfold alike32 at h
  rw [Bool.or_eq_true, decide_eq_true_iff, Bool.and_eq_true] at h
  exact h
theorem eqn_of {a b x : UInt64} (h : alike64 a x = true) (h2 : alike64 b x = true) : EQN a b := by
  rcases al64 h with rfl | ⟨n1, n2⟩
  · rcases al64 h2 with rfl | ⟨n3, n4⟩
    · exact Or.inl rfl
    · exact Or.inr ⟨n4, n3⟩
  · rcases al64 h2 with rfl | ⟨n3, n4⟩
    · exact Or.inr ⟨n1, n2⟩
    · exact Or.inr ⟨n1, n3⟩
theorem eqn_f {x y z : UInt32} {a b : UInt64} (hx : alike32 x z = true) (hy : alike32 y z = true) (h : alike64 a (FP.f2d x) = true) (h2 : alike64 b (FP.f2d y) = true) : EQN a b := by
  have key : x = y ∨ (isNaN32 x = true ∧ isNaN32 y = true) := by
    rcases al32 hx with rfl | ⟨n1, n2⟩
    · rcases al32 hy with rfl | ⟨n3, n4⟩
      · exact Or.inl rfl
      · exact Or.inr ⟨n4, n3⟩
    · rcases al32 hy with rfl | ⟨n3, n4⟩
      · exact Or.inr ⟨n1, n2⟩
      · exact Or.inr ⟨n1, n3⟩
  have na : ∀ {u : UInt32} {v : UInt64}, isNaN32 u = true → alike64 v (FP.f2d u) = true → isNaN64 v = true := fun hu hv => by
    rcases al64 hv with rfl | ⟨n1, -⟩
    · exact nan_f2d hu
    · exact n1
  rcases key with rfl | ⟨n1, n2⟩
  · exact eqn_of h h2
  · exact Or.inr ⟨na n1 h, na n2 h2⟩
theorem eqn_mean {q : Int32 × Nat} {a b : UInt64} (h : isMean q a) (h2 : isMean q b) : EQN a b := by
  unfold isMean at h h2
  by_cases g : q.2 = 0
  · rw [if_pos g] at h h2
    exact Or.inl (h.trans h2.symm)
  · rw [if_neg g] at h h2
    exact eqn_of h h2
section XP76
variable {p : Program} {l : Launch} {e : Env} {R : Room} {s : State} {m : MethodId} {args : Array Value} {below : List Frame} {meth : Method} {c : Code} {P : XP} {A : Nat → Prop} {nL cells slots : Nat} {Q : State → Prop} {cc : ByteArray} {ret : Option FieldType} {own : String} {σ : XS} {pc : Nat} {lv : List (Nat × Value)} {st : List Value} {b L i : Nat} {xs : Nat → Int32} {d0 : Drawn}
theorem X_dcmp (C : XC p s m args meth c P A nL own cc ret) {x y : UInt64} {op : CmpOp} (d : decode cc pc = .ok (.dcmp op, 1)) (k : XW p l e R s m args below meth c P A nL cells slots Q σ (pc + 1) lv (.int (Op.cmpValue (FP.dcmp x y) op) :: st)) : XW p l e R s m args below meth c P A nL cells slots Q σ pc lv (.double y :: .double x :: st) := fun H locs ls hP hS hl => lv_dcmp C.1 C.2.1 d (k H locs ls hP hS hl)
theorem X_afterD {H : Heap} {locs : List Loc} {ls : Array Slot} {mc ms : Nat} {st0 st1 : List Value} {Post : Option Value → XS → Prop} {a : Array Value} (hd0 : s.drawn.sameBut d0 lw_cs) (C : XC p (s.setDrawn d0) m args meth c P A nL own cc ret) (hS : va_S A s.heap H locs) (hl : lv_has ls nL lv)
    (hr : va_RunD lw_cs p l e R (s.setDrawn d0) m args below meth c H locs cells slots mc ms (F0 m pc ls st0) st1 (XQ P (va_A (xw P σ) H.size) Post a) (va_A (xw P σ) H.size))
    (k : ∀ (v : Option Value) (σ1 : XS) (d1 : Drawn), Post v σ1 → s.drawn.sameBut d1 lw_cs → XW p l e R (s.setDrawn d1) m args below meth c P A nL (cells + mc) (slots + ms) Q σ1 (pc + 3) lv (v.toList ++ st1)) : W p l e R (s.setDrawn d0) m args below meth c H locs cells slots Q (F0 m pc ls st0) := by
  intro T hT X
  obtain ⟨v, st₀, t, T', L, d', hd', h0, X', hL, e1, e2, ⟨⟨v1, σ1, hv, hp, hPt⟩, hz, hk⟩, stp⟩ := hr T hT X
  cases hv
  rw [h0] at hz hk
  have hF := xw_free (σ := σ) C.hD C.hA hS
  obtain ⟨t2, a1, b1⟩ := k v σ1 d' hp (hd0.trans hd') T'.heap (locs ++ L) ls (by rw [e1]; exact hPt)
    ⟨Nat.le_trans hS.1 (by rw [e1]; exact hz), fun q h1 h2 => by rw [e1, hk q (Nat.lt_of_lt_of_le h1 hS.1) (fun z => h2 (hF q z))]; exact hS.2.1 q h1 h2, fun q hq => by
      rcases List.mem_append.mp hq with h | h
      · exact hS.2.2 q h
      · exact hF _ (hL q h)⟩ hl T' rfl X'
  exact ⟨t2, stp t2 a1, b1⟩
theorem X_callVD (hd0 : s.drawn.sameBut d0 lw_cs) (C : XC p (s.setDrawn d0) m args meth c P A nL own cc ret) {y : MethodName} {cy : ByteArray} {ny : Nat} {ry : Option FieldType} {rm : Room} {i9 : XI} {ci : Nat} {tm : List (Option XI)} {q9 : vw_C} (As : List Value) {n index : Nat} {Post : Option Value → XS → Prop} (hM : XMD l y cy ny ry rm P (.ref (P.2.2.1 i9) :: As) σ Post) (hc : Cond.code y cy ny ry ∈ xTB) (hlk : Cond.methodLink own index y ∈ xTB) (hin : Cond.instanceMethod y ∈ xTB) (hse : Cond.selects y.cls y y ∈ xTB) (hini : Cond.initialized y.cls ∈ xTB) (hd : y.cls ≠ "java/lang/invoke/MethodHandle" ∧ y.cls ≠ "java/lang/invoke/VarHandle" ∧ (parseMethodDescriptor y.desc).map (fun d => d.parameters.length) = some n) (hR : rm.frames + 1 ≤ R.frames ∧ 8 + (ny + 11) + rm.locals ≤ R.locals) (h00 : rm.cells = 0 ∧ rm.slots = 0) (hcl : cells ≤ R.cells ∧ slots ≤ R.slots)
    (hi : i9 ∈ P.2.2.2.1) (hs : xsh i9 = .inl (ci, tm)) (hci : vwCl[ci]? = some q9) (hq : q9.1 = y.cls) (hn : As.length = n) (hst : (st.map fun v => v.category).sum ≤ 8) {st0 : List Value} (h0 : st0 = As.reverse ++ .ref (P.2.2.1 i9) :: st) (d : decode cc pc = .ok (.invokevirtual index, 3)) (k : ∀ (v : Option Value) (σ1 : XS) (d1 : Drawn), Post v σ1 → s.drawn.sameBut d1 lw_cs → XW p l e R (s.setDrawn d1) m args below meth c P A nL cells slots Q σ1 (pc + 3) lv (v.toList ++ st)) : XW p l e R (s.setDrawn d0) m args below meth c P A nL cells slots Q σ pc lv st0 := by
  intro H locs ls hP hS hl
  subst h0
  obtain ⟨q, hqq⟩ := xw_get (σ := σ) hi
  rw [xce_o hs] at hqq
  have hrecv := va_recv C.hK hP hci hqq
  rw [hq] at hrecv
  refine X_afterD (σ := σ) hd0 C hS hl (va_runV_D (C := y.cls) (As := As) (rest := st) ⟨C.1, C.2.1, C.2.2.1, C.2.2.2.1, C.hts⟩ (hM H.size) ⟨callB_of n C.hts (xGood hc) rfl rfl rfl (C.hts _ hini) (C.hts _ hlk) hd hR, C.hts _ hin, C.hts _ hse⟩ ⟨xBlind, hrecv, fun U hU hW => ⟨rfl, xPre_at C hP hS hU hW⟩⟩ rfl hn hl.1 rfl (lv_room hst) d (by rw [h00.1, h00.2]; exact hcl)) (fun v σ1 d1 hp hd1 => ?_)
  rw [h00.1, h00.2]
  exact k v σ1 d1 hp hd1

set_option maxRecDepth 100000 in
set_option maxHeartbeats 4000000 in
theorem X_tailD (C : XC p s m args meth c P A 9 RL cL_law ret) {x y : UInt64} (hxy : EQN x y) {off : Int} (d0 : decode cL_law pc = .ok (.dload 5, 2)) (d2 : decode cL_law (pc + 2) = .ok (.dload 7, 2)) (d4 : decode cL_law (pc + 4) = .ok (.dcmp .l, 1)) (d5 : decode cL_law (pc + 5) = .ok (.ifCond .eq 21, 3)) (d8 : decode cL_law (pc + 8) = .ok (.dload 5, 2)) (d10 : decode cL_law (pc + 10) = .ok (.dload 5, 2)) (d12 : decode cL_law (pc + 12) = .ok (.dcmp .l, 1)) (d13 : decode cL_law (pc + 13) = .ok (.ifCond .eq 11, 3)) (d16 : decode cL_law (pc + 16) = .ok (.dload 7, 2)) (d18 : decode cL_law (pc + 18) = .ok (.dload 7, 2)) (d20 : decode cL_law (pc + 20) = .ok (.dcmp .l, 1)) (d21 : decode cL_law (pc + 21) = .ok (.ifCond .ne 5, 3)) (d26 : decode cL_law (pc + 26) = .ok (.goto off, 3)) (hoff : ((pc + 26 : Nat) : Int) + off = ((2900 : Nat) : Int)) (kk : XW p l e room_1 s m args below meth c P A 9 cells slots Q σ 2900 (lvL P b i) []) : XW p l e room_1 s m args below meth c P A 9 cells slots Q σ pc [(0, .ref b), (1, .ref (P.2.2.1 (.inr 0))), (2, .ref (P.2.2.1 (.inr 9))), (3, .ref (P.2.2.1 (.inr 19))), (4, .int (nI i)), (5, .double x), (7, .double y)] [] := by
  have kz : XW p l e room_1 s m args below meth c P A 9 cells slots Q σ (pc + 26) [(0, .ref b), (1, .ref (P.2.2.1 (.inr 0))), (2, .ref (P.2.2.1 (.inr 9))), (3, .ref (P.2.2.1 (.inr 19))), (4, .int (nI i)), (5, .double x), (7, .double y)] [] := X_goto C 2900 d26 hoff (XW.less [0, 1, 2, 3, 4] rfl kk)
  refine X_dload C d0 rfl ?_
  refine X_dload C d2 rfl ?_
  refine X_dcmp C d4 ?_
  refine X_if_eq C (pc + 26) d5 (by omega) (fun _ => kz) (fun hne => ?_)
  have hxx : ¬ Op.cmpValue (FP.dcmp x x) .l = 0 := by
    rcases hxy with rfl | ⟨n1, n2⟩
    · exact hne
    · exact nan_cmp n1
  have hyy : ¬ Op.cmpValue (FP.dcmp y y) .l = 0 := by
    rcases hxy with rfl | ⟨n1, n2⟩
    · exact hne
    · exact nan_cmp n2
  refine X_dload C d8 rfl ?_
  refine X_dload C d10 rfl ?_
  refine X_dcmp C d12 ?_
  refine X_if_eq C (pc + 24) d13 (by omega) (fun q => absurd q hxx) (fun _ => ?_)
  refine X_dload C d16 rfl ?_
  refine X_dload C d18 rfl ?_
  refine X_dcmp C d20 ?_
  exact X_if_ne C (pc + 26) d21 (by omega) (fun _ => kz) (fun q => absurd q hyy)
set_option maxRecDepth 100000 in
set_option maxHeartbeats 4000000 in
theorem k_54 (hd0 : s.drawn.sameBut d0 lw_cs) (C : XC p (s.setDrawn d0) m args meth c P A 9 RL cL_law ret) (hP : xAll P) (hR : RV σ) (hc : cells ≤ room_1.cells ∧ slots ≤ room_1.slots) (kk : ∀ d1 σ1, s.drawn.sameBut d1 lw_cs → RV σ1 → XW p l e room_1 (s.setDrawn d1) m args below meth c P A 9 cells slots Q σ1 2900 (lvL P b i) []) : XW p l e room_1 (s.setDrawn d0) m args below meth c P A 9 cells slots Q σ 2778 (lvL P b i) [] := by
  obtain ⟨o, ch, n, w, hR⟩ := hR
  have h6 := c_X6_meanVolume l P σ hP.1 hP.2.2.2 hR.bd
  rw [hR.b.nc, q_mean hR.b] at h6
  have h7 := c_X7_meanVolume l P σ (σ.1 (.inr 10)) (σ.1 (.inr 9)) (σ.1 (.inr 18)) hP.2.1 hR.b.x.i
  rw [← mW_id σ] at h7
  refine X_aload_n (pc := 2778) C 1 dL_law_2778 rfl rfl ?_
  refine X_callVD (i9 := .inr 0) (ci := 6) (n := 0) (pc := 2779) hd0 C [] h6 m_c_X6_meanVolume m_m_L_324 m_i_X6_meanVolume m_s_X6_meanVolume m_n_X6 ⟨by decide +kernel, by decide +kernel, by decide +kernel⟩ ⟨Nat.le_of_ble_eq_true rfl, Nat.le_of_ble_eq_true rfl⟩ ⟨rfl, rfl⟩ hc hP.n0 rfl rfl rfl rfl (Nat.le_of_ble_eq_true rfl) rfl dL_law_2779 (fun v σ1 d1 hp hd1 => ?_)
  obtain ⟨rfl, r1, rfl, m1⟩ := hp
  show XW p l e room_1 (s.setDrawn d1) m args below meth c P A 9 cells slots Q σ1 2782 (lvL P b i) [.double r1]
  have C1 : XC p (s.setDrawn d1) m args meth c P A 9 RL cL_law ret := C.drawn d1
  refine X_dstore (pc := 2782) (lv1 := [(0, .ref b), (1, .ref (P.2.2.1 (.inr 0))), (2, .ref (P.2.2.1 (.inr 9))), (3, .ref (P.2.2.1 (.inr 19))), (4, .int (nI i)), (5, .double r1)]) C1 dL_law_2782 (by decide) rfl ?_
  refine X_aload_n (pc := 2784) C1 2 dL_law_2784 rfl rfl ?_
  refine X_callVD (i9 := .inr 9) (ci := 7) (n := 0) (pc := 2785) hd1 C1 [] h7 m_c_X7_meanVolume m_m_L_328 m_i_X7_meanVolume m_s_X7_meanVolume m_n_X7 ⟨by decide +kernel, by decide +kernel, by decide +kernel⟩ ⟨Nat.le_of_ble_eq_true rfl, Nat.le_of_ble_eq_true rfl⟩ ⟨rfl, rfl⟩ hc (hP.2.1 9 (by decide) (by decide)) rfl rfl rfl rfl (Nat.le_of_ble_eq_true rfl) rfl dL_law_2785 (fun v τ1 d2 hp hd2 => ?_)
  obtain ⟨rfl, r2, rfl, m2⟩ := hp
  show XW p l e room_1 (s.setDrawn d2) m args below meth c P A 9 cells slots Q _ 2788 [(0, .ref b), (1, .ref (P.2.2.1 (.inr 0))), (2, .ref (P.2.2.1 (.inr 9))), (3, .ref (P.2.2.1 (.inr 19))), (4, .int (nI i)), (5, .double r1)] [.double r2]
  have C2 : XC p (s.setDrawn d2) m args meth c P A 9 RL cL_law ret := C.drawn d2
  refine X_dstore (pc := 2788) (lv1 := [(0, .ref b), (1, .ref (P.2.2.1 (.inr 0))), (2, .ref (P.2.2.1 (.inr 9))), (3, .ref (P.2.2.1 (.inr 19))), (4, .int (nI i)), (5, .double r1), (7, .double r2)]) C2 dL_law_2788 (by decide) rfl ?_
  exact X_tailD (pc := 2790) C2 (eqn_mean m1 m2) dL_law_2790 dL_law_2792 dL_law_2794 dL_law_2795 dL_law_2798 dL_law_2800 dL_law_2802 dL_law_2803 dL_law_2806 dL_law_2808 dL_law_2810 dL_law_2811 dL_law_2816 (by decide) (kk d2 _ hd2 (hR.f7 0).mw)

set_option maxRecDepth 100000 in
set_option maxHeartbeats 4000000 in
theorem k_55 (hd0 : s.drawn.sameBut d0 lw_cs) (C : XC p (s.setDrawn d0) m args meth c P A 9 RL cL_law ret) (hP : xAll P) (hR : RV σ) (hc : cells ≤ room_1.cells ∧ slots ≤ room_1.slots) (kk : ∀ d1 σ1, s.drawn.sameBut d1 lw_cs → RV σ1 → XW p l e room_1 (s.setDrawn d1) m args below meth c P A 9 cells slots Q σ1 2900 (lvL P b i) []) : XW p l e room_1 (s.setDrawn d0) m args below meth c P A 9 cells slots Q σ 2819 (lvL P b i) [] := by
  obtain ⟨o, ch, n, w, hR⟩ := hR
  have hU := hR.g.2
  have h6 := c_X6_gossipShare l P σ hP.1 hP.2.2.2 hR.bd (by rw [hR.b.nu]; omega)
  rw [hR.b.nu, q_gos hR.b] at h6
  have h7 := c_X7_gossipShare l P σ (σ.1 (.inr 10)) (σ.1 (.inr 9)) (σ.1 (.inr 18)) hP.2.1 hR.b.x.i
  rw [← mW_id σ] at h7
  refine X_aload_n (pc := 2819) C 1 dL_law_2819 rfl rfl ?_
  refine X_callVD (i9 := .inr 0) (ci := 6) (n := 0) (pc := 2820) hd0 C [] h6 m_c_X6_gossipShare m_m_L_329 m_i_X6_gossipShare m_s_X6_gossipShare m_n_X6 ⟨by decide +kernel, by decide +kernel, by decide +kernel⟩ ⟨Nat.le_of_ble_eq_true rfl, Nat.le_of_ble_eq_true rfl⟩ ⟨rfl, rfl⟩ hc hP.n0 rfl rfl rfl rfl (Nat.le_of_ble_eq_true rfl) rfl dL_law_2820 (fun v σ1 d1 hp hd1 => ?_)
  obtain ⟨rfl, f1, rfl, m1⟩ := hp
  show XW p l e room_1 (s.setDrawn d1) m args below meth c P A 9 cells slots Q σ1 2823 (lvL P b i) [.float f1]
  have C1 : XC p (s.setDrawn d1) m args meth c P A 9 RL cL_law ret := C.drawn d1
  refine X_f2d (pc := 2823) hd1 C1 dL_law_2823 (fun r1 d2 a1 hd2 => ?_)
  have C2 : XC p (s.setDrawn d2) m args meth c P A 9 RL cL_law ret := C.drawn d2
  refine X_dstore (pc := 2824) (lv1 := [(0, .ref b), (1, .ref (P.2.2.1 (.inr 0))), (2, .ref (P.2.2.1 (.inr 9))), (3, .ref (P.2.2.1 (.inr 19))), (4, .int (nI i)), (5, .double r1)]) C2 dL_law_2824 (by decide) rfl ?_
  refine X_aload_n (pc := 2826) C2 2 dL_law_2826 rfl rfl ?_
  refine X_callVD (i9 := .inr 9) (ci := 7) (n := 0) (pc := 2827) hd2 C2 [] h7 m_c_X7_gossipShare m_m_L_333 m_i_X7_gossipShare m_s_X7_gossipShare m_n_X7 ⟨by decide +kernel, by decide +kernel, by decide +kernel⟩ ⟨Nat.le_of_ble_eq_true rfl, Nat.le_of_ble_eq_true rfl⟩ ⟨rfl, rfl⟩ hc (hP.2.1 9 (by decide) (by decide)) rfl rfl rfl rfl (Nat.le_of_ble_eq_true rfl) rfl dL_law_2827 (fun v τ1 d3 hp hd3 => ?_)
  obtain ⟨rfl, f2, rfl, m2⟩ := hp
  show XW p l e room_1 (s.setDrawn d3) m args below meth c P A 9 cells slots Q _ 2830 [(0, .ref b), (1, .ref (P.2.2.1 (.inr 0))), (2, .ref (P.2.2.1 (.inr 9))), (3, .ref (P.2.2.1 (.inr 19))), (4, .int (nI i)), (5, .double r1)] [.float f2]
  have C3 : XC p (s.setDrawn d3) m args meth c P A 9 RL cL_law ret := C.drawn d3
  refine X_f2d (pc := 2830) hd3 C3 dL_law_2830 (fun r2 d4 a2 hd4 => ?_)
  have C4 : XC p (s.setDrawn d4) m args meth c P A 9 RL cL_law ret := C.drawn d4
  refine X_dstore (pc := 2831) (lv1 := [(0, .ref b), (1, .ref (P.2.2.1 (.inr 0))), (2, .ref (P.2.2.1 (.inr 9))), (3, .ref (P.2.2.1 (.inr 19))), (4, .int (nI i)), (5, .double r1), (7, .double r2)]) C4 dL_law_2831 (by decide) rfl ?_
  exact X_tailD (pc := 2833) C4 (eqn_f m1 m2 a1 a2) dL_law_2833 dL_law_2835 dL_law_2837 dL_law_2838 dL_law_2841 dL_law_2843 dL_law_2845 dL_law_2846 dL_law_2849 dL_law_2851 dL_law_2853 dL_law_2854 dL_law_2859 (by decide) (kk d4 _ hd4 (hR.f7 0).mw)

end XP76

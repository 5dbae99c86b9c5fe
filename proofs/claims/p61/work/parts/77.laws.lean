/-! ROWS FOR THE LAW'S OWN BODIES -/
abbrev rm_L_ones : Room := { frames := 0, cells := 0, slots := 0, locals := 0 }
abbrev rm_L_draw : Room := { frames := 0, cells := 0, slots := 0, locals := 0 }
abbrev rm_L_isSound : Room := { frames := 12, cells := 3000, slots := 18000, locals := 400 }
section XP77
variable {p : Program} {l : Launch} {e : Env} {R : Room} {s : State} {m : MethodId} {args : Array Value} {below : List Frame} {meth : Method} {c : Code} {P : XP} {A : Nat → Prop} {nL cells slots : Nat} {Q : State → Prop} {own : String} {cc : ByteArray} {ret : Option FieldType} {σ : XS} {pc : Nat} {lv : List (Nat × Value)} {st : List Value}
variable {S : Nat → Int32} {o ch : Nat}
theorem XW.up {c1 s1 : Nat} (hc : cells ≤ c1) (hs : slots ≤ s1) (k : XW p l e R s m args below meth c P A nL c1 s1 Q σ pc lv st) : XW p l e R s m args below meth c P A nL cells slots Q σ pc lv st := fun H locs ls hP hS hl => W.widen hc hs (k H locs ls hP hS hl)
theorem xw_app {w x : va_W} : xw (xPR P (w ++ x)) σ = xw (xPR P w) σ ++ x := by rw [xw_pr, xw_pr, List.append_assoc]
/-- the last raw cells are forgotten -/
theorem X_drop {w x : va_W} (k : XW p l e R s m args below meth c (xPR P w) A nL cells slots Q σ pc lv st) : XW p l e R s m args below meth c (xPR P (w ++ x)) A nL cells slots Q σ pc lv st := fun H locs ls hP hS hl => k H locs ls (fun i q h => hP i q (by
  rw [xw_app, List.getElem?_append_left (List.getElem?_eq_some_iff.mp h).1]
  exact h)) hS hl
theorem X_ask (C : XC p s m args meth c P A nL own cc ret) {y : MethodName} {cy : ByteArray} {ny n0 k : Nat} {hh : List (Nat × Nat × Nat × Nat)} {rm : Room} (As : List Value) {n index : Nat} {a : Int32} (hM : AK l y cy ny hh (rmL n0 rm) P As σ a) (hz : rm.cells = 1 ∧ rm.slots = 6) (hc : Cond.codeWith y cy ny (some .int) hh ∈ xTB) (hlk : Cond.methodLink own index y ∈ xTB) (hin : Cond.static y ∈ xTB) (hini : Cond.initialized y.cls ∈ xTB) (hd : y.cls ≠ "java/lang/invoke/MethodHandle" ∧ y.cls ≠ "java/lang/invoke/VarHandle" ∧ (parseMethodDescriptor y.desc).map (fun d => d.parameters.length) = some n) (hR : (rmL n0 rm).frames + 1 ≤ R.frames ∧ 8 + (ny + 11) + (rmL n0 rm).locals ≤ R.locals) (hk : k + 1 ≤ R.cells ∧ 6 * k + 6 ≤ R.slots)
    (hn : As.length = n) (hst : (st.map fun v => v.category).sum ≤ 8) {st0 : List Value} (h0 : st0 = As.reverse ++ st) (d : decode cc pc = .ok (.invokestatic index, 3)) (kk : XW p l e R s m args below meth c P A nL (k + 1) (6 * (k + 1)) Q σ (pc + 3) lv (.int a :: st)) : XW p l e R s m args below meth c P A nL k (6 * k) Q σ pc lv st0 := by
  obtain ⟨z1, z2⟩ := hz
  refine X_callSH C As hM hc hlk hin hini hd hR ?_ hn hst h0 d (fun v σ1 hp => ?_)
  · show k + rm.cells ≤ R.cells ∧ 6 * k + rm.slots ≤ R.slots
    rw [z1, z2]
    exact hk
  · obtain ⟨rfl, rfl⟩ := hp
    show XW p l e R s m args below meth c P A nL (k + rm.cells) (6 * k + rm.slots) Q σ1 (pc + 3) lv (.int a :: st)
    rw [z1, z2]
    exact kk
/-- a static method of the law that leaves the world -/
theorem X_callSF (C : XC p s m args meth c P A nL own cc ret) {y : MethodName} {cy : ByteArray} {ny : Nat} {ry : Option FieldType} {rm : Room} (As : List Value) {n index : Nat} {v1 : Option Value} {σ1 : XS} (hM : XF l y cy ny ry rm P As σ v1 σ1) (hc : Cond.code y cy ny ry ∈ xTB) (hlk : Cond.methodLink own index y ∈ xTB) (hin : Cond.static y ∈ xTB) (hini : Cond.initialized y.cls ∈ xTB) (hd : y.cls ≠ "java/lang/invoke/MethodHandle" ∧ y.cls ≠ "java/lang/invoke/VarHandle" ∧ (parseMethodDescriptor y.desc).map (fun d => d.parameters.length) = some n) (hR : rm.frames + 1 ≤ R.frames ∧ 8 + (ny + 11) + rm.locals ≤ R.locals) (hz : rm.cells = 0 ∧ rm.slots = 0) (hcl : cells ≤ R.cells ∧ slots ≤ R.slots)
    (hn : As.length = n) (hst : (st.map fun v => v.category).sum ≤ 8) {st0 : List Value} (h0 : st0 = As.reverse ++ st) (d : decode cc pc = .ok (.invokestatic index, 3)) (k : XW p l e R s m args below meth c P A nL cells slots Q σ1 (pc + 3) lv (v1.toList ++ st)) : XW p l e R s m args below meth c P A nL cells slots Q σ pc lv st0 :=
  X_callS C As hM hc hlk hin hini hd hR (by rw [hz.1, hz.2]; exact hcl) hn hst h0 d (fun v9 σ9 h9 => by obtain ⟨rfl, rfl⟩ := h9; rw [hz.1, hz.2]; exact k)
theorem X_fdivP (C : XC p s m args meth c P A nL own cc ret) {x y : UInt32} (d : decode cc pc = .ok (.fdiv, 1)) (hne : vf_n32 (FP.fdiv x y)) (k : XW p l e R s m args below meth c P A nL cells slots Q σ (pc + 1) lv (.float (FP.fdiv x y) :: st)) : XW p l e R s m args below meth c P A nL cells slots Q σ pc lv (.float y :: .float x :: st) := fun H locs ls hP hS hl => lv_fdiv C.1 C.2.1 d hne (k H locs ls hP hS hl)
theorem X_fcmp (C : XC p s m args meth c P A nL own cc ret) {x y : UInt32} {op : CmpOp} (d : decode cc pc = .ok (.fcmp op, 1)) (k : XW p l e R s m args below meth c P A nL cells slots Q σ (pc + 1) lv (.int (Op.cmpValue (FP.fcmp x y) op) :: st)) : XW p l e R s m args below meth c P A nL cells slots Q σ pc lv (.float y :: .float x :: st) := fun H locs ls hP hS hl => lv_fcmp C.1 C.2.1 d (k H locs ls hP hS hl)
theorem X_fload (C : XC p s m args meth c P A nL own cc ret) {i : Nat} {x : UInt32} (d : decode cc pc = .ok (.fload i, 2)) (hl : xlk lv i = some (.float x)) (k9 : XW p l e R s m args below meth c P A nL cells slots Q σ (pc + 2) lv (.float x :: st)) : XW p l e R s m args below meth c P A nL cells slots Q σ pc lv st := fun H locs ls hP hS hz => lv_fload C.1 C.2.1 d (xlk_at hz hl) (k9 H locs ls hP hS hz)
theorem X_fstore (C : XC p s m args meth c P A nL own cc ret) {i : Nat} {x : UInt32} {lv1 : List (Nat × Value)} (d : decode cc pc = .ok (.fstore i, 2)) (hn : i < nL) (hl : xst lv i (.float x) = lv1) (k9 : XW p l e R s m args below meth c P A nL cells slots Q σ (pc + 2) lv1 st) : XW p l e R s m args below meth c P A nL cells slots Q σ pc lv (.float x :: st) := fun H locs ls hP hS hz => lv_fstore C.1 C.2.1 d hz hn rfl (fun ls1 h1 => k9 H locs ls1 hP hS (hl ▸ xst_has h1))
theorem X_tabOut (C : XC p s m args meth c P A nL own cc ret) {dflt lo hi : Int} {offs : Array Int} {len : Nat} {x : Int32} (tgt : Nat) (d : decode cc pc = .ok (.tableswitch dflt lo hi offs, len)) (h : x.toInt < lo ∨ hi < x.toInt) (ht : (pc : Int) + dflt = (tgt : Int)) (k : XW p l e R s m args below meth c P A nL cells slots Q σ tgt lv st) : XW p l e R s m args below meth c P A nL cells slots Q σ pc lv (.int x :: st) := fun H locs ls hP hS hl => lv_tableOut C.1 C.2.1 d h ht (k H locs ls hP hS hl)
theorem X_tabIn (C : XC p s m args meth c P A nL own cc ret) {dflt lo hi : Int} {offs : Array Int} {len : Nat} {x : Int32} {off : Int} (tgt : Nat) (d : decode cc pc = .ok (.tableswitch dflt lo hi offs, len)) (h1 : ¬ x.toInt < lo) (h2 : ¬ hi < x.toInt) (ho : offs[(x.toInt - lo).toNat]? = some off) (ht : (pc : Int) + off = (tgt : Int)) (k : XW p l e R s m args below meth c P A nL cells slots Q σ tgt lv st) : XW p l e R s m args below meth c P A nL cells slots Q σ pc lv (.int x :: st) := fun H locs ls hP hS hl => lv_tableIn C.1 C.2.1 d h1 h2 ho ht (k H locs ls hP hS hl)
/-! the questions that never refuse -/

theorem d_clock (l : Launch) (P : XP) (hP : XA P) (σ : XS) (h : GV σ S o ch) : XF l yX6_clock cX6_clock 1 (some .int) rm_X6_clock P [.ref (P.2.2.1 (.inr 0))] σ (some (.int (S 0))) σ := by
  have q := c_X6_clock l P σ hP.1 hP.2 h.b.bd
  rw [h.b.s.1] at q
  exact q
theorem d_lineCount (l : Launch) (P : XP) (hP : XA P) (σ : XS) (h : GV σ S o ch) : XF l yX6_lineCount cX6_lineCount 1 (some .int) rm_X6_lineCount P [.ref (P.2.2.1 (.inr 0))] σ (some (.int (S 1))) σ := by
  have q := c_X6_lineCount l P σ hP.1 hP.2 h.b.bd
  rw [h.b.s.2.1] at q
  exact q
theorem d_cordCount (l : Launch) (P : XP) (hP : XA P) (σ : XS) (h : GV σ S o ch) : XF l yX6_cordCount cX6_cordCount 1 (some .int) rm_X6_cordCount P [.ref (P.2.2.1 (.inr 0))] σ (some (.int (S 2))) σ := by
  have q := c_X6_cordCount l P σ hP.1 hP.2 h.b.bd
  rw [h.b.s.2.2.1] at q
  exact q
theorem d_trunkCount (l : Launch) (P : XP) (hP : XA P) (σ : XS) (h : GV σ S o ch) : XF l yX6_trunkCount cX6_trunkCount 1 (some .int) rm_X6_trunkCount P [.ref (P.2.2.1 (.inr 0))] σ (some (.int (S 3))) σ := by
  have q := c_X6_trunkCount l P σ hP.1 hP.2 h.b.bd
  rw [h.b.s.2.2.2.1] at q
  exact q
theorem d_subscriberCount (l : Launch) (P : XP) (hP : XA P) (σ : XS) (h : GV σ S o ch) : XF l yX6_subscriberCount cX6_subscriberCount 1 (some .int) rm_X6_subscriberCount P [.ref (P.2.2.1 (.inr 0))] σ (some (.int (S 4))) σ := by
  have q := c_X6_subscriberCount l P σ hP.1 hP.2 h.b.bd
  rw [h.b.s.2.2.2.2.1] at q
  exact q
theorem d_callCount (l : Launch) (P : XP) (hP : XA P) (σ : XS) (h : GV σ S o ch) : XF l yX6_callCount cX6_callCount 1 (some .int) rm_X6_callCount P [.ref (P.2.2.1 (.inr 0))] σ (some (.int (S 5))) σ := by
  have q := c_X6_callCount l P σ hP.1 hP.2 h.b.bd
  rw [h.b.s.2.2.2.2.2] at q
  exact q
theorem d_undoableChanges (l : Launch) (P : XP) (hP : XA P) (σ : XS) (h : GV σ S o ch) : XF l yX6_undoableChanges cX6_undoableChanges 1 (some .int) rm_X6_undoableChanges P [.ref (P.2.2.1 (.inr 0))] σ (some (.int (nI ch))) σ := by
  have q := c_X6_undoableChanges l P σ hP.1 hP.2 h.b.bd
  rw [h.h.2.2.1] at q
  exact q
theorem d_freeCords (l : Launch) (P : XP) (hP : XA P) (σ : XS) (h : GV σ S o ch) : XF l yX6_freeCords cX6_freeCords 1 (some .int) rm_X6_freeCords P [.ref (P.2.2.1 (.inr 0))] σ (some (.int (S 2 - nI (mCords S (mK S))))) σ := by
  have q := c_X6_freeCords l P σ hP.1 hP.2 h.b.bd
  rw [h.b.s.2.2.1, h.b.nc, h.b.cords] at q
  exact q
theorem d_waitingCalls (l : Launch) (P : XP) (hP : XA P) (σ : XS) (h : GV σ S o ch) : XF l yX6_waitingCalls cX6_waitingCalls 1 (some .int) rm_X6_waitingCalls P [.ref (P.2.2.1 (.inr 0))] σ (some (.int (nI (cCnt (fun c => sC S 4 c = 0) (mK S))))) σ := by
  have q := c_X6_waitingCalls l P σ hP.1 hP.2 h.b.bd
  rw [h.b.nc, q_count h.b, zc_count] at q
  exact q
theorem d_talkingCalls (l : Launch) (P : XP) (hP : XA P) (σ : XS) (h : GV σ S o ch) : XF l yX6_talkingCalls cX6_talkingCalls 1 (some .int) rm_X6_talkingCalls P [.ref (P.2.2.1 (.inr 0))] σ (some (.int (nI (cCnt (fun c => sC S 4 c = 1) (mK S))))) σ := by
  have q := c_X6_talkingCalls l P σ hP.1 hP.2 h.b.bd
  rw [h.b.nc, q_count h.b, zc_count] at q
  exact q
theorem d_bestInformed (l : Launch) (P : XP) (hP : XA P) (σ : XS) (h : GV σ S o ch) : XF l yX6_bestInformed cX6_bestInformed 1 (some .int) rm_X6_bestInformed P [.ref (P.2.2.1 (.inr 0))] σ (some (.int (nI (mBest (fun u => xbc (sU S 4 u)) (mU S))))) σ := by
  have q := c_X6_bestInformed l P σ hP.1 hP.2 h.b.bd
  rw [h.b.nu, q_best h.b h.u1] at q
  exact q
theorem gv_less (hM : MX S) {T : Nat} (hp : PS S T) (s : Int32) : ∀ n, n ≤ mK S → mLess S s n = s - cSum (mDue S) n
  | 0, _ => by show s = s - 0; rw [Int32.sub_zero]
  | n + 1, hn => by
    unfold mLess cSum
    have ih := gv_less hM hp s n (by omega)
    by_cases g : sC S 4 n = 2
    · rw [if_pos g, ih, mDue, if_pos g]
      rw [Int32.sub_eq_add_neg, Int32.sub_eq_add_neg, Int32.sub_eq_add_neg, Int32.neg_add, Int32.add_assoc, Int32.sub_eq_add_neg]
    · rw [if_neg g, ih, mDue, if_neg g, Int32.add_zero]
theorem gv_no {q : Nat → Prop} : ∀ n, (∀ i, i < n → ¬ q i) → cCnt q n = 0
  | 0, _ => rfl
  | n + 1, h => by rw [cCnt_n (h n (by omega)), gv_no n (fun i hi => h i (by omega))]
theorem xabs_0 : xabs 0 = 0 := by decide
theorem gv_inc (hb : MX S) {T : Nat} (hp : PS S T) : nI ((cCnt (fun i => 1 < mLine S (nI i) (mK S)) (mL S)) + (cCnt (fun i => 1 < mTrk S (nI i) (mK S)) (mT S))) + xabs (S 2 - (S 2 - nI (mCords S (mK S))) - nI (mCords S (mK S))) + xabs (mLess S (cSum (fun u => sU S 3 u) (mU S)) (mK S)) = 0 := by
  have l6 := hb.i.l6
  have t4 := hb.i.t4
  rw [gv_no _ (fun i hi => by have := hp.l (a := i) (by omega); omega), gv_no _ (fun i hi => by have := hp.k (t := i) (by omega); omega), gv_less hb hp _ _ (Nat.le_refl _), hp.b, Int32.sub_self, xabs_0]
  rw [show S 2 - (S 2 - nI (mCords S (mK S))) - nI (mCords S (mK S)) = 0 by
    rw [show S 2 - (S 2 - nI (mCords S (mK S))) = nI (mCords S (mK S)) by rw [Int32.sub_eq_add_neg, Int32.neg_sub, Int32.add_comm, Int32.sub_add_cancel], Int32.sub_self], xabs_0]
  rfl
theorem d_inconsistencies (l : Launch) (P : XP) (hP : XA P) (σ : XS) (h : GV σ S o ch) {T : Nat} (hp : PS S T) : XF l yX6_inconsistencies cX6_inconsistencies 1 (some .int) rm_X6_inconsistencies P [.ref (P.2.2.1 (.inr 0))] σ (some (.int 0)) σ := by
  have q := c_X6_inconsistencies l P σ hP.1 hP.2 h.b.bd
  rw [h.b.nc, h.b.nu, h.b.nt, q_inc h.b, gv_inc h.b.x hp] at q
  exact q
theorem sh_ok {n a : Nat} (h1 : 1 ≤ n) (h2 : n ≤ 15) (ha : a ≤ 225) : vf_n32 (shr n a) ∧ Op.cmpValue (FP.fcmp (shr n a) (shr n a)) .l = 0 := by
  have := sh_t (n - 1) (by omega) a (by omega)
  rw [show n - 1 + 1 = n by omega] at this
  unfold shT at this
  rw [Bool.and_eq_true, decide_eq_true_iff, decide_eq_true_iff] at this
  exact this
/-! bits counted one by one -/
theorem on_sum {x : Int32} : ∀ n, n ≤ 32 → cSum (fun k => x >>> (nI k &&& 31) &&& 1) n = nI (bC (bt x) n)
  | 0, _ => rfl
  | n + 1, h => by
    rw [cSum, bC, on_sum n (by omega), zb_shr0 (by omega)]
    by_cases g : bt x n = true
    · rw [if_pos g, if_pos g, nI_1]
    · rw [if_neg g, if_neg g, Int32.add_zero, Nat.add_zero]
theorem bC_far {f : Nat → Bool} {a : Nat} : ∀ k, (∀ i, a ≤ i → i < a + k → ¬ f i = true) → bC f (a + k) = bC f a
  | 0, _ => rfl
  | k + 1, h => by rw [show a + (k + 1) = a + k + 1 by omega, bC, if_neg (h _ (by omega) (by omega)), Nat.add_zero, bC_far k (fun i h1 h2 => h i h1 (by omega))]
theorem bC_cg {f g : Nat → Bool} : ∀ n, (∀ i, i < n → f i = g i) → bC f n = bC g n
  | 0, _ => rfl
  | n + 1, h => by rw [bC, bC, bC_cg n (fun i hi => h i (by omega)), h n (by omega)]
theorem bC_le (f : Nat → Bool) : ∀ n, bC f n ≤ n
  | 0 => Nat.le_refl _
  | n + 1 => by
    rw [bC]
    have := bC_le f n
    split <;> omega
theorem on_t {a b : Nat} (ha : a < 128) (hb : b < 256) : onT a b = true := by
  have h : ∀ j, 8 * j ≤ a → a < 8 * j + 8 → a = 8 * j + (a - 8 * j) := fun j h1 h2 => by omega
  by_cases g0 : a < 8
  · rw [show a = 0 + (a - 0) by omega]
    exact on_t0 _ (by omega) b hb
  by_cases g1 : a < 16
  · rw [show a = 8 + (a - 8) by omega]
    exact on_t1 _ (by omega) b hb
  by_cases g2 : a < 24
  · rw [show a = 16 + (a - 16) by omega]
    exact on_t2 _ (by omega) b hb
  by_cases g3 : a < 32
  · rw [show a = 24 + (a - 24) by omega]
    exact on_t3 _ (by omega) b hb
  by_cases g4 : a < 40
  · rw [show a = 32 + (a - 32) by omega]
    exact on_t4 _ (by omega) b hb
  by_cases g5 : a < 48
  · rw [show a = 40 + (a - 40) by omega]
    exact on_t5 _ (by omega) b hb
  by_cases g6 : a < 56
  · rw [show a = 48 + (a - 48) by omega]
    exact on_t6 _ (by omega) b hb
  by_cases g7 : a < 64
  · rw [show a = 56 + (a - 56) by omega]
    exact on_t7 _ (by omega) b hb
  by_cases g8 : a < 72
  · rw [show a = 64 + (a - 64) by omega]
    exact on_t8 _ (by omega) b hb
  by_cases g9 : a < 80
  · rw [show a = 72 + (a - 72) by omega]
    exact on_t9 _ (by omega) b hb
  by_cases g10 : a < 88
  · rw [show a = 80 + (a - 80) by omega]
    exact on_t10 _ (by omega) b hb
  by_cases g11 : a < 96
  · rw [show a = 88 + (a - 88) by omega]
    exact on_t11 _ (by omega) b hb
  by_cases g12 : a < 104
  · rw [show a = 96 + (a - 96) by omega]
    exact on_t12 _ (by omega) b hb
  by_cases g13 : a < 112
  · rw [show a = 104 + (a - 104) by omega]
    exact on_t13 _ (by omega) b hb
  by_cases g14 : a < 120
  · rw [show a = 112 + (a - 112) by omega]
    exact on_t14 _ (by omega) b hb
  by_cases g15 : a < 128
  · rw [show a = 120 + (a - 120) by omega]
    exact on_t15 _ (by omega) b hb
  exact absurd ha (by omega)
/-- the bits of fifteen -/
theorem xbc_15 {x : Int32} (h : ∀ i, 15 ≤ i → i < 32 → ¬ bt x i = true) : xbc x = nI (bC (bt x) 15) := by
  obtain ⟨m, hm, rfl⟩ := set_num (x := x) (fun i hi hb => by
    by_cases g : i < 15
    · exact g
    · exact absurd hb (h i (by omega) hi))
  have := on_t (a := m / 256) (b := m % 256) (by omega) (Nat.mod_lt _ (by decide))
  unfold onT at this
  rw [show 256 * (m / 256) + m % 256 = m by omega, decide_eq_true_iff] at this
  rw [this]
  exact congrArg nI (bC_cg 15 (fun i hi => by rw [bt_nI, decide_eq_true (show i < 32 by omega), Bool.true_and]))
theorem ones_eq {x : Int32} (h : ∀ i, 15 ≤ i → i < 32 → ¬ bt x i = true) : cSum (fun k => x >>> (nI k &&& 31) &&& 1) 31 = xbc x := by
  rw [on_sum 31 (by decide), xbc_15 h, show (31 : Nat) = 15 + 16 from rfl, bC_far 16 (fun i h1 h2 => h i h1 (by omega))]
/-- what all know together -/
theorem sec_n (hp : ∀ u, u < mU S → ∀ i, 15 ≤ i → i < 32 → ¬ bt (sU S 4 u) i = true) : ∀ n, n ≤ mU S → ∃ a, a ≤ 15 * n ∧ cSum (fun u => xbc (sU S 4 u)) n = nI a
  | 0, _ => ⟨0, Nat.le_refl _, rfl⟩
  | n + 1, hn => by
    obtain ⟨a, h1, h2⟩ := sec_n hp n (by omega)
    refine ⟨a + bC (bt (sU S 4 n)) 15, by have := bC_le (bt (sU S 4 n)) 15; omega, ?_⟩
    rw [cSum, h2, xbc_15 (hp n (by omega)), nI_add]
end XP77

section XP77b
variable {p : Program} {l : Launch} {e : Env} {R : Room} {s : State} {m : MethodId} {args : Array Value} {below : List Frame} {meth : Method} {c : Code} {P : XP} {A : Nat → Prop} {nL cells slots : Nat} {Q : State → Prop} {cc : ByteArray} {ret : Option FieldType} {σ : XS} {pc : Nat} {lv : List (Nat × Value)} {st : List Value}
set_option maxRecDepth 100000 in
set_option maxHeartbeats 4000000 in
theorem c_L_ones (l : Launch) (P : XP) (σ : XS) (x : Int32) : XF l yL_ones cL_ones 3 (some .int) rm_L_ones P [.int x] σ (some (.int (cSum (fun k => x >>> (nI k &&& 31) &&& 1) 31))) σ := by
  refine XM.of (by decide +kernel) (Nat.le_of_ble_eq_true rfl) (fun p e s m args below meth c A C => ?_)
  replace C : XC p s m args meth c P A 3 RL cL_ones (some .int) := C
  have lp : ∀ (k i : Nat), i + k = 31 → XW p l e rm_L_ones s m args below meth c P A 3 0 0 (MQ below (XQ P A (fun v9 σ9 => v9 = some (.int (cSum (fun k => x >>> (nI k &&& 31) &&& 1) 31)) ∧ σ9 = σ)) args s rm_L_ones.cells rm_L_ones.slots A) σ 4 [(0, .int x), (1, .int (cSum (fun k => x >>> (nI k &&& 31) &&& 1) i)), (2, .int (nI i))] [] := by
    intro k
    induction k with
    | zero =>
      intro i hi
      obtain rfl : i = 31 := by omega
      refine X_iload_n (pc := 4) C 2 dL_ones_4 rfl rfl ?_
      refine X_bipush (pc := 5) (v := 31) C dL_ones_5 (by decide) ?_
      refine X_icmp_ge (pc := 7) C 24 dL_ones_7 (by decide) (fun h7 => ?_) (fun h7 => absurd (Int32.le_refl _) h7)
      refine X_iload_n (pc := 24) C 1 dL_ones_24 rfl rfl ?_
      exact X_iret (pc := 25) C (Nat.zero_le _) (Nat.zero_le _) dL_ones_25 ⟨rfl, rfl⟩
    | succ k ih =>
      intro i hi
      refine X_iload_n (pc := 4) C 2 dL_ones_4 rfl rfl ?_
      refine X_bipush (pc := 5) (v := 31) C dL_ones_5 (by decide) ?_
      refine X_icmp_ge (pc := 7) C 24 dL_ones_7 (by decide) (fun h7 => absurd h7 (nI_ge (a := i) (b := 31) (by omega) (by decide))) (fun h7 => ?_)
      refine X_iload_n (pc := 10) C 1 dL_ones_10 rfl rfl ?_
      refine X_iload_n (pc := 11) C 0 dL_ones_11 rfl rfl ?_
      refine X_iload_n (pc := 12) C 2 dL_ones_12 rfl rfl ?_
      refine X_ishr (pc := 13) C dL_ones_13 ?_
      refine X_iconst (pc := 14) (v := 1) C dL_ones_14 (by decide) ?_
      refine X_iand (pc := 15) C dL_ones_15 ?_
      refine X_iadd (pc := 16) C dL_ones_16 ?_
      refine X_istore_n (pc := 17) (lv1 := [(0, _), (1, _), (2, _)]) C 1 dL_ones_17 rfl (by decide) rfl ?_
      first | refine X_iincN (pc := 18) (lv1 := [(0, _), (1, _), (2, _)]) C dL_ones_18 rfl (by decide) (by decide) rfl ?_ | refine X_iinc (pc := 18) (kk := 1) (lv1 := [(0, _), (1, _), (2, _)]) C dL_ones_18 rfl (by decide) (by decide) rfl ?_
      refine X_goto (pc := 21) C 4 dL_ones_21 (by decide) ?_
      exact ih (i + 1) (by omega)
  refine XW.eq (lv' := [(0, _)]) rfl rfl rfl ?_
  refine X_iconst (pc := 0) (v := 0) C dL_ones_0 (by decide) ?_
  refine X_istore_n (pc := 1) (lv1 := [(0, _), (1, _)]) C 1 dL_ones_1 rfl (by decide) rfl ?_
  refine X_iconst (pc := 2) (v := 0) C dL_ones_2 (by decide) ?_
  refine X_istore_n (pc := 3) (lv1 := [(0, _), (1, _), (2, _)]) C 2 dL_ones_3 rfl (by decide) rfl ?_
  exact lp 31 0 rfl
end XP77b

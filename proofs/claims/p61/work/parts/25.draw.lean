/-! DRAWS: averages -/
def XMD (l : Launch) (y : MethodName) (cc : ByteArray) (nL : Nat) (ret : Option FieldType) (rm : Room) (P : XP) (as : List Value) (σ : XS) (Post : Option Value → XS → Prop) : Prop :=
  ∀ sz : Nat, MetD lw_cs l y (Cond.code y cc nL ret :: xTB) rm (va_Pc as (XPre P σ sz)) (XQ P (va_A (xw P σ) sz) Post) rm.cells rm.slots (va_A (xw P σ) sz)
/-- the volumes of the calls that have begun, and how many -/
def cMean (sa f : Nat → Int32) : Nat → Int32 × Nat
  | 0 => (0, 0)
  | k + 1 => if sa k = -1 then cMean sa f k else ((cMean sa f k).1 + f k, (cMean sa f k).2 + 1)
theorem cMean_le (sa f : Nat → Int32) : ∀ k, (cMean sa f k).2 ≤ k
  | 0 => Nat.le_refl _
  | k + 1 => by
    unfold cMean
    have h := cMean_le sa f k
    by_cases g : sa k = -1
    · rw [if_pos g]; omega
    · rw [if_neg g]; show (cMean sa f k).2 + 1 ≤ k + 1; omega
def isMean (q : Int32 × Nat) (r : UInt64) : Prop := if q.2 = 0 then r = FP.dconst0 else alike64 r (FP.ddiv (FP.i2d q.1) (FP.i2d (nI q.2))) = true
section XP25
variable {p : Program} {l : Launch} {e : Env} {R : Room} {s : State} {m : MethodId} {args : Array Value} {below : List Frame} {meth : Method} {c : Code} {P : XP} {A : Nat → Prop} {nL cells slots : Nat} {Q : State → Prop} {cc : ByteArray} {ret : Option FieldType} {σ : XS} {pc : Nat} {lv : List (Nat × Value)} {st : List Value} {own : String} {d0 : Drawn}
theorem XC.drawn (C : XC p s m args meth c P A nL own cc ret) (d : Drawn) : XC p (s.setDrawn d) m args meth c P A nL own cc ret :=
  ⟨C.1, C.2.1, C.2.2.1, C.2.2.2.1, dr_words C.hts d, C.hK, C.hD, C.hA, C.hr, C.hlk, xE.same (u := s) (U := s.setDrawn d) rfl C.hE⟩
theorem XMD.of {y : MethodName} {rm : Room} {as : List Value} {Post : Option Value → XS → Prop} (hy : plainName y.cls = true) (hn : (lg_sl as).length ≤ nL)
    (body : ∀ (p : Program) (e : Env) (s : State) (m : MethodId) (args : Array Value) (below : List Frame) (meth : Method) (c : Code) (A : Nat → Prop), XC p (s.setDrawn s.drawn) m args meth c P A nL y.cls cc ret → s.drawn.sameBut s.drawn lw_cs → XW p l e rm (s.setDrawn s.drawn) m args below meth c P A nL 0 0 (MQD lw_cs below (XQ P A Post) args s rm.cells rm.slots A) σ 0 (lv_args 0 as) []) : XMD l y cc nL ret rm P as σ Post := by
  intro sz
  refine MetD.ofW (cc := cc) (maxL := nL) (ret := ret) hy rfl ?_
  intro p e s m args below meth c s₁ B hml hv hd0
  obtain ⟨rfl, hsz, hP, hK, hD0, hE⟩ := hv
  have hts := atoms_spec (ws := Cond.code y cc nL ret :: xTB) B.pre
  have hown : s.vm.findClass y.cls = some m.cls := findClass_of_methodNamed B.named
  subst hsz
  have hD : va_D (va_A (xw P σ) s.heap.size) (xw P σ) := hD0.self
  have hl := lv_entry as (n := nL) hn
  rw [lg_entry_eq]
  have C : XC p s m _ meth c P (va_A (xw P σ) s.heap.size) nL y.cls cc ret := ⟨B.exec, B.bytes, hml, hown, fun w hw => hts w (List.mem_cons_of_mem _ hw), hK, fun σ1 => xw_D hD σ1, fun q h => Or.inr h, B.returns, B.notSynchronized, hE⟩
  exact body p e s m _ below meth c _ (C.drawn _) hd0 s.heap [] _ hP va_S.rf hl
theorem X_i2d (C : XC p s m args meth c P A nL own cc ret) {x : Int32} (d : decode cc pc = .ok (.i2d, 1)) (k : XW p l e R s m args below meth c P A nL cells slots Q σ (pc + 1) lv (.double (FP.i2d x) :: st)) : XW p l e R s m args below meth c P A nL cells slots Q σ pc lv (.int x :: st) := fun H locs ls hP hS hl => lv_i2d C.1 C.2.1 d (k H locs ls hP hS hl)
theorem X_i2f (C : XC p s m args meth c P A nL own cc ret) {x : Int32} (d : decode cc pc = .ok (.i2f, 1)) (k : XW p l e R s m args below meth c P A nL cells slots Q σ (pc + 1) lv (.float (FP.i2f x) :: st)) : XW p l e R s m args below meth c P A nL cells slots Q σ pc lv (.int x :: st) := fun H locs ls hP hS hl => lv_i2f C.1 C.2.1 d (k H locs ls hP hS hl)
theorem X_dconst0 (C : XC p s m args meth c P A nL own cc ret) (d : decode cc pc = .ok (.dconst 0, 1)) (k : XW p l e R s m args below meth c P A nL cells slots Q σ (pc + 1) lv (.double FP.dconst0 :: st)) : XW p l e R s m args below meth c P A nL cells slots Q σ pc lv st := fun H locs ls hP hS hl => lv_dconst0 C.1 C.2.1 d (k H locs ls hP hS hl)
theorem X_fconst0 (C : XC p s m args meth c P A nL own cc ret) (d : decode cc pc = .ok (.fconst 0, 1)) (k : XW p l e R s m args below meth c P A nL cells slots Q σ (pc + 1) lv (.float FP.fconst0 :: st)) : XW p l e R s m args below meth c P A nL cells slots Q σ pc lv st := fun H locs ls hP hS hl => lv_fconst0 C.1 C.2.1 d (k H locs ls hP hS hl)
theorem X_ddiv (hd0 : s.drawn.sameBut d0 lw_cs) (C : XC p (s.setDrawn d0) m args meth c P A nL own cc ret) {x y : UInt64} (d : decode cc pc = .ok (.ddiv, 1)) (k : ∀ (r : UInt64) (d1 : Drawn), alike64 r (FP.ddiv x y) = true → s.drawn.sameBut d1 lw_cs → XW p l e R (s.setDrawn d1) m args below meth c P A nL cells slots Q σ (pc + 1) lv (.double r :: st)) : XW p l e R (s.setDrawn d0) m args below meth c P A nL cells slots Q σ pc lv (.double y :: .double x :: st) := fun H locs ls hP hS hl => lv_ddiv_any hd0 lw_bits C.1 C.2.1 d (fun r d1 h1 h2 => k r d1 h1 h2 H locs ls hP hS hl)
theorem X_fdiv (hd0 : s.drawn.sameBut d0 lw_cs) (C : XC p (s.setDrawn d0) m args meth c P A nL own cc ret) {x y : UInt32} (d : decode cc pc = .ok (.fdiv, 1)) (k : ∀ (r : UInt32) (d1 : Drawn), alike32 r (FP.fdiv x y) = true → s.drawn.sameBut d1 lw_cs → XW p l e R (s.setDrawn d1) m args below meth c P A nL cells slots Q σ (pc + 1) lv (.float r :: st)) : XW p l e R (s.setDrawn d0) m args below meth c P A nL cells slots Q σ pc lv (.float y :: .float x :: st) := fun H locs ls hP hS hl => lv_fdiv_any hd0 lw_bits C.1 C.2.1 d (fun r d1 h1 h2 => k r d1 h1 h2 H locs ls hP hS hl)
theorem X_f2d (hd0 : s.drawn.sameBut d0 lw_cs) (C : XC p (s.setDrawn d0) m args meth c P A nL own cc ret) {x : UInt32} (d : decode cc pc = .ok (.f2d, 1)) (k : ∀ (r : UInt64) (d1 : Drawn), alike64 r (FP.f2d x) = true → s.drawn.sameBut d1 lw_cs → XW p l e R (s.setDrawn d1) m args below meth c P A nL cells slots Q σ (pc + 1) lv (.double r :: st)) : XW p l e R (s.setDrawn d0) m args below meth c P A nL cells slots Q σ pc lv (.float x :: st) := fun H locs ls hP hS hl => lv_f2d_any hd0 lw_bits C.1 C.2.1 d (fun r d1 h1 h2 => k r d1 h1 h2 H locs ls hP hS hl)
theorem X_dretD {Post : Option Value → XS → Prop} {v : UInt64} {mc ms : Nat} (hd0 : s.drawn.sameBut d0 lw_cs) (C : XC p (s.setDrawn d0) m args meth c P A nL own cc (some .double)) (hc : cells ≤ mc) (hs : slots ≤ ms) (d : decode cc pc = .ok (.dreturn, 1)) (hp : Post (some (.double v)) σ) : XW p l e R (s.setDrawn d0) m args below meth c P A nL cells slots (MQD lw_cs below (XQ P A Post) args s mc ms A) σ pc lv [.double v] := fun H locs ls hP hS _ => W.endD hd0 (W.widen hc hs (W.dret C.1 C.2.1 C.hr (fun t ht _ => ⟨⟨_, σ, rfl, hp, by rw [ht]; exact hP⟩, hS.F ht⟩) hS.2.2 d C.hlk))
theorem X_fretD {Post : Option Value → XS → Prop} {v : UInt32} {mc ms : Nat} (hd0 : s.drawn.sameBut d0 lw_cs) (C : XC p (s.setDrawn d0) m args meth c P A nL own cc (some .float)) (hc : cells ≤ mc) (hs : slots ≤ ms) (d : decode cc pc = .ok (.freturn, 1)) (hp : Post (some (.float v)) σ) : XW p l e R (s.setDrawn d0) m args below meth c P A nL cells slots (MQD lw_cs below (XQ P A Post) args s mc ms A) σ pc lv [.float v] := fun H locs ls hP hS _ => W.endD hd0 (W.widen hc hs (W.fret C.1 C.2.1 C.hr (fun t ht _ => ⟨⟨_, σ, rfl, hp, by rw [ht]; exact hP⟩, hS.F ht⟩) hS.2.2 d C.hlk))

set_option maxRecDepth 100000 in
set_option maxHeartbeats 4000000 in
theorem c_X6_gossipShare (l : Launch) (P : XP) (σ : XS) (h0 : xI0 P) (hb : ∀ b, b < 12 → xIn P b) (hB : Bd σ 0) (hnz : ¬ nuN σ 0 = 0) : XMD l yX6_gossipShare cX6_gossipShare 2 (some .float) rm_X6_gossipShare P [.ref (P.2.2.1 (.inr 0))] σ (fun v9 τ => τ = σ ∧ ∃ r, v9 = some (.float r) ∧ alike32 r (FP.fdiv (FP.i2f (cSum (fun k => xbc ((σ.1 (.inl (0, 7))) k)) (nuN σ 0))) (FP.i2f (nI (nuN σ 0) * nI (nuN σ 0)))) = true) := by
  refine XMD.of (by decide +kernel) (Nat.le_of_ble_eq_true rfl) (fun p e s m args below meth c A C hd0 => ?_)
  replace C : XC p (s.setDrawn s.drawn) m args meth c P A 2 RX6 cX6_gossipShare (some .float) := C
  refine XW.eq (lv' := [(0, _)]) rfl rfl rfl ?_
  have hb0 : xIn P 0 := hb 0 (by decide)
  have hnu := hB.2.1
  refine X_aload_n (pc := 0) C 0 dX6_gossipShare_0 rfl rfl ?_
  refine G_X6_12 (pc := 1) C (by assumption) dX6_gossipShare_1 ?_
  refine G_X6_98 (pc := 4) C (by assumption) dX6_gossipShare_4 ?_
  refine G_X6_102 (pc := 7) C (by assumption) dX6_gossipShare_7 ?_
  rw [hB.1]
  refine X_istore_n (pc := 10) (lv1 := [(0, _), (1, _)]) C 1 dX6_gossipShare_10 rfl (by decide) rfl ?_
  refine X_iload_n (pc := 11) C 1 dX6_gossipShare_11 rfl rfl ?_
  refine X_if_ne (pc := 12) C 17 dX6_gossipShare_12 (by decide) (fun h12 => ?_) (fun h12 => ?_)
  · skip
    refine X_aload_n (pc := 17) C 0 dX6_gossipShare_17 rfl rfl ?_
    refine G_X6_12 (pc := 18) C (by assumption) dX6_gossipShare_18 ?_
    refine G_X6_98 (pc := 21) C (by assumption) dX6_gossipShare_21 ?_
    refine K_X6_305 (pc := 24) C (by assumption) (c_X5_countSecretsKnown l P σ 0 (nuN σ 0) hb0 hB.2.1 hB.1) ⟨Nat.le_of_ble_eq_true rfl, Nat.le_of_ble_eq_true rfl⟩ ⟨rfl, rfl⟩ ⟨Nat.zero_le _, Nat.zero_le _⟩ (Nat.le_of_ble_eq_true rfl) dX6_gossipShare_24 ?_
    refine X_i2f (pc := 27) C dX6_gossipShare_27 ?_
    refine X_iload_n (pc := 28) C 1 dX6_gossipShare_28 rfl rfl ?_
    refine X_iload_n (pc := 29) C 1 dX6_gossipShare_29 rfl rfl ?_
    refine X_imul (pc := 30) C dX6_gossipShare_30 ?_
    refine X_i2f (pc := 31) C dX6_gossipShare_31 ?_
    refine X_fdiv (pc := 32) hd0 C dX6_gossipShare_32 (fun r d1 hal hd1 => ?_)
    exact X_fretD (pc := 33) hd1 (C.drawn d1) (Nat.zero_le _) (Nat.zero_le _) dX6_gossipShare_33 ⟨rfl, r, rfl, hal⟩
  · exact absurd (neq (a := nuN σ 0) (b := 0) h12) hnz

end XP25

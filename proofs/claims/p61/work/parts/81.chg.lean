/-! CHANGES, TOLD BY THE ROW; contracts that change named and raw cells; draw -/
abbrev rm_L_acts : Room := { frames := 12, cells := 100, slots := 600, locals := 400 }
section GV81
variable {σ τ : XS} {S S1 : Nat → Int32} {o ch T : Nat}
theorem push_ne {i : XI} (h : ∀ b k, i ≠ .inl (b, k)) (h4 : i ≠ .inr 4) : (uPush σ o ch).1 i = σ.1 i := by
  unfold uPush
  by_cases g : ch < 8
  · rw [if_pos g, xu_ne _ _ _ h4, (uCopyB_ne (fun k => h _ k)).1]
  · rw [if_neg g, xu_ne _ _ _ h4, (uCopyB_ne (fun k => h _ k)).1]
theorem push_z (h : ∀ b, b < 12 → xZ σ b) : ∀ b, b < 12 → xZ (uPush σ o ch) b := fun b hb => by
  have h1 : xZ (uCopyB σ (2 + (o + ch) % 8) 0) b := (FS.copy (by omega) (h 0 (by decide))).z (h b hb)
  unfold uPush
  by_cases g : ch < 8
  · rw [if_pos g]; exact xZ_o h1 (xu_ne _ _ _ (by simp)) (xu_ne _ _ _ (by simp))
  · rw [if_neg g]; exact xZ_o h1 (xu_ne _ _ _ (by simp)) (xu_ne _ _ _ (by simp))
/-- the board that was pushed -/
theorem push_q (h : RG σ 0 S) : RG (uPush σ o ch) (2 + (o + ch) % 8) S := by
  have h1 : RG (uCopyB σ (2 + (o + ch) % 8) 0) (2 + (o + ch) % 8) S := RG.copy h (by omega)
  unfold uPush
  by_cases g : ch < 8
  · rw [if_pos g]; exact h1.fr (fun k => xu_ne _ _ _ (by simp)) (by rw [xu_l])
  · rw [if_neg g]; exact h1.fr (fun k => xu_ne _ _ _ (by simp)) (by rw [xu_l])
theorem push_0 (h : RG σ 0 S) : RG (uPush σ o ch) 0 S := h.fr (fun k => (uPush_b (Or.inl (by decide))).1) (uPush_b (k := 2) (Or.inl (by decide))).2
theorem push_h (h : Hi σ o ch) : Hi (uPush σ o ch) (oNx o ch) (mNx ch) := by
  have h8 := h.2.2.2
  have h7 := h.2.1
  have := uPush_4 (σ := σ) (o := o) (ch := ch) h8 ⟨h.1, h.2.2.1⟩
  refine ⟨this.1, ?_, this.2, ?_⟩
  · unfold oNx; split <;> omega
  · unfold mNx; split <;> omega
theorem GV.chg (h : GV σ S o ch) (hf : FS 0 (uPush σ o ch) τ) (hb : RG τ 0 S1) : GV τ S1 (oNx o ch) (mNx ch) :=
  ⟨fun b hb => hf.z (push_z h.z b hb), hb, by have := push_h h.h; unfold Hi at this ⊢; rw [hf.inr 4]; exact this⟩
theorem GV.fs1 (h : GV σ S o ch) (hf : FS 1 σ τ) : GV τ S o ch :=
  ⟨fun b hb => hf.z (h.z b hb), hf.g (by decide) h.2.1, by have := h.h; unfold Hi at this ⊢; rw [hf.inr 4]; exact this⟩
theorem mU_req {x y t u : Int32} (hM : MI S) (hk : mK S < 40) (hx : xok x (mU S)) (hyt : (t = -1 ∧ xok y (mU S)) ∨ (y = -1 ∧ xok t (mT S))) : mU (mReq S x y t u) = mU S := by
  have e0 : mU (mReq0 S x y t u) = mU S := by rw [mU, mU, rq_n (by decide) (by decide)]
  unfold mReq
  split
  · rw [mS_U (hM.req hk hx hyt) (by rw [mReq0_K hk]; omega), e0]
  · exact e0
theorem mU_fin {j : Nat} (hM : MI S) (hj : j < mK S) : mU (mFin S j).1 = mU S := by rw [mU, mU, mFin_fx hM hj 4 (Or.inl (by decide))]
theorem GV.call {x y u : Int32} (h : GV σ S o ch) (hx : xok x (mU S)) (hy : xok y (mU S)) (hk : mK S < 40) (hu : u = 0 ∨ u = 1) : GV (uReq (uPush σ o ch) 0 (mU S) (mK S) x y (-1) u) (mReq S x y (-1) u) (oNx o ch) (mNx ch) :=
  h.chg (FS.of (Fr.req hu) uReq_in uReq_in) ⟨(push_0 h.2.1).1.req hk hx (Or.inl ⟨rfl, hy⟩) hu, by rw [mU_req h.b.x.i hk hx (Or.inl ⟨rfl, hy⟩)]; exact h.u1⟩
theorem GV.callT {x y u : Int32} (h : GV σ S o ch) (hx : xok x (mU S)) (hy : xok y (mT S)) (hk : mK S < 40) (hu : u = 0 ∨ u = 1) : GV (uReq (uPush σ o ch) 0 (mU S) (mK S) x (-1) y u) (mReq S x (-1) y u) (oNx o ch) (mNx ch) :=
  h.chg (FS.of (Fr.req hu) uReq_in uReq_in) ⟨(push_0 h.2.1).1.req hk hx (Or.inr ⟨rfl, hy⟩) hu, by rw [mU_req h.b.x.i hk hx (Or.inr ⟨rfl, hy⟩)]; exact h.u1⟩
theorem fs_fin {b nu nc nt j : Nat} : FS b σ (uFinB σ b nu nc nt j).1 := FS.of Fr.finB (uFinB_o (by simp) (by simp) (by simp) (by simp) (by simp) (by simp)) (uFinB_o (by simp) (by simp) (by simp) (by simp) (by simp) (by simp))
theorem GV.end_ {j : Nat} (h : GV σ S o ch) (hj : j < mK S) (g4 : sC S 4 j = 0 ∨ sC S 4 j = 1) : GV (uFinB (uPush σ o ch) 0 (mU S) (mK S) (mT S) j).1 (mFin S j).1 (oNx o ch) (mNx ch) ∧ nI (uFinA (uPush σ o ch) 0 (mU S) (mK S) (mT S) j).2 + nI (uFinB (uPush σ o ch) 0 (mU S) (mK S) (mT S) j).2 = nI (mFin S j).2 := by
  have hf := (push_0 (o := o) (ch := ch) h.2.1).1.fin hj g4
  exact ⟨h.chg fs_fin ⟨hf.1, by rw [mU_fin h.b.x.i hj]; exact h.u1⟩, hf.2⟩
theorem GV.wait {x : Int32} (h : GV σ S o ch) : GV (uClock (uPush σ o ch) 0 x) (upd S 0 (S 0 + x)) (oNx o ch) (mNx ch) :=
  h.chg (FS.xu (k := 0) (by decide) (by decide)) ⟨(push_0 h.2.1).1.clk, by rw [mU, upd_ne (by decide)]; exact h.u1⟩
theorem GV.mood {u : Nat} {y : Int32} (h : GV σ S o ch) (hu : u < mU S) : GV (xu (uPush σ o ch) (.inl (0, 5)) u y) (upd S (10 + 12 * u + 2) y) (oNx o ch) (mNx ch) :=
  h.chg (FS.xu (k := 5) (by decide) (by decide)) ⟨(push_0 h.2.1).1.mood hu, by rw [mU, upd_ne (by omega)]; exact h.u1⟩
theorem GV.fore {j : Nat} (h : GV σ S o ch) (hj : j < mK S) (g4 : sC S 4 j = 0 ∨ sC S 4 j = 1) : GV (uFinB (uCopyB σ 1 0) 1 (mU S) (mK S) (mT S) j).1 S o ch ∧ nI (uFinA (uCopyB σ 1 0) 1 (mU S) (mK S) (mT S) j).2 + nI (uFinB (uCopyB σ 1 0) 1 (mU S) (mK S) (mT S) j).2 = nI (mFin S j).2 := by
  have hf := (h.b.copy (b := 1) (by decide)).fin hj g4
  exact ⟨h.fs1 ((FS.copy (by decide) (h.z 0 (by decide))).tr fs_fin), hf.2⟩
/-- the last change undone -/
theorem GV.undo (h : GV σ S o ch) (hf : FS 0 (uPush σ o ch) τ) : GV (uPop τ (oNx o ch) (mNx ch)) S (oNx o ch) (mNx ch - 1) := by
  have h8 := h.h.2.2.2
  have h7 := h.h.2.1
  have hq : 2 + (oNx o ch + (mNx ch - 1)) % 8 = 2 + (o + ch) % 8 := by
    unfold oNx mNx
    by_cases g : ch < 8
    · rw [if_pos g, if_neg (by omega)]; rfl
    · rw [if_neg g, if_pos (by omega)]; omega
  have hh := push_h h.h
  have h1 : RG τ (2 + (o + ch) % 8) S := hf.g (by omega) (push_q h.2.1)
  have hz : ∀ b, b < 12 → xZ τ b := fun b hb => hf.z (push_z h.z b hb)
  unfold uPop
  rw [hq]
  have e : ∀ i, i ≠ .inr 4 → (xu τ (.inr 4) 2 (nI (mNx ch - 1))).1 i = τ.1 i := fun i hi => xu_ne _ _ _ hi
  have h2 : RG (xu τ (.inr 4) 2 (nI (mNx ch - 1))) (2 + (o + ch) % 8) S := h1.fr (fun k => e _ (by simp)) (by rw [xu_l])
  have hz2 : ∀ b, b < 12 → xZ (xu τ (.inr 4) 2 (nI (mNx ch - 1))) b := fun b hb => xZ_o (hz b hb) (e _ (by simp)) (e _ (by simp))
  have hF : FS 0 (xu τ (.inr 4) 2 (nI (mNx ch - 1))) (uCopyB (xu τ (.inr 4) 2 (nI (mNx ch - 1))) 0 (2 + (o + ch) % 8)) := FS.copy (by omega) (hz2 _ (by omega))
  refine ⟨fun b hb => hF.z (hz2 b hb), h2.copy (by omega), ?_⟩
  unfold Hi at hh ⊢
  rw [hF.inr 4]
  have h41 : τ.1 (.inr 4) 1 = nI (oNx o ch) := by rw [hf.inr 4]; exact hh.1
  refine ⟨?_, hh.2.1, ?_, by omega⟩
  · simp only [xu_ap]; simp [h41]
  · simp only [xu_ap]; simp
end GV81
/-! what is caught -/
theorem LW_v {q : XO} {vv : Option Value} {σ σ1 : XS} {a : Int32} (hq : q = .inl none) (hv : vv = some (.int a)) {v : Option Value} {τ : XS} (h : LW (fun v9 τ => q = .inl none ∧ v9 = vv ∧ τ = σ1) (fun E τ => q = .inr E ∧ τ = σ) v τ) : v = some (.int a) ∧ τ = σ1 := by
  rcases h with ⟨x, ⟨h1, h2, h3⟩, h4⟩ | ⟨E, ⟨h1, -⟩, -⟩
  · rw [hv] at h2
    exact ⟨h4.trans h2, h3⟩
  · rw [hq] at h1
    cases h1
theorem LW_e {q : XO} {vv : Option Value} {σ σ1 : XS} {E : String} (hq : q = .inr E) {v : Option Value} {τ : XS} (h : LW (fun v9 τ => q = .inl none ∧ v9 = vv ∧ τ = σ1) (fun E τ => q = .inr E ∧ τ = σ) v τ) : v = some (.int (eN E)) ∧ τ = σ := by
  rcases h with ⟨x, ⟨h1, -⟩, -⟩ | ⟨E1, ⟨h1, h2⟩, h3⟩
  · rw [hq] at h1
    cases h1
  · rw [hq] at h1
    cases h1
    exact ⟨h3, h2⟩
theorem rq_ty {c : Prop} [Decidable c] {E : String} {w : XO} (h : c) : oth (rq c E) w = w := by rw [rq_t h]; rfl
theorem rq_tn {c : Prop} [Decidable c] {E : String} {w : XO} (h : ¬ c) : oth (rq c E) w = .inr E := by rw [rq_f h]; rfl
theorem rq_e {c : Prop} [Decidable c] {E E1 : String} (h : rq c E = .inr E1) : E1 = E := by
  by_cases g : c
  · rw [rq_t g] at h; cases h
  · rw [rq_f g] at h; exact (Sum.inr.inj h).symm
theorem oth_or {q w : XO} {E : String} (h : oth q w = .inr E) : q = .inr E ∨ w = .inr E := by
  cases q with
  | inl v => exact Or.inr h
  | inr E1 => exact Or.inl h
/-! a contract that changes both -/
def XQB (P : XP) (A : Nat → Prop) (Post : Option Value → XS → va_W → Prop) : Array Value → State → Outcome → State → Prop := fun _ st oc t => (∃ (v : Option Value) (σ1 : XS) (w : va_W), oc = .returned v ∧ Post v σ1 w ∧ va_P P.1 vwCl (xw (xPR P w) σ1) t.heap ∧ va_D A (xw (xPR P w) σ1)) ∧ va_F A st t
def XMB (l : Launch) (y : MethodName) (cc : ByteArray) (nL : Nat) (ret : Option FieldType) (rm : Room) (P : XP) (as : List Value) (σ : XS) (Post : Option Value → XS → va_W → Prop) : Prop :=
  ∀ sz : Nat, Met l y (Cond.code y cc nL ret :: xTB) rm (va_Pc as (XPre P σ sz)) (XQB P (va_A (xw P σ) sz) Post) rm.cells rm.slots (va_A (xw P σ) sz)
section X81
variable {p : Program} {l : Launch} {e : Env} {R : Room} {s : State} {m : MethodId} {args : Array Value} {below : List Frame} {meth : Method} {c : Code} {P : XP} {A : Nat → Prop} {nL cells slots : Nat} {Q : State → Prop} {own : String} {cc : ByteArray} {ret : Option FieldType} {σ : XS} {pc : Nat} {lv : List (Nat × Value)} {st : List Value}
theorem XMB.of {y : MethodName} {rm : Room} {as : List Value} {Post : Option Value → XS → va_W → Prop} (hy : plainName y.cls = true) (hn : (lg_sl as).length ≤ nL)
    (body : ∀ (p : Program) (e : Env) (s : State) (m : MethodId) (args : Array Value) (below : List Frame) (meth : Method) (c : Code) (A : Nat → Prop), XC p s m args meth c P A nL y.cls cc ret → XW p l e rm s m args below meth c P A nL 0 0 (MQ below (XQB P A Post) args s rm.cells rm.slots A) σ 0 (lv_args 0 as) []) : XMB l y cc nL ret rm P as σ Post := by
  intro sz
  refine Met.ofW (cc := cc) (maxL := nL) (ret := ret) hy rfl ?_
  intro p e s m args below meth c s₁ B hml hv
  obtain ⟨rfl, hsz, hP, hK, hD0, hE⟩ := hv
  have hts := atoms_spec (ws := Cond.code y cc nL ret :: xTB) B.pre
  have hown : s.vm.findClass y.cls = some m.cls := findClass_of_methodNamed B.named
  subst hsz
  have hD : va_D (va_A (xw P σ) s.heap.size) (xw P σ) := hD0.self
  have hl := lv_entry as (n := nL) hn
  rw [lg_entry_eq]
  exact body p e s m _ below meth c _ ⟨B.exec, B.bytes, hml, hown, fun w hw => hts w (List.mem_cons_of_mem _ hw), hK, fun σ1 => xw_D hD σ1, fun q h => Or.inr h, B.returns, B.notSynchronized, hE⟩ s.heap [] _ hP va_S.rf hl
theorem X_afterB {H : Heap} {locs : List Loc} {ls : Array Slot} {mc ms : Nat} {st0 st1 : List Value} {Post : Option Value → XS → va_W → Prop} {a : Array Value} (C : XC p s m args meth c P A nL own cc ret) (hS : va_S A s.heap H locs) (hl : lv_has ls nL lv)
    (hr : va_Run p l e R s m args below meth c H locs cells slots mc ms (F0 m pc ls st0) st1 (XQB P (va_A (xw P σ) H.size) Post a) (va_A (xw P σ) H.size))
    (k : ∀ (v : Option Value) (σ1 : XS) (w : va_W), Post v σ1 w → XC p s m args meth c (xPR P w) A nL own cc ret → XW p l e R s m args below meth c (xPR P w) A nL (cells + mc) (slots + ms) Q σ1 (pc + 3) lv (v.toList ++ st1)) : W p l e R s m args below meth c H locs cells slots Q (F0 m pc ls st0) := by
  intro T hT X
  obtain ⟨v, st₀, t, T', L, h0, X', hL, e1, e2, ⟨⟨v1, σ1, w, hv, hp, hPt, hDt⟩, hz, hk⟩, stp⟩ := hr T hT X
  cases hv
  rw [h0] at hz hk
  have hF := xw_free (σ := σ) C.hD C.hA hS
  obtain ⟨t2, a1, b1⟩ := k v σ1 w hp (C.pr (σ0 := σ1) ⟨hDt.1, fun k q hq => hF _ (hDt.2 k q hq)⟩) T'.heap (locs ++ L) ls (by rw [e1]; exact hPt)
    ⟨Nat.le_trans hS.1 (by rw [e1]; exact hz), fun q h1 h2 => by rw [e1, hk q (Nat.lt_of_lt_of_le h1 hS.1) (fun z => h2 (hF q z))]; exact hS.2.1 q h1 h2, fun q hq => by
      rcases List.mem_append.mp hq with h | h
      · exact hS.2.2 q h
      · exact hF _ (hL q h)⟩ hl T' rfl X'
  exact ⟨t2, stp t2 a1, b1⟩
theorem X_callSB (C : XC p s m args meth c P A nL own cc ret) {y : MethodName} {cy : ByteArray} {ny : Nat} {ry : Option FieldType} {rm : Room} (As : List Value) {n index : Nat} {Post : Option Value → XS → va_W → Prop} (hM : XMB l y cy ny ry rm P As σ Post) (hc : Cond.code y cy ny ry ∈ xTB) (hlk : Cond.methodLink own index y ∈ xTB) (hin : Cond.static y ∈ xTB) (hini : Cond.initialized y.cls ∈ xTB) (hd : y.cls ≠ "java/lang/invoke/MethodHandle" ∧ y.cls ≠ "java/lang/invoke/VarHandle" ∧ (parseMethodDescriptor y.desc).map (fun d => d.parameters.length) = some n) (hR : rm.frames + 1 ≤ R.frames ∧ 8 + (ny + 11) + rm.locals ≤ R.locals) (hcl : cells + rm.cells ≤ R.cells ∧ slots + rm.slots ≤ R.slots)
    (hn : As.length = n) (hst : (st.map fun v => v.category).sum ≤ 8) {st0 : List Value} (h0 : st0 = As.reverse ++ st) (d : decode cc pc = .ok (.invokestatic index, 3)) (k : ∀ (v : Option Value) (σ1 : XS) (w : va_W), Post v σ1 w → XC p s m args meth c (xPR P w) A nL own cc ret → XW p l e R s m args below meth c (xPR P w) A nL (cells + rm.cells) (slots + rm.slots) Q σ1 (pc + 3) lv (v.toList ++ st)) : XW p l e R s m args below meth c P A nL cells slots Q σ pc lv st0 := by
  intro H locs ls hP hS hl
  subst h0
  exact X_afterB (σ := σ) C hS hl (va_runS (As := As) (rest := st) ⟨C.1, C.2.1, C.2.2.1, C.2.2.2.1, C.hts⟩ (hM H.size) ⟨callB_of n C.hts (xGood hc) rfl rfl rfl (C.hts _ hini) (C.hts _ hlk) hd hR, C.hts _ hin⟩ ⟨xBlind, fun U hU hW => ⟨rfl, xPre_at C hP hS hU hW⟩⟩ rfl hn hl.1 rfl (lv_room hst) d hcl) k
theorem X_retIB {Post : Option Value → XS → va_W → Prop} {mc ms : Nat} {v : Int32} {w : va_W} {ty : FieldType} (C : XC p s m args meth c (xPR P w) A nL own cc (some ty)) (hn : narrow ty (.int v) = .int v) (hc : cells ≤ mc) (hs : slots ≤ ms) (d : decode cc pc = .ok (.ireturn, 1)) (hp : Post (some (.int v)) σ w) : XW p l e R s m args below meth c (xPR P w) A nL cells slots (MQ below (XQB P A Post) args s mc ms A) σ pc lv [.int v] := fun H locs ls hP hS _ => W.widen hc hs (W.zret C.1 C.2.1 C.hr hn (fun t ht _ => ⟨⟨_, σ, w, rfl, hp, by rw [ht]; exact hP, C.hD σ⟩, hS.F ht⟩) hS.2.2 d C.hlk)
/-- a wrapper that changes the world -/
theorem X_chg (C : XC p s m args meth c P A nL own cc ret) {y : MethodName} {cy : ByteArray} {ny n0 k nc : Nat} {hh : List (Nat × Nat × Nat × Nat)} {rm : Room} (As : List Value) {n index : Nat} {Post : Option Value → XS → Prop} (hM : XMH l y cy ny hh (rmL n0 rm) P As σ Post) (hz : rm.cells = nc ∧ rm.slots = 6 * nc) (hc : Cond.codeWith y cy ny (some .int) hh ∈ xTB) (hlk : Cond.methodLink own index y ∈ xTB) (hin : Cond.static y ∈ xTB) (hini : Cond.initialized y.cls ∈ xTB) (hd : y.cls ≠ "java/lang/invoke/MethodHandle" ∧ y.cls ≠ "java/lang/invoke/VarHandle" ∧ (parseMethodDescriptor y.desc).map (fun d => d.parameters.length) = some n) (hR : (rmL n0 rm).frames + 1 ≤ R.frames ∧ 8 + (ny + 11) + (rmL n0 rm).locals ≤ R.locals) (hk : k + nc ≤ R.cells ∧ 6 * (k + nc) ≤ R.slots)
    (hn : As.length = n) (hst : (st.map fun v => v.category).sum ≤ 8) {st0 : List Value} (h0 : st0 = As.reverse ++ st) (d : decode cc pc = .ok (.invokestatic index, 3)) (kk : ∀ (v : Option Value) (σ1 : XS), Post v σ1 → XW p l e R s m args below meth c P A nL (k + nc) (6 * (k + nc)) Q σ1 (pc + 3) lv (v.toList ++ st)) : XW p l e R s m args below meth c P A nL k (6 * k) Q σ pc lv st0 := by
  obtain ⟨z1, z2⟩ := hz
  refine X_callSH C As hM hc hlk hin hini hd hR ?_ hn hst h0 d (fun v σ1 hp => ?_)
  · show k + rm.cells ≤ R.cells ∧ 6 * k + rm.slots ≤ R.slots
    rw [z1, z2]
    exact ⟨hk.1, by omega⟩
  · show XW p l e R s m args below meth c P A nL (k + rm.cells) (6 * k + rm.slots) Q σ1 (pc + 3) lv (v.toList ++ st)
    rw [z1, z2, ← Nat.mul_add]
    exact kk v σ1 hp
/-! draw -/
theorem ushr8 (x : Int32) : ∃ a, a < 2 ^ 24 ∧ (x.toUInt32 >>> ((8 : Int32).toUInt32 &&& Int32.toUInt32 31)).toInt32 = nI a := by
  refine ⟨x.toUInt32.toNat / 256, by have := x.toUInt32.toNat_lt; omega, Int32.toBitVec_inj.mp (BitVec.eq_of_toNat_eq ?_)⟩
  rw [show ((8 : Int32).toUInt32 &&& Int32.toUInt32 31) = 8 by decide]
  show (x.toUInt32 >>> 8).toNat = (BitVec.ofNat 32 (x.toUInt32.toNat / 256)).toNat
  rw [UInt32.toNat_shiftRight, BitVec.toNat_ofNat, Nat.shiftRight_eq_div_pow]
  have := x.toUInt32.toNat_lt
  show x.toUInt32.toNat / 256 = x.toUInt32.toNat / 256 % 2 ^ 32
  rw [Nat.mod_eq_of_lt (by omega)]
theorem set_id {α : Type} {l : List α} {i : Nat} {x : α} (h : l[i]? = some x) : l.set i x = l := by
  refine List.ext_getElem? (fun j => ?_)
  rw [List.getElem?_set]
  have hi := (List.getElem?_eq_some_iff.mp h).1
  by_cases g : i = j
  · subst g; rw [if_pos rfl, if_pos hi, h]
  · rw [if_neg g]
abbrev iC (P : XP) (a : Nat) (f : Nat → Int32) : Nat × va_E := (a, .inl (P.2.1 0, 1, .inl f))
set_option maxRecDepth 100000 in
set_option maxHeartbeats 4000000 in
theorem c_L_draw (l : Launch) (P : XP) (σ : XS) {i a n : Nat} {f : Nat → Int32} (h : (xRaw P)[i]? = some (iC P a f)) (hn : 1 ≤ n) (hn2 : n ≤ 1000) : XMP l yL_draw cL_draw 2 (some .int) rm_L_draw P [.ref a, .int (nI n)] σ (fun v w => ∃ (j : Nat) (f1 : Nat → Int32), j < n ∧ v = some (.int (nI j)) ∧ w = (xRaw P).set i (iC P a f1)) := by
  refine XMP.of (by decide +kernel) (Nat.le_of_ble_eq_true rfl) (fun p e s m args below meth c A C _ => ?_)
  replace C : XC p s m args meth c P A 2 RL cL_draw (some .int) := C
  refine XW.eq (lv' := [(0, _), (1, _)]) rfl rfl rfl ?_
  refine X_aload_n (pc := 0) C 0 dL_draw_0 rfl rfl ?_
  refine X_iconst (pc := 1) (v := 0) C dL_draw_1 (by decide) ?_
  refine X_aload_n (pc := 2) C 0 dL_draw_2 rfl rfl ?_
  refine X_iconst (pc := 3) (v := 0) C dL_draw_3 (by decide) ?_
  refine X_rIald (pc := 4) C i (j := 0) h (by decide) (by decide) dL_draw_4 ?_
  refine X_ldc (pc := 5) C m_k_L_126 dL_draw_5 ?_
  refine X_imul (pc := 7) C dL_draw_7 ?_
  refine X_sipush (pc := 8) (v := 12345) C dL_draw_8 (by decide) ?_
  refine X_iadd (pc := 11) C dL_draw_11 ?_
  refine X_rIast (pc := 12) C i (j := 0) h (by decide) (by decide) dL_draw_12 (fun C => ?_)
  have h' := (List.getElem?_set_self (a := iC P a (upd f 0 (f 0 * 1103515245 + 12345))) (List.getElem?_eq_some_iff.mp h).1)
  refine X_aload_n (pc := 13) C 0 dL_draw_13 rfl rfl ?_
  refine X_iconst (pc := 14) (v := 0) C dL_draw_14 (by decide) ?_
  refine X_rIald (pc := 15) C i (j := 0) h' (by decide) (by decide) dL_draw_15 ?_
  refine X_bipush (pc := 16) (v := 8) C dL_draw_16 (by decide) ?_
  refine X_iushr (pc := 18) C dL_draw_18 ?_
  obtain ⟨b, hb, eb⟩ := ushr8 (upd f 0 (f 0 * 1103515245 + 12345) 0)
  rw [eb]
  refine X_iload_n (pc := 19) C 1 dL_draw_19 rfl rfl ?_
  refine X_irem (pc := 20) C dL_draw_20 (nI_ne0 (by omega) (n31 (by omega))) ?_
  rw [nI_rem (by omega) (n31 (by omega))]
  exact X_retIP (P := P) (pc := 21) C rfl (Nat.zero_le _) (Nat.zero_le _) dL_draw_21 ⟨b % n, _, Nat.mod_lt _ (by omega), rfl, rfl⟩
/-- draw, where the array's cell is told apart -/
theorem X_drw {w0 : va_W} {i a n index : Nat} {f : Nat → Int32} (C : XC p s m args meth c (xPR P (w0.set i (iC P a f))) A nL RL cc ret) (hi : i < w0.length) (hlk : Cond.methodLink RL index yL_draw ∈ xTB) (hn : 1 ≤ n) (hn2 : n ≤ 1000) (hR : rm_L_draw.frames + 1 ≤ R.frames ∧ 8 + (2 + 11) + rm_L_draw.locals ≤ R.locals) (hcl : cells ≤ R.cells ∧ slots ≤ R.slots) (hst : (st.map fun v => v.category).sum ≤ 8) (d : decode cc pc = .ok (.invokestatic index, 3))
    (kk : ∀ (j : Nat) (f1 : Nat → Int32), j < n → XC p s m args meth c (xPR P (w0.set i (iC P a f1))) A nL RL cc ret → XW p l e R s m args below meth c (xPR P (w0.set i (iC P a f1))) A nL cells slots Q σ (pc + 3) lv (.int (nI j) :: st)) : XW p l e R s m args below meth c (xPR P (w0.set i (iC P a f))) A nL cells slots Q σ pc lv (.int (nI n) :: .ref a :: st) := by
  refine X_callSP (n := 2) C [.ref a, .int (nI n)] (c_L_draw l (xPR P (w0.set i (iC P a f))) σ (i := i) (f := f) (List.getElem?_set_self hi) hn hn2) m_c_L_draw hlk m_t_L_draw m_n_L ⟨by decide +kernel, by decide +kernel, by decide +kernel⟩ hR hcl rfl hst rfl d (fun v w hp C1 => ?_)
  obtain ⟨j, f1, hj, rfl, rfl⟩ := hp
  have e : (xRaw (xPR P (w0.set i (iC P a f)))).set i (iC (xPR P (w0.set i (iC P a f))) a f1) = w0.set i (iC P a f1) := List.set_set ..
  rw [e] at C1 ⊢
  exact kk j f1 hj C1
end X81


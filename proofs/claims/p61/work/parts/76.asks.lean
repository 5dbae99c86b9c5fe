/-! THE QUESTIONS, ANSWERED BY THE ROW -/
/-- the class's world: the row S says what the board holds; the history's ring -/
def GV (σ : XS) (S : Nat → Int32) (o ch : Nat) : Prop := (∀ b, b < 12 → xZ σ b) ∧ RG σ 0 S ∧ Hi σ o ch
theorem GV.b {σ : XS} {S : Nat → Int32} {o ch : Nat} (h : GV σ S o ch) : RB σ 0 S := h.2.1.1
theorem GV.u1 {σ : XS} {S : Nat → Int32} {o ch : Nat} (h : GV σ S o ch) : 1 ≤ mU S := h.2.1.2
theorem GV.z {σ : XS} {S : Nat → Int32} {o ch : Nat} (h : GV σ S o ch) : ∀ b, b < 12 → xZ σ b := h.1
theorem GV.h {σ : XS} {S : Nat → Int32} {o ch : Nat} (h : GV σ S o ch) : Hi σ o ch := h.2.2
def XA (P : XP) : Prop := xI0 P ∧ ∀ b, b < 12 → xIn P b
theorem XA.n0 {P : XP} (h : XA P) : (.inr 0 : XI) ∈ P.2.2.2.1 := h.1 0 (by decide)
theorem XMH.mono {l : Launch} {y : MethodName} {cc : ByteArray} {nL : Nat} {hh : List (Nat × Nat × Nat × Nat)} {rm : Room} {P : XP} {as : List Value} {σ : XS} {Post Post1 : Option Value → XS → Prop} (h : XMH l y cc nL hh rm P as σ Post) (hp : ∀ v τ, Post v τ → Post1 v τ) : XMH l y cc nL hh rm P as σ Post1 := by
  intro sz p e ha hc hk s m args below hf hfit hpre htr
  obtain ⟨k, o, h1, h2, h3, h4⟩ := h sz p e ha hc hk s m args below hf hfit hpre htr
  refine ⟨k, o, h1, h2, h3, ?_⟩
  rcases h4 with ⟨⟨⟨v, σ1, q1, q2, q3⟩, q4⟩, q5⟩ | ⟨q, -, E, ce, L, ⟨⟨σ1, hf, -⟩, -⟩, -⟩
  · exact Or.inl ⟨⟨⟨v, σ1, q1, hp v σ1 q2, q3⟩, q4⟩, q5⟩
  · exact hf.elim
theorem oa_v {q : Prop} [Decidable q] {E : String} {w v : Option Value} (h : oth (rq q E) (.inl w) = .inl v) : q ∧ v = w := by
  by_cases g : q
  · rw [rq_t g] at h; exact ⟨g, (Sum.inl.inj h).symm⟩
  · rw [rq_f g] at h; cases h
theorem oa_e {q : Prop} [Decidable q] {E E1 : String} {w : Option Value} (h : oth (rq q E) (.inl w) = .inr E1) : ¬ q ∧ E1 = E := by
  by_cases g : q
  · rw [rq_t g] at h; cases h
  · rw [rq_f g] at h; exact ⟨g, (Sum.inr.inj h).symm⟩
theorem v01 {q : Prop} [Decidable q] : (if q then (0 : Int32) else 1) = 0 ∨ (if q then (0 : Int32) else 1) = 1 := by
  by_cases g : q
  · exact Or.inl (if_pos g)
  · exact Or.inr (if_neg g)
theorem some01 {x : Int32} (h : x = 0 ∨ x = 1) : some (Value.int x) = some (.int 0) ∨ some (Value.int x) = some (.int 1) := by
  rcases h with rfl | rfl
  · exact Or.inl rfl
  · exact Or.inr rfl
theorem LW_ok {o : XO} {σ1 : XS} {a : Int32} (ho : o = .inl (some (.int a))) {v : Option Value} {τ : XS} (h : LW (fun v τ => o = .inl v ∧ τ = σ1) (fun E τ => o = .inr E ∧ τ = σ1) v τ) : v = some (.int a) ∧ τ = σ1 := by
  rcases h with ⟨x, ⟨h1, h2⟩, h3⟩ | ⟨E, ⟨h1, -⟩, -⟩
  · rw [ho] at h1
    cases h1
    exact ⟨h3, h2⟩
  · rw [ho] at h1
    cases h1
abbrev AK (l : Launch) (y : MethodName) (cc : ByteArray) (nL : Nat) (hh : List (Nat × Nat × Nat × Nat)) (rm : Room) (P : XP) (as : List Value) (σ : XS) (a : Int32) : Prop := XMH l y cc nL hh rm P as σ (fun v τ => v = some (.int a) ∧ τ = σ)
theorem cNn {a : Nat} (h : a ≤ 1000000) : (nI a).toNatClampNeg = a := nI_clamp (n31 h)
theorem if_andT {a b : Prop} [Decidable a] [Decidable b] (h : a) : (if a ∧ b then (1 : Int32) else 0) = if b then 1 else 0 := by
  by_cases g : b
  · rw [if_pos g, if_pos ⟨h, g⟩]
  · rw [if_neg g, if_neg (fun z => g z.2)]
section XP76
variable {p : Program} {l : Launch} {e : Env} {R : Room} {s : State} {m : MethodId} {args : Array Value} {below : List Frame} {meth : Method} {c : Code} {P : XP} {A : Nat → Prop} {nL cells slots : Nat} {Q : State → Prop} {cc : ByteArray} {ret : Option FieldType} {σ : XS} {pc : Nat} {lv : List (Nat × Value)} {st : List Value}
variable {S : Nat → Int32} {o ch : Nat}

theorem a_lineOf (l : Launch) (hl0 : l.stackTraces = false) (P : XP) (hP : XA P) (σ : XS) (h : GV σ S o ch) {u : Nat} (hu : u < mU S) : AK l yL_lineOf cL_lineOf 3 [(0, 5, 6, 19)] (rmL 2 rm_X6_lineOf) P [.ref (P.2.2.1 (.inr 0)), .int (nI u)] σ (sU S 0 u) := by
  have hcl : (nI u).toNatClampNeg = u := cNn (by have := h.b.x.i.u15; omega)
  refine (c_L_lineOf l P σ hP.n0 (nI u) (c_X6_lineOf l hl0 P σ hP.1 hP.2 h.b.bd (nI u)) (fun v9 τ hv => ⟨_, (oa_v hv.1).2⟩) (fun E τ he => (oa_e he.1).2)).mono (fun v9 τ q => LW_ok ?_ q)
  unfold rqU
  rw [oth_v (rq_t (by rw [h.b.nu]; exact xok_nI hu (by have := h.b.x.i.u15; omega)))]
  refine congrArg (fun z => (.inl (some (.int z)) : XO)) ?_
  rw [hcl]
  exact (h.b.u hu).1

theorem a_curiosity (l : Launch) (hl0 : l.stackTraces = false) (P : XP) (hP : XA P) (σ : XS) (h : GV σ S o ch) {u : Nat} (hu : u < mU S) : AK l yL_curiosity cL_curiosity 3 [(0, 5, 6, 19)] (rmL 2 rm_X6_curiosity) P [.ref (P.2.2.1 (.inr 0)), .int (nI u)] σ (sU S 2 u) := by
  have hcl : (nI u).toNatClampNeg = u := cNn (by have := h.b.x.i.u15; omega)
  refine (c_L_curiosity l P σ hP.n0 (nI u) (c_X6_curiosity l hl0 P σ hP.1 hP.2 h.b.bd (nI u)) (fun v9 τ hv => ⟨_, (oa_v hv.1).2⟩) (fun E τ he => (oa_e he.1).2)).mono (fun v9 τ q => LW_ok ?_ q)
  unfold rqU
  rw [oth_v (rq_t (by rw [h.b.nu]; exact xok_nI hu (by have := h.b.x.i.u15; omega)))]
  refine congrArg (fun z => (.inl (some (.int z)) : XO)) ?_
  rw [hcl]
  exact (h.b.u hu).2.2.1

theorem a_bill (l : Launch) (hl0 : l.stackTraces = false) (P : XP) (hP : XA P) (σ : XS) (h : GV σ S o ch) {u : Nat} (hu : u < mU S) : AK l yL_bill cL_bill 3 [(0, 5, 6, 19)] (rmL 2 rm_X6_bill) P [.ref (P.2.2.1 (.inr 0)), .int (nI u)] σ (sU S 3 u) := by
  have hcl : (nI u).toNatClampNeg = u := cNn (by have := h.b.x.i.u15; omega)
  refine (c_L_bill l P σ hP.n0 (nI u) (c_X6_bill l hl0 P σ hP.1 hP.2 h.b.bd (nI u)) (fun v9 τ hv => ⟨_, (oa_v hv.1).2⟩) (fun E τ he => (oa_e he.1).2)).mono (fun v9 τ q => LW_ok ?_ q)
  unfold rqU
  rw [oth_v (rq_t (by rw [h.b.nu]; exact xok_nI hu (by have := h.b.x.i.u15; omega)))]
  refine congrArg (fun z => (.inl (some (.int z)) : XO)) ?_
  rw [hcl]
  exact (h.b.u hu).2.2.2.1

theorem a_secretsKnown (l : Launch) (hl0 : l.stackTraces = false) (P : XP) (hP : XA P) (σ : XS) (h : GV σ S o ch) {u : Nat} (hu : u < mU S) : AK l yL_secretsKnown cL_secretsKnown 3 [(0, 5, 6, 19)] (rmL 2 rm_X6_secretsKnown) P [.ref (P.2.2.1 (.inr 0)), .int (nI u)] σ (sU S 4 u) := by
  have hcl : (nI u).toNatClampNeg = u := cNn (by have := h.b.x.i.u15; omega)
  refine (c_L_secretsKnown l P σ hP.n0 (nI u) (c_X6_secretsKnown l hl0 P σ hP.1 hP.2 h.b.bd (nI u)) (fun v9 τ hv => ⟨_, (oa_v hv.1).2⟩) (fun E τ he => (oa_e he.1).2)).mono (fun v9 τ q => LW_ok ?_ q)
  unfold rqU
  rw [oth_v (rq_t (by rw [h.b.nu]; exact xok_nI hu (by have := h.b.x.i.u15; omega)))]
  refine congrArg (fun z => (.inl (some (.int z)) : XO)) ?_
  rw [hcl]
  exact (h.b.u hu).2.2.2.2.1

theorem a_callState (l : Launch) (hl0 : l.stackTraces = false) (P : XP) (hP : XA P) (σ : XS) (h : GV σ S o ch) {c : Nat} (hc : c < mK S) : AK l yL_callState cL_callState 3 [(0, 5, 6, 19)] (rmL 2 rm_X6_callState) P [.ref (P.2.2.1 (.inr 0)), .int (nI c)] σ (sC S 4 c) := by
  have hcl : (nI c).toNatClampNeg = c := cNn (by have := h.b.x.i.k40; omega)
  refine (c_L_callState l P σ hP.n0 (nI c) (c_X6_callState l hl0 P σ hP.1 hP.2 h.b.bd (nI c)) (fun v9 τ hv => ⟨_, (oa_v hv.1).2⟩) (fun E τ he => (oa_e he.1).2)).mono (fun v9 τ q => LW_ok ?_ q)
  unfold rqC
  rw [oth_v (rq_t (by rw [h.b.nc]; exact xok_nI hc (by have := h.b.x.i.k40; omega)))]
  refine congrArg (fun z => (.inl (some (.int z)) : XO)) ?_
  rw [hcl]
  exact (h.b.c hc).1

theorem a_callerOf (l : Launch) (hl0 : l.stackTraces = false) (P : XP) (hP : XA P) (σ : XS) (h : GV σ S o ch) {c : Nat} (hc : c < mK S) : AK l yL_callerOf cL_callerOf 3 [(0, 5, 6, 19)] (rmL 2 rm_X6_callerOf) P [.ref (P.2.2.1 (.inr 0)), .int (nI c)] σ (sC S 0 c) := by
  have hcl : (nI c).toNatClampNeg = c := cNn (by have := h.b.x.i.k40; omega)
  refine (c_L_callerOf l P σ hP.n0 (nI c) (c_X6_callerOf l hl0 P σ hP.1 hP.2 h.b.bd (nI c)) (fun v9 τ hv => ⟨_, (oa_v hv.1).2⟩) (fun E τ he => (oa_e he.1).2)).mono (fun v9 τ q => LW_ok ?_ q)
  unfold rqC
  rw [oth_v (rq_t (by rw [h.b.nc]; exact xok_nI hc (by have := h.b.x.i.k40; omega)))]
  refine congrArg (fun z => (.inl (some (.int z)) : XO)) ?_
  rw [hcl]
  exact (h.b.c hc).2.1

theorem a_calledSubscriber (l : Launch) (hl0 : l.stackTraces = false) (P : XP) (hP : XA P) (σ : XS) (h : GV σ S o ch) {c : Nat} (hc : c < mK S) : AK l yL_calledSubscriber cL_calledSubscriber 3 [(0, 5, 6, 19)] (rmL 2 rm_X6_calledSubscriber) P [.ref (P.2.2.1 (.inr 0)), .int (nI c)] σ (sC S 1 c) := by
  have hcl : (nI c).toNatClampNeg = c := cNn (by have := h.b.x.i.k40; omega)
  refine (c_L_calledSubscriber l P σ hP.n0 (nI c) (c_X6_calledSubscriber l hl0 P σ hP.1 hP.2 h.b.bd (nI c)) (fun v9 τ hv => ⟨_, (oa_v hv.1).2⟩) (fun E τ he => (oa_e he.1).2)).mono (fun v9 τ q => LW_ok ?_ q)
  unfold rqC
  rw [oth_v (rq_t (by rw [h.b.nc]; exact xok_nI hc (by have := h.b.x.i.k40; omega)))]
  refine congrArg (fun z => (.inl (some (.int z)) : XO)) ?_
  rw [hcl]
  exact (h.b.c hc).2.2.1

theorem a_calledTrunk (l : Launch) (hl0 : l.stackTraces = false) (P : XP) (hP : XA P) (σ : XS) (h : GV σ S o ch) {c : Nat} (hc : c < mK S) : AK l yL_calledTrunk cL_calledTrunk 3 [(0, 5, 6, 19)] (rmL 2 rm_X6_calledTrunk) P [.ref (P.2.2.1 (.inr 0)), .int (nI c)] σ (sC S 2 c) := by
  have hcl : (nI c).toNatClampNeg = c := cNn (by have := h.b.x.i.k40; omega)
  refine (c_L_calledTrunk l P σ hP.n0 (nI c) (c_X6_calledTrunk l hl0 P σ hP.1 hP.2 h.b.bd (nI c)) (fun v9 τ hv => ⟨_, (oa_v hv.1).2⟩) (fun E τ he => (oa_e he.1).2)).mono (fun v9 τ q => LW_ok ?_ q)
  unfold rqC
  rw [oth_v (rq_t (by rw [h.b.nc]; exact xok_nI hc (by have := h.b.x.i.k40; omega)))]
  refine congrArg (fun z => (.inl (some (.int z)) : XO)) ?_
  rw [hcl]
  exact (h.b.c hc).2.2.2.1

theorem a_startTime (l : Launch) (hl0 : l.stackTraces = false) (P : XP) (hP : XA P) (σ : XS) (h : GV σ S o ch) {c : Nat} (hc : c < mK S) : AK l yL_startTime cL_startTime 3 [(0, 5, 6, 19)] (rmL 2 rm_X6_startTime) P [.ref (P.2.2.1 (.inr 0)), .int (nI c)] σ (sC S 5 c) := by
  have hcl : (nI c).toNatClampNeg = c := cNn (by have := h.b.x.i.k40; omega)
  refine (c_L_startTime l P σ hP.n0 (nI c) (c_X6_startTime l hl0 P σ hP.1 hP.2 h.b.bd (nI c)) (fun v9 τ hv => ⟨_, (oa_v hv.1).2⟩) (fun E τ he => (oa_e he.1).2)).mono (fun v9 τ q => LW_ok ?_ q)
  unfold rqC
  rw [oth_v (rq_t (by rw [h.b.nc]; exact xok_nI hc (by have := h.b.x.i.k40; omega)))]
  refine congrArg (fun z => (.inl (some (.int z)) : XO)) ?_
  rw [hcl]
  exact (h.b.c hc).2.2.2.2.2.2.2.1

theorem a_endTime (l : Launch) (hl0 : l.stackTraces = false) (P : XP) (hP : XA P) (σ : XS) (h : GV σ S o ch) {c : Nat} (hc : c < mK S) : AK l yL_endTime cL_endTime 3 [(0, 5, 6, 19)] (rmL 2 rm_X6_endTime) P [.ref (P.2.2.1 (.inr 0)), .int (nI c)] σ (sC S 6 c) := by
  have hcl : (nI c).toNatClampNeg = c := cNn (by have := h.b.x.i.k40; omega)
  refine (c_L_endTime l P σ hP.n0 (nI c) (c_X6_endTime l hl0 P σ hP.1 hP.2 h.b.bd (nI c)) (fun v9 τ hv => ⟨_, (oa_v hv.1).2⟩) (fun E τ he => (oa_e he.1).2)).mono (fun v9 τ q => LW_ok ?_ q)
  unfold rqC
  rw [oth_v (rq_t (by rw [h.b.nc]; exact xok_nI hc (by have := h.b.x.i.k40; omega)))]
  refine congrArg (fun z => (.inl (some (.int z)) : XO)) ?_
  rw [hcl]
  exact (h.b.c hc).2.2.2.2.2.2.2.2.1

theorem a_listeners (l : Launch) (hl0 : l.stackTraces = false) (P : XP) (hP : XA P) (σ : XS) (h : GV σ S o ch) {c : Nat} (hc : c < mK S) : AK l yL_listeners cL_listeners 3 [(0, 5, 6, 19)] (rmL 2 rm_X6_listeners) P [.ref (P.2.2.1 (.inr 0)), .int (nI c)] σ (sC S 7 c) := by
  have hcl : (nI c).toNatClampNeg = c := cNn (by have := h.b.x.i.k40; omega)
  refine (c_L_listeners l P σ hP.n0 (nI c) (c_X6_listeners l hl0 P σ hP.1 hP.2 h.b.bd (nI c)) (fun v9 τ hv => ⟨_, (oa_v hv.1).2⟩) (fun E τ he => (oa_e he.1).2)).mono (fun v9 τ q => LW_ok ?_ q)
  unfold rqC
  rw [oth_v (rq_t (by rw [h.b.nc]; exact xok_nI hc (by have := h.b.x.i.k40; omega)))]
  refine congrArg (fun z => (.inl (some (.int z)) : XO)) ?_
  rw [hcl]
  exact (h.b.c hc).2.2.2.2.2.2.2.2.2

theorem a_volume (l : Launch) (hl0 : l.stackTraces = false) (P : XP) (hP : XA P) (σ : XS) (h : GV σ S o ch) {c : Nat} (hc : c < mK S) : AK l yL_volume cL_volume 3 [(0, 5, 6, 19)] (rmL 2 rm_X6_volume) P [.ref (P.2.2.1 (.inr 0)), .int (nI c)] σ (xvolW (sC S 7 c)) := by
  have hcl : (nI c).toNatClampNeg = c := cNn (by have := h.b.x.i.k40; omega)
  refine (c_L_volume l P σ hP.n0 (nI c) (c_X6_volume l hl0 P σ hP.1 hP.2 h.b.bd (nI c)) (fun v9 τ hv => ⟨_, (oa_v hv.1).2⟩) (fun E τ he => (oa_e he.1).2)).mono (fun v9 τ q => LW_ok ?_ q)
  unfold rqC
  rw [oth_v (rq_t (by rw [h.b.nc]; exact xok_nI hc (by have := h.b.x.i.k40; omega)))]
  refine congrArg (fun z => (.inl (some (.int z)) : XO)) ?_
  rw [hcl]
  exact congrArg xvolW (h.b.c hc).2.2.2.2.2.2.2.2.2

theorem a_charge (l : Launch) (hl0 : l.stackTraces = false) (P : XP) (hP : XA P) (σ : XS) (h : GV σ S o ch) {c : Nat} (hc : c < mK S) : AK l yL_charge cL_charge 3 [(0, 5, 6, 19)] (rmL 2 rm_X6_charge) P [.ref (P.2.2.1 (.inr 0)), .int (nI c)] σ (mCost S c) := by
  have hcl : (nI c).toNatClampNeg = c := cNn (by have := h.b.x.i.k40; omega)
  refine (c_L_charge l P σ hP.n0 (nI c) (c_X6_charge l hl0 P σ hP.1 hP.2 h.b.bd (nI c)) (fun v9 τ hv => ⟨_, (oa_v hv.1).2⟩) (fun E τ he => (oa_e he.1).2)).mono (fun v9 τ q => LW_ok ?_ q)
  unfold rqC
  rw [oth_v (rq_t (by rw [h.b.nc]; exact xok_nI hc (by have := h.b.x.i.k40; omega)))]
  refine congrArg (fun z => (.inl (some (.int z)) : XO)) ?_
  rw [hcl]
  exact (by rw [h.b.nt]; exact h.b.chg hc)

theorem a_obstacle (l : Launch) (hl0 : l.stackTraces = false) (P : XP) (hP : XA P) (σ : XS) (h : GV σ S o ch) {c : Nat} (hc : c < mK S) : AK l yL_obstacle cL_obstacle 3 [(0, 5, 6, 19)] (rmL 2 rm_X6_obstacle) P [.ref (P.2.2.1 (.inr 0)), .int (nI c)] σ (if sC S 4 c = 0 then mWhy S c else 0) := by
  have hcl : (nI c).toNatClampNeg = c := cNn (by have := h.b.x.i.k40; omega)
  refine (c_L_obstacle l P σ hP.n0 (nI c) (c_X6_obstacle l hl0 P σ hP.1 hP.2 h.b.bd (nI c)) (fun v9 τ hv => ⟨_, (oa_v hv.1).2⟩) (fun E τ he => (oa_e he.1).2)).mono (fun v9 τ q => LW_ok ?_ q)
  unfold rqC
  rw [oth_v (rq_t (by rw [h.b.nc]; exact xok_nI hc (by have := h.b.x.i.k40; omega)))]
  refine congrArg (fun z => (.inl (some (.int z)) : XO)) ?_
  rw [hcl]
  exact (by rw [(h.b.c hc).1, h.b.nu, h.b.nc, h.b.blk hc])

theorem a_queuePlace (l : Launch) (hl0 : l.stackTraces = false) (P : XP) (hP : XA P) (σ : XS) (h : GV σ S o ch) {c : Nat} (hc : c < mK S) : AK l yL_queuePlace cL_queuePlace 3 [(0, 5, 6, 19)] (rmL 2 rm_X6_queuePlace) P [.ref (P.2.2.1 (.inr 0)), .int (nI c)] σ (if sC S 4 c = 0 then nI (cCnt (mAh S (sC S 3 c) (nI c)) (mK S)) else -1) := by
  have hcl : (nI c).toNatClampNeg = c := cNn (by have := h.b.x.i.k40; omega)
  refine (c_L_queuePlace l P σ hP.n0 (nI c) (c_X6_queuePlace l hl0 P σ hP.1 hP.2 h.b.bd (nI c)) (fun v9 τ hv => ⟨_, (oa_v hv.1).2⟩) (fun E τ he => (oa_e he.1).2)).mono (fun v9 τ q => LW_ok ?_ q)
  unfold rqC
  rw [oth_v (rq_t (by rw [h.b.nc]; exact xok_nI hc (by have := h.b.x.i.k40; omega)))]
  refine congrArg (fun z => (.inl (some (.int z)) : XO)) ?_
  rw [hcl]
  exact (by have q := q_place h.b (x := nI c) (xok_nI hc (by have := h.b.x.i.k40; omega)); rw [cN, cNn (by have := h.b.x.i.k40; omega)] at q; rw [(h.b.c hc).1, h.b.nc, q])

theorem a_toll (l : Launch) (hl0 : l.stackTraces = false) (P : XP) (hP : XA P) (σ : XS) (h : GV σ S o ch) {t : Nat} (ht : t < mT S) : AK l yL_toll cL_toll 3 [(0, 5, 6, 19)] (rmL 2 rm_X6_toll) P [.ref (P.2.2.1 (.inr 0)), .int (nI t)] σ (S (6 + t)) := by
  have hcl : (nI t).toNatClampNeg = t := cNn (by have := h.b.x.i.t4; omega)
  refine (c_L_toll l P σ hP.n0 (nI t) (c_X6_toll l hl0 P σ hP.1 hP.2 h.b.bd (nI t)) (fun v9 τ hv => ⟨_, (oa_v hv.1).2⟩) (fun E τ he => (oa_e he.1).2)).mono (fun v9 τ q => LW_ok ?_ q)
  unfold rqT
  rw [oth_v (rq_t (by rw [h.b.nt]; exact xok_nI ht (by have := h.b.x.i.t4; omega)))]
  refine congrArg (fun z => (.inl (some (.int z)) : XO)) ?_
  rw [hcl]
  exact h.b.to ht

theorem a_isTrunkBusy (l : Launch) (hl0 : l.stackTraces = false) (P : XP) (hP : XA P) (σ : XS) (h : GV σ S o ch) {t : Nat} (ht : t < mT S) : AK l yL_isTrunkBusy cL_isTrunkBusy 3 [(0, 13, 14, 19)] (rmL 2 rm_X6_isTrunkBusy) P [.ref (P.2.2.1 (.inr 0)), .int (nI t)] σ (if 0 < mTrk S (nI t) (mK S) then 1 else 0) := by
  have hcl : (nI t).toNatClampNeg = t := cNn (by have := h.b.x.i.t4; omega)
  refine (c_L_isTrunkBusy l P σ hP.n0 (nI t) (c_X6_isTrunkBusy l hl0 P σ hP.1 hP.2 h.b.bd (nI t)) (fun v9 τ hv => by rw [(oa_v hv.1).2]; exact some01 v01) (fun E τ he => (oa_e he.1).2)).mono (fun v9 τ q => LW_ok ?_ q)
  unfold rqT
  rw [oth_v (rq_t (by rw [h.b.nt]; exact xok_nI ht (by have := h.b.x.i.t4; omega)))]
  refine congrArg (fun z => (.inl (some (.int z)) : XO)) ?_
  exact (by have hx := xok_nI ht (by have := h.b.x.i.t4; omega); rw [h.b.nc, q_trk h.b hx]; exact if_andT hx)

theorem a_isLineBusy (l : Launch) (hl0 : l.stackTraces = false) (P : XP) (hP : XA P) (σ : XS) (h : GV σ S o ch) {a : Nat} (ha : a < mL S) : AK l yL_isLineBusy cL_isLineBusy 3 [(0, 13, 14, 19)] (rmL 2 rm_X6_isLineBusy) P [.ref (P.2.2.1 (.inr 0)), .int (nI a)] σ (if 0 < mLine S (nI a) (mK S) then 1 else 0) := by
  have hcl : (nI a).toNatClampNeg = a := cNn (by have := h.b.x.i.l6; omega)
  refine (c_L_isLineBusy l P σ hP.n0 (nI a) (c_X6_isLineBusy l hl0 P σ hP.1 hP.2 h.b.bd (nI a)) (fun v9 τ hv => by rw [(oa_v hv.1).2]; exact some01 v01) (fun E τ he => (oa_e he.1).2)).mono (fun v9 τ q => LW_ok ?_ q)
  unfold rqL
  rw [oth_v (rq_t ((okL h.b.x.i).mpr (xok_nI ha (by have := h.b.x.i.l6; omega)) |> fun z => by rw [h.b.s.2.1]; exact z))]
  refine congrArg (fun z => (.inl (some (.int z)) : XO)) ?_
  exact (by have hx := xok_nI ha (by have := h.b.x.i.l6; omega); rw [h.b.nc, q_line h.b hx]; exact if_andT hx)

theorem a_knowers (l : Launch) (hl0 : l.stackTraces = false) (P : XP) (hP : XA P) (σ : XS) (h : GV σ S o ch) {u : Nat} (hu : u < mU S) : AK l yL_knowers cL_knowers 3 [(0, 5, 6, 19)] (rmL 2 rm_X6_knowers) P [.ref (P.2.2.1 (.inr 0)), .int (nI u)] σ (nI (cCnt (fun w => bt (sU S 4 w) u = true) (mU S))) := by
  have hcl : (nI u).toNatClampNeg = u := cNn (by have := h.b.x.i.u15; omega)
  refine (c_L_knowers l P σ hP.n0 (nI u) (c_X6_knowers l hl0 P σ hP.1 hP.2 h.b.bd (nI u)) (fun v9 τ hv => ⟨_, (oa_v hv.1).2⟩) (fun E τ he => (oa_e he.1).2)).mono (fun v9 τ q => LW_ok ?_ q)
  unfold rqU
  rw [oth_v (rq_t (by rw [h.b.nu]; exact xok_nI hu (by have := h.b.x.i.u15; omega)))]
  refine congrArg (fun z => (.inl (some (.int z)) : XO)) ?_
  exact (by rw [h.b.nu, zc_know]; exact congrArg nI (zc_cg (fun w hw => by rw [(h.b.u hw).2.2.2.2.1]; exact (not_congr (zb_bitT (by have := h.b.x.i.u15; omega))).trans Classical.not_not)))

end XP76

/-! ONE OPERATION ON BOTH SIDES: questions that may throw -/
def RV (σ : XS) : Prop := ∃ o ch n w, RVX σ (σ.1 (.inr 10)) (σ.1 (.inr 9)) o ch n w
def xAll (P : XP) : Prop := xI0 P ∧ xI1 P ∧ (.inr 19 : XI) ∈ P.2.2.2.1 ∧ ∀ b, b < 12 → xIn P b
theorem xAll.n0 {P : XP} (h : xAll P) : (.inr 0 : XI) ∈ P.2.2.2.1 := h.1 0 (by decide)
/-- the relation looks at no other cell -/
theorem RVX.eq {σ τ : XS} {S F : Nat → Int32} {o ch n w : Nat} (h : RVX σ S F o ch n w) (e : ∀ i, i ≠ .inr 9 → i ≠ .inr 10 → i ≠ .inr 18 → τ.1 i = σ.1 i) (e2 : ∀ b, τ.2 (.inl (b, 2)) = σ.2 (.inl (b, 2))) : RVX τ S F o ch n w := by
  have ei : ∀ b k, τ.1 (.inl (b, k)) = σ.1 (.inl (b, k)) := fun b k => e _ (by simp) (by simp) (by simp)
  have ek : ∀ k, k ≠ 9 → k ≠ 10 → k ≠ 18 → τ.1 (.inr k) = σ.1 (.inr k) := fun k a b c => e _ (by simpa using a) (by simpa using b) (by simpa using c)
  have gg : ∀ b S1, RG σ b S1 → RG τ b S1 := fun b S1 hg => hg.fr (fun k => ei b k) (e2 b)
  refine ⟨fun b hb => xZ_o (h.z b hb) (ei _ _) (ei _ _), gg 0 S h.g, ?_, ?_, ?_, ?_, ?_⟩
  · unfold RVh Hi
    rw [ek 4 (by decide) (by decide) (by decide), ek 12 (by decide) (by decide) (by decide)]
    exact ⟨h.h.1, h.h.2.1, fun j hj => gg _ _ (h.h.2.2 j hj)⟩
  · intro s hs
    rw [ek 7 (by decide) (by decide) (by decide), ek 15 (by decide) (by decide) (by decide), ek 13 (by decide) (by decide) (by decide)]
    exact ⟨(h.s s hs).1, (h.s s hs).2.1, fun q => gg _ _ ((h.s s hs).2.2 q)⟩
  · unfold RVe
    rw [ek 1 (by decide) (by decide) (by decide)]
    exact h.e
  · unfold RVt Tx
    rw [ek 2 (by decide) (by decide) (by decide), ek 3 (by decide) (by decide) (by decide), ek 16 (by decide) (by decide) (by decide)]
    exact h.t
  · unfold RVo
    rw [ek 0 (by decide) (by decide) (by decide), ek 8 (by decide) (by decide) (by decide), ek 17 (by decide) (by decide) (by decide)]
    exact h.ou
theorem RVX.mw {σ : XS} {S F L : Nat → Int32} {o ch n w : Nat} (h : RVX σ S F o ch n w) : RV (mW σ S F L) := by
  refine ⟨o, ch, n, w, ?_⟩
  rw [mW_10, mW_9]
  exact h.eq (fun i a b c => mW_o b a c) (fun b => by rw [mW_l])
theorem RVX.ul {σ : XS} {S F : Nat → Int32} {o ch n w : Nat} {v : Int64} (h : RVX σ S F o ch n w) : RVX (uLong σ v) S F o ch n w := h.eq (fun i _ _ _ => rfl) (fun b => by rw [uLong, xL_ne _ _ (by simp)])
theorem uLong_1 {σ : XS} {v : Int64} : (uLong σ v).1 = σ.1 := rfl
theorem uLong_0 {σ : XS} {v : Int64} : (uLong σ v).2 (.inr 19) 0 = v := by rw [uLong, xL_self]; unfold vp_updL; simp
/-- behind the class's method: the number k of what was thrown; the reference's method then answers b, tells the same number, and (if none) the answers are one; the relation holds -/
def PE (l : Launch) (P : XP) (y : MethodName) (cc : ByteArray) (nL : Nat) (ret : Option FieldType) (rm : Room) (as : List Value) (B : Int32 → Prop) : Option Value → XS → Prop := fun v τ =>
  ∃ (k b : Int32) (τ1 : XS), v = some (.int k) ∧ XF l y cc nL ret rm P (.ref (P.2.2.1 (.inr 9)) :: as) τ (some (.int b)) τ1 ∧ RV τ1 ∧ τ1.1 (.inr 9) 7 = k ∧ (k = 0 → τ1.2 (.inr 19) 0 = b.toInt64) ∧ B b
theorem XMH.mono {l : Launch} {y : MethodName} {cc : ByteArray} {nL : Nat} {hh : List (Nat × Nat × Nat × Nat)} {rm : Room} {P : XP} {as : List Value} {σ : XS} {Post Post1 : Option Value → XS → Prop} (h : XMH l y cc nL hh rm P as σ Post) (hp : ∀ v τ, Post v τ → Post1 v τ) : XMH l y cc nL hh rm P as σ Post1 := by
  intro sz p e ha hc hk s m args below hf hfit hpre htr
  obtain ⟨k, o, h1, h2, h3, h4⟩ := h sz p e ha hc hk s m args below hf hfit hpre htr
  refine ⟨k, o, h1, h2, h3, ?_⟩
  rcases h4 with ⟨⟨⟨v, σ1, q1, q2, q3⟩, q4⟩, q5⟩ | ⟨q, -, E, ce, L, ⟨⟨σ1, hf, -⟩, -⟩, -⟩
  · exact Or.inl ⟨⟨⟨v, σ1, q1, hp v σ1 q2, q3⟩, q4⟩, q5⟩
  · exact hf.elim
theorem oa_v {q : Prop} [Decidable q] {E : String} {w v : Option Value} (h : oth (rq q E) (.inl w) = .inl v) : q ∧ v = w := by
  by_cases g : q
  · rw [rq_t g] at h; exact ⟨g, (Sum.inl.inj h).symm⟩
  · rw [rq_f g] at h; cases h
theorem oa_e {q : Prop} [Decidable q] {E E1 : String} {w : Option Value} (h : oth (rq q E) (.inl w) = .inr E1) : ¬ q ∧ E1 = E := by
  by_cases g : q
  · rw [rq_t g] at h; cases h
  · rw [rq_f g] at h; exact ⟨g, (Sum.inr.inj h).symm⟩
theorem v01 {q : Prop} [Decidable q] : (if q then (0 : Int32) else 1) = 0 ∨ (if q then (0 : Int32) else 1) = 1 := by
  by_cases g : q
  · exact Or.inl (if_pos g)
  · exact Or.inr (if_neg g)
theorem v10 {q : Prop} [Decidable q] : (if q then (1 : Int32) else 0) = 0 ∨ (if q then (1 : Int32) else 0) = 1 := by
  by_cases g : q
  · exact Or.inr (if_pos g)
  · exact Or.inl (if_neg g)
theorem some01 {x : Int32} (h : x = 0 ∨ x = 1) : some (Value.int x) = some (.int 0) ∨ some (Value.int x) = some (.int 1) := by
  rcases h with rfl | rfl
  · exact Or.inl rfl
  · exact Or.inr rfl
section XP71
variable {l : Launch} {P : XP} {σ : XS} {y y7 : MethodName} {cc c7 : ByteArray} {nL n7 : Nat} {rt : Option FieldType} {hh : List (Nat × Nat × Nat × Nat)} {rm rm7 : Room} {as as7 : List Value} {o ch n w : Nat} {B : Int32 → Prop}
theorem pe_ask {q : Prop} [Decidable q] {va b t : Int32} (hR : RVX σ (σ.1 (.inr 10)) (σ.1 (.inr 9)) o ch n w)
    (hC : XMH l y cc nL hh rm P as σ (LW [eIO] (fun v τ => oth (rq q eIO) (.inl (some (.int va))) = .inl v ∧ τ = σ) (fun E τ => oth (rq q eIO) (.inl (some (.int va))) = .inr E ∧ τ = σ)))
    (hM : ∀ (τ : XS) (L : Nat → Int32), XF l y7 c7 n7 rt rm7 P (.ref (P.2.2.1 (.inr 9)) :: as7) (mW τ (σ.1 (.inr 10)) (σ.1 (.inr 9)) L) (some (.int b)) (mW τ (σ.1 (.inr 10)) (upd (σ.1 (.inr 9)) 7 t) L))
    (ht : t = if q then 0 else 1) (hv : q → va = b) (hB : B b) : XMH l y cc nL hh rm P as σ (PE l P y7 c7 n7 rt rm7 as7 B) := by
  refine hC.mono (fun v τ hh => ?_)
  rcases hh with ⟨x, τ0, ⟨e1, rfl⟩, rfl, rfl⟩ | ⟨E, ⟨e1, rfl⟩, rfl⟩
  · obtain ⟨g, e2⟩ := oa_v e1
    cases e2
    have h := hM (uLong τ0 va.toInt64) (τ0.1 (.inr 18))
    rw [show mW (uLong τ0 va.toInt64) (τ0.1 (.inr 10)) (τ0.1 (.inr 9)) (τ0.1 (.inr 18)) = uLong τ0 va.toInt64 from (mW_id (uLong τ0 va.toInt64)).symm] at h
    refine ⟨0, b, _, rfl, h, (hR.ul.f7 t).mw, ?_, fun _ => ?_, hB⟩
    · rw [mW_9, upd_at, ht, if_pos g]
    · rw [mW_l, uLong_0, hv g]
  · obtain ⟨g, rfl⟩ := oa_e e1
    have h := hM τ (τ.1 (.inr 18))
    rw [← mW_id τ] at h
    refine ⟨1, b, _, rfl, h, (hR.f7 t).mw, ?_, fun q => absurd q (by decide), hB⟩
    rw [mW_9, upd_at, ht, if_neg g]

theorem p_lineOf (l : Launch) (hl0 : l.stackTraces = false) (P : XP) (hP : xAll P) (σ : XS) (hR : RV σ) (x : Int32) : XMH l yL_lineOf cL_lineOf 4 [(0, 9, 12, 19)] (rmL 2 rm_X6_lineOf) P [.ref (P.2.2.1 (.inr 0)), .int x, .ref (P.2.2.1 (.inr 19))] σ (PE l P yX7_lineOf cX7_lineOf 2 (some .int) rm_X7_lineOf [.int x] (fun _ => True)) := by
  obtain ⟨o, ch, n, w, hR⟩ := hR
  have hC := c_L_lineOf l P σ hP.n0 hP.2.2.1 x (c_X6_lineOf l hl0 P σ hP.1 hP.2.2.2 hR.bd x) (fun v τ hv => ⟨_, (oa_v hv.1).2⟩) (fun E τ he => (oa_e he.1).2)
  refine pe_ask hR hC (fun τ L => c_X7_lineOf l P τ (σ.1 (.inr 10)) (σ.1 (.inr 9)) L hP.2.1 hR.b.x.i x) ?_ (fun hq => ?_) trivial
  · rw [hR.b.nu]
  · rw [hR.b.nu] at hq
    rw [if_pos hq]
    exact (q_user hR.b hq).1

theorem p_curiosity (l : Launch) (hl0 : l.stackTraces = false) (P : XP) (hP : xAll P) (σ : XS) (hR : RV σ) (x : Int32) : XMH l yL_curiosity cL_curiosity 4 [(0, 9, 12, 19)] (rmL 2 rm_X6_curiosity) P [.ref (P.2.2.1 (.inr 0)), .int x, .ref (P.2.2.1 (.inr 19))] σ (PE l P yX7_curiosity cX7_curiosity 2 (some .int) rm_X7_curiosity [.int x] (fun _ => True)) := by
  obtain ⟨o, ch, n, w, hR⟩ := hR
  have hC := c_L_curiosity l P σ hP.n0 hP.2.2.1 x (c_X6_curiosity l hl0 P σ hP.1 hP.2.2.2 hR.bd x) (fun v τ hv => ⟨_, (oa_v hv.1).2⟩) (fun E τ he => (oa_e he.1).2)
  refine pe_ask hR hC (fun τ L => c_X7_curiosity l P τ (σ.1 (.inr 10)) (σ.1 (.inr 9)) L hP.2.1 hR.b.x.i x) ?_ (fun hq => ?_) trivial
  · rw [hR.b.nu]
  · rw [hR.b.nu] at hq
    rw [if_pos hq]
    exact (q_user hR.b hq).2.2.1

theorem p_bill (l : Launch) (hl0 : l.stackTraces = false) (P : XP) (hP : xAll P) (σ : XS) (hR : RV σ) (x : Int32) : XMH l yL_bill cL_bill 4 [(0, 9, 12, 19)] (rmL 2 rm_X6_bill) P [.ref (P.2.2.1 (.inr 0)), .int x, .ref (P.2.2.1 (.inr 19))] σ (PE l P yX7_bill cX7_bill 2 (some .int) rm_X7_bill [.int x] (fun _ => True)) := by
  obtain ⟨o, ch, n, w, hR⟩ := hR
  have hC := c_L_bill l P σ hP.n0 hP.2.2.1 x (c_X6_bill l hl0 P σ hP.1 hP.2.2.2 hR.bd x) (fun v τ hv => ⟨_, (oa_v hv.1).2⟩) (fun E τ he => (oa_e he.1).2)
  refine pe_ask hR hC (fun τ L => c_X7_bill l P τ (σ.1 (.inr 10)) (σ.1 (.inr 9)) L hP.2.1 hR.b.x.i x) ?_ (fun hq => ?_) trivial
  · rw [hR.b.nu]
  · rw [hR.b.nu] at hq
    rw [if_pos hq]
    exact (q_user hR.b hq).2.2.2.1

theorem p_secretsKnown (l : Launch) (hl0 : l.stackTraces = false) (P : XP) (hP : xAll P) (σ : XS) (hR : RV σ) (x : Int32) : XMH l yL_secretsKnown cL_secretsKnown 4 [(0, 9, 12, 19)] (rmL 2 rm_X6_secretsKnown) P [.ref (P.2.2.1 (.inr 0)), .int x, .ref (P.2.2.1 (.inr 19))] σ (PE l P yX7_secretsKnown cX7_secretsKnown 2 (some .int) rm_X7_secretsKnown [.int x] (fun _ => True)) := by
  obtain ⟨o, ch, n, w, hR⟩ := hR
  have hC := c_L_secretsKnown l P σ hP.n0 hP.2.2.1 x (c_X6_secretsKnown l hl0 P σ hP.1 hP.2.2.2 hR.bd x) (fun v τ hv => ⟨_, (oa_v hv.1).2⟩) (fun E τ he => (oa_e he.1).2)
  refine pe_ask hR hC (fun τ L => c_X7_secretsKnown l P τ (σ.1 (.inr 10)) (σ.1 (.inr 9)) L hP.2.1 hR.b.x.i x) ?_ (fun hq => ?_) trivial
  · rw [hR.b.nu]
  · rw [hR.b.nu] at hq
    rw [if_pos hq]
    exact (q_user hR.b hq).2.2.2.2.1

theorem p_callState (l : Launch) (hl0 : l.stackTraces = false) (P : XP) (hP : xAll P) (σ : XS) (hR : RV σ) (x : Int32) : XMH l yL_callState cL_callState 4 [(0, 9, 12, 19)] (rmL 2 rm_X6_callState) P [.ref (P.2.2.1 (.inr 0)), .int x, .ref (P.2.2.1 (.inr 19))] σ (PE l P yX7_callState cX7_callState 2 (some .int) rm_X7_callState [.int x] (fun _ => True)) := by
  obtain ⟨o, ch, n, w, hR⟩ := hR
  have hC := c_L_callState l P σ hP.n0 hP.2.2.1 x (c_X6_callState l hl0 P σ hP.1 hP.2.2.2 hR.bd x) (fun v τ hv => ⟨_, (oa_v hv.1).2⟩) (fun E τ he => (oa_e he.1).2)
  refine pe_ask hR hC (fun τ L => c_X7_callState l P τ (σ.1 (.inr 10)) (σ.1 (.inr 9)) L hP.2.1 hR.b.x.i x) ?_ (fun hq => ?_) trivial
  · rw [hR.b.nc]
  · rw [hR.b.nc] at hq
    rw [if_pos hq]
    exact (q_call hR.b hq).1

theorem p_callerOf (l : Launch) (hl0 : l.stackTraces = false) (P : XP) (hP : xAll P) (σ : XS) (hR : RV σ) (x : Int32) : XMH l yL_callerOf cL_callerOf 4 [(0, 9, 12, 19)] (rmL 2 rm_X6_callerOf) P [.ref (P.2.2.1 (.inr 0)), .int x, .ref (P.2.2.1 (.inr 19))] σ (PE l P yX7_callerOf cX7_callerOf 2 (some .int) rm_X7_callerOf [.int x] (fun _ => True)) := by
  obtain ⟨o, ch, n, w, hR⟩ := hR
  have hC := c_L_callerOf l P σ hP.n0 hP.2.2.1 x (c_X6_callerOf l hl0 P σ hP.1 hP.2.2.2 hR.bd x) (fun v τ hv => ⟨_, (oa_v hv.1).2⟩) (fun E τ he => (oa_e he.1).2)
  refine pe_ask hR hC (fun τ L => c_X7_callerOf l P τ (σ.1 (.inr 10)) (σ.1 (.inr 9)) L hP.2.1 hR.b.x.i x) ?_ (fun hq => ?_) trivial
  · rw [hR.b.nc]
  · rw [hR.b.nc] at hq
    rw [if_pos hq]
    exact (q_call hR.b hq).2.1

theorem p_calledSubscriber (l : Launch) (hl0 : l.stackTraces = false) (P : XP) (hP : xAll P) (σ : XS) (hR : RV σ) (x : Int32) : XMH l yL_calledSubscriber cL_calledSubscriber 4 [(0, 9, 12, 19)] (rmL 2 rm_X6_calledSubscriber) P [.ref (P.2.2.1 (.inr 0)), .int x, .ref (P.2.2.1 (.inr 19))] σ (PE l P yX7_calledSubscriber cX7_calledSubscriber 2 (some .int) rm_X7_calledSubscriber [.int x] (fun _ => True)) := by
  obtain ⟨o, ch, n, w, hR⟩ := hR
  have hC := c_L_calledSubscriber l P σ hP.n0 hP.2.2.1 x (c_X6_calledSubscriber l hl0 P σ hP.1 hP.2.2.2 hR.bd x) (fun v τ hv => ⟨_, (oa_v hv.1).2⟩) (fun E τ he => (oa_e he.1).2)
  refine pe_ask hR hC (fun τ L => c_X7_calledSubscriber l P τ (σ.1 (.inr 10)) (σ.1 (.inr 9)) L hP.2.1 hR.b.x.i x) ?_ (fun hq => ?_) trivial
  · rw [hR.b.nc]
  · rw [hR.b.nc] at hq
    rw [if_pos hq]
    exact (q_call hR.b hq).2.2.1

theorem p_calledTrunk (l : Launch) (hl0 : l.stackTraces = false) (P : XP) (hP : xAll P) (σ : XS) (hR : RV σ) (x : Int32) : XMH l yL_calledTrunk cL_calledTrunk 4 [(0, 9, 12, 19)] (rmL 2 rm_X6_calledTrunk) P [.ref (P.2.2.1 (.inr 0)), .int x, .ref (P.2.2.1 (.inr 19))] σ (PE l P yX7_calledTrunk cX7_calledTrunk 2 (some .int) rm_X7_calledTrunk [.int x] (fun _ => True)) := by
  obtain ⟨o, ch, n, w, hR⟩ := hR
  have hC := c_L_calledTrunk l P σ hP.n0 hP.2.2.1 x (c_X6_calledTrunk l hl0 P σ hP.1 hP.2.2.2 hR.bd x) (fun v τ hv => ⟨_, (oa_v hv.1).2⟩) (fun E τ he => (oa_e he.1).2)
  refine pe_ask hR hC (fun τ L => c_X7_calledTrunk l P τ (σ.1 (.inr 10)) (σ.1 (.inr 9)) L hP.2.1 hR.b.x.i x) ?_ (fun hq => ?_) trivial
  · rw [hR.b.nc]
  · rw [hR.b.nc] at hq
    rw [if_pos hq]
    exact (q_call hR.b hq).2.2.2.1

theorem p_startTime (l : Launch) (hl0 : l.stackTraces = false) (P : XP) (hP : xAll P) (σ : XS) (hR : RV σ) (x : Int32) : XMH l yL_startTime cL_startTime 4 [(0, 9, 12, 19)] (rmL 2 rm_X6_startTime) P [.ref (P.2.2.1 (.inr 0)), .int x, .ref (P.2.2.1 (.inr 19))] σ (PE l P yX7_startTime cX7_startTime 2 (some .int) rm_X7_startTime [.int x] (fun _ => True)) := by
  obtain ⟨o, ch, n, w, hR⟩ := hR
  have hC := c_L_startTime l P σ hP.n0 hP.2.2.1 x (c_X6_startTime l hl0 P σ hP.1 hP.2.2.2 hR.bd x) (fun v τ hv => ⟨_, (oa_v hv.1).2⟩) (fun E τ he => (oa_e he.1).2)
  refine pe_ask hR hC (fun τ L => c_X7_startTime l P τ (σ.1 (.inr 10)) (σ.1 (.inr 9)) L hP.2.1 hR.b.x.i x) ?_ (fun hq => ?_) trivial
  · rw [hR.b.nc]
  · rw [hR.b.nc] at hq
    rw [if_pos hq]
    exact (q_call hR.b hq).2.2.2.2.2.2.2.1

theorem p_endTime (l : Launch) (hl0 : l.stackTraces = false) (P : XP) (hP : xAll P) (σ : XS) (hR : RV σ) (x : Int32) : XMH l yL_endTime cL_endTime 4 [(0, 9, 12, 19)] (rmL 2 rm_X6_endTime) P [.ref (P.2.2.1 (.inr 0)), .int x, .ref (P.2.2.1 (.inr 19))] σ (PE l P yX7_endTime cX7_endTime 2 (some .int) rm_X7_endTime [.int x] (fun _ => True)) := by
  obtain ⟨o, ch, n, w, hR⟩ := hR
  have hC := c_L_endTime l P σ hP.n0 hP.2.2.1 x (c_X6_endTime l hl0 P σ hP.1 hP.2.2.2 hR.bd x) (fun v τ hv => ⟨_, (oa_v hv.1).2⟩) (fun E τ he => (oa_e he.1).2)
  refine pe_ask hR hC (fun τ L => c_X7_endTime l P τ (σ.1 (.inr 10)) (σ.1 (.inr 9)) L hP.2.1 hR.b.x.i x) ?_ (fun hq => ?_) trivial
  · rw [hR.b.nc]
  · rw [hR.b.nc] at hq
    rw [if_pos hq]
    exact (q_call hR.b hq).2.2.2.2.2.2.2.2.1

theorem p_listeners (l : Launch) (hl0 : l.stackTraces = false) (P : XP) (hP : xAll P) (σ : XS) (hR : RV σ) (x : Int32) : XMH l yL_listeners cL_listeners 4 [(0, 9, 12, 19)] (rmL 2 rm_X6_listeners) P [.ref (P.2.2.1 (.inr 0)), .int x, .ref (P.2.2.1 (.inr 19))] σ (PE l P yX7_listeners cX7_listeners 2 (some .int) rm_X7_listeners [.int x] (fun _ => True)) := by
  obtain ⟨o, ch, n, w, hR⟩ := hR
  have hC := c_L_listeners l P σ hP.n0 hP.2.2.1 x (c_X6_listeners l hl0 P σ hP.1 hP.2.2.2 hR.bd x) (fun v τ hv => ⟨_, (oa_v hv.1).2⟩) (fun E τ he => (oa_e he.1).2)
  refine pe_ask hR hC (fun τ L => c_X7_listeners l P τ (σ.1 (.inr 10)) (σ.1 (.inr 9)) L hP.2.1 hR.b.x.i x) ?_ (fun hq => ?_) trivial
  · rw [hR.b.nc]
  · rw [hR.b.nc] at hq
    rw [if_pos hq]
    exact (q_call hR.b hq).2.2.2.2.2.2.2.2.2

theorem p_toll (l : Launch) (hl0 : l.stackTraces = false) (P : XP) (hP : xAll P) (σ : XS) (hR : RV σ) (x : Int32) : XMH l yL_toll cL_toll 4 [(0, 9, 12, 19)] (rmL 2 rm_X6_toll) P [.ref (P.2.2.1 (.inr 0)), .int x, .ref (P.2.2.1 (.inr 19))] σ (PE l P yX7_toll cX7_toll 2 (some .int) rm_X7_toll [.int x] (fun _ => True)) := by
  obtain ⟨o, ch, n, w, hR⟩ := hR
  have hC := c_L_toll l P σ hP.n0 hP.2.2.1 x (c_X6_toll l hl0 P σ hP.1 hP.2.2.2 hR.bd x) (fun v τ hv => ⟨_, (oa_v hv.1).2⟩) (fun E τ he => (oa_e he.1).2)
  refine pe_ask hR hC (fun τ L => c_X7_toll l P τ (σ.1 (.inr 10)) (σ.1 (.inr 9)) L hP.2.1 hR.b.x.i x) ?_ (fun hq => ?_) trivial
  · rw [hR.b.nt]
  · rw [hR.b.nt] at hq
    rw [if_pos hq]
    exact q_toll hR.b hq

theorem p_ringCount (l : Launch) (hl0 : l.stackTraces = false) (P : XP) (hP : xAll P) (σ : XS) (hR : RV σ) (x : Int32) : XMH l yL_ringCount cL_ringCount 4 [(0, 9, 12, 19)] (rmL 2 rm_X6_ringCount) P [.ref (P.2.2.1 (.inr 0)), .int x, .ref (P.2.2.1 (.inr 19))] σ (PE l P yX7_ringCount cX7_ringCount 2 (some .int) rm_X7_ringCount [.int x] (fun _ => True)) := by
  obtain ⟨o, ch, n, w, hR⟩ := hR
  have hC := c_L_ringCount l P σ hP.n0 hP.2.2.1 x (c_X6_ringCount l hl0 P σ hP.1 hP.2.2.2 hR.bd x) (fun v τ hv => ⟨_, (oa_v hv.1).2⟩) (fun E τ he => (oa_e he.1).2)
  refine pe_ask hR hC (fun τ L => c_X7_ringCount l P τ (σ.1 (.inr 10)) (σ.1 (.inr 9)) L hP.2.1 hR.b.x.i hR.b.x.co x) ?_ (fun hq => ?_) trivial
  · rw [hR.b.nu]
  · rw [hR.b.nu] at hq
    rw [if_pos hq]
    exact q_rings hR.b hq

theorem p_ringSeconds (l : Launch) (hl0 : l.stackTraces = false) (P : XP) (hP : xAll P) (σ : XS) (hR : RV σ) (x : Int32) : XMH l yL_ringSeconds cL_ringSeconds 4 [(0, 9, 12, 19)] (rmL 6 rm_X6_ringSeconds) P [.ref (P.2.2.1 (.inr 0)), .int x, .ref (P.2.2.1 (.inr 19))] σ (PE l P yX7_ringSeconds cX7_ringSeconds 4 (some .int) rm_X7_ringSeconds [.int x] (fun _ => True)) := by
  obtain ⟨o, ch, n, w, hR⟩ := hR
  have hC := c_L_ringSeconds l P σ hP.n0 hP.2.2.1 x (c_X6_ringSeconds l hl0 P σ hP.1 hP.2.2.2 hR.bd x) (fun v τ hv => ⟨_, (oa_v hv.1).2⟩) (fun E τ he => (oa_e he.1).2)
  refine pe_ask hR hC (fun τ L => c_X7_ringSeconds l P τ (σ.1 (.inr 10)) (σ.1 (.inr 9)) L hP.2.1 hR.b.x.i hR.b.x.co x) ?_ (fun hq => ?_) trivial
  · rw [hR.b.nu]
  · rw [hR.b.nu] at hq
    rw [if_pos hq]
    exact q_secs hR.b hq

theorem p_neighbours (l : Launch) (hl0 : l.stackTraces = false) (P : XP) (hP : xAll P) (σ : XS) (hR : RV σ) (x : Int32) : XMH l yL_neighbours cL_neighbours 4 [(0, 9, 12, 19)] (rmL 2 rm_X6_neighbours) P [.ref (P.2.2.1 (.inr 0)), .int x, .ref (P.2.2.1 (.inr 19))] σ (PE l P yX7_neighbours cX7_neighbours 4 (some .int) rm_X7_neighbours [.int x] (fun _ => True)) := by
  obtain ⟨o, ch, n, w, hR⟩ := hR
  have hC := c_L_neighbours l P σ hP.n0 hP.2.2.1 x (c_X6_neighbours l hl0 P σ hP.1 hP.2.2.2 hR.bd x) (fun v τ hv => ⟨_, (oa_v hv.1).2⟩) (fun E τ he => (oa_e he.1).2)
  refine pe_ask hR hC (fun τ L => c_X7_neighbours l P τ (σ.1 (.inr 10)) (σ.1 (.inr 9)) L hP.2.1 hR.b.x.i x) ?_ (fun hq => ?_) trivial
  · rw [hR.b.nu]
  · rw [hR.b.nu] at hq
    rw [if_pos hq, hR.b.nu]
    exact q_nb hR.b hq

theorem p_nameByte (l : Launch) (hl0 : l.stackTraces = false) (P : XP) (hP : xAll P) (σ : XS) (hR : RV σ) (x i : Int32) : XMH l yL_nameByte cL_nameByte 5 [(0, 10, 13, 19)] (rmL 4 rm_X6_nameByte) P [.ref (P.2.2.1 (.inr 0)), .int x, .int i, .ref (P.2.2.1 (.inr 19))] σ (PE l P yX7_nameByte cX7_nameByte 3 (some .int) rm_X7_nameByte [.int x, .int i] (fun _ => True)) := by
  obtain ⟨o, ch, n, w, hR⟩ := hR
  have hC := c_L_nameByte l P σ hP.n0 hP.2.2.1 x i (c_X6_nameByte l hl0 P σ hP.1 hP.2.2.2 hR.bd x i) (fun v τ hv => ⟨_, (oa_v hv.1).2⟩) (fun E τ he => (oa_e he.1).2)
  refine pe_ask hR hC (fun τ L => c_X7_nameByte l P τ (σ.1 (.inr 10)) (σ.1 (.inr 9)) L hP.2.1 hR.b.x.i hR.b.x.n x i) ?_ (fun hq => ?_) trivial
  · rw [hR.b.nu]
  · rw [hR.b.nu] at hq
    rw [if_pos hq]
    exact q_name hR.b hq

theorem p_knowers (l : Launch) (hl0 : l.stackTraces = false) (P : XP) (hP : xAll P) (σ : XS) (hR : RV σ) (x : Int32) : XMH l yL_knowers cL_knowers 4 [(0, 9, 12, 19)] (rmL 2 rm_X6_knowers) P [.ref (P.2.2.1 (.inr 0)), .int x, .ref (P.2.2.1 (.inr 19))] σ (PE l P yX7_knowers cX7_knowers 4 (some .int) rm_X7_knowers [.int x] (fun _ => True)) := by
  obtain ⟨o, ch, n, w, hR⟩ := hR
  have hC := c_L_knowers l P σ hP.n0 hP.2.2.1 x (c_X6_knowers l hl0 P σ hP.1 hP.2.2.2 hR.bd x) (fun v τ hv => ⟨_, (oa_v hv.1).2⟩) (fun E τ he => (oa_e he.1).2)
  refine pe_ask hR hC (fun τ L => c_X7_knowers l P τ (σ.1 (.inr 10)) (σ.1 (.inr 9)) L hP.2.1 hR.b.x.i x) ?_ (fun hq => ?_) trivial
  · rw [hR.b.nu]
  · rw [hR.b.nu] at hq
    rw [if_pos hq, hR.b.nu]
    exact q_know hR.b hq

theorem p_quietestCall (l : Launch) (hl0 : l.stackTraces = false) (P : XP) (hP : xAll P) (σ : XS) (hR : RV σ) (x : Int32) : XMH l yL_quietestCall cL_quietestCall 4 [(0, 9, 12, 19)] (rmL 2 rm_X6_quietestCall) P [.ref (P.2.2.1 (.inr 0)), .int x, .ref (P.2.2.1 (.inr 19))] σ (PE l P yX7_quietestCall cX7_quietestCall 6 (some .int) rm_X7_quietestCall [.int x] (fun _ => True)) := by
  obtain ⟨o, ch, n, w, hR⟩ := hR
  have hC := c_L_quietestCall l P σ hP.n0 hP.2.2.1 x (c_X6_quietestCall l hl0 P σ hP.1 hP.2.2.2 hR.bd x) (fun v τ hv => ⟨_, (oa_v hv.1).2⟩) (fun E τ he => (oa_e he.1).2)
  refine pe_ask hR hC (fun τ L => c_X7_quietestCall l P τ (σ.1 (.inr 10)) (σ.1 (.inr 9)) L hP.2.1 hR.b.x.i x) ?_ (fun hq => ?_) trivial
  · rw [hR.b.nu]
  · rw [hR.b.nu] at hq
    rw [if_pos hq, hR.b.nu]
    exact q_quiet hR.b hq

theorem p_whoAnswers (l : Launch) (hl0 : l.stackTraces = false) (P : XP) (hP : xAll P) (σ : XS) (hR : RV σ) (x y : Int32) : XMH l yL_whoAnswers cL_whoAnswers 5 [(0, 10, 13, 19)] (rmL 3 rm_X6_whoAnswers) P [.ref (P.2.2.1 (.inr 0)), .int x, .int y, .ref (P.2.2.1 (.inr 19))] σ (PE l P yX7_whoAnswers cX7_whoAnswers 4 (some .int) rm_X7_whoAnswers [.int x, .int y] (fun _ => True)) := by
  obtain ⟨o, ch, n, w, hR⟩ := hR
  have hC := c_L_whoAnswers l P σ hP.n0 hP.2.2.1 x y (c_X6_whoAnswers l hl0 P σ hP.1 hP.2.2.2 hR.bd x y) (fun v τ hv => ⟨_, (oa_v hv.1).2⟩) (fun E τ he => (oa_e he.1).2)
  refine pe_ask hR hC (fun τ L => c_X7_whoAnswers l P τ (σ.1 (.inr 10)) (σ.1 (.inr 9)) L hP.2.1 hR.b.x.i x y) ?_ (fun hq => ?_) trivial
  · have e := okL hR.b.x.i (x := x)
    rw [hR.b.s.2.1]
    by_cases g : xok x (mL (σ.1 (.inr 10)))
    · rw [if_pos g, if_pos (e.mpr g)]
    · rw [if_neg g, if_neg (fun z => g (e.mp z))]
  · rw [hR.b.s.2.1] at hq
    have hq := (okL hR.b.x.i).mp hq
    rw [if_pos hq, hR.b.nu]
    exact q_who hR.b x y

theorem p_isLineBusy (l : Launch) (hl0 : l.stackTraces = false) (P : XP) (hP : xAll P) (σ : XS) (hR : RV σ) (x : Int32) : XMH l yL_isLineBusy cL_isLineBusy 4 [(0, 16, 19, 19)] (rmL 2 rm_X6_isLineBusy) P [.ref (P.2.2.1 (.inr 0)), .int x, .ref (P.2.2.1 (.inr 19))] σ (PE l P yX7_isLineBusy cX7_isLineBusy 2 (some .boolean) rm_X7_isLineBusy [.int x] (fun b => b = 0 ∨ b = 1)) := by
  obtain ⟨o, ch, n, w, hR⟩ := hR
  have hC := c_L_isLineBusy l P σ hP.n0 hP.2.2.1 x (c_X6_isLineBusy l hl0 P σ hP.1 hP.2.2.2 hR.bd x) (fun v τ hv => by rw [(oa_v hv.1).2]; exact some01 v01) (fun E τ he => (oa_e he.1).2)
  refine pe_ask hR hC (fun τ L => c_X7_isLineBusy l P τ (σ.1 (.inr 10)) (σ.1 (.inr 9)) L hP.2.1 hR.b.x.i x) ?_ (fun hq => ?_) v10
  · have e := okL hR.b.x.i (x := x)
    rw [hR.b.s.2.1]
    by_cases g : xok x (mL (σ.1 (.inr 10)))
    · rw [if_pos g, if_pos (e.mpr g)]
    · rw [if_neg g, if_neg (fun z => g (e.mp z))]
  · rw [hR.b.s.2.1] at hq
    have hq := (okL hR.b.x.i).mp hq
    rw [hR.b.nc]
    exact q_line hR.b hq

theorem p_isTrunkBusy (l : Launch) (hl0 : l.stackTraces = false) (P : XP) (hP : xAll P) (σ : XS) (hR : RV σ) (x : Int32) : XMH l yL_isTrunkBusy cL_isTrunkBusy 4 [(0, 16, 19, 19)] (rmL 2 rm_X6_isTrunkBusy) P [.ref (P.2.2.1 (.inr 0)), .int x, .ref (P.2.2.1 (.inr 19))] σ (PE l P yX7_isTrunkBusy cX7_isTrunkBusy 2 (some .boolean) rm_X7_isTrunkBusy [.int x] (fun b => b = 0 ∨ b = 1)) := by
  obtain ⟨o, ch, n, w, hR⟩ := hR
  have hC := c_L_isTrunkBusy l P σ hP.n0 hP.2.2.1 x (c_X6_isTrunkBusy l hl0 P σ hP.1 hP.2.2.2 hR.bd x) (fun v τ hv => by rw [(oa_v hv.1).2]; exact some01 v01) (fun E τ he => (oa_e he.1).2)
  refine pe_ask hR hC (fun τ L => c_X7_isTrunkBusy l P τ (σ.1 (.inr 10)) (σ.1 (.inr 9)) L hP.2.1 hR.b.x.i x) ?_ (fun hq => ?_) v10
  · rw [hR.b.nt]
  · rw [hR.b.nt] at hq
    rw [hR.b.nc]
    exact q_trk hR.b hq

theorem p_volume (l : Launch) (hl0 : l.stackTraces = false) (P : XP) (hP : xAll P) (σ : XS) (hR : RV σ) (x : Int32) : XMH l yL_volume cL_volume 4 [(0, 9, 12, 19)] (rmL 2 rm_X6_volume) P [.ref (P.2.2.1 (.inr 0)), .int x, .ref (P.2.2.1 (.inr 19))] σ (PE l P yX7_volume cX7_volume 2 (some .int) rm_X7_volume [.int x] (fun _ => True)) := by
  obtain ⟨o, ch, n, w, hR⟩ := hR
  have hC := c_L_volume l P σ hP.n0 hP.2.2.1 x (c_X6_volume l hl0 P σ hP.1 hP.2.2.2 hR.bd x) (fun v τ hv => ⟨_, (oa_v hv.1).2⟩) (fun E τ he => (oa_e he.1).2)
  refine pe_ask hR hC (fun τ L => c_X7_volume l P τ (σ.1 (.inr 10)) (σ.1 (.inr 9)) L hP.2.1 hR.b.x.i x) ?_ (fun hq => ?_) trivial
  · rw [hR.b.nc]
  · rw [hR.b.nc] at hq
    rw [if_pos hq]
    exact q_vol hR.b hq

theorem p_charge (l : Launch) (hl0 : l.stackTraces = false) (P : XP) (hP : xAll P) (σ : XS) (hR : RV σ) (x : Int32) : XMH l yL_charge cL_charge 4 [(0, 9, 12, 19)] (rmL 2 rm_X6_charge) P [.ref (P.2.2.1 (.inr 0)), .int x, .ref (P.2.2.1 (.inr 19))] σ (PE l P yX7_charge cX7_charge 2 (some .int) rm_X7_charge [.int x] (fun _ => True)) := by
  obtain ⟨o, ch, n, w, hR⟩ := hR
  have hC := c_L_charge l P σ hP.n0 hP.2.2.1 x (c_X6_charge l hl0 P σ hP.1 hP.2.2.2 hR.bd x) (fun v τ hv => ⟨_, (oa_v hv.1).2⟩) (fun E τ he => (oa_e he.1).2)
  refine pe_ask hR hC (fun τ L => c_X7_charge l P τ (σ.1 (.inr 10)) (σ.1 (.inr 9)) L hP.2.1 hR.b.x.i x) ?_ (fun hq => ?_) trivial
  · rw [hR.b.nc]
  · rw [hR.b.nc] at hq
    rw [if_pos hq, hR.b.nt]
    exact hR.b.chg (xok_c hq (by have := hR.b.x.i.k40; omega)).1

theorem p_obstacle (l : Launch) (hl0 : l.stackTraces = false) (P : XP) (hP : xAll P) (σ : XS) (hR : RV σ) (x : Int32) : XMH l yL_obstacle cL_obstacle 4 [(0, 9, 12, 19)] (rmL 2 rm_X6_obstacle) P [.ref (P.2.2.1 (.inr 0)), .int x, .ref (P.2.2.1 (.inr 19))] σ (PE l P yX7_obstacle cX7_obstacle 2 (some .int) rm_X7_obstacle [.int x] (fun _ => True)) := by
  obtain ⟨o, ch, n, w, hR⟩ := hR
  have hC := c_L_obstacle l P σ hP.n0 hP.2.2.1 x (c_X6_obstacle l hl0 P σ hP.1 hP.2.2.2 hR.bd x) (fun v τ hv => ⟨_, (oa_v hv.1).2⟩) (fun E τ he => (oa_e he.1).2)
  refine pe_ask hR hC (fun τ L => c_X7_obstacle l P τ (σ.1 (.inr 10)) (σ.1 (.inr 9)) L hP.2.1 hR.b.x.i x) ?_ (fun hq => ?_) trivial
  · rw [hR.b.nc]
  · rw [hR.b.nc] at hq
    rw [hR.b.nu, hR.b.nc]
    have hj := (xok_c hq (by have := hR.b.x.i.k40; omega)).1
    rw [(hR.b.c hj).1]
    by_cases g : sC (σ.1 (.inr 10)) 4 (cN x) = 0
    · rw [if_pos g, if_pos ⟨hq, g⟩]; exact hR.b.blk hj
    · rw [if_neg g, if_neg (fun z => g z.2)]

theorem p_queuePlace (l : Launch) (hl0 : l.stackTraces = false) (P : XP) (hP : xAll P) (σ : XS) (hR : RV σ) (x : Int32) : XMH l yL_queuePlace cL_queuePlace 4 [(0, 9, 12, 19)] (rmL 2 rm_X6_queuePlace) P [.ref (P.2.2.1 (.inr 0)), .int x, .ref (P.2.2.1 (.inr 19))] σ (PE l P yX7_queuePlace cX7_queuePlace 5 (some .int) rm_X7_queuePlace [.int x] (fun _ => True)) := by
  obtain ⟨o, ch, n, w, hR⟩ := hR
  have hC := c_L_queuePlace l P σ hP.n0 hP.2.2.1 x (c_X6_queuePlace l hl0 P σ hP.1 hP.2.2.2 hR.bd x) (fun v τ hv => ⟨_, (oa_v hv.1).2⟩) (fun E τ he => (oa_e he.1).2)
  refine pe_ask hR hC (fun τ L => c_X7_queuePlace l P τ (σ.1 (.inr 10)) (σ.1 (.inr 9)) L hP.2.1 hR.b.x.i x) ?_ (fun hq => ?_) trivial
  · rw [hR.b.nc]
  · rw [hR.b.nc] at hq
    rw [if_pos hq, hR.b.nc, q_place hR.b hq, (q_call hR.b hq).1]

theorem p_isUrgent (l : Launch) (hl0 : l.stackTraces = false) (P : XP) (hP : xAll P) (σ : XS) (hR : RV σ) (x : Int32) : XMH l yL_isUrgent cL_isUrgent 4 [(0, 16, 19, 19)] (rmL 2 rm_X6_isUrgent) P [.ref (P.2.2.1 (.inr 0)), .int x, .ref (P.2.2.1 (.inr 19))] σ (PE l P yX7_isUrgent cX7_isUrgent 2 (some .boolean) rm_X7_isUrgent [.int x] (fun b => b = 0 ∨ b = 1)) := by
  obtain ⟨o, ch, n, w, hR⟩ := hR
  have h01 : ∀ v : Option Value, oth (rqC σ x) (.inl (some (.int (σ.1 (.inl (0, 13)) x.toNatClampNeg)))) = .inl v → v = some (.int 0) ∨ v = some (.int 1) := fun v hv => by
    obtain ⟨hq, e⟩ := oa_v hv
    rw [hR.b.nc] at hq
    rw [e]
    have e2 : σ.1 (.inl (0, 13)) x.toNatClampNeg = sC (σ.1 (.inr 10)) 3 (cN x) := (q_call hR.b hq).2.2.2.2.1
    rw [e2]
    rcases (hR.b.x.c (xok_c hq (by have := hR.b.x.i.k40; omega)).1).2.1 with e | e
    · rw [e]; exact Or.inl rfl
    · rw [e]; exact Or.inr rfl
  have hC := c_L_isUrgent l P σ hP.n0 hP.2.2.1 x (c_X6_isUrgent l hl0 P σ hP.1 hP.2.2.2 hR.bd (hR.z 0 (by decide)) x) (fun v τ hv => h01 v hv.1) (fun E τ he => (oa_e he.1).2)
  refine pe_ask hR hC (fun τ L => c_X7_isUrgent l P τ (σ.1 (.inr 10)) (σ.1 (.inr 9)) L hP.2.1 hR.b.x.i x) ?_ (fun hq => ?_) v10
  · rw [hR.b.nc]
  · rw [hR.b.nc] at hq
    rw [if_pos hq, (q_call hR.b hq).2.2.2.2.1]
    rcases (hR.b.x.c (xok_c hq (by have := hR.b.x.i.k40; omega)).1).2.1 with e | e
    · rw [e]; rfl
    · rw [e]; rfl

end XP71

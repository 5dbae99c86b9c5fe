/-! ONE OPERATION ON BOTH SIDES: changes that may throw -/
theorem kOf_ne : ∀ (es : List String) (E : String), ¬ kOf es (.inr E) = 0
  | [], E => by show ¬ (9 : Int32) = 0; decide
  | [a], E => by
    show ¬ (if E = a then (1 : Int32) else 9) = 0
    by_cases h : E = a
    · rw [if_pos h]; decide
    · rw [if_neg h]; decide
  | [a, b], E => by
    show ¬ (if E = a then (1 : Int32) else if E = b then 2 else 9) = 0
    by_cases h : E = a
    · rw [if_pos h]; decide
    · rw [if_neg h]
      by_cases h : E = b
      · rw [if_pos h]; decide
      · rw [if_neg h]; decide
  | [a, b, c], E => by
    show ¬ (if E = a then (1 : Int32) else if E = b then 2 else if E = c then 3 else 9) = 0
    by_cases h : E = a
    · rw [if_pos h]; decide
    · rw [if_neg h]
      by_cases h : E = b
      · rw [if_pos h]; decide
      · rw [if_neg h]
        by_cases h : E = c
        · rw [if_pos h]; decide
        · rw [if_neg h]; decide
  | _ :: _ :: _ :: _ :: _, E => by show ¬ (9 : Int32) = 0; decide
theorem kOf_1 {a E : String} (h : ¬ kOf [a] (.inr E) = 9) : E = a := by
  by_cases g : E = a
  · exact g
  · exact absurd (by show (if E = a then (1 : Int32) else 9) = 9; rw [if_neg g]) h
theorem kOf_2 {a b E : String} (h : ¬ kOf [a, b] (.inr E) = 9) : E = a ∨ E = b := by
  by_cases g : E = a
  · exact Or.inl g
  · by_cases g2 : E = b
    · exact Or.inr g2
    · exact absurd (by show (if E = a then (1 : Int32) else if E = b then 2 else 9) = 9; rw [if_neg g, if_neg g2]) h
theorem kOf_3 {a b c E : String} (h : ¬ kOf [a, b, c] (.inr E) = 9) : E = a ∨ E = b ∨ E = c := by
  by_cases g : E = a
  · exact Or.inl g
  · by_cases g2 : E = b
    · exact Or.inr (Or.inl g2)
    · by_cases g3 : E = c
      · exact Or.inr (Or.inr g3)
      · exact absurd (by show (if E = a then (1 : Int32) else if E = b then 2 else if E = c then 3 else 9) = 9; rw [if_neg g, if_neg g2, if_neg g3]) h
theorem rq_ty {c : Prop} [Decidable c] {E : String} {w : XO} (h : c) : oth (rq c E) w = w := by rw [rq_t h]; rfl
theorem rq_tn {c : Prop} [Decidable c] {E : String} {w : XO} (h : ¬ c) : oth (rq c E) w = .inr E := by rw [rq_f h]; rfl
theorem k_pair {nu : Nat} {x y : Int32} {w : XO} : oth (oth (rq (xok x nu) eIO) (oth (rq (xok y nu) eIO) (rq (¬ x = y) eIA))) w = if xok x nu ∧ xok y nu then (if x = y then .inr eIA else w) else .inr eIO := by
  by_cases g1 : xok x nu
  · rw [rq_ty g1]
    by_cases g2 : xok y nu
    · rw [rq_ty g2, if_pos ⟨g1, g2⟩]
      by_cases g3 : x = y
      · rw [if_pos g3, rq_tn (fun q => q g3)]
      · rw [if_neg g3, rq_ty g3]
    · rw [rq_tn g2, if_neg (fun q => g2 q.2)]; rfl
  · rw [rq_tn g1, if_neg (fun q => g1 q.1)]; rfl
theorem k_call {nu nc : Nat} {x y : Int32} (h : nc ≤ 40) : kOf [eIO, eIA, eIS] (oth (oth (rq (xok x nu) eIO) (oth (rq (xok y nu) eIO) (rq (¬ x = y) eIA))) (rq (nc < 40) eIS)) = if xok x nu ∧ xok y nu then (if x = y then 2 else if nc = 40 then 3 else 0) else 1 := by
  rw [k_pair]
  by_cases g : xok x nu ∧ xok y nu
  · rw [if_pos g, if_pos g]
    by_cases g3 : x = y
    · rw [if_pos g3, if_pos g3]; rfl
    · rw [if_neg g3, if_neg g3]
      by_cases g4 : nc = 40
      · rw [if_pos g4, rq_f (by omega)]; rfl
      · rw [if_neg g4, rq_t (by omega)]; rfl
  · rw [if_neg g, if_neg g]; rfl
theorem k_trk {nu nt nc : Nat} {x y : Int32} (h : nc ≤ 40) : kOf [eIO, eIS] (oth (rq (xok x nu) eIO) (oth (rq (xok y nt) eIO) (rq (nc < 40) eIS))) = if xok x nu ∧ xok y nt then (if nc = 40 then 2 else 0) else 1 := by
  by_cases g1 : xok x nu
  · rw [rq_ty g1]
    by_cases g2 : xok y nt
    · rw [rq_ty g2, if_pos ⟨g1, g2⟩]
      by_cases g4 : nc = 40
      · rw [if_pos g4, rq_f (by omega)]; rfl
      · rw [if_neg g4, rq_t (by omega)]; rfl
    · rw [rq_tn g2, if_neg (fun q => g2 q.2)]; rfl
  · rw [rq_tn g1, if_neg (fun q => g1 q.1)]; rfl
theorem k_two {p q p1 q1 : Prop} [Decidable p] [Decidable q] [Decidable p1] [Decidable q1] {a b : String} (hab : ¬ b = a) (hp : p ↔ p1) (hq : p → (q ↔ q1)) : kOf [a, b] (oth (rq p a) (rq q b)) = if p1 then (if q1 then 0 else 2) else 1 := by
  by_cases g1 : p
  · rw [rq_ty g1, if_pos (hp.mp g1)]
    by_cases g2 : q
    · rw [rq_t g2, if_pos ((hq g1).mp g2)]; rfl
    · rw [rq_f g2, if_neg (fun z => g2 ((hq g1).mpr z))]
      show (if b = a then (1 : Int32) else if b = b then 2 else 9) = 2
      rw [if_neg hab, if_pos rfl]
  · rw [rq_tn g1, if_neg (fun z => g1 (hp.mpr z))]
    show (if a = a then (1 : Int32) else if a = b then 2 else 9) = 1
    rw [if_pos rfl]
theorem k_one {p p1 : Prop} [Decidable p] [Decidable p1] {a : String} (hp : p ↔ p1) : kOf [a] (rq p a) = if p1 then 0 else 1 := by
  by_cases g1 : p
  · rw [rq_t g1, if_pos (hp.mp g1)]; rfl
  · rw [rq_f g1, if_neg (fun z => g1 (hp.mpr z))]
    show (if a = a then (1 : Int32) else 9) = 1
    rw [if_pos rfl]
theorem n9_2 {p q : Prop} [Decidable p] [Decidable q] : ¬ (if p then (if q then (0 : Int32) else 2) else 1) = 9 := by
  by_cases g1 : p
  · rw [if_pos g1]
    by_cases g2 : q
    · rw [if_pos g2]; decide
    · rw [if_neg g2]; decide
  · rw [if_neg g1]; decide
theorem n9_2b {p q : Prop} [Decidable p] [Decidable q] : ¬ (if p then (if q then (2 : Int32) else 0) else 1) = 9 := by
  by_cases g1 : p
  · rw [if_pos g1]
    by_cases g2 : q
    · rw [if_pos g2]; decide
    · rw [if_neg g2]; decide
  · rw [if_neg g1]; decide
theorem n9_3 {p q r : Prop} [Decidable p] [Decidable q] [Decidable r] : ¬ (if p then (if q then (2 : Int32) else if r then 3 else 0) else 1) = 9 := by
  by_cases g1 : p
  · rw [if_pos g1]
    by_cases g2 : q
    · rw [if_pos g2]; decide
    · rw [if_neg g2]
      by_cases g3 : r
      · rw [if_pos g3]; decide
      · rw [if_neg g3]; decide
  · rw [if_neg g1]; decide
theorem n9_1 {p : Prop} [Decidable p] : ¬ (if p then (0 : Int32) else 1) = 9 := by
  by_cases g1 : p
  · rw [if_pos g1]; decide
  · rw [if_neg g1]; decide
theorem n9_1b {p : Prop} [Decidable p] : ¬ (if p then (1 : Int32) else 0) = 9 := by
  by_cases g1 : p
  · rw [if_pos g1]; decide
  · rw [if_neg g1]; decide
theorem ub_id {u : Int32} (h : u = 0 ∨ u = 1) : ub u = u := by rcases h with rfl | rfl <;> rfl
theorem uPush_k {σ : XS} {o n k : Nat} (h : k ≠ 4) : (uPush σ o n).1 (.inr k) = σ.1 (.inr k) := (uPush_ne (fun j => by simp) (by simpa using h)).1
theorem uCp_k {σ : XS} {b f k : Nat} : (uCopyB σ b f).1 (.inr k) = σ.1 (.inr k) := (uCopyB_ne (fun j => by simp)).1
theorem uPop_k {σ : XS} {o n k : Nat} (h : k ≠ 4) : (uPop σ o n).1 (.inr k) = σ.1 (.inr k) := by
  unfold uPop
  rw [uCp_k, xu_ne _ _ _ (by simpa using h)]
section XP72
variable {l : Launch} {P : XP} {σ σ1 : XS} {y y7 : MethodName} {cc c7 : ByteArray} {nL n7 : Nat} {rt : Option FieldType} {hh : List (Nat × Nat × Nat × Nat)} {rm rm7 : Room} {as as7 : List Value} {o ch n w : Nat}
theorem pe_chg {q : XO} {es : List String} {v t : Int32} {b : XS → Int32} {W : XS → XS} (hR : RVX σ (σ.1 (.inr 10)) (σ.1 (.inr 9)) o ch n w)
    (hC : XMH l y cc nL hh rm P as σ (LW es (fun v9 τ => q = .inl none ∧ v9 = some (.int v) ∧ τ = σ1) (fun E τ => q = .inr E ∧ τ = σ)))
    (hM : ∀ τ : XS, τ = σ ∨ τ = uLong σ1 v.toInt64 → XF l y7 c7 n7 rt rm7 P (.ref (P.2.2.1 (.inr 9)) :: as7) (mW τ (σ.1 (.inr 10)) (σ.1 (.inr 9)) (σ.1 (.inr 18))) (some (.int (if t = 0 then b τ else 0))) (if t = 0 then W τ else mW τ (σ.1 (.inr 10)) (upd (σ.1 (.inr 9)) 7 t) (σ.1 (.inr 18))))
    (hes : kOf es (.inl none) = 0) (hk : kOf es q = t) (h9 : σ1.1 (.inr 9) = σ.1 (.inr 9)) (h10 : σ1.1 (.inr 10) = σ.1 (.inr 10)) (h18 : σ1.1 (.inr 18) = σ.1 (.inr 18))
    (hY : t = 0 → b (uLong σ1 v.toInt64) = v ∧ RV (W (uLong σ1 v.toInt64)) ∧ (W (uLong σ1 v.toInt64)).1 (.inr 9) 7 = 0 ∧ (W (uLong σ1 v.toInt64)).2 (.inr 19) 0 = v.toInt64) : XMH l y cc nL hh rm P as σ (PE l P y7 c7 n7 rt rm7 as7 (fun _ => True)) := by
  refine hC.mono (fun v9 τ hh => ?_)
  rcases hh with ⟨x, τ0, ⟨e1, e2, rfl⟩, rfl, rfl⟩ | ⟨E, ⟨e1, rfl⟩, rfl⟩
  · cases e2
    have t0 : t = 0 := by
      rw [← hk, e1]
      exact hes
    have h := hM _ (Or.inr rfl)
    rw [if_pos t0, if_pos t0] at h
    obtain ⟨b1, b2, b3, b4⟩ := hY t0
    rw [show mW (uLong τ0 v.toInt64) (σ.1 (.inr 10)) (σ.1 (.inr 9)) (σ.1 (.inr 18)) = uLong τ0 v.toInt64 from by rw [← h9, ← h10, ← h18]; exact (mW_id (uLong τ0 v.toInt64)).symm, b1] at h
    exact ⟨0, v, _, rfl, h, b2, b3, fun _ => b4, trivial⟩
  · have t0 : ¬ t = 0 := by rw [← hk, e1]; exact kOf_ne es E
    have h := hM _ (Or.inl rfl)
    rw [if_neg t0, if_neg t0, ← mW_id τ] at h
    refine ⟨t, 0, _, by rw [← hk, e1], h, (hR.f7 t).mw, ?_, fun q => absurd q t0, trivial⟩
    rw [mW_9, upd_at]
theorem rv_w {τ : XS} {S S1 F1 L : Nat → Int32} {o1 ch1 n1 w1 : Nat} {v : Int64} (h : RVX (mRw τ S ch) S1 (upd (upd F1 7 0) 6 (nI (mNx ch))) o1 ch1 n1 w1) : RV (mW (mRw (uLong τ v) S ch) S1 (upd (upd F1 7 0) 6 (nI (mNx ch))) L) ∧ (mW (mRw (uLong τ v) S ch) S1 (upd (upd F1 7 0) 6 (nI (mNx ch))) L).1 (.inr 9) 7 = 0 ∧ (mW (mRw (uLong τ v) S ch) S1 (upd (upd F1 7 0) 6 (nI (mNx ch))) L).2 (.inr 19) 0 = v := by
  refine ⟨(h.ul (v := v)).mw, ?_, ?_⟩
  · rw [mW_9, upd_ne (by decide), upd_at]
  · show (uLong τ v).2 (.inr 19) 0 = v
    exact uLong_0

set_option maxRecDepth 100000 in
set_option maxHeartbeats 4000000 in
theorem p_call (l : Launch) (hl0 : l.stackTraces = false) (P : XP) (hP : xAll P) (σ : XS) (hR : RV σ) (x y u : Int32) (hu : u = 0 ∨ u = 1) : XMH l yL_call cL_call 6 [(0, 12, 15, 19), (0, 12, 19, 13), (0, 12, 23, 21)] (rmL 4 rm_X6_call) P [.ref (P.2.2.1 (.inr 0)), .int x, .int y, .int u, .ref (P.2.2.1 (.inr 19))] σ (PE l P yX7_call cX7_call 4 (some .int) rm_X7_call [.int x, .int y, .int u] (fun _ => True)) := by
  obtain ⟨o, ch, n, w, hR⟩ := hR
  have k40 := hR.b.x.i.k40
  have hk : kOf [eIO, eIA, eIS] (oth (rqP σ x y) (rqR σ)) = mThC (σ.1 (.inr 10)) x y := by
    unfold rqP rqU rqR mThC
    rw [hR.b.nu, hR.b.nc]
    exact k_call k40
  have h9 : ¬ mThC (σ.1 (.inr 10)) x y = 9 := n9_3
  have hC := c_L_call l P σ hP.n0 hP.2.2.1 x y u (c_X6_call l hl0 P σ hP.1 hP.2.2.2 hR.bd o ch hR.hi (hR.z 0 (by decide)) x y u hu) (fun v τ hv => ⟨_, hv.2.1⟩) (fun E τ he => kOf_3 (by rw [← he.1, hk]; exact h9))
  refine pe_chg hR hC (fun τ hτ => c_X7_call l P τ (σ.1 (.inr 10)) (σ.1 (.inr 9)) (σ.1 (.inr 18)) hP.2.1 hR.b.x.i ch hR.c8 hR.h.2.1 x y u) rfl hk (uReq_in.trans (uPush_k (by decide))) (uReq_in.trans (uPush_k (by decide))) (uReq_in.trans (uPush_k (by decide))) (fun t0 => ?_)
  unfold mThC at t0
  by_cases g : xok x (mU (σ.1 (.inr 10))) ∧ xok y (mU (σ.1 (.inr 10)))
  · rw [if_pos g] at t0
    by_cases g3 : x = y
    · rw [if_pos g3] at t0; exact absurd t0 (by decide)
    · rw [if_neg g3] at t0
      by_cases g4 : mK (σ.1 (.inr 10)) = 40
      · rw [if_pos g4] at t0; exact absurd t0 (by decide)
      · have h := hR.call g.1 g.2 (by omega) hu
        rw [hR.b.nu, hR.b.nc, ub_id hu]
        exact ⟨rfl, rv_w h⟩
  · rw [if_neg g] at t0; exact absurd t0 (by decide)

set_option maxRecDepth 100000 in
set_option maxHeartbeats 4000000 in
theorem p_callTrunk (l : Launch) (hl0 : l.stackTraces = false) (P : XP) (hP : xAll P) (σ : XS) (hR : RV σ) (x y u : Int32) (hu : u = 0 ∨ u = 1) : XMH l yL_callTrunk cL_callTrunk 6 [(0, 12, 15, 19), (0, 12, 19, 21)] (rmL 4 rm_X6_callTrunk) P [.ref (P.2.2.1 (.inr 0)), .int x, .int y, .int u, .ref (P.2.2.1 (.inr 19))] σ (PE l P yX7_callTrunk cX7_callTrunk 4 (some .int) rm_X7_callTrunk [.int x, .int y, .int u] (fun _ => True)) := by
  obtain ⟨o, ch, n, w, hR⟩ := hR
  have k40 := hR.b.x.i.k40
  have hk : kOf [eIO, eIS] (oth (rqU σ x) (oth (rqT σ y) (rqR σ))) = mThT (σ.1 (.inr 10)) x y := by
    unfold rqU rqT rqR mThT
    rw [hR.b.nu, hR.b.nc, hR.b.nt]
    exact k_trk k40
  have h9 : ¬ mThT (σ.1 (.inr 10)) x y = 9 := n9_2b
  have hC := c_L_callTrunk l P σ hP.n0 hP.2.2.1 x y u (c_X6_callTrunk l hl0 P σ hP.1 hP.2.2.2 hR.bd o ch hR.hi (hR.z 0 (by decide)) x y u hu) (fun v τ hv => ⟨_, hv.2.1⟩) (fun E τ he => kOf_2 (by rw [← he.1, hk]; exact h9))
  refine pe_chg hR hC (fun τ hτ => c_X7_callTrunk l P τ (σ.1 (.inr 10)) (σ.1 (.inr 9)) (σ.1 (.inr 18)) hP.2.1 hR.b.x.i ch hR.c8 hR.h.2.1 x y u) rfl hk (uReq_in.trans (uPush_k (by decide))) (uReq_in.trans (uPush_k (by decide))) (uReq_in.trans (uPush_k (by decide))) (fun t0 => ?_)
  unfold mThT at t0
  by_cases g : xok x (mU (σ.1 (.inr 10))) ∧ xok y (mT (σ.1 (.inr 10)))
  · rw [if_pos g] at t0
    by_cases g4 : mK (σ.1 (.inr 10)) = 40
    · rw [if_pos g4] at t0; exact absurd t0 (by decide)
    · have h := hR.callT g.1 g.2 (by omega) hu
      rw [hR.b.nu, hR.b.nc, ub_id hu]
      exact ⟨rfl, rv_w h⟩
  · rw [if_neg g] at t0; exact absurd t0 (by decide)

theorem over_iff {b : Nat} {S : Nat → Int32} (h : RB σ b S) {x : Int32} (hx : xok x (mK S)) : (σ.1 (.inl (b, 9)) x.toNatClampNeg = 2 ∨ σ.1 (.inl (b, 9)) x.toNatClampNeg = 3) ↔ 2 ≤ sC S 4 (cN x) := by
  have hj := (xok_c hx (by have := h.x.i.k40; omega)).1
  rw [(h.c hj).1]
  rcases (h.x.c hj).1 with e | e | e | e
  · rw [e]; decide
  · rw [e]; decide
  · rw [e]; decide
  · rw [e]; decide
set_option maxRecDepth 100000 in
set_option maxHeartbeats 4000000 in
theorem p_end (l : Launch) (hl0 : l.stackTraces = false) (P : XP) (hP : xAll P) (σ : XS) (hR : RV σ) (x : Int32) : XMH l yL_end cL_end 4 [(0, 9, 12, 19), (0, 9, 15, 21)] (rmL 2 rm_X6_end) P [.ref (P.2.2.1 (.inr 0)), .int x, .ref (P.2.2.1 (.inr 19))] σ (PE l P yX7_end cX7_end 3 (some .int) rm_X7_end [.int x] (fun _ => True)) := by
  obtain ⟨o, ch, n, w, hR⟩ := hR
  have k40 := hR.b.x.i.k40
  have hk : kOf [eIO, eIS] (oth (rqC σ x) (rq (¬ (σ.1 (.inl (0, 9)) x.toNatClampNeg = 2 ∨ σ.1 (.inl (0, 9)) x.toNatClampNeg = 3)) eIS)) = mThE (σ.1 (.inr 10)) x := by
    unfold rqC mThE
    rw [hR.b.nc]
    rw [k_two (p1 := xok x (mK (σ.1 (.inr 10)))) (q1 := ¬ 2 ≤ sC (σ.1 (.inr 10)) 4 (cN x)) (by decide) Iff.rfl (fun hx => not_congr (over_iff hR.b hx))]
    by_cases g : xok x (mK (σ.1 (.inr 10)))
    · rw [if_pos g, if_pos g]
      by_cases g2 : 2 ≤ sC (σ.1 (.inr 10)) 4 (cN x)
      · rw [if_pos g2, if_neg (fun q => q g2)]
      · rw [if_neg g2, if_pos g2]
    · rw [if_neg g, if_neg g]
  have h9 : ¬ mThE (σ.1 (.inr 10)) x = 9 := n9_2b
  have hC := c_L_end l P σ hP.n0 hP.2.2.1 x (c_X6_end l hl0 P σ hP.1 hP.2.2.2 hR.bd o ch hR.hi (hR.z 0 (by decide)) x) (fun v τ hv => ⟨_, hv.2.1⟩) (fun E τ he => kOf_2 (by rw [← he.1, hk]; exact h9))
  refine pe_chg hR hC (fun τ hτ => c_X7_end l P τ (σ.1 (.inr 10)) (σ.1 (.inr 9)) (σ.1 (.inr 18)) hP.2.1 hR.b.x.i ch hR.c8 hR.h.2.1 x) rfl hk ((uFinB_o (by simp) (by simp) (by simp) (by simp) (by simp) (by simp)).trans (uPush_k (by decide))) ((uFinB_o (by simp) (by simp) (by simp) (by simp) (by simp) (by simp)).trans (uPush_k (by decide))) ((uFinB_o (by simp) (by simp) (by simp) (by simp) (by simp) (by simp)).trans (uPush_k (by decide))) (fun t0 => ?_)
  unfold mThE at t0
  by_cases g : xok x (mK (σ.1 (.inr 10)))
  · rw [if_pos g] at t0
    by_cases g4 : 2 ≤ sC (σ.1 (.inr 10)) 4 (cN x)
    · rw [if_pos g4] at t0; exact absurd t0 (by decide)
    · obtain ⟨h, e⟩ := hR.end_ (xok_c g (by omega)).1 g4
      rw [hR.b.nu, hR.b.nc, hR.b.nt]
      exact ⟨e.symm, rv_w h⟩
  · rw [if_neg g] at t0; exact absurd t0 (by decide)

set_option maxRecDepth 100000 in
set_option maxHeartbeats 4000000 in
theorem p_waitFor (l : Launch) (hl0 : l.stackTraces = false) (P : XP) (hP : xAll P) (σ : XS) (hR : RV σ) (x : Int32) : XMH l yL_waitFor cL_waitFor 4 [(0, 9, 12, 13), (0, 9, 15, 21)] (rmL 2 rm_X6_waitFor) P [.ref (P.2.2.1 (.inr 0)), .int x, .ref (P.2.2.1 (.inr 19))] σ (PE l P yX7_waitFor cX7_waitFor 3 (some .int) rm_X7_waitFor [.int x] (fun _ => True)) := by
  obtain ⟨o, ch, n, w, hR⟩ := hR
  have k40 := hR.b.x.i.k40
  have hk : kOf [eIA, eIS] (oth (rq (¬ x < 1 ∧ x ≤ 9999) eIA) (rq (σ.1 (.inl (0, 0)) 3 + x ≤ 999999) eIS)) = mThW (σ.1 (.inr 10)) x := by
    unfold mThW
    rw [hR.b.s.1]
    exact k_two (by decide) (and_congr_left (fun _ => Int32.not_lt)) (fun _ => Iff.rfl)
  have h9 : ¬ mThW (σ.1 (.inr 10)) x = 9 := n9_2
  have hC := c_L_waitFor l P σ hP.n0 hP.2.2.1 x (c_X6_waitFor l hl0 P σ hP.1 hP.2.2.2 hR.bd o ch hR.hi (hR.z 0 (by decide)) x) (fun v τ hv => ⟨_, hv.2.1⟩) (fun E τ he => kOf_2 (by rw [← he.1, hk]; exact h9))
  refine pe_chg hR hC (fun τ hτ => c_X7_waitFor l P τ (σ.1 (.inr 10)) (σ.1 (.inr 9)) (σ.1 (.inr 18)) hP.2.1 ch hR.c8 hR.h.2.1 x) rfl hk ((xu_ne _ _ _ (by simp)).trans (uPush_k (by decide))) ((xu_ne _ _ _ (by simp)).trans (uPush_k (by decide))) ((xu_ne _ _ _ (by simp)).trans (uPush_k (by decide))) (fun t0 => ?_)
  rw [hR.b.s.1]
  exact ⟨rfl, rv_w hR.wait⟩

set_option maxRecDepth 100000 in
set_option maxHeartbeats 4000000 in
theorem p_setCuriosity (l : Launch) (hl0 : l.stackTraces = false) (P : XP) (hP : xAll P) (σ : XS) (hR : RV σ) (x y : Int32) : XMH l yL_setCuriosity cL_setCuriosity 5 [(0, 10, 13, 19), (0, 10, 17, 13)] (rmL 4 rm_X6_setCuriosity) P [.ref (P.2.2.1 (.inr 0)), .int x, .int y, .ref (P.2.2.1 (.inr 19))] σ (PE l P yX7_setCuriosity cX7_setCuriosity 3 (some .int) rm_X7_setCuriosity [.int x, .int y] (fun _ => True)) := by
  obtain ⟨o, ch, n, w, hR⟩ := hR
  have k40 := hR.b.x.i.k40
  have hk : kOf [eIO, eIA] (oth (rqU σ x) (rq (¬ y < 0 ∧ y ≤ 9) eIA)) = mThM (σ.1 (.inr 10)) x y := by
    unfold mThM rqU
    rw [hR.b.nu]
    exact k_two (by decide) Iff.rfl (fun _ => and_congr_left (fun _ => Int32.not_lt))
  have h9 : ¬ mThM (σ.1 (.inr 10)) x y = 9 := n9_2
  have hC := c_L_setCuriosity l P σ hP.n0 hP.2.2.1 x y (c_X6_setCuriosity l hl0 P σ hP.1 hP.2.2.2 hR.bd o ch hR.hi (hR.z 0 (by decide)) x y) (fun v τ hv => ⟨_, hv.2.1⟩) (fun E τ he => kOf_2 (by rw [← he.1, hk]; exact h9))
  refine pe_chg hR hC (fun τ hτ => c_X7_setCuriosity l P τ (σ.1 (.inr 10)) (σ.1 (.inr 9)) (σ.1 (.inr 18)) hP.2.1 hR.b.x.i ch hR.c8 hR.h.2.1 x y) rfl hk ((xu_ne _ _ _ (by simp)).trans (uPush_k (by decide))) ((xu_ne _ _ _ (by simp)).trans (uPush_k (by decide))) ((xu_ne _ _ _ (by simp)).trans (uPush_k (by decide))) (fun t0 => ?_)
  unfold mThM at t0
  by_cases g : xok x (mU (σ.1 (.inr 10)))
  · exact ⟨(q_user hR.b g).2.2.1.symm, rv_w (hR.mood g)⟩
  · rw [if_neg g] at t0; exact absurd t0 (by decide)

set_option maxRecDepth 100000 in
set_option maxHeartbeats 4000000 in
theorem p_undo (l : Launch) (hl0 : l.stackTraces = false) (P : XP) (hP : xAll P) (σ : XS) (hR : RV σ) : XMH l yL_undo cL_undo 3 [(0, 8, 11, 21)] (rmL 1 rm_X6_undo) P [.ref (P.2.2.1 (.inr 0)), .ref (P.2.2.1 (.inr 19))] σ (PE l P yX7_undo cX7_undo 1 (some .int) rm_X7_undo [] (fun _ => True)) := by
  obtain ⟨o, ch, n, w, hR⟩ := hR
  have k40 := hR.b.x.i.k40
  have hk : kOf [eIS] (rq (0 < ch) eIS) = (if ch = 0 then (1 : Int32) else 0) := by
    rw [k_one (p1 := 0 < ch) Iff.rfl]
    by_cases g : ch = 0
    · rw [if_pos g, if_neg (by omega)]
    · rw [if_neg g, if_pos (by omega)]
  have h9 : ¬ (if ch = 0 then (1 : Int32) else 0) = 9 := n9_1b
  have hC := c_L_undo l P σ hP.n0 hP.2.2.1  (c_X6_undo l hl0 P σ hP.1 hP.2.2.2 hR.bd o ch hR.hi hR.z) (fun v τ hv => ⟨_, hv.2.1⟩) (fun E τ he => kOf_1 (by rw [← he.1, hk]; exact h9))
  refine pe_chg hR hC (fun τ hτ => c_X7_undo l P τ (σ.1 (.inr 10)) (σ.1 (.inr 9)) (σ.1 (.inr 18)) hP.2.1 ch hR.c8 hR.h.2.1) rfl hk (uPop_k (by decide)) (uPop_k (by decide)) (uPop_k (by decide)) (fun t0 => ?_)
  have hp : 0 < ch := by
    by_cases g : ch = 0
    · rw [if_pos g] at t0; exact absurd t0 (by decide)
    · omega
  have h := hR.undo hp
  have e12 : (uLong (uPop σ o ch) (nI (ch - 1)).toInt64).1 (.inr 12) = σ.1 (.inr 12) := by
    rw [uLong_1]
    exact uPop_k (by decide)
  rw [e12]
  refine ⟨rfl, (h.ul (v := (nI (ch - 1)).toInt64)).mw, ?_, ?_⟩
  · rw [mW_9, upd_ne (by decide), upd_at]
  · show (uLong (uPop σ o ch) _).2 (.inr 19) 0 = _
    exact uLong_0

set_option maxRecDepth 100000 in
set_option maxHeartbeats 4000000 in
theorem p_save (l : Launch) (hl0 : l.stackTraces = false) (P : XP) (hP : xAll P) (σ : XS) (hR : RV σ) (x : Int32) : XMH l yL_save cL_save 4 [(0, 9, 12, 13)] (rmL 2 rm_X6_save) P [.ref (P.2.2.1 (.inr 0)), .int x, .ref (P.2.2.1 (.inr 19))] σ (PE l P yX7_save cX7_save 2 (some .int) rm_X7_save [.int x] (fun _ => True)) := by
  obtain ⟨o, ch, n, w, hR⟩ := hR
  have k40 := hR.b.x.i.k40
  have hk : kOf [eIA] (rqS x) = (if xok x 2 then (0 : Int32) else 1) := by
    unfold rqS
    exact k_one Iff.rfl
  have h9 : ¬ (if xok x 2 then (0 : Int32) else 1) = 9 := n9_1
  have hC := c_L_save l P σ hP.n0 hP.2.2.1 x (c_X6_save l hl0 P σ hP.1 hP.2.2.2 hR.bd (hR.z 0 (by decide)) x) (fun v τ hv => ⟨_, hv.2.1⟩) (fun E τ he => kOf_1 (by rw [← he.1, hk]; exact h9))
  refine pe_chg hR hC (fun τ hτ => c_X7_save l P τ (σ.1 (.inr 10)) (σ.1 (.inr 9)) (σ.1 (.inr 18)) hP.2.1 x) rfl hk ((xu_ne _ _ _ (by simp)).trans uCp_k) ((xu_ne _ _ _ (by simp)).trans uCp_k) ((xu_ne _ _ _ (by simp)).trans uCp_k) (fun t0 => ?_)
  have hx : xok x 2 := by
    by_cases g : xok x 2
    · exact g
    · rw [if_neg g] at t0; exact absurd t0 (by decide)
  have h := hR.save (xok_c hx (by omega)).1 rfl
  refine ⟨hR.b.s.1.symm, (h.ul (v := (σ.1 (.inl (0, 0)) 3).toInt64)).mw, ?_, ?_⟩
  · rw [mW_9, upd_at]
  · exact uLong_0 (σ := xu (uCopyB σ (10 + cN x) 0) (.inr 7) (cN x) 1)

set_option maxRecDepth 100000 in
set_option maxHeartbeats 4000000 in
theorem p_restore (l : Launch) (hl0 : l.stackTraces = false) (P : XP) (hP : xAll P) (σ : XS) (hR : RV σ) (x : Int32) : XMH l yL_restore cL_restore 4 [(0, 9, 12, 13), (0, 9, 15, 21)] (rmL 2 rm_X6_restore) P [.ref (P.2.2.1 (.inr 0)), .int x, .ref (P.2.2.1 (.inr 19))] σ (PE l P yX7_restore cX7_restore 3 (some .int) rm_X7_restore [.int x] (fun _ => True)) := by
  obtain ⟨o, ch, n, w, hR⟩ := hR
  have k40 := hR.b.x.i.k40
  have hk : kOf [eIA, eIS] (oth (rqS x) (rq (¬ σ.1 (.inr 7) x.toNatClampNeg = 0) eIS)) = mThR σ x := by
    unfold rqS mThR
    rw [k_two (p1 := xok x 2) (q1 := ¬ σ.1 (.inr 15) (cN x) = 0) (by decide) Iff.rfl (fun hx => not_congr (by rw [(hR.s _ (xok_c hx (by omega)).1).1]))]
    by_cases g : xok x 2
    · rw [if_pos g, if_pos g]
      by_cases g2 : σ.1 (.inr 15) (cN x) = 0
      · rw [if_pos g2, if_neg (fun q => q g2)]
      · rw [if_neg g2, if_pos g2]
    · rw [if_neg g, if_neg g]
  have h9 : ¬ mThR σ x = 9 := n9_2b
  have hC := c_L_restore l P σ hP.n0 hP.2.2.1 x (c_X6_restore l hl0 P σ hP.1 hP.2.2.2 hR.bd o ch hR.hi hR.z x) (fun v τ hv => ⟨_, hv.2.1⟩) (fun E τ he => kOf_2 (by rw [← he.1, hk]; exact h9))
  have hX : ∀ (hs : cN x < 2) (hq : ¬ σ.1 (.inr 7) (cN x) = 0), RVX (mRw (uCopyB (uPush σ o ch) 0 (10 + x.toNatClampNeg)) (σ.1 (.inr 10)) ch) (va_cpy (σ.1 (.inr 13)) (σ.1 (.inr 10)) (cN x * 550) 0 550) (upd (upd (σ.1 (.inr 9)) 7 0) 6 (nI (mNx ch))) (oNx o ch) (mNx ch) n w := fun hs hq => hR.restore hs hq
  have eU : ∀ k, k ≠ 4 → (uCopyB (uPush σ o ch) 0 (10 + x.toNatClampNeg)).1 (.inr k) = σ.1 (.inr k) := fun k hk => by rw [uCp_k]; exact uPush_k hk
  generalize uCopyB (uPush σ o ch) 0 (10 + x.toNatClampNeg) = U at hC hX eU
  have hM : ∀ τ : XS, τ = σ ∨ τ = uLong U (U.1 (.inl (0, 0)) 3).toInt64 → mThR τ x = mThR σ x := fun τ hτ => by
    unfold mThR
    rcases hτ with rfl | rfl
    · rfl
    · rw [uLong_1, eU 15 (by decide)]
  refine pe_chg hR hC (fun τ hτ => by have h := c_X7_restore l P τ (σ.1 (.inr 10)) (σ.1 (.inr 9)) (σ.1 (.inr 18)) hP.2.1 ch hR.c8 hR.h.2.1 x; rw [hM τ hτ] at h; exact h) rfl hk (eU _ (by decide)) (eU _ (by decide)) (eU _ (by decide)) (fun t0 => ?_)
  unfold mThR at t0
  by_cases g : xok x 2
  · rw [if_pos g] at t0
    have hs := (xok_c g (by omega)).1
    by_cases g2 : σ.1 (.inr 15) (cN x) = 0
    · rw [if_pos g2] at t0; exact absurd t0 (by decide)
    · have h := hX hs (by rw [(hR.s _ hs).1]; exact g2)
      have e13 : (uLong U (U.1 (.inl (0, 0)) 3).toInt64).1 (.inr 13) = σ.1 (.inr 13) := by rw [uLong_1]; exact eU 13 (by decide)
      rw [e13]
      have e := h.b.s.1
      rw [mRw_i (by simp)] at e
      exact ⟨e.symm, rv_w h⟩
  · rw [if_neg g] at t0; exact absurd t0 (by decide)

theorem xok_le {x : Int32} {n : Nat} (hn : n ≤ 1000) : xok x (n + 1) ↔ 0 ≤ x ∧ x ≤ nI n := by
  constructor
  · intro h
    obtain ⟨j, hj, rfl⟩ := xok_of h (by omega)
    exact ⟨Int32.not_lt.mp (fun q => xok_neg q h), (nI_leI (n31 (by omega)) (n31 (by omega))).mpr (by omega)⟩
  · intro h
    refine xok_yes (Int32.not_lt.mpr h.1) (fun q => ?_) (by omega)
    have q2 := nle (Int32.le_trans q h.2) (by omega) (by omega)
    omega
set_option maxRecDepth 100000 in
set_option maxHeartbeats 4000000 in
theorem p_truncateInput (l : Launch) (hl0 : l.stackTraces = false) (P : XP) (hP : xAll P) (σ : XS) (hR : RV σ) (x : Int32) : XMH l yL_truncateInput cL_truncateInput 4 [(0, 9, 12, 13)] (rmL 2 rm_X6_truncateInput) P [.ref (P.2.2.1 (.inr 0)), .int x, .ref (P.2.2.1 (.inr 19))] σ (PE l P yX7_truncateInput cX7_truncateInput 2 (some .int) rm_X7_truncateInput [.int x] (fun _ => True)) := by
  obtain ⟨o, ch, n, w, hR⟩ := hR
  have k40 := hR.b.x.i.k40
  have hk : kOf [eIA] (rq (xok x (n + 1)) eIA) = (if 0 ≤ x ∧ x ≤ (σ.1 (.inr 9)) 10 then (0 : Int32) else 1) := by
    rw [hR.t.2.1]
    exact k_one (xok_le (by have := hR.t.1.2.1; omega))
  have h9 : ¬ (if 0 ≤ x ∧ x ≤ (σ.1 (.inr 9)) 10 then (0 : Int32) else 1) = 9 := n9_1
  have hC := c_L_truncateInput l P σ hP.n0 hP.2.2.1 x (c_X6_truncateInput l hl0 P σ hP.1 hP.2.2.2 hR.bd n hR.t.1 x) (fun v τ hv => ⟨_, hv.2.1⟩) (fun E τ he => kOf_1 (by rw [← he.1, hk]; exact h9))
  refine pe_chg hR hC (fun τ hτ => c_X7_truncateInput l P τ (σ.1 (.inr 10)) (σ.1 (.inr 9)) (σ.1 (.inr 18)) hP.2.1 x) rfl hk (xu_ne _ _ _ (by simp)) (xu_ne _ _ _ (by simp)) (xu_ne _ _ _ (by simp)) (fun t0 => ?_)
  have hn7 := hR.t.1.2.1
  have hx : xok x (n + 1) := by
    by_cases g : 0 ≤ x ∧ x ≤ (σ.1 (.inr 9)) 10
    · rw [hR.t.2.1] at g; exact (xok_le (by omega)).mpr g
    · rw [if_neg g] at t0; exact absurd t0 (by decide)
  obtain ⟨hj, ex⟩ := xok_c hx (by omega)
  have h : RVX (xu σ (.inr 2) 1 (nI (cN x))) _ (upd (upd (σ.1 (.inr 9)) 7 0) 10 x) o ch (cN x) w := hR.cut (by omega) (by rw [upd_ne (by decide), upd_ne (by decide)]) (by rw [upd_ne (by decide), upd_ne (by decide)]) (by rw [upd_ne (by decide), upd_ne (by decide)]) (by rw [upd_ne (by decide), upd_ne (by decide)]) (by rw [upd_at]; exact ex)
  rw [← ex] at h
  refine ⟨rfl, (h.ul (v := x.toInt64)).mw, ?_, ?_⟩
  · rw [mW_9, upd_ne (by decide), upd_at]
  · exact uLong_0 (σ := xu σ (.inr 2) 1 x)

set_option maxRecDepth 100000 in
set_option maxHeartbeats 4000000 in
theorem p_startsIfEnded (l : Launch) (hl0 : l.stackTraces = false) (P : XP) (hP : xAll P) (σ : XS) (hR : RV σ) (x : Int32) : XMH l yL_startsIfEnded cL_startsIfEnded 4 [(0, 9, 12, 19)] (rmL 2 rm_X6_startsIfEnded) P [.ref (P.2.2.1 (.inr 0)), .int x, .ref (P.2.2.1 (.inr 19))] σ (PE l P yX7_startsIfEnded cX7_startsIfEnded 3 (some .int) rm_X7_startsIfEnded [.int x] (fun _ => True)) := by
  obtain ⟨o, ch, n, w, hR⟩ := hR
  have k40 := hR.b.x.i.k40
  have hC := c_L_startsIfEnded l P σ hP.n0 hP.2.2.1 x (c_X6_startsIfEnded l hl0 P σ hP.1 hP.2.2.2 hR.bd (hR.z 0 (by decide)) x) (fun v τ hv => by
    rw [hv.2.1]
    by_cases g : σ.1 (.inl (0, 9)) x.toNatClampNeg = 2 ∨ σ.1 (.inl (0, 9)) x.toNatClampNeg = 3
    · rw [if_pos g]; exact ⟨_, rfl⟩
    · rw [if_neg g]; exact ⟨_, rfl⟩) (fun E τ he => by
    have h := he.1
    unfold rqC at h
    by_cases g : xok x (ncN σ 0)
    · rw [rq_t g] at h; cases h
    · rw [rq_f g] at h; exact (Sum.inr.inj h).symm)
  refine hC.mono (fun v9 τ hh => ?_)
  rw [hR.b.nc] at hh
  unfold rqC at hh
  rw [hR.b.nc, hR.b.nu, hR.b.nt] at hh
  have hM := fun τ : XS => c_X7_startsIfEnded l P τ (σ.1 (.inr 10)) (σ.1 (.inr 9)) (σ.1 (.inr 18)) hP.2.1 hR.b.x.i x
  by_cases g : xok x (mK (σ.1 (.inr 10)))
  · rw [rq_t g] at hh
    have hj := (xok_c g (by omega)).1
    by_cases g2 : 2 ≤ sC (σ.1 (.inr 10)) 4 (cN x)
    · rw [if_pos ((over_iff hR.b g).mpr g2), if_pos ((over_iff hR.b g).mpr g2)] at hh
      rcases hh with ⟨x0, τ0, ⟨-, e2, rfl⟩, rfl, rfl⟩ | ⟨E, ⟨e1, -⟩, -⟩
      · cases e2
        have h := hM (uLong τ0 (0 : Int32).toInt64)
        rw [if_neg (fun q => q.2 g2), if_neg (fun q => q.2 g2), if_pos g, show mW (uLong τ0 (0 : Int32).toInt64) (τ0.1 (.inr 10)) (τ0.1 (.inr 9)) (τ0.1 (.inr 18)) = uLong τ0 (0 : Int32).toInt64 from (mW_id _).symm] at h
        refine ⟨0, 0, _, rfl, h, (hR.ul.f7 0).mw, ?_, fun _ => ?_, trivial⟩
        · rw [mW_9, upd_at]
        · rw [mW_l]; exact uLong_0
      · cases e1
    · rw [if_neg (fun q => g2 ((over_iff hR.b g).mp q)), if_neg (fun q => g2 ((over_iff hR.b g).mp q))] at hh
      obtain ⟨hf, e⟩ := hR.fore hj g2
      rcases hh with ⟨x0, τ0, ⟨-, e2, rfl⟩, rfl, rfl⟩ | ⟨E, ⟨e1, -⟩, -⟩
      · have e3 := e2.trans (congrArg (fun z => some (Value.int z)) e)
        cases e3
        generalize hT : (uFinB (uCopyB σ 1 0) 1 (mU (σ.1 (.inr 10))) (mK (σ.1 (.inr 10))) (mT (σ.1 (.inr 10))) (cN x)).1 = T at hf ⊢
        generalize hv : nI (mFin (σ.1 (.inr 10)) (cN x)).2 = v at hM ⊢
        have h := hM (uLong T v.toInt64)
        rw [if_pos ⟨g, g2⟩, if_pos ⟨g, g2⟩, show mW (uLong T v.toInt64) (σ.1 (.inr 10)) (σ.1 (.inr 9)) (σ.1 (.inr 18)) = uLong T v.toInt64 from by rw [← hf.inr 10, ← hf.inr 9, ← hf.inr 18]; exact (mW_id _).symm] at h
        have h2 := (((hR.b1 hf).f7 0).cell (k := 11) (Or.inl rfl) (f := va_cpy (σ.1 (.inr 10)) (T.1 (.inr 11)) 0 0 550)).rowB (S1 := va_cpy (va_cpy (σ.1 (.inr 10)) (T.1 (.inr 11)) 0 0 550) (mFin (σ.1 (.inr 10)) (cN x)).1 0 0 550) (fun k hk => by rw [cpy0 hk, cpy0 hk])
        refine ⟨0, v, _, rfl, h, (h2.ul (v := v.toInt64)).mw, ?_, fun _ => ?_, trivial⟩
        · rw [mW_9, upd_at]
        · show (uLong T _).2 (.inr 19) 0 = _
          exact uLong_0
      · cases e1
  · rw [rq_f g] at hh
    rcases hh with ⟨x0, τ0, ⟨e1, -⟩, -⟩ | ⟨E, ⟨e1, rfl⟩, rfl⟩
    · cases e1
    · cases e1
      have h := hM τ
      rw [if_neg (fun q => g q.1), if_neg (fun q => g q.1), if_neg g, ← mW_id τ] at h
      refine ⟨1, 0, _, rfl, h, (hR.f7 1).mw, ?_, fun q => absurd q (by decide), trivial⟩
      rw [mW_9, upd_at]

set_option maxRecDepth 100000 in
set_option maxHeartbeats 4000000 in
theorem p_listenersBetween (l : Launch) (hl0 : l.stackTraces = false) (P : XP) (hP : xAll P) (σ : XS) (hR : RV σ) (x y : Int32) : XMH l yL_listenersBetween cL_listenersBetween 5 [(0, 10, 13, 19), (0, 10, 17, 13)] (rmL 3 rm_X6_listenersBetween) P [.ref (P.2.2.1 (.inr 0)), .int x, .int y, .ref (P.2.2.1 (.inr 19))] σ (PE l P yX7_listenersBetween cX7_listenersBetween 3 (some .int) rm_X7_listenersBetween [.int x, .int y] (fun _ => True)) := by
  obtain ⟨o, ch, n, w, hR⟩ := hR
  have k40 := hR.b.x.i.k40
  have hk : ∀ w, kOf [eIO, eIA] (oth (rqP σ x y) (.inl w)) = mTh (σ.1 (.inr 10)) x y := fun w => by
    unfold rqP rqU mTh
    rw [hR.b.nu, k_pair]
    by_cases g : xok x (mU (σ.1 (.inr 10))) ∧ xok y (mU (σ.1 (.inr 10)))
    · rw [if_pos g, if_pos g]
      by_cases g3 : x = y
      · rw [if_pos g3, if_pos g3]; rfl
      · rw [if_neg g3, if_neg g3]; rfl
    · rw [if_neg g, if_neg g]; rfl
  have hv0 : ∀ w v, oth (rqP σ x y) (.inl w) = .inl v → xok x (mU (σ.1 (.inr 10))) ∧ xok y (mU (σ.1 (.inr 10))) ∧ v = w := fun w v h => by
    unfold rqP rqU at h
    rw [hR.b.nu, k_pair] at h
    by_cases g : xok x (mU (σ.1 (.inr 10))) ∧ xok y (mU (σ.1 (.inr 10)))
    · rw [if_pos g] at h
      by_cases g3 : x = y
      · rw [if_pos g3] at h; cases h
      · rw [if_neg g3] at h; exact ⟨g.1, g.2, (Sum.inl.inj h).symm⟩
    · rw [if_neg g] at h; cases h
  have h9 : ¬ mTh (σ.1 (.inr 10)) x y = 9 := n9_2b
  have hC := c_L_listenersBetween l P σ hP.n0 hP.2.2.1 x y (c_X6_listenersBetween l hl0 P σ hP.1 hP.2.2.2 hR.bd x y) (fun v τ hv => ⟨_, (hv0 _ _ hv.1).2.2⟩) (fun E τ he => kOf_2 (by rw [← he.1, hk]; exact h9))
  refine hC.mono (fun v9 τ hh => ?_)
  have hM := fun τ : XS => c_X7_listenersBetween l P τ (σ.1 (.inr 10)) (σ.1 (.inr 9)) (σ.1 (.inr 18)) hP.2.1 hR.b.x.i x y
  rcases hh with ⟨x0, τ0, ⟨e1, rfl⟩, rfl, rfl⟩ | ⟨E, ⟨e1, rfl⟩, rfl⟩
  · have t0 : mTh (τ0.1 (.inr 10)) x y = 0 := by rw [← hk, e1]; rfl
    obtain ⟨gx, gy, e2⟩ := hv0 _ _ e1
    rw [hR.b.nu, q_betw hR.b gx gy] at e2
    cases e2
    have h := hM (uLong τ0 (mEars (τ0.1 (.inr 10)) x y).toInt64)
    rw [if_pos t0, t0, show mW (uLong τ0 (mEars (τ0.1 (.inr 10)) x y).toInt64) (τ0.1 (.inr 10)) (τ0.1 (.inr 9)) (τ0.1 (.inr 18)) = uLong τ0 (mEars (τ0.1 (.inr 10)) x y).toInt64 from (mW_id _).symm] at h
    refine ⟨0, _, _, rfl, h, (hR.ul.f7 0).mw, ?_, fun _ => ?_, trivial⟩
    · rw [mW_9, upd_at]
    · rw [mW_l]; exact uLong_0
  · have t1 := hk (some (.int (xbetw (τ.1 (.inl (0, 3))) (τ.1 (.inl (0, 5))) (nuN τ 0) x y)))
    rw [e1] at t1
    have h := hM τ
    rw [← mW_id τ] at h
    refine ⟨_, _, _, by rw [t1], h, (hR.f7 _).mw, ?_, fun q => absurd (t1.trans q) (kOf_ne _ _), trivial⟩
    rw [mW_9, upd_at]

end XP72

/-! THE LAW'S CHANGES, TOLD BY THE ROW -/
section X82
variable {S : Nat → Int32} {o ch T : Nat}
theorem xk_u {σ : XS} (h : GV σ S o ch) {u : Nat} (hu : u < mU S) : xok (nI u) (nuN σ 0) := by rw [h.b.nu]; exact xok_nI hu (by have := h.b.x.i.u15; omega)
theorem xk_c {σ : XS} (h : GV σ S o ch) {u : Nat} (hu : u < mK S) : xok (nI u) (ncN σ 0) := by rw [h.b.nc]; exact xok_nI hu (by have := h.b.x.i.k40; omega)
theorem xk_t {σ : XS} (h : GV σ S o ch) {u : Nat} (hu : u < mT S) : xok (nI u) (ntN σ 0) := by rw [h.b.nt]; exact xok_nI hu (by have := h.b.x.i.t4; omega)
theorem xk_0 {x : Int32} : ¬ xok x 0 := fun q => by have h1 := q.1; have h2 := q.2; omega
theorem b_call (l : Launch) (hl0 : l.stackTraces = false) (P : XP) (hP : XA P) (σ : XS) (h : GV σ S o ch) {u v : Nat} (hu : u < mU S) (hv : v < mU S) {ur : Int32} (hur : ur = 0 ∨ ur = 1) : XMH l yL_call cL_call 5 [(0, 7, 8, 19), (0, 7, 13, 13), (0, 7, 18, 21)] (rmL 4 rm_X6_call) P [.ref (P.2.2.1 (.inr 0)), .int (nI u), .int (nI v), .int ur] σ (fun w τ => (u = v → w = some (.int (-18)) ∧ τ = σ) ∧ (¬ u = v → (mK S = 40 → w = some (.int (-19)) ∧ τ = σ) ∧ (mK S < 40 → w = some (.int (nI (mK S))) ∧ GV τ (mReq S (nI u) (nI v) (-1) ur) (oNx o ch) (mNx ch)))) := by
  have u15 := h.b.x.i.u15
  have cu := xk_u h hu
  have cv := xk_u h hv
  have hnn : ¬ u = v → ¬ nI u = nI v := fun ne z => ne ((nI_eq (n31 (by omega)) (n31 (by omega))).mp z)
  refine (c_L_call l P σ hP.n0 _ _ _ (c_X6_call l hl0 P σ hP.1 hP.2 h.b.bd o ch h.h (h.z 0 (by decide)) (nI u) (nI v) ur hur) (fun v9 τ q => ⟨_, q.2.1⟩) (fun E τ he => ?_)).mono (fun w τ q => ⟨fun e => ?_, fun ne => ⟨fun hk => ?_, fun hk => ?_⟩⟩)
  · rcases oth_or he.1 with q | q
    · unfold rqP rqU at q
      rcases oth_or q with q | q
      · exact Or.inl (rq_e q)
      · rcases oth_or q with q | q
        · exact Or.inl (rq_e q)
        · exact Or.inr (Or.inl (rq_e q))
    · exact Or.inr (Or.inr (rq_e q))
  · have := LW_e (E := eIA) (by unfold rqP rqU; rw [rq_ty cu, rq_ty cv, rq_tn (fun z => z (congrArg nI e))]) q
    rw [eN_IA] at this
    exact this
  · have := LW_e (E := eIS) (by
      unfold rqP rqU rqR
      rw [rq_ty cu, rq_ty cv, rq_ty (hnn ne), rq_f (by rw [h.b.nc]; omega)]) q
    rw [eN_IS] at this
    exact this
  · obtain ⟨e1, e2⟩ := LW_v (a := nI (mK S)) (by
      unfold rqP rqU rqR
      rw [rq_ty cu, rq_ty cv, rq_ty (hnn ne), rq_t (by rw [h.b.nc]; omega)]) (by rw [h.b.nc]) q
    refine ⟨e1, ?_⟩
    rw [e2, h.b.nu, h.b.nc]
    exact h.call (xok_nI hu (by omega)) (xok_nI hv (by omega)) hk hur
theorem b_callTrunk (l : Launch) (hl0 : l.stackTraces = false) (P : XP) (hP : XA P) (σ : XS) (h : GV σ S o ch) {u t : Nat} (hu : u < mU S) {ur : Int32} (hur : ur = 0 ∨ ur = 1) : XMH l yL_callTrunk cL_callTrunk 5 [(0, 7, 8, 19), (0, 7, 13, 21)] (rmL 4 rm_X6_callTrunk) P [.ref (P.2.2.1 (.inr 0)), .int (nI u), .int (nI t), .int ur] σ (fun w τ => (mT S = 0 → w = some (.int (-17)) ∧ τ = σ) ∧ (t < mT S → (mK S = 40 → w = some (.int (-19)) ∧ τ = σ) ∧ (mK S < 40 → w = some (.int (nI (mK S))) ∧ GV τ (mReq S (nI u) (-1) (nI t) ur) (oNx o ch) (mNx ch)))) := by
  have u15 := h.b.x.i.u15
  have cu := xk_u h hu
  refine (c_L_callTrunk l P σ hP.n0 _ _ _ (c_X6_callTrunk l hl0 P σ hP.1 hP.2 h.b.bd o ch h.h (h.z 0 (by decide)) (nI u) (nI t) ur hur) (fun v9 τ q => ⟨_, q.2.1⟩) (fun E τ he => ?_)).mono (fun w τ q => ⟨fun e => ?_, fun ht => ⟨fun hk => ?_, fun hk => ?_⟩⟩)
  · unfold rqU rqT rqR at he
    rcases oth_or he.1 with q | q
    · exact Or.inl (rq_e q)
    · rcases oth_or q with q | q
      · exact Or.inl (rq_e q)
      · exact Or.inr (rq_e q)
  · have := LW_e (E := eIO) (by unfold rqU rqT; rw [rq_ty cu, rq_tn (by rw [h.b.nt, e]; exact xk_0)]) q
    rw [eN_IO] at this
    exact this
  · have := LW_e (E := eIS) (by unfold rqU rqT rqR; rw [rq_ty cu, rq_ty (xk_t h ht), rq_f (by rw [h.b.nc]; omega)]) q
    rw [eN_IS] at this
    exact this
  · obtain ⟨e1, e2⟩ := LW_v (a := nI (mK S)) (by unfold rqU rqT rqR; rw [rq_ty cu, rq_ty (xk_t h ht), rq_t (by rw [h.b.nc]; omega)]) (by rw [h.b.nc]) q
    refine ⟨e1, ?_⟩
    rw [e2, h.b.nu, h.b.nc]
    exact h.callT (xok_nI hu (by omega)) (xok_nI ht (by have := h.b.x.i.t4; omega)) hk hur
theorem b_end (l : Launch) (hl0 : l.stackTraces = false) (P : XP) (hP : XA P) (σ : XS) (h : GV σ S o ch) (c : Nat) (hc40 : c ≤ 40) : XMH l yL_end cL_end 3 [(0, 5, 6, 19), (0, 5, 10, 21)] (rmL 2 rm_X6_end) P [.ref (P.2.2.1 (.inr 0)), .int (nI c)] σ (fun w τ => (mK S = 0 → w = some (.int (-17)) ∧ τ = σ) ∧ (c < mK S → (sC S 4 c = 2 ∨ sC S 4 c = 3 → w = some (.int (-19)) ∧ τ = σ) ∧ (sC S 4 c = 0 ∨ sC S 4 c = 1 → w = some (.int (nI (mFin S c).2)) ∧ GV τ (mFin S c).1 (oNx o ch) (mNx ch)))) := by
  have hcl : (nI c).toNatClampNeg = c := cNn (by omega)
  refine (c_L_end l P σ hP.n0 _ (c_X6_end l hl0 P σ hP.1 hP.2 h.b.bd o ch h.h (h.z 0 (by decide)) (nI c)) (fun v9 τ q => ⟨_, q.2.1⟩) (fun E τ he => ?_)).mono (fun w τ q => ⟨fun e => ?_, fun hc => ⟨fun g => ?_, fun g => ?_⟩⟩)
  · unfold rqC at he
    rcases oth_or he.1 with q | q
    · exact Or.inl (rq_e q)
    · exact Or.inr (rq_e q)
  · have := LW_e (E := eIO) (by unfold rqC; rw [rq_tn (by rw [h.b.nc, e]; exact xk_0)]) q
    rw [eN_IO] at this
    exact this
  · have := LW_e (E := eIS) (by unfold rqC; rw [rq_ty (xk_c h hc), rq_f (by rw [hcl, (h.b.c hc).1]; exact fun z => z g)]) q
    rw [eN_IS] at this
    exact this
  · have hfin := h.end_ hc g
    obtain ⟨e1, e2⟩ := LW_v (a := nI (mFin S c).2) (by
      unfold rqC
      rw [rq_ty (xk_c h hc), rq_t (by
        rw [hcl, (h.b.c hc).1]
        rcases g with g | g <;> rw [g] <;> decide)]) (by rw [hcl, h.b.nu, h.b.nc, h.b.nt, hfin.2]) q
    refine ⟨e1, ?_⟩
    rw [e2, hcl, h.b.nu, h.b.nc, h.b.nt]
    exact hfin.1
theorem b_startsIfEnded (l : Launch) (hl0 : l.stackTraces = false) (P : XP) (hP : XA P) (σ : XS) (h : GV σ S o ch) {c : Nat} (hc : c < mK S) : XMH l yL_startsIfEnded cL_startsIfEnded 3 [(0, 5, 6, 19)] (rmL 2 rm_X6_startsIfEnded) P [.ref (P.2.2.1 (.inr 0)), .int (nI c)] σ (fun w τ => GV τ S o ch ∧ (sC S 4 c = 2 ∨ sC S 4 c = 3 → w = some (.int 0)) ∧ (sC S 4 c = 0 ∨ sC S 4 c = 1 → w = some (.int (nI (mFin S c).2)))) := by
  have hcl : (nI c).toNatClampNeg = c := cNn (by have := h.b.x.i.k40; omega)
  have e4 := (h.b.c hc).1
  refine (c_L_startsIfEnded l P σ hP.n0 _ (c_X6_startsIfEnded l hl0 P σ hP.1 hP.2 h.b.bd (h.z 0 (by decide)) (nI c)) (fun v9 τ q => ?_) (fun E τ he => ?_)).mono (fun w τ q => ?_)
  · rw [q.2.1]; split <;> exact ⟨_, rfl⟩
  · exact rq_e he.1
  · rcases st_of h.b.x hc with g | g | g | g
    · have hf := h.fore hc (Or.inl g)
      obtain ⟨e1, e2⟩ := LW_v (a := nI (mFin S c).2) (rq_t (xk_c h hc)) (by rw [hcl, e4, if_neg (by rw [g]; decide), h.b.nu, h.b.nc, h.b.nt, hf.2]) q
      rw [hcl, e4, if_neg (by rw [g]; decide), h.b.nu, h.b.nc, h.b.nt] at e2
      exact ⟨by rw [e2]; exact hf.1, fun z => absurd z (by rw [g]; decide), fun _ => e1⟩
    · have hf := h.fore hc (Or.inr g)
      obtain ⟨e1, e2⟩ := LW_v (a := nI (mFin S c).2) (rq_t (xk_c h hc)) (by rw [hcl, e4, if_neg (by rw [g]; decide), h.b.nu, h.b.nc, h.b.nt, hf.2]) q
      rw [hcl, e4, if_neg (by rw [g]; decide), h.b.nu, h.b.nc, h.b.nt] at e2
      exact ⟨by rw [e2]; exact hf.1, fun z => absurd z (by rw [g]; decide), fun _ => e1⟩
    · obtain ⟨e1, e2⟩ := LW_v (a := 0) (rq_t (xk_c h hc)) (by rw [hcl, e4, if_pos (Or.inl g)]) q
      rw [hcl, e4, if_pos (Or.inl g)] at e2
      exact ⟨by rw [e2]; exact h, fun _ => e1, fun z => absurd z (by rw [g]; decide)⟩
    · obtain ⟨e1, e2⟩ := LW_v (a := 0) (rq_t (xk_c h hc)) (by rw [hcl, e4, if_pos (Or.inr g)]) q
      rw [hcl, e4, if_pos (Or.inr g)] at e2
      exact ⟨by rw [e2]; exact h, fun _ => e1, fun z => absurd z (by rw [g]; decide)⟩
theorem b_waitFor (l : Launch) (hl0 : l.stackTraces = false) (P : XP) (hP : XA P) (σ : XS) (h : GV σ S o ch) {n : Nat} (hS : S 0 = nI T) (h1 : 1 ≤ n) (h9 : n ≤ 9999) (hT : T + n ≤ 999999) : XMH l yL_waitFor cL_waitFor 3 [(0, 5, 6, 13), (0, 5, 10, 21)] (rmL 2 rm_X6_waitFor) P [.ref (P.2.2.1 (.inr 0)), .int (nI n)] σ (fun w τ => w = some (.int (S 0 + nI n)) ∧ τ = uClock (uPush σ o ch) 0 (nI n)) := by
  refine (c_L_waitFor l P σ hP.n0 _ (c_X6_waitFor l hl0 P σ hP.1 hP.2 h.b.bd o ch h.h (h.z 0 (by decide)) (nI n)) (fun v9 τ q => ⟨_, q.2.1⟩) (fun E τ he => ?_)).mono (fun w τ q => ?_)
  · rcases oth_or he.1 with q | q
    · exact Or.inl (rq_e q)
    · exact Or.inr (rq_e q)
  · exact LW_v (by
      rw [rq_ty ⟨nI_nlt (b := 1) h1 (n31 (by omega)), nI_le (b := 9999) h9 (by decide)⟩, rq_t (by rw [h.b.s.1, hS, nI_add]; exact nI_le (b := 999999) hT (by decide))]) (by rw [h.b.s.1]) q
theorem b_setCuriosity (l : Launch) (hl0 : l.stackTraces = false) (P : XP) (hP : XA P) (σ : XS) (h : GV σ S o ch) {u n : Nat} (hu : u < mU S) (hn : n ≤ 9) : XMH l yL_setCuriosity cL_setCuriosity 4 [(0, 6, 7, 19), (0, 6, 11, 13)] (rmL 4 rm_X6_setCuriosity) P [.ref (P.2.2.1 (.inr 0)), .int (nI u), .int (nI n)] σ (fun w τ => w = some (.int (sU S 2 u)) ∧ GV τ (upd S (10 + 12 * u + 2) (nI n)) (oNx o ch) (mNx ch)) := by
  have hcl : (nI u).toNatClampNeg = u := cNn (by have := h.b.x.i.u15; omega)
  refine (c_L_setCuriosity l P σ hP.n0 _ _ (c_X6_setCuriosity l hl0 P σ hP.1 hP.2 h.b.bd o ch h.h (h.z 0 (by decide)) (nI u) (nI n)) (fun v9 τ q => ⟨_, q.2.1⟩) (fun E τ he => ?_)).mono (fun w τ q => ?_)
  · unfold rqU at he
    rcases oth_or he.1 with q | q
    · exact Or.inl (rq_e q)
    · exact Or.inr (rq_e q)
  · obtain ⟨e1, e2⟩ := LW_v (a := sU S 2 u) (by
      unfold rqU
      rw [rq_ty (xk_u h hu), rq_t ⟨nI_pos (n31 (by omega)), nI_le (b := 9) hn (by decide)⟩]) (by rw [hcl, (h.b.u hu).2.2.1]) q
    refine ⟨e1, ?_⟩
    rw [e2, hcl]
    exact h.mood hu
theorem b_listenersBetween (l : Launch) (hl0 : l.stackTraces = false) (P : XP) (hP : XA P) (σ : XS) (h : GV σ S o ch) {u v : Nat} (hu : u < mU S) (hv : v < mU S) : XMH l yL_listenersBetween cL_listenersBetween 4 [(0, 6, 7, 19), (0, 6, 11, 13)] (rmL 3 rm_X6_listenersBetween) P [.ref (P.2.2.1 (.inr 0)), .int (nI u), .int (nI v)] σ (fun w τ => τ = σ ∧ (u = v → w = some (.int (-18))) ∧ (¬ u = v → w = some (.int (mEars S (nI u) (nI v))))) := by
  have u15 := h.b.x.i.u15
  have cu := xk_u h hu
  have cv := xk_u h hv
  have hnn : ¬ u = v → ¬ nI u = nI v := fun ne z => ne ((nI_eq (n31 (by omega)) (n31 (by omega))).mp z)
  refine (c_L_listenersBetween l P σ hP.n0 _ _ (c_X6_listenersBetween l hl0 P σ hP.1 hP.2 h.b.bd (nI u) (nI v)) (fun v9 τ q => ?_) (fun E τ he => ?_)).mono (fun w τ q => ?_)
  · have q1 := q.1
    cases hq : rqP σ (nI u) (nI v) with
    | inl z => rw [hq] at q1; exact ⟨_, (Sum.inl.inj q1).symm⟩
    | inr E => rw [hq] at q1; cases q1
  · rcases oth_or he.1 with q | q
    · unfold rqP rqU at q
      rcases oth_or q with q | q
      · exact Or.inl (rq_e q)
      · rcases oth_or q with q | q
        · exact Or.inl (rq_e q)
        · exact Or.inr (rq_e q)
    · cases q
  · by_cases e : u = v
    · have hq : oth (rqP σ (nI u) (nI v)) (.inl (some (.int (xbetw (σ.1 (.inl (0, 3))) (σ.1 (.inl (0, 5))) (nuN σ 0) (nI u) (nI v))))) = .inr eIA := by
        unfold rqP rqU; rw [rq_ty cu, rq_ty cv, rq_tn (fun z => z (congrArg nI e))]
      rcases q with ⟨x, ⟨h1, -⟩, -⟩ | ⟨E, ⟨h1, h2⟩, h3⟩
      · rw [hq] at h1; cases h1
      · rw [hq] at h1
        cases h1
        rw [eN_IA] at h3
        exact ⟨h2, fun _ => h3, fun z => absurd e z⟩
    · have hq : oth (rqP σ (nI u) (nI v)) (.inl (some (.int (xbetw (σ.1 (.inl (0, 3))) (σ.1 (.inl (0, 5))) (nuN σ 0) (nI u) (nI v))))) = .inl (some (.int (mEars S (nI u) (nI v)))) := by
        unfold rqP rqU; rw [rq_ty cu, rq_ty cv, rq_ty (hnn e), h.b.nu, q_betw h.b (xok_nI hu (by omega)) (xok_nI hv (by omega))]
      rcases q with ⟨x, ⟨h1, h2⟩, h4⟩ | ⟨E, ⟨h1, -⟩, -⟩
      · rw [hq] at h1
        exact ⟨h2, fun z => absurd z e, fun _ => h4.trans (Sum.inl.inj h1).symm⟩
      · rw [hq] at h1; cases h1
/-! what a call does -/
section RQ
variable {x y t ur : Int32}
theorem rq_mL (hM : MI S) (hk : mK S < 40) (z : Int32) : mLine (mReq0 S x y t ur) z (mK S + 1) = mLine S z (mK S) := by
  have u15 := hM.u15
  have n4 := (mReq0_c (S := S) (x := x) (y := y) (t := t) (u := ur)).2.2.2.2.1
  have eu : ∀ v w, v < 15 → w < 12 → sU (mReq0 S x y t ur) w v = sU S w v := fun v w hv hw => rq_n (by omega) (by omega)
  unfold mLine
  rw [cCnt_n (fun q => absurd (n4.symm.trans q.1) (by decide))]
  refine zc_cg (fun c hc => ?_)
  unfold mUses
  rw [rq_c hc (by decide), rq_c hc (by decide), rq_c hc (by decide), rq_c hc (by decide), eu _ _ (hM.ca hc).1 (by decide), eu _ _ (hM.o15 hc) (by decide)]
theorem rq_mT (z : Int32) : mTrk (mReq0 S x y t ur) z (mK S + 1) = mTrk S z (mK S) := by
  have n4 := (mReq0_c (S := S) (x := x) (y := y) (t := t) (u := ur)).2.2.2.2.1
  unfold mTrk
  rw [cCnt_n (fun q => absurd (n4.symm.trans q.1) (by decide))]
  exact zc_cg (fun c hc => by rw [rq_c hc (by decide), rq_c hc (by decide)])
theorem rq_mC (hM : MI S) (hk : mK S < 40) : mCords (mReq0 S x y t ur) (mK S + 1) = mCords S (mK S) := by
  have n4 := (mReq0_c (S := S) (x := x) (y := y) (t := t) (u := ur)).2.2.2.2.1
  have eu : ∀ v w, v < 15 → w < 12 → sU (mReq0 S x y t ur) w v = sU S w v := fun v w hv hw => rq_n (by omega) (by omega)
  unfold mCords
  rw [cCnt_n (fun q => absurd (n4.symm.trans q.1) (by decide))]
  refine zc_cg (fun c hc => ?_)
  unfold mOwn
  rw [rq_c hc (by decide), rq_c hc (by decide), rq_c hc (by decide), rq_c hc (by decide), eu _ _ (hM.ca hc).1 (by decide), eu _ _ (hM.o15 hc) (by decide)]
theorem rq_m0 : mReq S x y t ur 0 = S 0 := by
  unfold mReq
  split
  · rw [mStart_o (fun j => by omega) (by omega) (by omega) (by omega) (by omega)]; exact rq_n (by decide) (by decide)
  · exact rq_n (by decide) (by decide)
end RQ
theorem rq_K (hM : MI S) (hk : mK S < 40) {x y t ur : Int32} (hx : xok x (mU S)) (hyt : (t = -1 ∧ xok y (mU S)) ∨ (y = -1 ∧ xok t (mT S))) : mK (mReq S x y t ur) = mK S + 1 := by
  unfold mReq
  split
  · rw [mS_K (hM.req hk hx hyt) (by rw [mReq0_K hk]; omega), mReq0_K hk]
  · exact mReq0_K hk
theorem ears_req (hx : MX S) {x y a b t ur : Int32} (hx0 : MX (mReq0 S a b t ur)) (hx1 : xok x (mU S)) (hy : y = -1 ∨ xok y (mU S)) : mEars (mReq0 S a b t ur) x y = mEars S x y := by
  have u15 := hx.i.u15
  have eU : mU (mReq0 S a b t ur) = mU S := by rw [mU, mU, rq_n (by decide) (by decide)]
  have eu : ∀ v w, v < 15 → w < 12 → sU (mReq0 S a b t ur) w v = sU S w v := fun v w hv hw => rq_n (by omega) (by omega)
  have cx := (xok_c hx1 (by omega)).1
  have cy : cN y < 15 := by
    rcases hy with e | e
    · rw [e, cn1]; decide
    · have := (xok_c e (by omega)).1; omega
  refine b_ext (fun i hi => ?_)
  rw [Bool.eq_iff_iff, mEars_bt hx0 hi, mEars_bt hx hi, eU]
  refine and_congr_right (fun h => ?_)
  unfold mEarQ
  rw [eu i 2 (by omega) (by decide), eu i 0 (by omega) (by decide), eu _ 0 (by omega) (by decide), eu _ 0 cy (by decide)]
/-- a call to a subscriber -/
theorem call_facts {σ : XS} (h : RB σ 0 S) (hk : mK S < 40) {u v : Nat} (hu : u < mU S) (hv : v < mU S) (hne : ¬ u = v) {ur : Int32} (hur : ur = 0 ∨ ur = 1) :
    sC (mReq S (nI u) (nI v) (-1) ur) 0 (mK S) = nI u ∧ sC (mReq S (nI u) (nI v) (-1) ur) 1 (mK S) = nI v ∧
    ((sC (mReq S (nI u) (nI v) (-1) ur) 4 (mK S) = 0 ∧ sU (mReq S (nI u) (nI v) (-1) ur) 4 u = sU S 4 u) ∨
     (sC (mReq S (nI u) (nI v) (-1) ur) 4 (mK S) = 1 ∧ sC (mReq S (nI u) (nI v) (-1) ur) 7 (mK S) = mEars S (nI u) (nI v) ∧ sU (mReq S (nI u) (nI v) (-1) ur) 4 u = sU S 4 u ||| sU S 4 v ∧ sU (mReq S (nI u) (nI v) (-1) ur) 4 v = sU S 4 u ||| sU S 4 v ∧ sC (mReq S (nI u) (nI v) (-1) ur) 5 (mK S) = S 0 ∧
      ∀ k, k < mU S → bt (mEars S (nI u) (nI v)) k = true → sU (mReq S (nI u) (nI v) (-1) ur) 4 k &&& (sU S 4 u ||| sU S 4 v) = (sU S 4 u ||| sU S 4 v) ∧ ¬ sU (mReq S (nI u) (nI v) (-1) ur) 2 k < 5)) := by
  have hM := h.x.i
  have u15 := hM.u15
  have ou := xok_nI hu (by omega)
  have ov := xok_nI hv (by omega)
  have h0 := (h.req0 hk ou (Or.inl ⟨rfl, ov⟩) hur).x
  obtain ⟨n0, n1, n2, n3, n4, n5, n6, n7, n8⟩ := mReq0_c (S := S) (x := nI u) (y := nI v) (t := -1) (u := ur)
  have eu : ∀ v9 w, v9 < 15 → w < 12 → sU (mReq0 S (nI u) (nI v) (-1) ur) w v9 = sU S w v9 := fun v9 w hv hw => rq_n (by omega) (by omega)
  have hj : mK S < mK (mReq0 S (nI u) (nI v) (-1) ur) := by rw [mReq0_K hk]; omega
  have eU : mU (mReq0 S (nI u) (nI v) (-1) ur) = mU S := by rw [mU, mU, rq_n (by decide) (by decide)]
  have eE := ears_req (a := nI u) (b := nI v) (t := -1) (ur := ur) h.x h0 ou (Or.inr ov)
  have cu : cN (nI u) = u := cNn (by omega)
  have cv : cN (nI v) = v := cNn (by omega)
  have nv : ¬ nI v = -1 := not_m1 (by omega)
  unfold mReq
  by_cases g : mWhy (mReq0 S (nI u) (nI v) (-1) ur) (mK S) = 0
  · rw [if_pos g]
    refine ⟨(mS_co h0.i hj (by decide)).trans n0, (mS_co h0.i hj (by decide)).trans n1, Or.inr ⟨mS_4, ?_, ?_, ?_, ?_, ?_⟩⟩
    · rw [mS_7, n0, n1, eE]
    · have hear : ¬ bt (mEars S (nI u) (nI v)) u = true := fun q => ((mEars_bt h.x (by omega)).mp q).2.1 rfl
      rw [mS_sec h0 hj (by rw [eU]; exact hu), n0, n1, eE, if_neg (fun q => hear q.2), mTell_at, if_pos ⟨nv, Or.inl cu.symm⟩]
      unfold mTold
      rw [if_neg nv, cu, cv, eu u 4 (by omega) (by decide), eu v 4 (by omega) (by decide)]
    · have hear : ¬ bt (mEars S (nI u) (nI v)) v = true := fun q => ((mEars_bt h.x (by omega)).mp q).2.2.1 rfl
      rw [mS_sec h0 hj (by rw [eU]; exact hv), n0, n1, eE, if_neg (fun q => hear q.2), mTell_at, if_pos ⟨nv, Or.inr cv.symm⟩]
      unfold mTold
      rw [if_neg nv, cu, cv, eu u 4 (by omega) (by decide), eu v 4 (by omega) (by decide)]
    · rw [mS_5]; exact rq_n (by decide) (by decide)
    · intro k hk1 hb
      have hq := ((mEars_bt h.x (by omega)).mp hb).2
      constructor
      · rw [mS_sec h0 hj (by rw [eU]; exact hk1), n0, n1, eE, if_pos ⟨by rw [eU]; exact hk1, hb⟩]
        unfold mTold
        rw [if_neg nv, cu, cv, eu u 4 (by omega) (by decide), eu v 4 (by omega) (by decide)]
        refine b_ext (fun i hi => ?_)
        rw [b_and, b_or]
        generalize bt (sU S 4 u ||| sU S 4 v) i = z
        cases z <;> simp
      · rw [mS_u h0.i hj (by omega) (by decide) (by decide), eu k 2 (by omega) (by decide)]
        exact hq.2.2.1
  · rw [if_neg g]
    exact ⟨n0, n1, Or.inl ⟨n4, eu u 4 (by omega) (by decide)⟩⟩
/-- a call over a trunk -/
theorem trunk_facts {σ : XS} (h : RB σ 0 S) (hk : mK S < 40) {u t : Nat} (hu : u < mU S) (ht : t < mT S) {ur : Int32} (hur : ur = 0 ∨ ur = 1) :
    sC (mReq S (nI u) (-1) (nI t) ur) 2 (mK S) = nI t ∧ sU (mReq S (nI u) (-1) (nI t) ur) 4 u = sU S 4 u ∧
    sC (mReq S (nI u) (-1) (nI t) ur) 4 (mK S) = (if mLine S (sU S 0 u) (mK S) = 0 ∧ mTrk S (nI t) (mK S) = 0 ∧ ¬ nI (mCords S (mK S)) = S 2 then 1 else 0) := by
  have hM := h.x.i
  have u15 := hM.u15
  have t4 := hM.t4
  have ou := xok_nI hu (by omega)
  have ot := xok_nI ht (by omega)
  have h0 := (h.req0 hk ou (Or.inr ⟨rfl, ot⟩) hur).x
  obtain ⟨n0, n1, n2, n3, n4, n5, n6, n7, n8⟩ := mReq0_c (S := S) (x := nI u) (y := -1) (t := nI t) (u := ur)
  have eu : ∀ v9 w, v9 < 15 → w < 12 → sU (mReq0 S (nI u) (-1) (nI t) ur) w v9 = sU S w v9 := fun v9 w hv hw => rq_n (by omega) (by omega)
  have eK := mReq0_K (x := nI u) (y := -1) (t := nI t) (u := ur) hk
  have hj : mK S < mK (mReq0 S (nI u) (-1) (nI t) ur) := by rw [eK]; omega
  have eU : mU (mReq0 S (nI u) (-1) (nI t) ur) = mU S := by rw [mU, mU, rq_n (by decide) (by decide)]
  have cu : cN (nI u) = u := cNn (by omega)
  have nt : ¬ nI t = -1 := not_m1 (by omega)
  have hw : mWhy (mReq0 S (nI u) (-1) (nI t) ur) (mK S) = 0 ↔ (mLine S (sU S 0 u) (mK S) = 0 ∧ mTrk S (nI t) (mK S) = 0 ∧ ¬ nI (mCords S (mK S)) = S 2) := by
    rw [why0, n0, n1, n2, cu, eu u 0 (by omega) (by decide), eK, rq_mL hM hk, rq_mT, rq_mC hM hk, show mReq0 S (nI u) (-1) (nI t) ur 2 = S 2 from rq_n (by decide) (by decide)]
    have ho : ¬ mOwn (mReq0 S (nI u) (-1) (nI t) ur) (mK S) := fun q => nt (n2.symm.trans q.1)
    exact ⟨fun ⟨a, _, b, d⟩ => ⟨a, b nt, fun z => d ⟨ho, z⟩⟩, fun ⟨a, b, d⟩ => ⟨a, fun z => absurd z nt, fun _ => b, fun z => d z.2⟩⟩
  unfold mReq
  by_cases g : mWhy (mReq0 S (nI u) (-1) (nI t) ur) (mK S) = 0
  · rw [if_pos g, if_pos (hw.mp g)]
    refine ⟨(mS_co h0.i hj (by decide)).trans n2, ?_, mS_4⟩
    have hear : ¬ bt (mEars (mReq0 S (nI u) (-1) (nI t) ur) (nI u) (-1)) u = true := fun q => ((mEars_bt h0 (by omega)).mp q).2.1 rfl
    rw [mS_sec h0 hj (by rw [eU]; exact hu), n0, n1, if_neg (fun q => hear q.2), mTell_at, if_neg (fun q => q.1 rfl)]
    exact eu u 4 (by omega) (by decide)
  · rw [if_neg g, if_neg (fun q => g (hw.mpr q))]
    exact ⟨n2, eu u 4 (by omega) (by decide), n4⟩
end X82


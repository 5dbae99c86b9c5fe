section PV69
variable {σ : XS} {b : Nat} {S : Nat → Int32} {j T : Nat}
/-! a call more -/
section
variable {x y t u : Int32}
theorem rq_n {n : Nat} (h : n ≠ 5) (h2 : n < 190) : mReq0 S x y t u n = S n := mReq0_o h (Or.inl (by omega))
theorem rq_c {c w : Nat} (hc : c < mK S) (hw : w < 9) : sC (mReq0 S x y t u) w c = sC S w c := mReq0_o (by omega) (Or.inl (by omega))
theorem PS.req0 (hx : MX S) (hk : mK S < 40) (hx1 : xok x (mU S)) (hyt : (t = -1 ∧ xok y (mU S)) ∨ (y = -1 ∧ xok t (mT S))) (h : PS S T) : PS (mReq0 S x y t u) T := by
  have hM := hx.i
  have u15 := hM.u15
  have eK := mReq0_K (x := x) (y := y) (t := t) (u := u) hk
  have eU : mU (mReq0 S x y t u) = mU S := by rw [mU, mU, rq_n (by decide) (by decide)]
  have eu : ∀ v w, v < 15 → w < 12 → sU (mReq0 S x y t u) w v = sU S w v := fun v w hv hw => rq_n (by omega) (by omega)
  obtain ⟨n0, n1, n2, n3, n4, n5, n6, n7, n8⟩ := mReq0_c (S := S) (x := x) (y := y) (t := t) (u := u)
  have us : ∀ c, c < mK S → ∀ z, mUses (mReq0 S x y t u) c z ↔ mUses S c z := fun c h9 z => by
    unfold mUses
    rw [rq_c h9 (by decide), rq_c h9 (by decide), rq_c h9 (by decide), eu _ _ (hM.ca h9).1 (by decide), eu _ _ (hM.o15 h9) (by decide)]
  refine ⟨(rq_n (by decide) (by decide)).trans h.t, h.t9, fun c hc => ?_, fun a ha => ?_, fun v hv => ?_, ?_, fun v hv => ?_⟩
  · rw [eK] at hc
    by_cases e : c = mK S
    · subst e
      unfold PC
      rw [n4, n5, n6, n7]
      exact ⟨⟨fun _ => Or.inl rfl, fun _ => rfl⟩, ⟨fun _ => Or.inl rfl, fun _ => rfl⟩, fun _ => rfl, fun i _ _ q => zb_0 q, fun q => by rcases q with q | q <;> exact absurd q (by decide)⟩
    · have hc' : c < mK S := by omega
      unfold PC
      rw [rq_c hc' (by decide), rq_c hc' (by decide), rq_c hc' (by decide), rq_c hc' (by decide)]
      exact h.c hc'
  · rw [eK]
    have f : mLine (mReq0 S x y t u) (nI a) (mK S + 1) = mLine S (nI a) (mK S) := by
      unfold mLine
      rw [cCnt_n (fun q => absurd (n4.symm.trans q.1) (by decide))]
      exact zc_cg (fun c hc => by rw [rq_c hc (by decide), us c hc])
    rw [f]; exact h.l ha
  · rw [eK]
    have f : mTrk (mReq0 S x y t u) (nI v) (mK S + 1) = mTrk S (nI v) (mK S) := by
      unfold mTrk
      rw [cCnt_n (fun q => absurd (n4.symm.trans q.1) (by decide))]
      exact zc_cg (fun c hc => by rw [rq_c hc (by decide), rq_c hc (by decide)])
    rw [f]; exact h.k hv
  · rw [eK, eU]
    show _ = cSum (mDue (mReq0 S x y t u)) (mK S) + mDue (mReq0 S x y t u) (mK S)
    have d : mDue (mReq0 S x y t u) (mK S) = 0 := by
      unfold mDue
      rw [n4, if_neg (by decide)]
    rw [d, Int32.add_zero, zc_sum (f := fun v => sU (mReq0 S x y t u) 3 v) (g := fun v => sU S 3 v) (fun v hv => eu v 3 (by omega) (by decide)), h.b]
    exact zc_sum (fun c hc => (mDue_cg hM hc (rq_c hc (by decide)) (rq_c hc (by decide)) (rq_c hc (by decide)) (rq_c hc (by decide)) (fun v hv => rq_n (by omega) (by omega))).symm)
  · rw [eU] at hv
    rw [eu v 4 (by omega) (by decide)]
    exact h.s hv
theorem why_req0 (hx : MX S) (hx1 : MX (mReq0 S x y t u)) (hk : mK S < 40) {c : Nat} (hc : c < mK S) (h : ¬ mWhy S c = 0) : ¬ mWhy (mReq0 S x y t u) c = 0 := by
  have eK := mReq0_K (x := x) (y := y) (t := t) (u := u) hk
  exact fun q => h (why_mono hx.i hc (by omega) (rq_n (by decide) (by decide)) hx.c2 hx.c6 (fun n hn => rq_n (by omega) (by omega)) (fun c hc w hw => rq_c hc (by omega)) (fun c hc q => (rq_c hc (by decide)).trans q) hx1.cs q)
/-- what call does, told of the row alone -/
theorem PReq (h : RB σ b S) (hp : PS S T) (hb : PB S) (hk : mK S < 40) (hx1 : xok x (mU S)) (hyt : (t = -1 ∧ xok y (mU S)) ∨ (y = -1 ∧ xok t (mT S))) (hu : u = 0 ∨ u = 1) : PS (mReq S x y t u) T ∧ PB (mReq S x y t u) := by
  have h0 := h.req0 hk hx1 hyt hu
  have p0 := hp.req0 (u := u) h.x hk hx1 hyt
  have eK := mReq0_K (x := x) (y := y) (t := t) (u := u) hk
  have hkR : mK S < mK (mReq0 S x y t u) := by omega
  have n4 := (mReq0_c (S := S) (x := x) (y := y) (t := t) (u := u)).2.2.2.2.1
  unfold mReq
  by_cases g : mWhy (mReq0 S x y t u) (mK S) = 0
  · rw [if_pos g]
    have h1 := h0.start hkR g n4
    refine ⟨p0.start h0.x hkR g n4, fun c hc q => ?_⟩
    rw [mS_K h0.x.i hkR] at hc
    have e : ¬ c = mK S := fun e => by
      subst e
      rw [mS_4] at q
      exact absurd q (by decide)
    have hc' : c < mK S := by omega
    rw [mS_cn h0.x.i hkR e (by decide), rq_c hc' (by decide)] at q
    exact why_start h0.x h1.x hkR hc (why_req0 h.x h0.x hk hc' (hb c hc' q))
  · rw [if_neg g]
    refine ⟨p0, fun c hc q => ?_⟩
    by_cases e : c = mK S
    · subst e; exact g
    · have hc' : c < mK S := by omega
      rw [rq_c hc' (by decide)] at q
      exact why_req0 h.x h0.x hk hc' (hb c hc' q)
end
/-! seconds and moods -/
theorem PClk (hx : MX S) (hp : PS S T) (hb : PB S) {v : Nat} (hv : T + v ≤ 900000) : PS (upd S 0 (S 0 + nI v)) (T + v) ∧ PB (upd S 0 (S 0 + nI v)) := by
  have o : ∀ n, n ≠ 0 → upd S 0 (S 0 + nI v) n = S n := fun n hn => upd_ne hn
  have eK : mK (upd S 0 (S 0 + nI v)) = mK S := by rw [mK, mK, o 5 (by decide)]
  have eU : mU (upd S 0 (S 0 + nI v)) = mU S := by rw [mU, mU, o 4 (by decide)]
  have oc : ∀ c w, sC (upd S 0 (S 0 + nI v)) w c = sC S w c := fun c w => o _ (by omega)
  have ou : ∀ c w, sU (upd S 0 (S 0 + nI v)) w c = sU S w c := fun c w => o _ (by omega)
  refine ⟨⟨?_, hv, fun c hc => ?_, fun a ha => ?_, fun t ht => ?_, ?_, fun u hu => ?_⟩, fun c hc q => ?_⟩
  · rw [upd_at, hp.t, nI_add]
  · rw [eK] at hc
    unfold PC
    rw [oc, oc, oc, oc]
    obtain ⟨q1, q2, q3, q4, q5⟩ := hp.c hc
    refine ⟨q1, q2, q3, q4, fun q => ?_⟩
    obtain ⟨a, ea, la, q6⟩ := q5 q
    refine ⟨a, ea, by omega, fun z => ?_⟩
    obtain ⟨b1, eb, l1, l2⟩ := q6 z
    exact ⟨b1, eb, l1, by omega⟩
  · have f : mLine (upd S 0 (S 0 + nI v)) (nI a) (mK S) = mLine S (nI a) (mK S) := zc_cg (fun c hc => by unfold mUses; rw [oc, oc, oc, oc, ou, ou])
    rw [eK, f]; exact hp.l ha
  · have f : mTrk (upd S 0 (S 0 + nI v)) (nI t) (mK S) = mTrk S (nI t) (mK S) := zc_cg (fun c hc => by rw [oc, oc])
    rw [eK, f]; exact hp.k ht
  · rw [eK, eU, zc_sum (f := fun u => sU (upd S 0 (S 0 + nI v)) 3 u) (g := fun u => sU S 3 u) (fun u _ => ou u 3), hp.b]
    exact zc_sum (fun c hc => (mDue_cg hx.i hc (oc _ _) (oc _ _) (oc _ _) (oc _ _) (fun t _ => o _ (by omega))).symm)
  · rw [eU] at hu
    rw [ou]; exact hp.s hu
  · rw [eK] at hc
    rw [oc] at q
    have e : mWhy (upd S 0 (S 0 + nI v)) c = mWhy S c := by
      unfold mWhy mLine mTrk mCords mUses mOwn
      simp only [oc, ou, eK, o 2 (by decide)]
    rw [e]; exact hb c hc q
theorem PMood (hx : MX S) (hp : PS S T) (hb : PB S) {u : Nat} (hu : u < 15) {v : Int32} : PS (upd S (10 + 12 * u + 2) v) T ∧ PB (upd S (10 + 12 * u + 2) v) := by
  have o : ∀ n, n ≠ 10 + 12 * u + 2 → upd S (10 + 12 * u + 2) v n = S n := fun n hn => upd_ne hn
  have eK : mK (upd S (10 + 12 * u + 2) v) = mK S := by rw [mK, mK, o 5 (by omega)]
  have eU : mU (upd S (10 + 12 * u + 2) v) = mU S := by rw [mU, mU, o 4 (by omega)]
  have oc : ∀ c w, sC (upd S (10 + 12 * u + 2) v) w c = sC S w c := fun c w => o _ (by omega)
  have o0 : ∀ c, sU (upd S (10 + 12 * u + 2) v) 0 c = sU S 0 c := fun c => o _ (by omega)
  have o3 : ∀ c, sU (upd S (10 + 12 * u + 2) v) 3 c = sU S 3 c := fun c => o _ (by omega)
  have o4 : ∀ c, sU (upd S (10 + 12 * u + 2) v) 4 c = sU S 4 c := fun c => o _ (by omega)
  refine ⟨⟨(o 0 (by omega)).trans hp.t, hp.t9, fun c hc => ?_, fun a ha => ?_, fun t ht => ?_, ?_, fun w hw => ?_⟩, fun c hc q => ?_⟩
  · rw [eK] at hc
    unfold PC
    rw [oc, oc, oc, oc]
    exact hp.c hc
  · have f : mLine (upd S (10 + 12 * u + 2) v) (nI a) (mK S) = mLine S (nI a) (mK S) := zc_cg (fun c hc => by unfold mUses; rw [oc, oc, oc, oc, o0, o0])
    rw [eK, f]; exact hp.l ha
  · have f : mTrk (upd S (10 + 12 * u + 2) v) (nI t) (mK S) = mTrk S (nI t) (mK S) := zc_cg (fun c hc => by rw [oc, oc])
    rw [eK, f]; exact hp.k ht
  · rw [eK, eU, zc_sum (f := fun w => sU (upd S (10 + 12 * u + 2) v) 3 w) (g := fun w => sU S 3 w) (fun w _ => o3 w), hp.b]
    exact zc_sum (fun c hc => (mDue_cg hx.i hc (oc _ _) (oc _ _) (oc _ _) (oc _ _) (fun t _ => o _ (by omega))).symm)
  · rw [eU] at hw
    rw [o4]; exact hp.s hw
  · rw [eK] at hc
    rw [oc] at q
    have e : mWhy (upd S (10 + 12 * u + 2) v) c = mWhy S c := by
      unfold mWhy mLine mTrk mCords mUses mOwn
      simp only [oc, o0, eK, o 2 (by omega)]
    rw [e]; exact hb c hc q
end PV69

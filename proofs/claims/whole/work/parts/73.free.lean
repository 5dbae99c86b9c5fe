/-! ONE OPERATION ON BOTH SIDES: what throws nothing -/
def PS (l : Launch) (P : XP) (y : MethodName) (cc : ByteArray) (nL : Nat) (rm : Room) (y7 : MethodName) (c7 : ByteArray) (n7 : Nat) (rm7 : Room) (as : List Value) (σ : XS) : Prop :=
  ∃ (v : Int32) (σ1 τ1 : XS), XF l y cc nL (some .int) rm P (.ref (P.2.2.1 (.inr 0)) :: as) σ (some (.int v)) σ1 ∧ XF l y7 c7 n7 (some .int) rm7 P (.ref (P.2.2.1 (.inr 9)) :: as) σ1 (some (.int v)) τ1 ∧ RV τ1
section XP73
variable {l : Launch} {P : XP} {σ σ1 T X : XS} {y y7 : MethodName} {cc c7 : ByteArray} {nL n7 : Nat} {rm rm7 : Room} {as : List Value} {o ch n w : Nat}
theorem ps_ask {va vb : Int32} (hR : RVX σ (σ.1 (.inr 10)) (σ.1 (.inr 9)) o ch n w) (hC : XF l y cc nL (some .int) rm P (.ref (P.2.2.1 (.inr 0)) :: as) σ (some (.int va)) σ) (hM : XF l y7 c7 n7 (some .int) rm7 P (.ref (P.2.2.1 (.inr 9)) :: as) (mW σ (σ.1 (.inr 10)) (σ.1 (.inr 9)) (σ.1 (.inr 18))) (some (.int vb)) (mW σ (σ.1 (.inr 10)) (upd (σ.1 (.inr 9)) 7 0) (σ.1 (.inr 18)))) (hv : va = vb) : PS l P y cc nL rm y7 c7 n7 rm7 as σ := by
  subst hv
  rw [← mW_id σ] at hM
  exact ⟨va, σ, _, hC, hM, (hR.f7 0).mw⟩
theorem eTk {c : Prop} [Decidable c] (hX : Fr 1 σ X) {k : Nat} (h1 : k ≠ 1) (h2 : k ≠ 2) (h4 : k ≠ 4) : (if c then uShort X else uTake (uShort X) o ch).1 (.inr k) = σ.1 (.inr k) := by
  have e : (uShort X).1 (.inr k) = σ.1 (.inr k) := by
    unfold uShort
    rw [xu_ne _ _ _ (by simpa using h2)]
    exact hX.1 _ (fun j => by simp) (by simpa using h1) (by simpa using h2)
  by_cases g : c
  · rw [if_pos g]; exact e
  · rw [if_neg g]
    unfold uTake
    rw [uCp_k, uPush_k h4, e]

theorem s_errorCode (l : Launch) (P : XP) (hP : xAll P) (σ : XS) (hR : RV σ) : PS l P yX6_errorCode cX6_errorCode 1 rm_X6_errorCode yX7_errorCode cX7_errorCode 1 rm_X7_errorCode [] σ := by
  obtain ⟨o, ch, n, w, hR⟩ := hR
  refine ps_ask hR (c_X6_errorCode l P σ hP.1 hP.2.2.2 hR.bd) (c_X7_errorCode l P σ (σ.1 (.inr 10)) (σ.1 (.inr 9)) (σ.1 (.inr 18)) hP.2.1) ?_
  exact hR.e.1.symm

theorem s_errorOffset (l : Launch) (P : XP) (hP : xAll P) (σ : XS) (hR : RV σ) : PS l P yX6_errorOffset cX6_errorOffset 1 rm_X6_errorOffset yX7_errorOffset cX7_errorOffset 1 rm_X7_errorOffset [] σ := by
  obtain ⟨o, ch, n, w, hR⟩ := hR
  refine ps_ask hR (c_X6_errorOffset l P σ hP.1 hP.2.2.2 hR.bd) (c_X7_errorOffset l P σ (σ.1 (.inr 10)) (σ.1 (.inr 9)) (σ.1 (.inr 18)) hP.2.1) ?_
  exact hR.e.2.symm

theorem s_clock (l : Launch) (P : XP) (hP : xAll P) (σ : XS) (hR : RV σ) : PS l P yX6_clock cX6_clock 1 rm_X6_clock yX7_clock cX7_clock 1 rm_X7_clock [] σ := by
  obtain ⟨o, ch, n, w, hR⟩ := hR
  refine ps_ask hR (c_X6_clock l P σ hP.1 hP.2.2.2 hR.bd) (c_X7_clock l P σ (σ.1 (.inr 10)) (σ.1 (.inr 9)) (σ.1 (.inr 18)) hP.2.1) ?_
  exact hR.b.s.1

theorem s_lineCount (l : Launch) (P : XP) (hP : xAll P) (σ : XS) (hR : RV σ) : PS l P yX6_lineCount cX6_lineCount 1 rm_X6_lineCount yX7_lineCount cX7_lineCount 1 rm_X7_lineCount [] σ := by
  obtain ⟨o, ch, n, w, hR⟩ := hR
  refine ps_ask hR (c_X6_lineCount l P σ hP.1 hP.2.2.2 hR.bd) (c_X7_lineCount l P σ (σ.1 (.inr 10)) (σ.1 (.inr 9)) (σ.1 (.inr 18)) hP.2.1) ?_
  exact hR.b.s.2.1

theorem s_cordCount (l : Launch) (P : XP) (hP : xAll P) (σ : XS) (hR : RV σ) : PS l P yX6_cordCount cX6_cordCount 1 rm_X6_cordCount yX7_cordCount cX7_cordCount 1 rm_X7_cordCount [] σ := by
  obtain ⟨o, ch, n, w, hR⟩ := hR
  refine ps_ask hR (c_X6_cordCount l P σ hP.1 hP.2.2.2 hR.bd) (c_X7_cordCount l P σ (σ.1 (.inr 10)) (σ.1 (.inr 9)) (σ.1 (.inr 18)) hP.2.1) ?_
  exact hR.b.s.2.2.1

theorem s_trunkCount (l : Launch) (P : XP) (hP : xAll P) (σ : XS) (hR : RV σ) : PS l P yX6_trunkCount cX6_trunkCount 1 rm_X6_trunkCount yX7_trunkCount cX7_trunkCount 1 rm_X7_trunkCount [] σ := by
  obtain ⟨o, ch, n, w, hR⟩ := hR
  refine ps_ask hR (c_X6_trunkCount l P σ hP.1 hP.2.2.2 hR.bd) (c_X7_trunkCount l P σ (σ.1 (.inr 10)) (σ.1 (.inr 9)) (σ.1 (.inr 18)) hP.2.1) ?_
  exact hR.b.s.2.2.2.1

theorem s_subscriberCount (l : Launch) (P : XP) (hP : xAll P) (σ : XS) (hR : RV σ) : PS l P yX6_subscriberCount cX6_subscriberCount 1 rm_X6_subscriberCount yX7_subscriberCount cX7_subscriberCount 1 rm_X7_subscriberCount [] σ := by
  obtain ⟨o, ch, n, w, hR⟩ := hR
  refine ps_ask hR (c_X6_subscriberCount l P σ hP.1 hP.2.2.2 hR.bd) (c_X7_subscriberCount l P σ (σ.1 (.inr 10)) (σ.1 (.inr 9)) (σ.1 (.inr 18)) hP.2.1) ?_
  exact hR.b.s.2.2.2.2.1

theorem s_callCount (l : Launch) (P : XP) (hP : xAll P) (σ : XS) (hR : RV σ) : PS l P yX6_callCount cX6_callCount 1 rm_X6_callCount yX7_callCount cX7_callCount 1 rm_X7_callCount [] σ := by
  obtain ⟨o, ch, n, w, hR⟩ := hR
  refine ps_ask hR (c_X6_callCount l P σ hP.1 hP.2.2.2 hR.bd) (c_X7_callCount l P σ (σ.1 (.inr 10)) (σ.1 (.inr 9)) (σ.1 (.inr 18)) hP.2.1) ?_
  exact hR.b.s.2.2.2.2.2

theorem s_undoableChanges (l : Launch) (P : XP) (hP : xAll P) (σ : XS) (hR : RV σ) : PS l P yX6_undoableChanges cX6_undoableChanges 1 rm_X6_undoableChanges yX7_undoableChanges cX7_undoableChanges 1 rm_X7_undoableChanges [] σ := by
  obtain ⟨o, ch, n, w, hR⟩ := hR
  refine ps_ask hR (c_X6_undoableChanges l P σ hP.1 hP.2.2.2 hR.bd) (c_X7_undoableChanges l P σ (σ.1 (.inr 10)) (σ.1 (.inr 9)) (σ.1 (.inr 18)) hP.2.1) ?_
  rw [hR.hi.2.2.1, hR.h.2.1]

theorem s_freeCords (l : Launch) (P : XP) (hP : xAll P) (σ : XS) (hR : RV σ) : PS l P yX6_freeCords cX6_freeCords 1 rm_X6_freeCords yX7_freeCords cX7_freeCords 1 rm_X7_freeCords [] σ := by
  obtain ⟨o, ch, n, w, hR⟩ := hR
  refine ps_ask hR (c_X6_freeCords l P σ hP.1 hP.2.2.2 hR.bd) (c_X7_freeCords l P σ (σ.1 (.inr 10)) (σ.1 (.inr 9)) (σ.1 (.inr 18)) hP.2.1 hR.b.x.i) ?_
  rw [hR.b.nc, hR.b.s.2.2.1, hR.b.cords]

theorem s_waitingCalls (l : Launch) (P : XP) (hP : xAll P) (σ : XS) (hR : RV σ) : PS l P yX6_waitingCalls cX6_waitingCalls 1 rm_X6_waitingCalls yX7_waitingCalls cX7_waitingCalls 1 rm_X7_waitingCalls [] σ := by
  obtain ⟨o, ch, n, w, hR⟩ := hR
  refine ps_ask hR (c_X6_waitingCalls l P σ hP.1 hP.2.2.2 hR.bd) (c_X7_waitingCalls l P σ (σ.1 (.inr 10)) (σ.1 (.inr 9)) (σ.1 (.inr 18)) hP.2.1 hR.b.x.i) ?_
  rw [hR.b.nc, q_count hR.b]

theorem s_talkingCalls (l : Launch) (P : XP) (hP : xAll P) (σ : XS) (hR : RV σ) : PS l P yX6_talkingCalls cX6_talkingCalls 1 rm_X6_talkingCalls yX7_talkingCalls cX7_talkingCalls 1 rm_X7_talkingCalls [] σ := by
  obtain ⟨o, ch, n, w, hR⟩ := hR
  refine ps_ask hR (c_X6_talkingCalls l P σ hP.1 hP.2.2.2 hR.bd) (c_X7_talkingCalls l P σ (σ.1 (.inr 10)) (σ.1 (.inr 9)) (σ.1 (.inr 18)) hP.2.1 hR.b.x.i) ?_
  rw [hR.b.nc, q_count hR.b]

theorem s_bestInformed (l : Launch) (P : XP) (hP : xAll P) (σ : XS) (hR : RV σ) : PS l P yX6_bestInformed cX6_bestInformed 1 rm_X6_bestInformed yX7_bestInformed cX7_bestInformed 3 rm_X7_bestInformed [] σ := by
  obtain ⟨o, ch, n, w, hR⟩ := hR
  refine ps_ask hR (c_X6_bestInformed l P σ hP.1 hP.2.2.2 hR.bd) (c_X7_bestInformed l P σ (σ.1 (.inr 10)) (σ.1 (.inr 9)) (σ.1 (.inr 18)) hP.2.1 hR.b.x.i hR.g.2) ?_
  rw [hR.b.nu]
  exact q_best hR.b hR.g.2

theorem s_inconsistencies (l : Launch) (P : XP) (hP : xAll P) (σ : XS) (hR : RV σ) : PS l P yX6_inconsistencies cX6_inconsistencies 1 rm_X6_inconsistencies yX7_inconsistencies cX7_inconsistencies 4 rm_X7_inconsistencies [] σ := by
  obtain ⟨o, ch, n, w, hR⟩ := hR
  refine ps_ask hR (c_X6_inconsistencies l P σ hP.1 hP.2.2.2 hR.bd) (c_X7_inconsistencies l P σ (σ.1 (.inr 10)) (σ.1 (.inr 9)) (σ.1 (.inr 18)) hP.2.1 hR.b.x.i) ?_
  rw [hR.b.nu, hR.b.nc, hR.b.nt]
  exact q_inc hR.b

theorem s_outputByte (l : Launch) (P : XP) (hP : xAll P) (σ : XS) (hR : RV σ) (x : Int32) : PS l P yX6_outputByte cX6_outputByte 2 rm_X6_outputByte yX7_outputByte cX7_outputByte 2 rm_X7_outputByte [.int x] σ := by
  obtain ⟨o, ch, n, w, hR⟩ := hR
  have hw := hR.ou
  refine ps_ask hR (c_X6_outputByte l P σ hP.1 w hw.1 hw.2.1 x) (c_X7_outputByte l P σ (σ.1 (.inr 10)) (σ.1 (.inr 9)) (σ.1 (.inr 18)) hP.2.1 w (by have := hw.1; omega) hw.2.2.1 x) ?_
  by_cases g : xok x w
  · rw [if_pos g, if_pos g]; exact hw.2.2.2 _ (xok_c g (by have := hw.1; omega)).1
  · rw [if_neg g, if_neg g]

theorem s_append (l : Launch) (P : XP) (hP : xAll P) (σ : XS) (hR : RV σ) (a b d f g : Int32) : PS l P yX6_append cX6_append 6 rm_X6_append yX7_append cX7_append 6 rm_X7_append [.int a, .int b, .int d, .int f, .int g] σ := by
  obtain ⟨o, ch, n, w, hR⟩ := hR
  have hn := hR.t.1.2.1
  have hC := c_X6_append l P σ hP.1 n hR.t.1 a b d f g
  by_cases c : n + 20 ≤ 700
  · rw [if_pos c, if_pos c] at hC
    generalize hU : uFour (uFour (uFour (uFour (uFour σ n a) (n + 4) b) (n + 8) d) (n + 12) f) (n + 16) g = U at hC
    have eU : ∀ k, k ≠ 2 → k ≠ 3 → U.1 (.inr k) = σ.1 (.inr k) := fun k h2 h3 => by
      rw [← hU, uFour_o (by simpa using h2) (by simpa using h3), uFour_o (by simpa using h2) (by simpa using h3), uFour_o (by simpa using h2) (by simpa using h3), uFour_o (by simpa using h2) (by simpa using h3), uFour_o (by simpa using h2) (by simpa using h3)]
    have hM := c_X7_append l P U (σ.1 (.inr 10)) (σ.1 (.inr 9)) (σ.1 (.inr 18)) hP.2.1 n hn hR.t.2.1 a b d f g
    rw [if_pos c, if_pos c, show mW U (σ.1 (.inr 10)) (σ.1 (.inr 9)) (σ.1 (.inr 18)) = U from by rw [← eU 10 (by decide) (by decide), ← eU 9 (by decide) (by decide), ← eU 18 (by decide) (by decide)]; exact (mW_id U).symm] at hM
    have h := hR.app c a b d f g
    rw [hU] at h
    exact ⟨_, _, _, hC, hM, h.mw⟩
  · rw [if_neg c, if_neg c] at hC
    have hM := c_X7_append l P σ (σ.1 (.inr 10)) (σ.1 (.inr 9)) (σ.1 (.inr 18)) hP.2.1 n hn hR.t.2.1 a b d f g
    rw [if_neg c, if_neg c] at hM
    exact ps_ask hR hC hM rfl

theorem s_writeCalls (l : Launch) (P : XP) (hP : xAll P) (σ : XS) (hR : RV σ) : PS l P yX6_writeCalls cX6_writeCalls 2 rm_X6_writeCalls yX7_writeCalls cX7_writeCalls 2 rm_X7_writeCalls [] σ := by
  obtain ⟨o, ch, n, w, hR⟩ := hR
  have hC := c_X6_writeCalls l P σ hP.1 hP.2.2.2 hR.bd
  rw [hR.b.nu, hR.b.nc, q_write hR.b (mK (σ.1 (.inr 10))) 0 0 (by omega)] at hC
  have h := hR.write
  have eU : ∀ k, k ≠ 8 → k ≠ 0 → (uPut (xu σ (.inr 0) 6 0) 0 (mwL (σ.1 (.inr 10)) (mK (σ.1 (.inr 10))) 0 0)).1 (.inr k) = σ.1 (.inr k) := fun k h8 h0 => by
    rw [uPut_o _ _ _ _ (by simpa using h8) (by simpa using h0), xu_ne _ _ _ (by simpa using h0)]
  generalize uPut (xu σ (.inr 0) 6 0) 0 (mwL (σ.1 (.inr 10)) (mK (σ.1 (.inr 10))) 0 0) = U at hC h eU
  have hM := c_X7_writeCalls l P U (σ.1 (.inr 10)) (σ.1 (.inr 9)) (σ.1 (.inr 18)) hP.2.1 hR.b.x.i hR.b.x.n
  rw [show mW U (σ.1 (.inr 10)) (σ.1 (.inr 9)) (σ.1 (.inr 18)) = U from by rw [← eU 10 (by decide) (by decide), ← eU 9 (by decide) (by decide), ← eU 18 (by decide) (by decide)]; exact (mW_id U).symm] at hM
  exact ⟨_, _, _, hC, hM, h.mw⟩

theorem s_play (l : Launch) (P : XP) (hP : xAll P) (σ : XS) (hR : RV σ) : PS l P yX6_play cX6_play 2 rm_X6_play yX7_play cX7_play 1 rm_X7_play [] σ := by
  obtain ⟨o, ch, n, w, hR⟩ := hR
  have hC := c_X6_play l P σ hP.1 hP.2.2.2 hR.bd o ch hR.hi (hR.z 0 (by decide)) (hR.z 1 (by decide)) n hR.t.1
  have hX : Fr 1 σ (rPlay σ n).2 := ((Fr.of (fun i hi => (uCopyB_ne hi).1) (fun i hi => (uCopyB_ne hi).2) (fun _ => (FS.copy (b := 1) (f := 0) (by decide) (hR.z 0 (by decide))).2.2 (hR.z 1 (by decide)))).trans uText_fr).trans (rCmds_fr _ _ _ _)
  have eU : ∀ k, k ≠ 1 → k ≠ 2 → k ≠ 4 → (if (rPlay σ n).1 = -1 then uShort (rPlay σ n).2 else uTake (uShort (rPlay σ n).2) o ch).1 (.inr k) = σ.1 (.inr k) := fun k a b c => eTk hX a b c
  obtain ⟨e, o1, ch1, h⟩ := hR.play (L := σ.1 (.inr 18)) (T := if (rPlay σ n).1 = -1 then uShort (rPlay σ n).2 else uTake (uShort (rPlay σ n).2) o ch) rfl
  generalize (if (rPlay σ n).1 = -1 then uShort (rPlay σ n).2 else uTake (uShort (rPlay σ n).2) o ch) = U at hC h eU
  rw [e] at hC
  have hM := c_X7_play l P U (σ.1 (.inr 10)) (σ.1 (.inr 9)) (σ.1 (.inr 18)) hP.2.1 n hR.t.1.2.1 hR.t.2.1 hR.b.x.s ch hR.c8 hR.h.2.1
  rw [show mW U (σ.1 (.inr 10)) (σ.1 (.inr 9)) (σ.1 (.inr 18)) = U from by rw [← eU 10 (by decide) (by decide) (by decide), ← eU 9 (by decide) (by decide) (by decide), ← eU 18 (by decide) (by decide) (by decide)]; exact (mW_id U).symm, eU 16 (by decide) (by decide) (by decide)] at hM
  exact ⟨_, _, _, hC, hM, h.mw⟩

theorem s_load (l : Launch) (P : XP) (hP : xAll P) (σ : XS) (hR : RV σ) : PS l P yX6_load cX6_load 2 rm_X6_load yX7_load cX7_load 2 rm_X7_load [] σ := by
  obtain ⟨o, ch, n, w, hR⟩ := hR
  have hC := c_X6_load l P σ hP.1 hP.2.2.2 hR.bd o ch hR.hi (hR.z 0 (by decide)) (hR.z 1 (by decide)) n hR.t.1
  have eU : ∀ k, k ≠ 1 → k ≠ 2 → k ≠ 4 → (if (rLoad σ n).1 = 0 then uShort (rLoad σ n).2 else uTake (uShort (rLoad σ n).2) o ch).1 (.inr k) = σ.1 (.inr k) := fun k a b c => eTk rLoad_fr a b c
  obtain ⟨e, o1, ch1, h⟩ := hR.load (L := σ.1 (.inr 18)) (T := if (rLoad σ n).1 = 0 then uShort (rLoad σ n).2 else uTake (uShort (rLoad σ n).2) o ch) rfl
  rw [e] at hC
  generalize (if (rLoad σ n).1 = 0 then uShort (rLoad σ n).2 else uTake (uShort (rLoad σ n).2) o ch) = U at hC h eU
  have hM := c_X7_load l P U (σ.1 (.inr 10)) (σ.1 (.inr 9)) (σ.1 (.inr 18)) hP.2.1 n hR.t.1.2.1 hR.t.2.1 ch hR.c8 hR.h.2.1
  rw [show mW U (σ.1 (.inr 10)) (σ.1 (.inr 9)) (σ.1 (.inr 18)) = U from by rw [← eU 10 (by decide) (by decide) (by decide), ← eU 9 (by decide) (by decide) (by decide), ← eU 18 (by decide) (by decide) (by decide)]; exact (mW_id U).symm, eU 16 (by decide) (by decide) (by decide)] at hM
  exact ⟨_, _, _, hC, hM, h.mw⟩

end XP73

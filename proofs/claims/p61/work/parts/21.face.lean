/-! THE FACE: questions -/
theorem fits_01 {v : Int32} (h : fits .boolean (.int v) = true) : v = 0 ∨ v = 1 := by
  simp [fits] at h
  exact h
theorem nar_01 {v : Int32} (h : v = 0 ∨ v = 1) : narrow .boolean (.int v) = .int v := by rcases h with rfl | rfl <;> rfl
section XP21
variable {p : Program} {l : Launch} {e : Env} {R : Room} {s : State} {m : MethodId} {args : Array Value} {below : List Frame} {meth : Method} {c : Code} {P : XP} {A : Nat → Prop} {nL cells slots : Nat} {Q : State → Prop} {cc : ByteArray} {ret : Option FieldType} {σ : XS} {pc : Nat} {lv : List (Nat × Value)} {st : List Value}

set_option maxRecDepth 100000 in
set_option maxHeartbeats 4000000 in
theorem c_X6_clock (l : Launch) (P : XP) (σ : XS) (h0 : xI0 P) (hb : ∀ b, b < 12 → xIn P b) (hB : Bd σ 0) : XF l yX6_clock cX6_clock 1 (some .int) rm_X6_clock P [.ref (P.2.2.1 (.inr 0))] σ (some (.int (σ.1 (.inl (0, 0)) 3))) (σ) := by
  refine XM.of (by decide +kernel) (Nat.le_of_ble_eq_true rfl) (fun p e s m args below meth c A C => ?_)
  replace C : XC p s m args meth c P A 1 RX6 cX6_clock (some .int) := C
  refine XW.eq (lv' := [(0, _)]) rfl rfl rfl ?_
  have hb0 : xIn P 0 := hb 0 (by decide)
  have hnu := hB.2.1
  have hnc := hB.2.2.2.1
  have hnt := hB.2.2.2.2.2
  refine X_aload_n (pc := 0) C 0 dX6_clock_0 rfl rfl ?_
  refine G_X6_12 (pc := 1) C (by assumption) dX6_clock_1 ?_
  refine G_X6_160 (pc := 4) C (by assumption) dX6_clock_4 ?_
  exact X_iret (pc := 7) C (Nat.zero_le _) (Nat.zero_le _) dX6_clock_7 ⟨rfl, rfl⟩

set_option maxRecDepth 100000 in
set_option maxHeartbeats 4000000 in
theorem c_X6_lineCount (l : Launch) (P : XP) (σ : XS) (h0 : xI0 P) (hb : ∀ b, b < 12 → xIn P b) (hB : Bd σ 0) : XF l yX6_lineCount cX6_lineCount 1 (some .int) rm_X6_lineCount P [.ref (P.2.2.1 (.inr 0))] σ (some (.int (σ.1 (.inl (0, 0)) 4))) (σ) := by
  refine XM.of (by decide +kernel) (Nat.le_of_ble_eq_true rfl) (fun p e s m args below meth c A C => ?_)
  replace C : XC p s m args meth c P A 1 RX6 cX6_lineCount (some .int) := C
  refine XW.eq (lv' := [(0, _)]) rfl rfl rfl ?_
  have hb0 : xIn P 0 := hb 0 (by decide)
  have hnu := hB.2.1
  have hnc := hB.2.2.2.1
  have hnt := hB.2.2.2.2.2
  refine X_aload_n (pc := 0) C 0 dX6_lineCount_0 rfl rfl ?_
  refine G_X6_12 (pc := 1) C (by assumption) dX6_lineCount_1 ?_
  refine G_X6_182 (pc := 4) C (by assumption) dX6_lineCount_4 ?_
  exact X_iret (pc := 7) C (Nat.zero_le _) (Nat.zero_le _) dX6_lineCount_7 ⟨rfl, rfl⟩

set_option maxRecDepth 100000 in
set_option maxHeartbeats 4000000 in
theorem c_X6_cordCount (l : Launch) (P : XP) (σ : XS) (h0 : xI0 P) (hb : ∀ b, b < 12 → xIn P b) (hB : Bd σ 0) : XF l yX6_cordCount cX6_cordCount 1 (some .int) rm_X6_cordCount P [.ref (P.2.2.1 (.inr 0))] σ (some (.int (σ.1 (.inl (0, 0)) 5))) (σ) := by
  refine XM.of (by decide +kernel) (Nat.le_of_ble_eq_true rfl) (fun p e s m args below meth c A C => ?_)
  replace C : XC p s m args meth c P A 1 RX6 cX6_cordCount (some .int) := C
  refine XW.eq (lv' := [(0, _)]) rfl rfl rfl ?_
  have hb0 : xIn P 0 := hb 0 (by decide)
  have hnu := hB.2.1
  have hnc := hB.2.2.2.1
  have hnt := hB.2.2.2.2.2
  refine X_aload_n (pc := 0) C 0 dX6_cordCount_0 rfl rfl ?_
  refine G_X6_12 (pc := 1) C (by assumption) dX6_cordCount_1 ?_
  refine G_X6_185 (pc := 4) C (by assumption) dX6_cordCount_4 ?_
  exact X_iret (pc := 7) C (Nat.zero_le _) (Nat.zero_le _) dX6_cordCount_7 ⟨rfl, rfl⟩

set_option maxRecDepth 100000 in
set_option maxHeartbeats 4000000 in
theorem c_X6_trunkCount (l : Launch) (P : XP) (σ : XS) (h0 : xI0 P) (hb : ∀ b, b < 12 → xIn P b) (hB : Bd σ 0) : XF l yX6_trunkCount cX6_trunkCount 1 (some .int) rm_X6_trunkCount P [.ref (P.2.2.1 (.inr 0))] σ (some (.int (σ.1 (.inl (0, 0)) 6))) (σ) := by
  refine XM.of (by decide +kernel) (Nat.le_of_ble_eq_true rfl) (fun p e s m args below meth c A C => ?_)
  replace C : XC p s m args meth c P A 1 RX6 cX6_trunkCount (some .int) := C
  refine XW.eq (lv' := [(0, _)]) rfl rfl rfl ?_
  have hb0 : xIn P 0 := hb 0 (by decide)
  have hnu := hB.2.1
  have hnc := hB.2.2.2.1
  have hnt := hB.2.2.2.2.2
  refine X_aload_n (pc := 0) C 0 dX6_trunkCount_0 rfl rfl ?_
  refine G_X6_12 (pc := 1) C (by assumption) dX6_trunkCount_1 ?_
  refine G_X6_191 (pc := 4) C (by assumption) dX6_trunkCount_4 ?_
  exact X_iret (pc := 7) C (Nat.zero_le _) (Nat.zero_le _) dX6_trunkCount_7 ⟨rfl, rfl⟩

set_option maxRecDepth 100000 in
set_option maxHeartbeats 4000000 in
theorem c_X6_subscriberCount (l : Launch) (P : XP) (σ : XS) (h0 : xI0 P) (hb : ∀ b, b < 12 → xIn P b) (hB : Bd σ 0) : XF l yX6_subscriberCount cX6_subscriberCount 1 (some .int) rm_X6_subscriberCount P [.ref (P.2.2.1 (.inr 0))] σ (some (.int (σ.1 (.inl (0, 1)) 6))) (σ) := by
  refine XM.of (by decide +kernel) (Nat.le_of_ble_eq_true rfl) (fun p e s m args below meth c A C => ?_)
  replace C : XC p s m args meth c P A 1 RX6 cX6_subscriberCount (some .int) := C
  refine XW.eq (lv' := [(0, _)]) rfl rfl rfl ?_
  have hb0 : xIn P 0 := hb 0 (by decide)
  have hnu := hB.2.1
  have hnc := hB.2.2.2.1
  have hnt := hB.2.2.2.2.2
  refine X_aload_n (pc := 0) C 0 dX6_subscriberCount_0 rfl rfl ?_
  refine G_X6_12 (pc := 1) C (by assumption) dX6_subscriberCount_1 ?_
  refine G_X6_98 (pc := 4) C (by assumption) dX6_subscriberCount_4 ?_
  refine G_X6_102 (pc := 7) C (by assumption) dX6_subscriberCount_7 ?_
  exact X_iret (pc := 10) C (Nat.zero_le _) (Nat.zero_le _) dX6_subscriberCount_10 ⟨rfl, rfl⟩

set_option maxRecDepth 100000 in
set_option maxHeartbeats 4000000 in
theorem c_X6_callCount (l : Launch) (P : XP) (σ : XS) (h0 : xI0 P) (hb : ∀ b, b < 12 → xIn P b) (hB : Bd σ 0) : XF l yX6_callCount cX6_callCount 1 (some .int) rm_X6_callCount P [.ref (P.2.2.1 (.inr 0))] σ (some (.int (σ.1 (.inl (0, 8)) 10))) (σ) := by
  refine XM.of (by decide +kernel) (Nat.le_of_ble_eq_true rfl) (fun p e s m args below meth c A C => ?_)
  replace C : XC p s m args meth c P A 1 RX6 cX6_callCount (some .int) := C
  refine XW.eq (lv' := [(0, _)]) rfl rfl rfl ?_
  have hb0 : xIn P 0 := hb 0 (by decide)
  have hnu := hB.2.1
  have hnc := hB.2.2.2.1
  have hnt := hB.2.2.2.2.2
  refine X_aload_n (pc := 0) C 0 dX6_callCount_0 rfl rfl ?_
  refine G_X6_12 (pc := 1) C (by assumption) dX6_callCount_1 ?_
  refine G_X6_139 (pc := 4) C (by assumption) dX6_callCount_4 ?_
  refine G_X6_194 (pc := 7) C (by assumption) dX6_callCount_7 ?_
  exact X_iret (pc := 10) C (Nat.zero_le _) (Nat.zero_le _) dX6_callCount_10 ⟨rfl, rfl⟩

set_option maxRecDepth 100000 in
set_option maxHeartbeats 4000000 in
theorem c_X6_undoableChanges (l : Launch) (P : XP) (σ : XS) (h0 : xI0 P) (hb : ∀ b, b < 12 → xIn P b) (hB : Bd σ 0) : XF l yX6_undoableChanges cX6_undoableChanges 1 (some .int) rm_X6_undoableChanges P [.ref (P.2.2.1 (.inr 0))] σ (some (.int (σ.1 (.inr 4) 2))) (σ) := by
  refine XM.of (by decide +kernel) (Nat.le_of_ble_eq_true rfl) (fun p e s m args below meth c A C => ?_)
  replace C : XC p s m args meth c P A 1 RX6 cX6_undoableChanges (some .int) := C
  refine XW.eq (lv' := [(0, _)]) rfl rfl rfl ?_
  have hb0 : xIn P 0 := hb 0 (by decide)
  have hnu := hB.2.1
  have hnc := hB.2.2.2.1
  have hnt := hB.2.2.2.2.2
  refine X_aload_n (pc := 0) C 0 dX6_undoableChanges_0 rfl rfl ?_
  refine G_X6_26 (pc := 1) C (by assumption) dX6_undoableChanges_1 ?_
  refine G_X6_171 (pc := 4) C (by assumption) dX6_undoableChanges_4 ?_
  exact X_iret (pc := 7) C (Nat.zero_le _) (Nat.zero_le _) dX6_undoableChanges_7 ⟨rfl, rfl⟩

set_option maxRecDepth 100000 in
set_option maxHeartbeats 4000000 in
theorem c_X6_freeCords (l : Launch) (P : XP) (σ : XS) (h0 : xI0 P) (hb : ∀ b, b < 12 → xIn P b) (hB : Bd σ 0) : XF l yX6_freeCords cX6_freeCords 1 (some .int) rm_X6_freeCords P [.ref (P.2.2.1 (.inr 0))] σ (some (.int (σ.1 (.inl (0, 0)) 5 - nI (cCords (σ.1 (.inl (0, 9))) (σ.1 (.inl (0, 15))) (ncN σ 0))))) (σ) := by
  refine XM.of (by decide +kernel) (Nat.le_of_ble_eq_true rfl) (fun p e s m args below meth c A C => ?_)
  replace C : XC p s m args meth c P A 1 RX6 cX6_freeCords (some .int) := C
  refine XW.eq (lv' := [(0, _)]) rfl rfl rfl ?_
  have hb0 : xIn P 0 := hb 0 (by decide)
  have hnu := hB.2.1
  have hnc := hB.2.2.2.1
  have hnt := hB.2.2.2.2.2
  refine X_aload_n (pc := 0) C 0 dX6_freeCords_0 rfl rfl ?_
  refine G_X6_12 (pc := 1) C (by assumption) dX6_freeCords_1 ?_
  refine K_X6_188 (pc := 4) C (by assumption) (c_X0_unusedCords l P σ 0 (ncN σ 0) hb0 hnc hB.2.2.1) ⟨Nat.le_of_ble_eq_true rfl, Nat.le_of_ble_eq_true rfl⟩ ⟨rfl, rfl⟩ ⟨Nat.zero_le _, Nat.zero_le _⟩ (Nat.le_of_ble_eq_true rfl) dX6_freeCords_4 ?_
  exact X_iret (pc := 7) C (Nat.zero_le _) (Nat.zero_le _) dX6_freeCords_7 ⟨rfl, rfl⟩

set_option maxRecDepth 100000 in
set_option maxHeartbeats 4000000 in
theorem c_X6_waitingCalls (l : Launch) (P : XP) (σ : XS) (h0 : xI0 P) (hb : ∀ b, b < 12 → xIn P b) (hB : Bd σ 0) : XF l yX6_waitingCalls cX6_waitingCalls 1 (some .int) rm_X6_waitingCalls P [.ref (P.2.2.1 (.inr 0))] σ (some (.int (nI (cCount (σ.1 (.inl (0, 9))) 0 (ncN σ 0))))) (σ) := by
  refine XM.of (by decide +kernel) (Nat.le_of_ble_eq_true rfl) (fun p e s m args below meth c A C => ?_)
  replace C : XC p s m args meth c P A 1 RX6 cX6_waitingCalls (some .int) := C
  refine XW.eq (lv' := [(0, _)]) rfl rfl rfl ?_
  have hb0 : xIn P 0 := hb 0 (by decide)
  have hnu := hB.2.1
  have hnc := hB.2.2.2.1
  have hnt := hB.2.2.2.2.2
  refine X_aload_n (pc := 0) C 0 dX6_waitingCalls_0 rfl rfl ?_
  refine G_X6_12 (pc := 1) C (by assumption) dX6_waitingCalls_1 ?_
  refine G_X6_139 (pc := 4) C (by assumption) dX6_waitingCalls_4 ?_
  refine X_iconst (pc := 7) (v := 0) C dX6_waitingCalls_7 (by decide) ?_
  refine K_X6_195 (pc := 8) C (by assumption) (c_X1_countIn l P σ 0 (ncN σ 0) hb0 hnc hB.2.2.1 0) ⟨Nat.le_of_ble_eq_true rfl, Nat.le_of_ble_eq_true rfl⟩ ⟨rfl, rfl⟩ ⟨Nat.zero_le _, Nat.zero_le _⟩ (Nat.le_of_ble_eq_true rfl) dX6_waitingCalls_8 ?_
  exact X_iret (pc := 11) C (Nat.zero_le _) (Nat.zero_le _) dX6_waitingCalls_11 ⟨rfl, rfl⟩

set_option maxRecDepth 100000 in
set_option maxHeartbeats 4000000 in
theorem c_X6_talkingCalls (l : Launch) (P : XP) (σ : XS) (h0 : xI0 P) (hb : ∀ b, b < 12 → xIn P b) (hB : Bd σ 0) : XF l yX6_talkingCalls cX6_talkingCalls 1 (some .int) rm_X6_talkingCalls P [.ref (P.2.2.1 (.inr 0))] σ (some (.int (nI (cCount (σ.1 (.inl (0, 9))) 1 (ncN σ 0))))) (σ) := by
  refine XM.of (by decide +kernel) (Nat.le_of_ble_eq_true rfl) (fun p e s m args below meth c A C => ?_)
  replace C : XC p s m args meth c P A 1 RX6 cX6_talkingCalls (some .int) := C
  refine XW.eq (lv' := [(0, _)]) rfl rfl rfl ?_
  have hb0 : xIn P 0 := hb 0 (by decide)
  have hnu := hB.2.1
  have hnc := hB.2.2.2.1
  have hnt := hB.2.2.2.2.2
  refine X_aload_n (pc := 0) C 0 dX6_talkingCalls_0 rfl rfl ?_
  refine G_X6_12 (pc := 1) C (by assumption) dX6_talkingCalls_1 ?_
  refine G_X6_139 (pc := 4) C (by assumption) dX6_talkingCalls_4 ?_
  refine X_iconst (pc := 7) (v := 1) C dX6_talkingCalls_7 (by decide) ?_
  refine K_X6_195 (pc := 8) C (by assumption) (c_X1_countIn l P σ 0 (ncN σ 0) hb0 hnc hB.2.2.1 1) ⟨Nat.le_of_ble_eq_true rfl, Nat.le_of_ble_eq_true rfl⟩ ⟨rfl, rfl⟩ ⟨Nat.zero_le _, Nat.zero_le _⟩ (Nat.le_of_ble_eq_true rfl) dX6_talkingCalls_8 ?_
  exact X_iret (pc := 11) C (Nat.zero_le _) (Nat.zero_le _) dX6_talkingCalls_11 ⟨rfl, rfl⟩

set_option maxRecDepth 100000 in
set_option maxHeartbeats 4000000 in
theorem c_X6_bestInformed (l : Launch) (P : XP) (σ : XS) (h0 : xI0 P) (hb : ∀ b, b < 12 → xIn P b) (hB : Bd σ 0) : XF l yX6_bestInformed cX6_bestInformed 1 (some .int) rm_X6_bestInformed P [.ref (P.2.2.1 (.inr 0))] σ (some (.int ((cBest (fun k => xbc ((σ.1 (.inl (0, 7))) k)) (nuN σ 0)).1))) (σ) := by
  refine XM.of (by decide +kernel) (Nat.le_of_ble_eq_true rfl) (fun p e s m args below meth c A C => ?_)
  replace C : XC p s m args meth c P A 1 RX6 cX6_bestInformed (some .int) := C
  refine XW.eq (lv' := [(0, _)]) rfl rfl rfl ?_
  have hb0 : xIn P 0 := hb 0 (by decide)
  have hnu := hB.2.1
  have hnc := hB.2.2.2.1
  have hnt := hB.2.2.2.2.2
  refine X_aload_n (pc := 0) C 0 dX6_bestInformed_0 rfl rfl ?_
  refine G_X6_12 (pc := 1) C (by assumption) dX6_bestInformed_1 ?_
  refine G_X6_98 (pc := 4) C (by assumption) dX6_bestInformed_4 ?_
  refine K_X6_251 (pc := 7) C (by assumption) (c_X5_findBestInformed l P σ 0 (nuN σ 0) hb0 hnu hB.1) ⟨Nat.le_of_ble_eq_true rfl, Nat.le_of_ble_eq_true rfl⟩ ⟨rfl, rfl⟩ ⟨Nat.zero_le _, Nat.zero_le _⟩ (Nat.le_of_ble_eq_true rfl) dX6_bestInformed_7 ?_
  exact X_iret (pc := 10) C (Nat.zero_le _) (Nat.zero_le _) dX6_bestInformed_10 ⟨rfl, rfl⟩

set_option maxRecDepth 100000 in
set_option maxHeartbeats 4000000 in
theorem c_X6_inconsistencies (l : Launch) (P : XP) (σ : XS) (h0 : xI0 P) (hb : ∀ b, b < 12 → xIn P b) (hB : Bd σ 0) : XF l yX6_inconsistencies cX6_inconsistencies 1 (some .int) rm_X6_inconsistencies P [.ref (P.2.2.1 (.inr 0))] σ (some (.int (xbc (cShared (σ.1 (.inl (0, 9))) (σ.1 (.inl (0, 14))) (ncN σ 0)) + xabs ((σ.1 (.inl (0, 0)) 5) - ((σ.1 (.inl (0, 0)) 5) - (nI (cCords (σ.1 (.inl (0, 9))) (σ.1 (.inl (0, 15))) (ncN σ 0)))) - (nI (cCords (σ.1 (.inl (0, 9))) (σ.1 (.inl (0, 15))) (ncN σ 0)))) + xabs (cLess σ 0 (ntN σ 0) (cSum (σ.1 (.inl (0, 6))) (nuN σ 0)) (ncN σ 0))))) (σ) := by
  refine XM.of (by decide +kernel) (Nat.le_of_ble_eq_true rfl) (fun p e s m args below meth c A C => ?_)
  replace C : XC p s m args meth c P A 1 RX6 cX6_inconsistencies (some .int) := C
  refine XW.eq (lv' := [(0, _)]) rfl rfl rfl ?_
  have hb0 : xIn P 0 := hb 0 (by decide)
  have hnu := hB.2.1
  have hnc := hB.2.2.2.1
  have hnt := hB.2.2.2.2.2
  refine X_aload_n (pc := 0) C 0 dX6_inconsistencies_0 rfl rfl ?_
  refine G_X6_12 (pc := 1) C (by assumption) dX6_inconsistencies_1 ?_
  refine G_X6_139 (pc := 4) C (by assumption) dX6_inconsistencies_4 ?_
  refine K_X6_296 (pc := 7) C (by assumption) (c_X1_countShared l P σ 0 (ncN σ 0) hb0 hnc hB.2.2.1) ⟨Nat.le_of_ble_eq_true rfl, Nat.le_of_ble_eq_true rfl⟩ ⟨rfl, rfl⟩ ⟨Nat.zero_le _, Nat.zero_le _⟩ (Nat.le_of_ble_eq_true rfl) dX6_inconsistencies_7 ?_
  refine X_aload_n (pc := 10) C 0 dX6_inconsistencies_10 rfl rfl ?_
  refine G_X6_12 (pc := 11) C (by assumption) dX6_inconsistencies_11 ?_
  refine K_X6_299 (pc := 14) C (by assumption) (c_X0_cordFaults l P σ 0 (ncN σ 0) hb0 hnc hB.2.2.1) ⟨Nat.le_of_ble_eq_true rfl, Nat.le_of_ble_eq_true rfl⟩ ⟨rfl, rfl⟩ ⟨Nat.zero_le _, Nat.zero_le _⟩ (Nat.le_of_ble_eq_true rfl) dX6_inconsistencies_14 ?_
  refine X_iadd (pc := 17) C dX6_inconsistencies_17 ?_
  refine X_aload_n (pc := 18) C 0 dX6_inconsistencies_18 rfl rfl ?_
  refine G_X6_12 (pc := 19) C (by assumption) dX6_inconsistencies_19 ?_
  refine K_X6_302 (pc := 22) C (by assumption) (c_X0_billFaults l P σ 0 (nuN σ 0) (ncN σ 0) (ntN σ 0) hb0 hnu hB.1 hnc hB.2.2.1 hnt hB.2.2.2.2.1) ⟨Nat.le_of_ble_eq_true rfl, Nat.le_of_ble_eq_true rfl⟩ ⟨rfl, rfl⟩ ⟨Nat.zero_le _, Nat.zero_le _⟩ (Nat.le_of_ble_eq_true rfl) dX6_inconsistencies_22 ?_
  refine X_iadd (pc := 25) C dX6_inconsistencies_25 ?_
  exact X_iret (pc := 26) C (Nat.zero_le _) (Nat.zero_le _) dX6_inconsistencies_26 ⟨rfl, rfl⟩

set_option maxRecDepth 100000 in
set_option maxHeartbeats 4000000 in
theorem c_X6_lineOf (l : Launch) (hl0 : l.stackTraces = false) (P : XP) (σ : XS) (h0 : xI0 P) (hb : ∀ b, b < 12 → xIn P b) (hB : Bd σ 0) (x : Int32) : XTF l yX6_lineOf cX6_lineOf 2 (some .int) rm_X6_lineOf P [.ref (P.2.2.1 (.inr 0)), .int x] σ (oth (rqU σ x) (.inl (some (.int ((σ.1 (.inl (0, 3))) x.toNatClampNeg))))) (σ) := by
  refine XTM.of (by decide +kernel) (Nat.le_of_ble_eq_true rfl) (fun p e s m args below meth c A C hT => ?_)
  replace C : XC p s m args meth c P A 2 RX6 cX6_lineOf (some .int) := C
  refine XW.eq (lv' := [(0, _), (1, _)]) rfl rfl rfl ?_
  have hb0 : xIn P 0 := hb 0 (by decide)
  have hnu := hB.2.1
  have hnc := hB.2.2.2.1
  have hnt := hB.2.2.2.2.2
  refine X_aload_n (pc := 0) C 0 dX6_lineOf_0 rfl rfl ?_
  refine X_iload_n (pc := 1) C 1 dX6_lineOf_1 rfl rfl ?_
  refine X_reqG (i := .inr 0) (ci := 6) (n := 1) (pc := 2) C [.int _] (⟨c_X6_requireSubscriber l hl0 P σ h0 hb hB x, rq_none⟩) m_c_X6_requireSubscriber m_m_X6_130 m_i_X6_requireSubscriber m_s_X6_requireSubscriber m_n_X6 ⟨by decide +kernel, by decide +kernel, by decide +kernel⟩ ⟨Nat.le_of_ble_eq_true rfl, Nat.le_of_ble_eq_true rfl⟩ ⟨Nat.le_of_ble_eq_true rfl, Nat.le_of_ble_eq_true rfl⟩ (h0 0 (by decide)) rfl rfl rfl rfl (Nat.le_of_ble_eq_true rfl) rfl dX6_lineOf_2 (fun g2 => ?_) (fun E9 g2 => X_out C hT (Nat.le_of_ble_eq_true rfl) (Nat.le_of_ble_eq_true rfl) ⟨oth_e g2, rfl⟩)
  obtain ⟨j, hj, rfl⟩ := xok_of (rq_y g2)
  refine X_aload_n (pc := 5) C 0 dX6_lineOf_5 rfl rfl ?_
  refine G_X6_12 (pc := 6) C (by assumption) dX6_lineOf_6 ?_
  refine G_X6_98 (pc := 9) C (by assumption) dX6_lineOf_9 ?_
  refine G_X6_213 (pc := 12) C (by assumption) dX6_lineOf_12 ?_
  refine X_iload_n (pc := 15) C 1 dX6_lineOf_15 rfl rfl ?_
  refine X_ialdN (pc := 16) C (by first | exact h0 _ (by decide) | exact hb0 _ (by decide)) rfl (by omega) (by decide) dX6_lineOf_16 ?_
  exact XW.tret (X_iret (pc := 17) C (Nat.le_of_ble_eq_true rfl) (Nat.le_of_ble_eq_true rfl) dX6_lineOf_17 ⟨by rw [oth_v g2, nI_clamp (n31 (by omega))], rfl⟩)

set_option maxRecDepth 100000 in
set_option maxHeartbeats 4000000 in
theorem c_X6_curiosity (l : Launch) (hl0 : l.stackTraces = false) (P : XP) (σ : XS) (h0 : xI0 P) (hb : ∀ b, b < 12 → xIn P b) (hB : Bd σ 0) (x : Int32) : XTF l yX6_curiosity cX6_curiosity 2 (some .int) rm_X6_curiosity P [.ref (P.2.2.1 (.inr 0)), .int x] σ (oth (rqU σ x) (.inl (some (.int ((σ.1 (.inl (0, 5))) x.toNatClampNeg))))) (σ) := by
  refine XTM.of (by decide +kernel) (Nat.le_of_ble_eq_true rfl) (fun p e s m args below meth c A C hT => ?_)
  replace C : XC p s m args meth c P A 2 RX6 cX6_curiosity (some .int) := C
  refine XW.eq (lv' := [(0, _), (1, _)]) rfl rfl rfl ?_
  have hb0 : xIn P 0 := hb 0 (by decide)
  have hnu := hB.2.1
  have hnc := hB.2.2.2.1
  have hnt := hB.2.2.2.2.2
  refine X_aload_n (pc := 0) C 0 dX6_curiosity_0 rfl rfl ?_
  refine X_iload_n (pc := 1) C 1 dX6_curiosity_1 rfl rfl ?_
  refine X_reqG (i := .inr 0) (ci := 6) (n := 1) (pc := 2) C [.int _] (⟨c_X6_requireSubscriber l hl0 P σ h0 hb hB x, rq_none⟩) m_c_X6_requireSubscriber m_m_X6_130 m_i_X6_requireSubscriber m_s_X6_requireSubscriber m_n_X6 ⟨by decide +kernel, by decide +kernel, by decide +kernel⟩ ⟨Nat.le_of_ble_eq_true rfl, Nat.le_of_ble_eq_true rfl⟩ ⟨Nat.le_of_ble_eq_true rfl, Nat.le_of_ble_eq_true rfl⟩ (h0 0 (by decide)) rfl rfl rfl rfl (Nat.le_of_ble_eq_true rfl) rfl dX6_curiosity_2 (fun g2 => ?_) (fun E9 g2 => X_out C hT (Nat.le_of_ble_eq_true rfl) (Nat.le_of_ble_eq_true rfl) ⟨oth_e g2, rfl⟩)
  obtain ⟨j, hj, rfl⟩ := xok_of (rq_y g2)
  refine X_aload_n (pc := 5) C 0 dX6_curiosity_5 rfl rfl ?_
  refine G_X6_12 (pc := 6) C (by assumption) dX6_curiosity_6 ?_
  refine G_X6_98 (pc := 9) C (by assumption) dX6_curiosity_9 ?_
  refine G_X6_168 (pc := 12) C (by assumption) dX6_curiosity_12 ?_
  refine X_iload_n (pc := 15) C 1 dX6_curiosity_15 rfl rfl ?_
  refine X_ialdN (pc := 16) C (by first | exact h0 _ (by decide) | exact hb0 _ (by decide)) rfl (by omega) (by decide) dX6_curiosity_16 ?_
  exact XW.tret (X_iret (pc := 17) C (Nat.le_of_ble_eq_true rfl) (Nat.le_of_ble_eq_true rfl) dX6_curiosity_17 ⟨by rw [oth_v g2, nI_clamp (n31 (by omega))], rfl⟩)

set_option maxRecDepth 100000 in
set_option maxHeartbeats 4000000 in
theorem c_X6_bill (l : Launch) (hl0 : l.stackTraces = false) (P : XP) (σ : XS) (h0 : xI0 P) (hb : ∀ b, b < 12 → xIn P b) (hB : Bd σ 0) (x : Int32) : XTF l yX6_bill cX6_bill 2 (some .int) rm_X6_bill P [.ref (P.2.2.1 (.inr 0)), .int x] σ (oth (rqU σ x) (.inl (some (.int ((σ.1 (.inl (0, 6))) x.toNatClampNeg))))) (σ) := by
  refine XTM.of (by decide +kernel) (Nat.le_of_ble_eq_true rfl) (fun p e s m args below meth c A C hT => ?_)
  replace C : XC p s m args meth c P A 2 RX6 cX6_bill (some .int) := C
  refine XW.eq (lv' := [(0, _), (1, _)]) rfl rfl rfl ?_
  have hb0 : xIn P 0 := hb 0 (by decide)
  have hnu := hB.2.1
  have hnc := hB.2.2.2.1
  have hnt := hB.2.2.2.2.2
  refine X_aload_n (pc := 0) C 0 dX6_bill_0 rfl rfl ?_
  refine X_iload_n (pc := 1) C 1 dX6_bill_1 rfl rfl ?_
  refine X_reqG (i := .inr 0) (ci := 6) (n := 1) (pc := 2) C [.int _] (⟨c_X6_requireSubscriber l hl0 P σ h0 hb hB x, rq_none⟩) m_c_X6_requireSubscriber m_m_X6_130 m_i_X6_requireSubscriber m_s_X6_requireSubscriber m_n_X6 ⟨by decide +kernel, by decide +kernel, by decide +kernel⟩ ⟨Nat.le_of_ble_eq_true rfl, Nat.le_of_ble_eq_true rfl⟩ ⟨Nat.le_of_ble_eq_true rfl, Nat.le_of_ble_eq_true rfl⟩ (h0 0 (by decide)) rfl rfl rfl rfl (Nat.le_of_ble_eq_true rfl) rfl dX6_bill_2 (fun g2 => ?_) (fun E9 g2 => X_out C hT (Nat.le_of_ble_eq_true rfl) (Nat.le_of_ble_eq_true rfl) ⟨oth_e g2, rfl⟩)
  obtain ⟨j, hj, rfl⟩ := xok_of (rq_y g2)
  refine X_aload_n (pc := 5) C 0 dX6_bill_5 rfl rfl ?_
  refine G_X6_12 (pc := 6) C (by assumption) dX6_bill_6 ?_
  refine G_X6_98 (pc := 9) C (by assumption) dX6_bill_9 ?_
  refine G_X6_216 (pc := 12) C (by assumption) dX6_bill_12 ?_
  refine X_iload_n (pc := 15) C 1 dX6_bill_15 rfl rfl ?_
  refine X_ialdN (pc := 16) C (by first | exact h0 _ (by decide) | exact hb0 _ (by decide)) rfl (by omega) (by decide) dX6_bill_16 ?_
  exact XW.tret (X_iret (pc := 17) C (Nat.le_of_ble_eq_true rfl) (Nat.le_of_ble_eq_true rfl) dX6_bill_17 ⟨by rw [oth_v g2, nI_clamp (n31 (by omega))], rfl⟩)

set_option maxRecDepth 100000 in
set_option maxHeartbeats 4000000 in
theorem c_X6_secretsKnown (l : Launch) (hl0 : l.stackTraces = false) (P : XP) (σ : XS) (h0 : xI0 P) (hb : ∀ b, b < 12 → xIn P b) (hB : Bd σ 0) (x : Int32) : XTF l yX6_secretsKnown cX6_secretsKnown 2 (some .int) rm_X6_secretsKnown P [.ref (P.2.2.1 (.inr 0)), .int x] σ (oth (rqU σ x) (.inl (some (.int ((σ.1 (.inl (0, 7))) x.toNatClampNeg))))) (σ) := by
  refine XTM.of (by decide +kernel) (Nat.le_of_ble_eq_true rfl) (fun p e s m args below meth c A C hT => ?_)
  replace C : XC p s m args meth c P A 2 RX6 cX6_secretsKnown (some .int) := C
  refine XW.eq (lv' := [(0, _), (1, _)]) rfl rfl rfl ?_
  have hb0 : xIn P 0 := hb 0 (by decide)
  have hnu := hB.2.1
  have hnc := hB.2.2.2.1
  have hnt := hB.2.2.2.2.2
  refine X_aload_n (pc := 0) C 0 dX6_secretsKnown_0 rfl rfl ?_
  refine X_iload_n (pc := 1) C 1 dX6_secretsKnown_1 rfl rfl ?_
  refine X_reqG (i := .inr 0) (ci := 6) (n := 1) (pc := 2) C [.int _] (⟨c_X6_requireSubscriber l hl0 P σ h0 hb hB x, rq_none⟩) m_c_X6_requireSubscriber m_m_X6_130 m_i_X6_requireSubscriber m_s_X6_requireSubscriber m_n_X6 ⟨by decide +kernel, by decide +kernel, by decide +kernel⟩ ⟨Nat.le_of_ble_eq_true rfl, Nat.le_of_ble_eq_true rfl⟩ ⟨Nat.le_of_ble_eq_true rfl, Nat.le_of_ble_eq_true rfl⟩ (h0 0 (by decide)) rfl rfl rfl rfl (Nat.le_of_ble_eq_true rfl) rfl dX6_secretsKnown_2 (fun g2 => ?_) (fun E9 g2 => X_out C hT (Nat.le_of_ble_eq_true rfl) (Nat.le_of_ble_eq_true rfl) ⟨oth_e g2, rfl⟩)
  obtain ⟨j, hj, rfl⟩ := xok_of (rq_y g2)
  refine X_aload_n (pc := 5) C 0 dX6_secretsKnown_5 rfl rfl ?_
  refine G_X6_12 (pc := 6) C (by assumption) dX6_secretsKnown_6 ?_
  refine G_X6_98 (pc := 9) C (by assumption) dX6_secretsKnown_9 ?_
  refine G_X6_230 (pc := 12) C (by assumption) dX6_secretsKnown_12 ?_
  refine X_iload_n (pc := 15) C 1 dX6_secretsKnown_15 rfl rfl ?_
  refine X_ialdN (pc := 16) C (by first | exact h0 _ (by decide) | exact hb0 _ (by decide)) rfl (by omega) (by decide) dX6_secretsKnown_16 ?_
  exact XW.tret (X_iret (pc := 17) C (Nat.le_of_ble_eq_true rfl) (Nat.le_of_ble_eq_true rfl) dX6_secretsKnown_17 ⟨by rw [oth_v g2, nI_clamp (n31 (by omega))], rfl⟩)

set_option maxRecDepth 100000 in
set_option maxHeartbeats 4000000 in
theorem c_X6_callState (l : Launch) (hl0 : l.stackTraces = false) (P : XP) (σ : XS) (h0 : xI0 P) (hb : ∀ b, b < 12 → xIn P b) (hB : Bd σ 0) (x : Int32) : XTF l yX6_callState cX6_callState 2 (some .int) rm_X6_callState P [.ref (P.2.2.1 (.inr 0)), .int x] σ (oth (rqC σ x) (.inl (some (.int ((σ.1 (.inl (0, 9))) x.toNatClampNeg))))) (σ) := by
  refine XTM.of (by decide +kernel) (Nat.le_of_ble_eq_true rfl) (fun p e s m args below meth c A C hT => ?_)
  replace C : XC p s m args meth c P A 2 RX6 cX6_callState (some .int) := C
  refine XW.eq (lv' := [(0, _), (1, _)]) rfl rfl rfl ?_
  have hb0 : xIn P 0 := hb 0 (by decide)
  have hnu := hB.2.1
  have hnc := hB.2.2.2.1
  have hnt := hB.2.2.2.2.2
  refine X_aload_n (pc := 0) C 0 dX6_callState_0 rfl rfl ?_
  refine X_iload_n (pc := 1) C 1 dX6_callState_1 rfl rfl ?_
  refine X_reqG (i := .inr 0) (ci := 6) (n := 1) (pc := 2) C [.int _] (⟨c_X6_requireCall l hl0 P σ h0 hb hB x, rq_none⟩) m_c_X6_requireCall m_m_X6_136 m_i_X6_requireCall m_s_X6_requireCall m_n_X6 ⟨by decide +kernel, by decide +kernel, by decide +kernel⟩ ⟨Nat.le_of_ble_eq_true rfl, Nat.le_of_ble_eq_true rfl⟩ ⟨Nat.le_of_ble_eq_true rfl, Nat.le_of_ble_eq_true rfl⟩ (h0 0 (by decide)) rfl rfl rfl rfl (Nat.le_of_ble_eq_true rfl) rfl dX6_callState_2 (fun g2 => ?_) (fun E9 g2 => X_out C hT (Nat.le_of_ble_eq_true rfl) (Nat.le_of_ble_eq_true rfl) ⟨oth_e g2, rfl⟩)
  obtain ⟨j, hj, rfl⟩ := xok_of (rq_y g2)
  refine X_aload_n (pc := 5) C 0 dX6_callState_5 rfl rfl ?_
  refine G_X6_12 (pc := 6) C (by assumption) dX6_callState_6 ?_
  refine G_X6_139 (pc := 9) C (by assumption) dX6_callState_9 ?_
  refine G_X6_254 (pc := 12) C (by assumption) dX6_callState_12 ?_
  refine X_iload_n (pc := 15) C 1 dX6_callState_15 rfl rfl ?_
  refine X_ialdN (pc := 16) C (by first | exact h0 _ (by decide) | exact hb0 _ (by decide)) rfl (by omega) (by decide) dX6_callState_16 ?_
  exact XW.tret (X_iret (pc := 17) C (Nat.le_of_ble_eq_true rfl) (Nat.le_of_ble_eq_true rfl) dX6_callState_17 ⟨by rw [oth_v g2, nI_clamp (n31 (by omega))], rfl⟩)

set_option maxRecDepth 100000 in
set_option maxHeartbeats 4000000 in
theorem c_X6_callerOf (l : Launch) (hl0 : l.stackTraces = false) (P : XP) (σ : XS) (h0 : xI0 P) (hb : ∀ b, b < 12 → xIn P b) (hB : Bd σ 0) (x : Int32) : XTF l yX6_callerOf cX6_callerOf 2 (some .int) rm_X6_callerOf P [.ref (P.2.2.1 (.inr 0)), .int x] σ (oth (rqC σ x) (.inl (some (.int ((σ.1 (.inl (0, 10))) x.toNatClampNeg))))) (σ) := by
  refine XTM.of (by decide +kernel) (Nat.le_of_ble_eq_true rfl) (fun p e s m args below meth c A C hT => ?_)
  replace C : XC p s m args meth c P A 2 RX6 cX6_callerOf (some .int) := C
  refine XW.eq (lv' := [(0, _), (1, _)]) rfl rfl rfl ?_
  have hb0 : xIn P 0 := hb 0 (by decide)
  have hnu := hB.2.1
  have hnc := hB.2.2.2.1
  have hnt := hB.2.2.2.2.2
  refine X_aload_n (pc := 0) C 0 dX6_callerOf_0 rfl rfl ?_
  refine X_iload_n (pc := 1) C 1 dX6_callerOf_1 rfl rfl ?_
  refine X_reqG (i := .inr 0) (ci := 6) (n := 1) (pc := 2) C [.int _] (⟨c_X6_requireCall l hl0 P σ h0 hb hB x, rq_none⟩) m_c_X6_requireCall m_m_X6_136 m_i_X6_requireCall m_s_X6_requireCall m_n_X6 ⟨by decide +kernel, by decide +kernel, by decide +kernel⟩ ⟨Nat.le_of_ble_eq_true rfl, Nat.le_of_ble_eq_true rfl⟩ ⟨Nat.le_of_ble_eq_true rfl, Nat.le_of_ble_eq_true rfl⟩ (h0 0 (by decide)) rfl rfl rfl rfl (Nat.le_of_ble_eq_true rfl) rfl dX6_callerOf_2 (fun g2 => ?_) (fun E9 g2 => X_out C hT (Nat.le_of_ble_eq_true rfl) (Nat.le_of_ble_eq_true rfl) ⟨oth_e g2, rfl⟩)
  obtain ⟨j, hj, rfl⟩ := xok_of (rq_y g2)
  refine X_aload_n (pc := 5) C 0 dX6_callerOf_5 rfl rfl ?_
  refine G_X6_12 (pc := 6) C (by assumption) dX6_callerOf_6 ?_
  refine G_X6_139 (pc := 9) C (by assumption) dX6_callerOf_9 ?_
  refine G_X6_257 (pc := 12) C (by assumption) dX6_callerOf_12 ?_
  refine X_iload_n (pc := 15) C 1 dX6_callerOf_15 rfl rfl ?_
  refine X_ialdN (pc := 16) C (by first | exact h0 _ (by decide) | exact hb0 _ (by decide)) rfl (by omega) (by decide) dX6_callerOf_16 ?_
  exact XW.tret (X_iret (pc := 17) C (Nat.le_of_ble_eq_true rfl) (Nat.le_of_ble_eq_true rfl) dX6_callerOf_17 ⟨by rw [oth_v g2, nI_clamp (n31 (by omega))], rfl⟩)

set_option maxRecDepth 100000 in
set_option maxHeartbeats 4000000 in
theorem c_X6_calledSubscriber (l : Launch) (hl0 : l.stackTraces = false) (P : XP) (σ : XS) (h0 : xI0 P) (hb : ∀ b, b < 12 → xIn P b) (hB : Bd σ 0) (x : Int32) : XTF l yX6_calledSubscriber cX6_calledSubscriber 2 (some .int) rm_X6_calledSubscriber P [.ref (P.2.2.1 (.inr 0)), .int x] σ (oth (rqC σ x) (.inl (some (.int ((σ.1 (.inl (0, 11))) x.toNatClampNeg))))) (σ) := by
  refine XTM.of (by decide +kernel) (Nat.le_of_ble_eq_true rfl) (fun p e s m args below meth c A C hT => ?_)
  replace C : XC p s m args meth c P A 2 RX6 cX6_calledSubscriber (some .int) := C
  refine XW.eq (lv' := [(0, _), (1, _)]) rfl rfl rfl ?_
  have hb0 : xIn P 0 := hb 0 (by decide)
  have hnu := hB.2.1
  have hnc := hB.2.2.2.1
  have hnt := hB.2.2.2.2.2
  refine X_aload_n (pc := 0) C 0 dX6_calledSubscriber_0 rfl rfl ?_
  refine X_iload_n (pc := 1) C 1 dX6_calledSubscriber_1 rfl rfl ?_
  refine X_reqG (i := .inr 0) (ci := 6) (n := 1) (pc := 2) C [.int _] (⟨c_X6_requireCall l hl0 P σ h0 hb hB x, rq_none⟩) m_c_X6_requireCall m_m_X6_136 m_i_X6_requireCall m_s_X6_requireCall m_n_X6 ⟨by decide +kernel, by decide +kernel, by decide +kernel⟩ ⟨Nat.le_of_ble_eq_true rfl, Nat.le_of_ble_eq_true rfl⟩ ⟨Nat.le_of_ble_eq_true rfl, Nat.le_of_ble_eq_true rfl⟩ (h0 0 (by decide)) rfl rfl rfl rfl (Nat.le_of_ble_eq_true rfl) rfl dX6_calledSubscriber_2 (fun g2 => ?_) (fun E9 g2 => X_out C hT (Nat.le_of_ble_eq_true rfl) (Nat.le_of_ble_eq_true rfl) ⟨oth_e g2, rfl⟩)
  obtain ⟨j, hj, rfl⟩ := xok_of (rq_y g2)
  refine X_aload_n (pc := 5) C 0 dX6_calledSubscriber_5 rfl rfl ?_
  refine G_X6_12 (pc := 6) C (by assumption) dX6_calledSubscriber_6 ?_
  refine G_X6_139 (pc := 9) C (by assumption) dX6_calledSubscriber_9 ?_
  refine G_X6_260 (pc := 12) C (by assumption) dX6_calledSubscriber_12 ?_
  refine X_iload_n (pc := 15) C 1 dX6_calledSubscriber_15 rfl rfl ?_
  refine X_ialdN (pc := 16) C (by first | exact h0 _ (by decide) | exact hb0 _ (by decide)) rfl (by omega) (by decide) dX6_calledSubscriber_16 ?_
  exact XW.tret (X_iret (pc := 17) C (Nat.le_of_ble_eq_true rfl) (Nat.le_of_ble_eq_true rfl) dX6_calledSubscriber_17 ⟨by rw [oth_v g2, nI_clamp (n31 (by omega))], rfl⟩)

set_option maxRecDepth 100000 in
set_option maxHeartbeats 4000000 in
theorem c_X6_calledTrunk (l : Launch) (hl0 : l.stackTraces = false) (P : XP) (σ : XS) (h0 : xI0 P) (hb : ∀ b, b < 12 → xIn P b) (hB : Bd σ 0) (x : Int32) : XTF l yX6_calledTrunk cX6_calledTrunk 2 (some .int) rm_X6_calledTrunk P [.ref (P.2.2.1 (.inr 0)), .int x] σ (oth (rqC σ x) (.inl (some (.int ((σ.1 (.inl (0, 12))) x.toNatClampNeg))))) (σ) := by
  refine XTM.of (by decide +kernel) (Nat.le_of_ble_eq_true rfl) (fun p e s m args below meth c A C hT => ?_)
  replace C : XC p s m args meth c P A 2 RX6 cX6_calledTrunk (some .int) := C
  refine XW.eq (lv' := [(0, _), (1, _)]) rfl rfl rfl ?_
  have hb0 : xIn P 0 := hb 0 (by decide)
  have hnu := hB.2.1
  have hnc := hB.2.2.2.1
  have hnt := hB.2.2.2.2.2
  refine X_aload_n (pc := 0) C 0 dX6_calledTrunk_0 rfl rfl ?_
  refine X_iload_n (pc := 1) C 1 dX6_calledTrunk_1 rfl rfl ?_
  refine X_reqG (i := .inr 0) (ci := 6) (n := 1) (pc := 2) C [.int _] (⟨c_X6_requireCall l hl0 P σ h0 hb hB x, rq_none⟩) m_c_X6_requireCall m_m_X6_136 m_i_X6_requireCall m_s_X6_requireCall m_n_X6 ⟨by decide +kernel, by decide +kernel, by decide +kernel⟩ ⟨Nat.le_of_ble_eq_true rfl, Nat.le_of_ble_eq_true rfl⟩ ⟨Nat.le_of_ble_eq_true rfl, Nat.le_of_ble_eq_true rfl⟩ (h0 0 (by decide)) rfl rfl rfl rfl (Nat.le_of_ble_eq_true rfl) rfl dX6_calledTrunk_2 (fun g2 => ?_) (fun E9 g2 => X_out C hT (Nat.le_of_ble_eq_true rfl) (Nat.le_of_ble_eq_true rfl) ⟨oth_e g2, rfl⟩)
  obtain ⟨j, hj, rfl⟩ := xok_of (rq_y g2)
  refine X_aload_n (pc := 5) C 0 dX6_calledTrunk_5 rfl rfl ?_
  refine G_X6_12 (pc := 6) C (by assumption) dX6_calledTrunk_6 ?_
  refine G_X6_139 (pc := 9) C (by assumption) dX6_calledTrunk_9 ?_
  refine G_X6_263 (pc := 12) C (by assumption) dX6_calledTrunk_12 ?_
  refine X_iload_n (pc := 15) C 1 dX6_calledTrunk_15 rfl rfl ?_
  refine X_ialdN (pc := 16) C (by first | exact h0 _ (by decide) | exact hb0 _ (by decide)) rfl (by omega) (by decide) dX6_calledTrunk_16 ?_
  exact XW.tret (X_iret (pc := 17) C (Nat.le_of_ble_eq_true rfl) (Nat.le_of_ble_eq_true rfl) dX6_calledTrunk_17 ⟨by rw [oth_v g2, nI_clamp (n31 (by omega))], rfl⟩)

set_option maxRecDepth 100000 in
set_option maxHeartbeats 4000000 in
theorem c_X6_startTime (l : Launch) (hl0 : l.stackTraces = false) (P : XP) (σ : XS) (h0 : xI0 P) (hb : ∀ b, b < 12 → xIn P b) (hB : Bd σ 0) (x : Int32) : XTF l yX6_startTime cX6_startTime 2 (some .int) rm_X6_startTime P [.ref (P.2.2.1 (.inr 0)), .int x] σ (oth (rqC σ x) (.inl (some (.int ((σ.1 (.inl (0, 16))) x.toNatClampNeg))))) (σ) := by
  refine XTM.of (by decide +kernel) (Nat.le_of_ble_eq_true rfl) (fun p e s m args below meth c A C hT => ?_)
  replace C : XC p s m args meth c P A 2 RX6 cX6_startTime (some .int) := C
  refine XW.eq (lv' := [(0, _), (1, _)]) rfl rfl rfl ?_
  have hb0 : xIn P 0 := hb 0 (by decide)
  have hnu := hB.2.1
  have hnc := hB.2.2.2.1
  have hnt := hB.2.2.2.2.2
  refine X_aload_n (pc := 0) C 0 dX6_startTime_0 rfl rfl ?_
  refine X_iload_n (pc := 1) C 1 dX6_startTime_1 rfl rfl ?_
  refine X_reqG (i := .inr 0) (ci := 6) (n := 1) (pc := 2) C [.int _] (⟨c_X6_requireCall l hl0 P σ h0 hb hB x, rq_none⟩) m_c_X6_requireCall m_m_X6_136 m_i_X6_requireCall m_s_X6_requireCall m_n_X6 ⟨by decide +kernel, by decide +kernel, by decide +kernel⟩ ⟨Nat.le_of_ble_eq_true rfl, Nat.le_of_ble_eq_true rfl⟩ ⟨Nat.le_of_ble_eq_true rfl, Nat.le_of_ble_eq_true rfl⟩ (h0 0 (by decide)) rfl rfl rfl rfl (Nat.le_of_ble_eq_true rfl) rfl dX6_startTime_2 (fun g2 => ?_) (fun E9 g2 => X_out C hT (Nat.le_of_ble_eq_true rfl) (Nat.le_of_ble_eq_true rfl) ⟨oth_e g2, rfl⟩)
  obtain ⟨j, hj, rfl⟩ := xok_of (rq_y g2)
  refine X_aload_n (pc := 5) C 0 dX6_startTime_5 rfl rfl ?_
  refine G_X6_12 (pc := 6) C (by assumption) dX6_startTime_6 ?_
  refine G_X6_139 (pc := 9) C (by assumption) dX6_startTime_9 ?_
  refine G_X6_266 (pc := 12) C (by assumption) dX6_startTime_12 ?_
  refine X_iload_n (pc := 15) C 1 dX6_startTime_15 rfl rfl ?_
  refine X_ialdN (pc := 16) C (by first | exact h0 _ (by decide) | exact hb0 _ (by decide)) rfl (by omega) (by decide) dX6_startTime_16 ?_
  exact XW.tret (X_iret (pc := 17) C (Nat.le_of_ble_eq_true rfl) (Nat.le_of_ble_eq_true rfl) dX6_startTime_17 ⟨by rw [oth_v g2, nI_clamp (n31 (by omega))], rfl⟩)

set_option maxRecDepth 100000 in
set_option maxHeartbeats 4000000 in
theorem c_X6_endTime (l : Launch) (hl0 : l.stackTraces = false) (P : XP) (σ : XS) (h0 : xI0 P) (hb : ∀ b, b < 12 → xIn P b) (hB : Bd σ 0) (x : Int32) : XTF l yX6_endTime cX6_endTime 2 (some .int) rm_X6_endTime P [.ref (P.2.2.1 (.inr 0)), .int x] σ (oth (rqC σ x) (.inl (some (.int ((σ.1 (.inl (0, 17))) x.toNatClampNeg))))) (σ) := by
  refine XTM.of (by decide +kernel) (Nat.le_of_ble_eq_true rfl) (fun p e s m args below meth c A C hT => ?_)
  replace C : XC p s m args meth c P A 2 RX6 cX6_endTime (some .int) := C
  refine XW.eq (lv' := [(0, _), (1, _)]) rfl rfl rfl ?_
  have hb0 : xIn P 0 := hb 0 (by decide)
  have hnu := hB.2.1
  have hnc := hB.2.2.2.1
  have hnt := hB.2.2.2.2.2
  refine X_aload_n (pc := 0) C 0 dX6_endTime_0 rfl rfl ?_
  refine X_iload_n (pc := 1) C 1 dX6_endTime_1 rfl rfl ?_
  refine X_reqG (i := .inr 0) (ci := 6) (n := 1) (pc := 2) C [.int _] (⟨c_X6_requireCall l hl0 P σ h0 hb hB x, rq_none⟩) m_c_X6_requireCall m_m_X6_136 m_i_X6_requireCall m_s_X6_requireCall m_n_X6 ⟨by decide +kernel, by decide +kernel, by decide +kernel⟩ ⟨Nat.le_of_ble_eq_true rfl, Nat.le_of_ble_eq_true rfl⟩ ⟨Nat.le_of_ble_eq_true rfl, Nat.le_of_ble_eq_true rfl⟩ (h0 0 (by decide)) rfl rfl rfl rfl (Nat.le_of_ble_eq_true rfl) rfl dX6_endTime_2 (fun g2 => ?_) (fun E9 g2 => X_out C hT (Nat.le_of_ble_eq_true rfl) (Nat.le_of_ble_eq_true rfl) ⟨oth_e g2, rfl⟩)
  obtain ⟨j, hj, rfl⟩ := xok_of (rq_y g2)
  refine X_aload_n (pc := 5) C 0 dX6_endTime_5 rfl rfl ?_
  refine G_X6_12 (pc := 6) C (by assumption) dX6_endTime_6 ?_
  refine G_X6_139 (pc := 9) C (by assumption) dX6_endTime_9 ?_
  refine G_X6_269 (pc := 12) C (by assumption) dX6_endTime_12 ?_
  refine X_iload_n (pc := 15) C 1 dX6_endTime_15 rfl rfl ?_
  refine X_ialdN (pc := 16) C (by first | exact h0 _ (by decide) | exact hb0 _ (by decide)) rfl (by omega) (by decide) dX6_endTime_16 ?_
  exact XW.tret (X_iret (pc := 17) C (Nat.le_of_ble_eq_true rfl) (Nat.le_of_ble_eq_true rfl) dX6_endTime_17 ⟨by rw [oth_v g2, nI_clamp (n31 (by omega))], rfl⟩)

set_option maxRecDepth 100000 in
set_option maxHeartbeats 4000000 in
theorem c_X6_listeners (l : Launch) (hl0 : l.stackTraces = false) (P : XP) (σ : XS) (h0 : xI0 P) (hb : ∀ b, b < 12 → xIn P b) (hB : Bd σ 0) (x : Int32) : XTF l yX6_listeners cX6_listeners 2 (some .int) rm_X6_listeners P [.ref (P.2.2.1 (.inr 0)), .int x] σ (oth (rqC σ x) (.inl (some (.int ((σ.1 (.inl (0, 18))) x.toNatClampNeg))))) (σ) := by
  refine XTM.of (by decide +kernel) (Nat.le_of_ble_eq_true rfl) (fun p e s m args below meth c A C hT => ?_)
  replace C : XC p s m args meth c P A 2 RX6 cX6_listeners (some .int) := C
  refine XW.eq (lv' := [(0, _), (1, _)]) rfl rfl rfl ?_
  have hb0 : xIn P 0 := hb 0 (by decide)
  have hnu := hB.2.1
  have hnc := hB.2.2.2.1
  have hnt := hB.2.2.2.2.2
  refine X_aload_n (pc := 0) C 0 dX6_listeners_0 rfl rfl ?_
  refine X_iload_n (pc := 1) C 1 dX6_listeners_1 rfl rfl ?_
  refine X_reqG (i := .inr 0) (ci := 6) (n := 1) (pc := 2) C [.int _] (⟨c_X6_requireCall l hl0 P σ h0 hb hB x, rq_none⟩) m_c_X6_requireCall m_m_X6_136 m_i_X6_requireCall m_s_X6_requireCall m_n_X6 ⟨by decide +kernel, by decide +kernel, by decide +kernel⟩ ⟨Nat.le_of_ble_eq_true rfl, Nat.le_of_ble_eq_true rfl⟩ ⟨Nat.le_of_ble_eq_true rfl, Nat.le_of_ble_eq_true rfl⟩ (h0 0 (by decide)) rfl rfl rfl rfl (Nat.le_of_ble_eq_true rfl) rfl dX6_listeners_2 (fun g2 => ?_) (fun E9 g2 => X_out C hT (Nat.le_of_ble_eq_true rfl) (Nat.le_of_ble_eq_true rfl) ⟨oth_e g2, rfl⟩)
  obtain ⟨j, hj, rfl⟩ := xok_of (rq_y g2)
  refine X_aload_n (pc := 5) C 0 dX6_listeners_5 rfl rfl ?_
  refine G_X6_12 (pc := 6) C (by assumption) dX6_listeners_6 ?_
  refine G_X6_139 (pc := 9) C (by assumption) dX6_listeners_9 ?_
  refine G_X6_272 (pc := 12) C (by assumption) dX6_listeners_12 ?_
  refine X_iload_n (pc := 15) C 1 dX6_listeners_15 rfl rfl ?_
  refine X_ialdN (pc := 16) C (by first | exact h0 _ (by decide) | exact hb0 _ (by decide)) rfl (by omega) (by decide) dX6_listeners_16 ?_
  exact XW.tret (X_iret (pc := 17) C (Nat.le_of_ble_eq_true rfl) (Nat.le_of_ble_eq_true rfl) dX6_listeners_17 ⟨by rw [oth_v g2, nI_clamp (n31 (by omega))], rfl⟩)

set_option maxRecDepth 100000 in
set_option maxHeartbeats 4000000 in
theorem c_X6_toll (l : Launch) (hl0 : l.stackTraces = false) (P : XP) (σ : XS) (h0 : xI0 P) (hb : ∀ b, b < 12 → xIn P b) (hB : Bd σ 0) (x : Int32) : XTF l yX6_toll cX6_toll 2 (some .int) rm_X6_toll P [.ref (P.2.2.1 (.inr 0)), .int x] σ (oth (rqT σ x) (.inl (some (.int ((σ.1 (.inl (0, 19))) x.toNatClampNeg))))) (σ) := by
  refine XTM.of (by decide +kernel) (Nat.le_of_ble_eq_true rfl) (fun p e s m args below meth c A C hT => ?_)
  replace C : XC p s m args meth c P A 2 RX6 cX6_toll (some .int) := C
  refine XW.eq (lv' := [(0, _), (1, _)]) rfl rfl rfl ?_
  have hb0 : xIn P 0 := hb 0 (by decide)
  have hnu := hB.2.1
  have hnc := hB.2.2.2.1
  have hnt := hB.2.2.2.2.2
  refine X_aload_n (pc := 0) C 0 dX6_toll_0 rfl rfl ?_
  refine X_iload_n (pc := 1) C 1 dX6_toll_1 rfl rfl ?_
  refine X_reqG (i := .inr 0) (ci := 6) (n := 1) (pc := 2) C [.int _] (⟨c_X6_requireTrunk l hl0 P σ h0 hb hB x, rq_none⟩) m_c_X6_requireTrunk m_m_X6_133 m_i_X6_requireTrunk m_s_X6_requireTrunk m_n_X6 ⟨by decide +kernel, by decide +kernel, by decide +kernel⟩ ⟨Nat.le_of_ble_eq_true rfl, Nat.le_of_ble_eq_true rfl⟩ ⟨Nat.le_of_ble_eq_true rfl, Nat.le_of_ble_eq_true rfl⟩ (h0 0 (by decide)) rfl rfl rfl rfl (Nat.le_of_ble_eq_true rfl) rfl dX6_toll_2 (fun g2 => ?_) (fun E9 g2 => X_out C hT (Nat.le_of_ble_eq_true rfl) (Nat.le_of_ble_eq_true rfl) ⟨oth_e g2, rfl⟩)
  obtain ⟨j, hj, rfl⟩ := xok_of (rq_y g2)
  refine X_aload_n (pc := 5) C 0 dX6_toll_5 rfl rfl ?_
  refine G_X6_12 (pc := 6) C (by assumption) dX6_toll_6 ?_
  refine G_X6_210 (pc := 9) C (by assumption) dX6_toll_9 ?_
  refine X_iload_n (pc := 12) C 1 dX6_toll_12 rfl rfl ?_
  refine X_ialdN (pc := 13) C (by first | exact h0 _ (by decide) | exact hb0 _ (by decide)) rfl (by omega) (by decide) dX6_toll_13 ?_
  exact XW.tret (X_iret (pc := 14) C (Nat.le_of_ble_eq_true rfl) (Nat.le_of_ble_eq_true rfl) dX6_toll_14 ⟨by rw [oth_v g2, nI_clamp (n31 (by omega))], rfl⟩)

set_option maxRecDepth 100000 in
set_option maxHeartbeats 4000000 in
theorem c_X6_knowers (l : Launch) (hl0 : l.stackTraces = false) (P : XP) (σ : XS) (h0 : xI0 P) (hb : ∀ b, b < 12 → xIn P b) (hB : Bd σ 0) (x : Int32) : XTF l yX6_knowers cX6_knowers 2 (some .int) rm_X6_knowers P [.ref (P.2.2.1 (.inr 0)), .int x] σ (oth (rqU σ x) (.inl (some (.int (nI (cKnow (σ.1 (.inl (0, 7))) (xbit x) (nuN σ 0))))))) (σ) := by
  refine XTM.of (by decide +kernel) (Nat.le_of_ble_eq_true rfl) (fun p e s m args below meth c A C hT => ?_)
  replace C : XC p s m args meth c P A 2 RX6 cX6_knowers (some .int) := C
  refine XW.eq (lv' := [(0, _), (1, _)]) rfl rfl rfl ?_
  have hb0 : xIn P 0 := hb 0 (by decide)
  have hnu := hB.2.1
  have hnc := hB.2.2.2.1
  have hnt := hB.2.2.2.2.2
  refine X_aload_n (pc := 0) C 0 dX6_knowers_0 rfl rfl ?_
  refine X_iload_n (pc := 1) C 1 dX6_knowers_1 rfl rfl ?_
  refine X_reqG (i := .inr 0) (ci := 6) (n := 1) (pc := 2) C [.int _] (⟨c_X6_requireSubscriber l hl0 P σ h0 hb hB x, rq_none⟩) m_c_X6_requireSubscriber m_m_X6_130 m_i_X6_requireSubscriber m_s_X6_requireSubscriber m_n_X6 ⟨by decide +kernel, by decide +kernel, by decide +kernel⟩ ⟨Nat.le_of_ble_eq_true rfl, Nat.le_of_ble_eq_true rfl⟩ ⟨Nat.le_of_ble_eq_true rfl, Nat.le_of_ble_eq_true rfl⟩ (h0 0 (by decide)) rfl rfl rfl rfl (Nat.le_of_ble_eq_true rfl) rfl dX6_knowers_2 (fun g2 => ?_) (fun E9 g2 => X_out C hT (Nat.le_of_ble_eq_true rfl) (Nat.le_of_ble_eq_true rfl) ⟨oth_e g2, rfl⟩)
  refine X_aload_n (pc := 5) C 0 dX6_knowers_5 rfl rfl ?_
  refine G_X6_12 (pc := 6) C (by assumption) dX6_knowers_6 ?_
  refine G_X6_98 (pc := 9) C (by assumption) dX6_knowers_9 ?_
  refine X_iload_n (pc := 12) C 1 dX6_knowers_12 rfl rfl ?_
  refine K_X6_248 (pc := 13) C (by assumption) (c_X5_countKnowing l P σ 0 (nuN σ 0) hb0 hnu hB.1 x) ⟨Nat.le_of_ble_eq_true rfl, Nat.le_of_ble_eq_true rfl⟩ ⟨rfl, rfl⟩ ⟨Nat.le_of_ble_eq_true rfl, Nat.le_of_ble_eq_true rfl⟩ (Nat.le_of_ble_eq_true rfl) dX6_knowers_13 ?_
  exact XW.tret (X_iret (pc := 16) C (Nat.le_of_ble_eq_true rfl) (Nat.le_of_ble_eq_true rfl) dX6_knowers_16 ⟨by rw [oth_v g2], rfl⟩)

set_option maxRecDepth 100000 in
set_option maxHeartbeats 4000000 in
theorem c_X6_isLineBusy (l : Launch) (hl0 : l.stackTraces = false) (P : XP) (σ : XS) (h0 : xI0 P) (hb : ∀ b, b < 12 → xIn P b) (hB : Bd σ 0) (x : Int32) : XTF l yX6_isLineBusy cX6_isLineBusy 2 (some .boolean) rm_X6_isLineBusy P [.ref (P.2.2.1 (.inr 0)), .int x] σ (oth (rqL σ x) (.inl (some (.int (if cBusy (σ.1 (.inl (0, 9))) (σ.1 (.inl (0, 14))) (ncN σ 0) &&& xbit x = 0 then 0 else 1))))) (σ) := by
  refine XTM.of (by decide +kernel) (Nat.le_of_ble_eq_true rfl) (fun p e s m args below meth c A C hT => ?_)
  replace C : XC p s m args meth c P A 2 RX6 cX6_isLineBusy (some .boolean) := C
  refine XW.eq (lv' := [(0, _), (1, _)]) rfl rfl rfl ?_
  have hb0 : xIn P 0 := hb 0 (by decide)
  have hnu := hB.2.1
  have hnc := hB.2.2.2.1
  have hnt := hB.2.2.2.2.2
  refine X_aload_n (pc := 0) C 0 dX6_isLineBusy_0 rfl rfl ?_
  refine X_iload_n (pc := 1) C 1 dX6_isLineBusy_1 rfl rfl ?_
  refine X_reqG (i := .inr 0) (ci := 6) (n := 1) (pc := 2) C [.int _] (⟨c_X6_requireLine l hl0 P σ h0 hb hB x, rq_none⟩) m_c_X6_requireLine m_m_X6_198 m_i_X6_requireLine m_s_X6_requireLine m_n_X6 ⟨by decide +kernel, by decide +kernel, by decide +kernel⟩ ⟨Nat.le_of_ble_eq_true rfl, Nat.le_of_ble_eq_true rfl⟩ ⟨Nat.le_of_ble_eq_true rfl, Nat.le_of_ble_eq_true rfl⟩ (h0 0 (by decide)) rfl rfl rfl rfl (Nat.le_of_ble_eq_true rfl) rfl dX6_isLineBusy_2 (fun g2 => ?_) (fun E9 g2 => X_out C hT (Nat.le_of_ble_eq_true rfl) (Nat.le_of_ble_eq_true rfl) ⟨oth_e g2, rfl⟩)
  refine X_aload_n (pc := 5) C 0 dX6_isLineBusy_5 rfl rfl ?_
  refine G_X6_12 (pc := 6) C (by assumption) dX6_isLineBusy_6 ?_
  refine G_X6_139 (pc := 9) C (by assumption) dX6_isLineBusy_9 ?_
  refine K_X6_201 (pc := 12) C (by assumption) (c_X1_findBusy l P σ 0 (ncN σ 0) hb0 hnc hB.2.2.1) ⟨Nat.le_of_ble_eq_true rfl, Nat.le_of_ble_eq_true rfl⟩ ⟨rfl, rfl⟩ ⟨Nat.le_of_ble_eq_true rfl, Nat.le_of_ble_eq_true rfl⟩ (Nat.le_of_ble_eq_true rfl) dX6_isLineBusy_12 ?_
  refine X_iload_n (pc := 15) C 1 dX6_isLineBusy_15 rfl rfl ?_
  refine K_X6_204 (pc := 16) C (c_X6_bit l P σ x) ⟨Nat.le_of_ble_eq_true rfl, Nat.le_of_ble_eq_true rfl⟩ ⟨rfl, rfl⟩ ⟨Nat.le_of_ble_eq_true rfl, Nat.le_of_ble_eq_true rfl⟩ (Nat.le_of_ble_eq_true rfl) dX6_isLineBusy_16 ?_
  refine X_iand (pc := 19) C dX6_isLineBusy_19 ?_
  refine X_if_eq (pc := 20) C 27 dX6_isLineBusy_20 (by decide) (fun h20 => ?_) (fun h20 => ?_)
  · skip
    refine X_iconst (pc := 27) (v := 0) C dX6_isLineBusy_27 (by decide) ?_
    exact XW.tret (X_zret (pc := 28) C (Nat.le_of_ble_eq_true rfl) (Nat.le_of_ble_eq_true rfl) (rfl) dX6_isLineBusy_28 (by first | exact ⟨by rw [oth_v g2, if_pos h20], rfl⟩ | exact ⟨by rw [oth_v g2, if_neg h20], rfl⟩))
  · skip
    refine X_iconst (pc := 23) (v := 1) C dX6_isLineBusy_23 (by decide) ?_
    refine X_goto (pc := 24) C 28 dX6_isLineBusy_24 (by decide) ?_
    exact XW.tret (X_zret (pc := 28) C (Nat.le_of_ble_eq_true rfl) (Nat.le_of_ble_eq_true rfl) (rfl) dX6_isLineBusy_28 (by first | exact ⟨by rw [oth_v g2, if_pos h20], rfl⟩ | exact ⟨by rw [oth_v g2, if_neg h20], rfl⟩))

set_option maxRecDepth 100000 in
set_option maxHeartbeats 4000000 in
theorem c_X6_isTrunkBusy (l : Launch) (hl0 : l.stackTraces = false) (P : XP) (σ : XS) (h0 : xI0 P) (hb : ∀ b, b < 12 → xIn P b) (hB : Bd σ 0) (x : Int32) : XTF l yX6_isTrunkBusy cX6_isTrunkBusy 2 (some .boolean) rm_X6_isTrunkBusy P [.ref (P.2.2.1 (.inr 0)), .int x] σ (oth (rqT σ x) (.inl (some (.int (if cBusy (σ.1 (.inl (0, 9))) (σ.1 (.inl (0, 14))) (ncN σ 0) &&& xtb x = 0 then 0 else 1))))) (σ) := by
  refine XTM.of (by decide +kernel) (Nat.le_of_ble_eq_true rfl) (fun p e s m args below meth c A C hT => ?_)
  replace C : XC p s m args meth c P A 2 RX6 cX6_isTrunkBusy (some .boolean) := C
  refine XW.eq (lv' := [(0, _), (1, _)]) rfl rfl rfl ?_
  have hb0 : xIn P 0 := hb 0 (by decide)
  have hnu := hB.2.1
  have hnc := hB.2.2.2.1
  have hnt := hB.2.2.2.2.2
  refine X_aload_n (pc := 0) C 0 dX6_isTrunkBusy_0 rfl rfl ?_
  refine X_iload_n (pc := 1) C 1 dX6_isTrunkBusy_1 rfl rfl ?_
  refine X_reqG (i := .inr 0) (ci := 6) (n := 1) (pc := 2) C [.int _] (⟨c_X6_requireTrunk l hl0 P σ h0 hb hB x, rq_none⟩) m_c_X6_requireTrunk m_m_X6_133 m_i_X6_requireTrunk m_s_X6_requireTrunk m_n_X6 ⟨by decide +kernel, by decide +kernel, by decide +kernel⟩ ⟨Nat.le_of_ble_eq_true rfl, Nat.le_of_ble_eq_true rfl⟩ ⟨Nat.le_of_ble_eq_true rfl, Nat.le_of_ble_eq_true rfl⟩ (h0 0 (by decide)) rfl rfl rfl rfl (Nat.le_of_ble_eq_true rfl) rfl dX6_isTrunkBusy_2 (fun g2 => ?_) (fun E9 g2 => X_out C hT (Nat.le_of_ble_eq_true rfl) (Nat.le_of_ble_eq_true rfl) ⟨oth_e g2, rfl⟩)
  refine X_aload_n (pc := 5) C 0 dX6_isTrunkBusy_5 rfl rfl ?_
  refine G_X6_12 (pc := 6) C (by assumption) dX6_isTrunkBusy_6 ?_
  refine G_X6_139 (pc := 9) C (by assumption) dX6_isTrunkBusy_9 ?_
  refine K_X6_201 (pc := 12) C (by assumption) (c_X1_findBusy l P σ 0 (ncN σ 0) hb0 hnc hB.2.2.1) ⟨Nat.le_of_ble_eq_true rfl, Nat.le_of_ble_eq_true rfl⟩ ⟨rfl, rfl⟩ ⟨Nat.le_of_ble_eq_true rfl, Nat.le_of_ble_eq_true rfl⟩ (Nat.le_of_ble_eq_true rfl) dX6_isTrunkBusy_12 ?_
  refine X_iload_n (pc := 15) C 1 dX6_isTrunkBusy_15 rfl rfl ?_
  refine K_X6_207 (pc := 16) C (c_X6_trunkBit l P σ x) ⟨Nat.le_of_ble_eq_true rfl, Nat.le_of_ble_eq_true rfl⟩ ⟨rfl, rfl⟩ ⟨Nat.le_of_ble_eq_true rfl, Nat.le_of_ble_eq_true rfl⟩ (Nat.le_of_ble_eq_true rfl) dX6_isTrunkBusy_16 ?_
  refine X_iand (pc := 19) C dX6_isTrunkBusy_19 ?_
  refine X_if_eq (pc := 20) C 27 dX6_isTrunkBusy_20 (by decide) (fun h20 => ?_) (fun h20 => ?_)
  · skip
    refine X_iconst (pc := 27) (v := 0) C dX6_isTrunkBusy_27 (by decide) ?_
    exact XW.tret (X_zret (pc := 28) C (Nat.le_of_ble_eq_true rfl) (Nat.le_of_ble_eq_true rfl) (rfl) dX6_isTrunkBusy_28 (by first | exact ⟨by rw [oth_v g2, if_pos h20], rfl⟩ | exact ⟨by rw [oth_v g2, if_neg h20], rfl⟩))
  · skip
    refine X_iconst (pc := 23) (v := 1) C dX6_isTrunkBusy_23 (by decide) ?_
    refine X_goto (pc := 24) C 28 dX6_isTrunkBusy_24 (by decide) ?_
    exact XW.tret (X_zret (pc := 28) C (Nat.le_of_ble_eq_true rfl) (Nat.le_of_ble_eq_true rfl) (rfl) dX6_isTrunkBusy_28 (by first | exact ⟨by rw [oth_v g2, if_pos h20], rfl⟩ | exact ⟨by rw [oth_v g2, if_neg h20], rfl⟩))

set_option maxRecDepth 100000 in
set_option maxHeartbeats 4000000 in
theorem c_X6_volume (l : Launch) (hl0 : l.stackTraces = false) (P : XP) (σ : XS) (h0 : xI0 P) (hb : ∀ b, b < 12 → xIn P b) (hB : Bd σ 0) (x : Int32) : XTF l yX6_volume cX6_volume 2 (some .int) rm_X6_volume P [.ref (P.2.2.1 (.inr 0)), .int x] σ (oth (rqC σ x) (.inl (some (.int (xvolW ((σ.1 (.inl (0, 18))) x.toNatClampNeg)))))) (σ) := by
  refine XTM.of (by decide +kernel) (Nat.le_of_ble_eq_true rfl) (fun p e s m args below meth c A C hT => ?_)
  replace C : XC p s m args meth c P A 2 RX6 cX6_volume (some .int) := C
  refine XW.eq (lv' := [(0, _), (1, _)]) rfl rfl rfl ?_
  have hb0 : xIn P 0 := hb 0 (by decide)
  have hnu := hB.2.1
  have hnc := hB.2.2.2.1
  have hnt := hB.2.2.2.2.2
  refine X_aload_n (pc := 0) C 0 dX6_volume_0 rfl rfl ?_
  refine X_iload_n (pc := 1) C 1 dX6_volume_1 rfl rfl ?_
  refine X_reqG (i := .inr 0) (ci := 6) (n := 1) (pc := 2) C [.int _] (⟨c_X6_requireCall l hl0 P σ h0 hb hB x, rq_none⟩) m_c_X6_requireCall m_m_X6_136 m_i_X6_requireCall m_s_X6_requireCall m_n_X6 ⟨by decide +kernel, by decide +kernel, by decide +kernel⟩ ⟨Nat.le_of_ble_eq_true rfl, Nat.le_of_ble_eq_true rfl⟩ ⟨Nat.le_of_ble_eq_true rfl, Nat.le_of_ble_eq_true rfl⟩ (h0 0 (by decide)) rfl rfl rfl rfl (Nat.le_of_ble_eq_true rfl) rfl dX6_volume_2 (fun g2 => ?_) (fun E9 g2 => X_out C hT (Nat.le_of_ble_eq_true rfl) (Nat.le_of_ble_eq_true rfl) ⟨oth_e g2, rfl⟩)
  obtain ⟨j, hj, rfl⟩ := xok_of (rq_y g2)
  refine X_aload_n (pc := 5) C 0 dX6_volume_5 rfl rfl ?_
  refine G_X6_12 (pc := 6) C (by assumption) dX6_volume_6 ?_
  refine G_X6_139 (pc := 9) C (by assumption) dX6_volume_9 ?_
  refine G_X6_272 (pc := 12) C (by assumption) dX6_volume_12 ?_
  refine X_iload_n (pc := 15) C 1 dX6_volume_15 rfl rfl ?_
  refine X_ialdN (pc := 16) C (by first | exact h0 _ (by decide) | exact hb0 _ (by decide)) rfl (by omega) (by decide) dX6_volume_16 ?_
  refine K_X6_275 (pc := 17) C (c_X6_volumeWith l P σ ((σ.1 (.inl (0, 18))) j)) ⟨Nat.le_of_ble_eq_true rfl, Nat.le_of_ble_eq_true rfl⟩ ⟨rfl, rfl⟩ ⟨Nat.le_of_ble_eq_true rfl, Nat.le_of_ble_eq_true rfl⟩ (Nat.le_of_ble_eq_true rfl) dX6_volume_17 ?_
  exact XW.tret (X_iret (pc := 20) C (Nat.le_of_ble_eq_true rfl) (Nat.le_of_ble_eq_true rfl) dX6_volume_20 ⟨by rw [oth_v g2, nI_clamp (n31 (by omega))], rfl⟩)

set_option maxRecDepth 100000 in
set_option maxHeartbeats 4000000 in
theorem c_X6_charge (l : Launch) (hl0 : l.stackTraces = false) (P : XP) (σ : XS) (h0 : xI0 P) (hb : ∀ b, b < 12 → xIn P b) (hB : Bd σ 0) (x : Int32) : XTF l yX6_charge cX6_charge 2 (some .int) rm_X6_charge P [.ref (P.2.2.1 (.inr 0)), .int x] σ (oth (rqC σ x) (.inl (some (.int (xchg σ 0 (ntN σ 0) x.toNatClampNeg))))) (σ) := by
  refine XTM.of (by decide +kernel) (Nat.le_of_ble_eq_true rfl) (fun p e s m args below meth c A C hT => ?_)
  replace C : XC p s m args meth c P A 2 RX6 cX6_charge (some .int) := C
  refine XW.eq (lv' := [(0, _), (1, _)]) rfl rfl rfl ?_
  have hb0 : xIn P 0 := hb 0 (by decide)
  have hnu := hB.2.1
  have hnc := hB.2.2.2.1
  have hnt := hB.2.2.2.2.2
  refine X_aload_n (pc := 0) C 0 dX6_charge_0 rfl rfl ?_
  refine X_iload_n (pc := 1) C 1 dX6_charge_1 rfl rfl ?_
  refine X_reqG (i := .inr 0) (ci := 6) (n := 1) (pc := 2) C [.int _] (⟨c_X6_requireCall l hl0 P σ h0 hb hB x, rq_none⟩) m_c_X6_requireCall m_m_X6_136 m_i_X6_requireCall m_s_X6_requireCall m_n_X6 ⟨by decide +kernel, by decide +kernel, by decide +kernel⟩ ⟨Nat.le_of_ble_eq_true rfl, Nat.le_of_ble_eq_true rfl⟩ ⟨Nat.le_of_ble_eq_true rfl, Nat.le_of_ble_eq_true rfl⟩ (h0 0 (by decide)) rfl rfl rfl rfl (Nat.le_of_ble_eq_true rfl) rfl dX6_charge_2 (fun g2 => ?_) (fun E9 g2 => X_out C hT (Nat.le_of_ble_eq_true rfl) (Nat.le_of_ble_eq_true rfl) ⟨oth_e g2, rfl⟩)
  obtain ⟨j, hj, rfl⟩ := xok_of (rq_y g2)
  refine X_aload_n (pc := 5) C 0 dX6_charge_5 rfl rfl ?_
  refine G_X6_12 (pc := 6) C (by assumption) dX6_charge_6 ?_
  refine X_iload_n (pc := 9) C 1 dX6_charge_9 rfl rfl ?_
  refine K_X6_278 (pc := 10) C (by assumption) (c_X0_chargeFor l P σ 0 (ntN σ 0) hb0 hnt hB.2.2.2.2.1 j (by omega)) ⟨Nat.le_of_ble_eq_true rfl, Nat.le_of_ble_eq_true rfl⟩ ⟨rfl, rfl⟩ ⟨Nat.le_of_ble_eq_true rfl, Nat.le_of_ble_eq_true rfl⟩ (Nat.le_of_ble_eq_true rfl) dX6_charge_10 ?_
  exact XW.tret (X_iret (pc := 13) C (Nat.le_of_ble_eq_true rfl) (Nat.le_of_ble_eq_true rfl) dX6_charge_13 ⟨by rw [oth_v g2, nI_clamp (n31 (by omega))], rfl⟩)

set_option maxRecDepth 100000 in
set_option maxHeartbeats 4000000 in
theorem c_X6_obstacle (l : Launch) (hl0 : l.stackTraces = false) (P : XP) (σ : XS) (h0 : xI0 P) (hb : ∀ b, b < 12 → xIn P b) (hB : Bd σ 0) (x : Int32) : XTF l yX6_obstacle cX6_obstacle 2 (some .int) rm_X6_obstacle P [.ref (P.2.2.1 (.inr 0)), .int x] σ (oth (rqC σ x) (.inl (some (.int (if (σ.1 (.inl (0, 9))) x.toNatClampNeg = 0 then xblk σ 0 (nuN σ 0) (ncN σ 0) x.toNatClampNeg else 0))))) (σ) := by
  refine XTM.of (by decide +kernel) (Nat.le_of_ble_eq_true rfl) (fun p e s m args below meth c A C hT => ?_)
  replace C : XC p s m args meth c P A 2 RX6 cX6_obstacle (some .int) := C
  refine XW.eq (lv' := [(0, _), (1, _)]) rfl rfl rfl ?_
  have hb0 : xIn P 0 := hb 0 (by decide)
  have hnu := hB.2.1
  have hnc := hB.2.2.2.1
  have hnt := hB.2.2.2.2.2
  refine X_aload_n (pc := 0) C 0 dX6_obstacle_0 rfl rfl ?_
  refine X_iload_n (pc := 1) C 1 dX6_obstacle_1 rfl rfl ?_
  refine X_reqG (i := .inr 0) (ci := 6) (n := 1) (pc := 2) C [.int _] (⟨c_X6_requireCall l hl0 P σ h0 hb hB x, rq_none⟩) m_c_X6_requireCall m_m_X6_136 m_i_X6_requireCall m_s_X6_requireCall m_n_X6 ⟨by decide +kernel, by decide +kernel, by decide +kernel⟩ ⟨Nat.le_of_ble_eq_true rfl, Nat.le_of_ble_eq_true rfl⟩ ⟨Nat.le_of_ble_eq_true rfl, Nat.le_of_ble_eq_true rfl⟩ (h0 0 (by decide)) rfl rfl rfl rfl (Nat.le_of_ble_eq_true rfl) rfl dX6_obstacle_2 (fun g2 => ?_) (fun E9 g2 => X_out C hT (Nat.le_of_ble_eq_true rfl) (Nat.le_of_ble_eq_true rfl) ⟨oth_e g2, rfl⟩)
  obtain ⟨j, hj, rfl⟩ := xok_of (rq_y g2)
  refine X_aload_n (pc := 5) C 0 dX6_obstacle_5 rfl rfl ?_
  refine G_X6_12 (pc := 6) C (by assumption) dX6_obstacle_6 ?_
  refine G_X6_139 (pc := 9) C (by assumption) dX6_obstacle_9 ?_
  refine G_X6_254 (pc := 12) C (by assumption) dX6_obstacle_12 ?_
  refine X_iload_n (pc := 15) C 1 dX6_obstacle_15 rfl rfl ?_
  refine X_ialdN (pc := 16) C (by first | exact h0 _ (by decide) | exact hb0 _ (by decide)) rfl (by omega) (by decide) dX6_obstacle_16 ?_
  refine X_if_ne (pc := 17) C 31 dX6_obstacle_17 (by decide) (fun h17 => ?_) (fun h17 => ?_)
  · skip
    refine X_iconst (pc := 31) (v := 0) C dX6_obstacle_31 (by decide) ?_
    exact XW.tret (X_iret (pc := 32) C (Nat.le_of_ble_eq_true rfl) (Nat.le_of_ble_eq_true rfl) dX6_obstacle_32 (by first | exact ⟨by rw [oth_v g2, nI_clamp (n31 (by omega)), if_pos h17], rfl⟩ | exact ⟨by rw [oth_v g2, nI_clamp (n31 (by omega)), if_neg h17], rfl⟩))
  · skip
    refine X_aload_n (pc := 20) C 0 dX6_obstacle_20 rfl rfl ?_
    refine G_X6_12 (pc := 21) C (by assumption) dX6_obstacle_21 ?_
    refine X_iload_n (pc := 24) C 1 dX6_obstacle_24 rfl rfl ?_
    refine K_X6_281 (pc := 25) C (by assumption) (c_X0_findBlocker l P σ 0 (nuN σ 0) (ncN σ 0) hb0 hnu hB.1 hnc hB.2.2.1 j (by omega)) ⟨Nat.le_of_ble_eq_true rfl, Nat.le_of_ble_eq_true rfl⟩ ⟨rfl, rfl⟩ ⟨Nat.le_of_ble_eq_true rfl, Nat.le_of_ble_eq_true rfl⟩ (Nat.le_of_ble_eq_true rfl) dX6_obstacle_25 ?_
    refine X_goto (pc := 28) C 32 dX6_obstacle_28 (by decide) ?_
    exact XW.tret (X_iret (pc := 32) C (Nat.le_of_ble_eq_true rfl) (Nat.le_of_ble_eq_true rfl) dX6_obstacle_32 (by first | exact ⟨by rw [oth_v g2, nI_clamp (n31 (by omega)), if_pos h17], rfl⟩ | exact ⟨by rw [oth_v g2, nI_clamp (n31 (by omega)), if_neg h17], rfl⟩))

set_option maxRecDepth 100000 in
set_option maxHeartbeats 4000000 in
theorem c_X6_queuePlace (l : Launch) (hl0 : l.stackTraces = false) (P : XP) (σ : XS) (h0 : xI0 P) (hb : ∀ b, b < 12 → xIn P b) (hB : Bd σ 0) (x : Int32) : XTF l yX6_queuePlace cX6_queuePlace 2 (some .int) rm_X6_queuePlace P [.ref (P.2.2.1 (.inr 0)), .int x] σ (oth (rqC σ x) (.inl (some (.int (if (σ.1 (.inl (0, 9))) x.toNatClampNeg = 0 then nI (cPlace (σ.1 (.inl (0, 9))) (σ.1 (.inl (0, 13))) x.toNatClampNeg (ncN σ 0)) else -1))))) (σ) := by
  refine XTM.of (by decide +kernel) (Nat.le_of_ble_eq_true rfl) (fun p e s m args below meth c A C hT => ?_)
  replace C : XC p s m args meth c P A 2 RX6 cX6_queuePlace (some .int) := C
  refine XW.eq (lv' := [(0, _), (1, _)]) rfl rfl rfl ?_
  have hb0 : xIn P 0 := hb 0 (by decide)
  have hnu := hB.2.1
  have hnc := hB.2.2.2.1
  have hnt := hB.2.2.2.2.2
  refine X_aload_n (pc := 0) C 0 dX6_queuePlace_0 rfl rfl ?_
  refine X_iload_n (pc := 1) C 1 dX6_queuePlace_1 rfl rfl ?_
  refine X_reqG (i := .inr 0) (ci := 6) (n := 1) (pc := 2) C [.int _] (⟨c_X6_requireCall l hl0 P σ h0 hb hB x, rq_none⟩) m_c_X6_requireCall m_m_X6_136 m_i_X6_requireCall m_s_X6_requireCall m_n_X6 ⟨by decide +kernel, by decide +kernel, by decide +kernel⟩ ⟨Nat.le_of_ble_eq_true rfl, Nat.le_of_ble_eq_true rfl⟩ ⟨Nat.le_of_ble_eq_true rfl, Nat.le_of_ble_eq_true rfl⟩ (h0 0 (by decide)) rfl rfl rfl rfl (Nat.le_of_ble_eq_true rfl) rfl dX6_queuePlace_2 (fun g2 => ?_) (fun E9 g2 => X_out C hT (Nat.le_of_ble_eq_true rfl) (Nat.le_of_ble_eq_true rfl) ⟨oth_e g2, rfl⟩)
  obtain ⟨j, hj, rfl⟩ := xok_of (rq_y g2)
  refine X_aload_n (pc := 5) C 0 dX6_queuePlace_5 rfl rfl ?_
  refine G_X6_12 (pc := 6) C (by assumption) dX6_queuePlace_6 ?_
  refine G_X6_139 (pc := 9) C (by assumption) dX6_queuePlace_9 ?_
  refine X_iload_n (pc := 12) C 1 dX6_queuePlace_12 rfl rfl ?_
  refine K_X6_284 (pc := 13) C (by assumption) (c_X1_placeInQueue l P σ 0 (ncN σ 0) hb0 hnc hB.2.2.1 j (by omega)) ⟨Nat.le_of_ble_eq_true rfl, Nat.le_of_ble_eq_true rfl⟩ ⟨rfl, rfl⟩ ⟨Nat.le_of_ble_eq_true rfl, Nat.le_of_ble_eq_true rfl⟩ (Nat.le_of_ble_eq_true rfl) dX6_queuePlace_13 ?_
  exact XW.tret (X_iret (pc := 16) C (Nat.le_of_ble_eq_true rfl) (Nat.le_of_ble_eq_true rfl) dX6_queuePlace_16 ⟨by rw [oth_v g2, nI_clamp (n31 (by omega))], rfl⟩)

set_option maxRecDepth 100000 in
set_option maxHeartbeats 4000000 in
theorem c_X6_listenersBetween (l : Launch) (hl0 : l.stackTraces = false) (P : XP) (σ : XS) (h0 : xI0 P) (hb : ∀ b, b < 12 → xIn P b) (hB : Bd σ 0) (x y : Int32) : XTF l yX6_listenersBetween cX6_listenersBetween 3 (some .int) rm_X6_listenersBetween P [.ref (P.2.2.1 (.inr 0)), .int x, .int y] σ (oth (rqP σ x y) (.inl (some (.int (xbetw (σ.1 (.inl (0, 3))) (σ.1 (.inl (0, 5))) (nuN σ 0) x y))))) (σ) := by
  refine XTM.of (by decide +kernel) (Nat.le_of_ble_eq_true rfl) (fun p e s m args below meth c A C hT => ?_)
  replace C : XC p s m args meth c P A 3 RX6 cX6_listenersBetween (some .int) := C
  refine XW.eq (lv' := [(0, _), (1, _), (2, _)]) rfl rfl rfl ?_
  have hb0 : xIn P 0 := hb 0 (by decide)
  have hnu := hB.2.1
  have hnc := hB.2.2.2.1
  have hnt := hB.2.2.2.2.2
  refine X_aload_n (pc := 0) C 0 dX6_listenersBetween_0 rfl rfl ?_
  refine X_iload_n (pc := 1) C 1 dX6_listenersBetween_1 rfl rfl ?_
  refine X_iload_n (pc := 2) C 2 dX6_listenersBetween_2 rfl rfl ?_
  refine X_reqG (i := .inr 0) (ci := 6) (n := 2) (pc := 3) C [.int _, .int _] (⟨c_X6_requirePair l hl0 P σ h0 hb hB x y, rqP_none⟩) m_c_X6_requirePair m_m_X6_116 m_i_X6_requirePair m_s_X6_requirePair m_n_X6 ⟨by decide +kernel, by decide +kernel, by decide +kernel⟩ ⟨Nat.le_of_ble_eq_true rfl, Nat.le_of_ble_eq_true rfl⟩ ⟨Nat.le_of_ble_eq_true rfl, Nat.le_of_ble_eq_true rfl⟩ (h0 0 (by decide)) rfl rfl rfl rfl (Nat.le_of_ble_eq_true rfl) rfl dX6_listenersBetween_3 (fun g3 => ?_) (fun E9 g3 => X_out C hT (Nat.le_of_ble_eq_true rfl) (Nat.le_of_ble_eq_true rfl) ⟨oth_e g3, rfl⟩)
  refine X_aload_n (pc := 6) C 0 dX6_listenersBetween_6 rfl rfl ?_
  refine G_X6_12 (pc := 7) C (by assumption) dX6_listenersBetween_7 ?_
  refine G_X6_98 (pc := 10) C (by assumption) dX6_listenersBetween_10 ?_
  refine X_iload_n (pc := 13) C 1 dX6_listenersBetween_13 rfl rfl ?_
  refine X_iload_n (pc := 14) C 2 dX6_listenersBetween_14 rfl rfl ?_
  refine K_X6_290 (pc := 15) C (by assumption) (c_X5_curiousBetween l P σ 0 (nuN σ 0) hb0 hnu hB.1 x y) ⟨Nat.le_of_ble_eq_true rfl, Nat.le_of_ble_eq_true rfl⟩ ⟨rfl, rfl⟩ ⟨Nat.le_of_ble_eq_true rfl, Nat.le_of_ble_eq_true rfl⟩ (Nat.le_of_ble_eq_true rfl) dX6_listenersBetween_15 ?_
  exact XW.tret (X_iret (pc := 18) C (Nat.le_of_ble_eq_true rfl) (Nat.le_of_ble_eq_true rfl) dX6_listenersBetween_18 ⟨by rw [oth_v g3], rfl⟩)

end XP21

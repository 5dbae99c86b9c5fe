/-! THE REFERENCE: what is asked -/
theorem tix2 (j : Nat) : (6 : Int32) + nI j = nI (6 + j) := by rw [show (6 : Int32) = nI 6 from rfl, nI_add]
/-- how many rings code j has; how long they last -/
def mRg : Nat → Nat → Nat
  | 0, _ => 0
  | k + 1, j => if j ≤ 1 then 0 else mRg k (j / 2) + 1
def mSec : Nat → Nat → Int32 → Int32
  | 0, _, n => n
  | k + 1, j, n => if j ≤ 1 then n else mSec k (j / 2) (n + if j % 2 = 1 then 4 else 2)
theorem shr1 : ∀ j : Nat, j < 64 → nI j >>> ((1 : Int32) &&& 31) = nI (j / 2) := by decide +kernel
theorem rem2 : ∀ j : Nat, j < 64 → nI j - nI j / 2 * 2 = nI (j % 2) := by decide +kernel
theorem mRg_le : ∀ k j, mRg k j ≤ k
  | 0, _ => Nat.le_refl _
  | k + 1, j => by
    unfold mRg
    have := mRg_le k (j / 2)
    split <;> omega
def mBest (f : Nat → Int32) : Nat → Nat
  | 0 => 0
  | k + 1 => if f (mBest f k) < f k then k else mBest f k
theorem mBest_le (f : Nat → Int32) : ∀ k, 0 < k → mBest f k < k
  | k + 1, _ => by
    unfold mBest
    split
    · omega
    · cases k with
      | zero => exact Nat.zero_lt_one
      | succ q => have := mBest_le f (q + 1) (by omega); omega
theorem mBest_1 (f : Nat → Int32) : mBest f 1 = 0 := if_neg Int32.lt_irrefl
theorem mBest_y {f : Nat → Int32} {k : Nat} (h : ¬ f k ≤ f (mBest f k)) : mBest f (k + 1) = k := if_pos (Int32.not_le.mp h)
theorem mBest_n {f : Nat → Int32} {k : Nat} (h : f k ≤ f (mBest f k)) : mBest f (k + 1) = mBest f k := if_neg (Int32.not_lt.mpr h)
def mQuiet (f : Nat → Int32) (x : Int32) : Nat → Int32 × Int32
  | 0 => (-1, 0)
  | k + 1 => if nI k = x ∨ (¬ (mQuiet f x k).1 = -1 ∧ (mQuiet f x k).2 ≤ f k) then mQuiet f x k else (nI k, f k)
theorem mQuiet_n {f : Nat → Int32} {x : Int32} {k : Nat} (h : nI k = x ∨ (¬ (mQuiet f x k).1 = -1 ∧ (mQuiet f x k).2 ≤ f k)) : mQuiet f x (k + 1) = mQuiet f x k := if_pos h
theorem mQuiet_y {f : Nat → Int32} {x : Int32} {k : Nat} (h : ¬ (nI k = x ∨ (¬ (mQuiet f x k).1 = -1 ∧ (mQuiet f x k).2 ≤ f k))) : mQuiet f x (k + 1) = (nI k, f k) := if_neg h
def mLess (S : Nat → Int32) (s : Int32) : Nat → Int32
  | 0 => s
  | k + 1 => if sC S 4 k = 2 then mLess S s k - mCost S k else mLess S s k
def mNb : Nat → Int32
  | 0 => -1
  | k + 1 => nI k
theorem mNb_1 : ∀ k : Nat, mNb k + 1 = mNb (k + 1)
  | 0 => by decide
  | k + 1 => nI_1 k
theorem mNb_e : ∀ k : Nat, mNb k = nI k - 1
  | 0 => by decide
  | k + 1 => (nI_pred k).symm
theorem nI_m1 (k : Nat) : nI k - 1 + 1 = nI (k + 1) - 1 := by rw [nI_pred, Int32.sub_add_cancel]
/-- the names' lengths; the codes -/
def MN (S : Nat → Int32) : Prop := ∀ u, u < mU S → xok (sU S 5 u) 7
def MC (S : Nat → Int32) : Prop := ∀ u, u < mU S → xok (sU S 1 u) 64
theorem nIw (w : Nat) : (6 : Int32) + nI w = nI (6 + w) := tix2 w
section XP33
variable {p : Program} {l : Launch} {e : Env} {R : Room} {s : State} {m : MethodId} {args : Array Value} {below : List Frame} {meth : Method} {c : Code} {P : XP} {A : Nat → Prop} {nL cells slots : Nat} {Q : State → Prop} {cc : ByteArray} {ret : Option FieldType} {σ : XS} {pc : Nat} {lv : List (Nat × Value)} {st : List Value}
set_option maxRecDepth 100000 in
set_option maxHeartbeats 4000000 in
theorem c_X7_clock (l : Launch) (P : XP) (τ : XS) (S F L : Nat → Int32) (h1 : xI1 P) : XF l yX7_clock cX7_clock 1 (some .int) rm_X7_clock P [.ref (P.2.2.1 (.inr 9))] (mW τ S F L) (some (.int (S 0))) (mW τ S (upd F 7 0) L) := by
  refine XM.of (by decide +kernel) (Nat.le_of_ble_eq_true rfl) (fun p e s m args below meth c A C => ?_)
  replace C : XC p s m args meth c P A 1 RX7 cX7_clock (some .int) := C
  refine XW.eq (lv' := [(0, _)]) rfl rfl rfl ?_
  refine X_aload_n (pc := 0) C 0 dX7_clock_0 rfl rfl ?_
  refine X_aload_n (pc := 1) C 0 dX7_clock_1 rfl rfl ?_
  refine G_X7_9 (pc := 2) C (by assumption) dX7_clock_2 ?_
  refine X_iconst (pc := 5) (v := 0) C dX7_clock_5 (by decide) ?_
  refine X_ialdN (j := 0) (pc := 6) C (by first | exact h1 _ (by decide) (by decide)) rfl (by omega) (by decide) dX7_clock_6 ?_
  rw [mW_10]
  refine K_X7_285 (pc := 7) C (by assumption) (c_X7_told l P _ _ _ _ h1 _) ⟨Nat.le_of_ble_eq_true rfl, Nat.le_of_ble_eq_true rfl⟩ ⟨rfl, rfl⟩ ⟨Nat.zero_le _, Nat.zero_le _⟩ (Nat.le_of_ble_eq_true rfl) dX7_clock_7 ?_
  exact X_iret (pc := 10) C (Nat.zero_le _) (Nat.zero_le _) dX7_clock_10 ⟨rfl, rfl⟩

set_option maxRecDepth 100000 in
set_option maxHeartbeats 4000000 in
theorem c_X7_lineCount (l : Launch) (P : XP) (τ : XS) (S F L : Nat → Int32) (h1 : xI1 P) : XF l yX7_lineCount cX7_lineCount 1 (some .int) rm_X7_lineCount P [.ref (P.2.2.1 (.inr 9))] (mW τ S F L) (some (.int (S 1))) (mW τ S (upd F 7 0) L) := by
  refine XM.of (by decide +kernel) (Nat.le_of_ble_eq_true rfl) (fun p e s m args below meth c A C => ?_)
  replace C : XC p s m args meth c P A 1 RX7 cX7_lineCount (some .int) := C
  refine XW.eq (lv' := [(0, _)]) rfl rfl rfl ?_
  refine X_aload_n (pc := 0) C 0 dX7_lineCount_0 rfl rfl ?_
  refine X_aload_n (pc := 1) C 0 dX7_lineCount_1 rfl rfl ?_
  refine G_X7_9 (pc := 2) C (by assumption) dX7_lineCount_2 ?_
  refine X_iconst (pc := 5) (v := 1) C dX7_lineCount_5 (by decide) ?_
  refine X_ialdN (j := 1) (pc := 6) C (by first | exact h1 _ (by decide) (by decide)) rfl (by omega) (by decide) dX7_lineCount_6 ?_
  rw [mW_10]
  refine K_X7_285 (pc := 7) C (by assumption) (c_X7_told l P _ _ _ _ h1 _) ⟨Nat.le_of_ble_eq_true rfl, Nat.le_of_ble_eq_true rfl⟩ ⟨rfl, rfl⟩ ⟨Nat.zero_le _, Nat.zero_le _⟩ (Nat.le_of_ble_eq_true rfl) dX7_lineCount_7 ?_
  exact X_iret (pc := 10) C (Nat.zero_le _) (Nat.zero_le _) dX7_lineCount_10 ⟨rfl, rfl⟩

set_option maxRecDepth 100000 in
set_option maxHeartbeats 4000000 in
theorem c_X7_cordCount (l : Launch) (P : XP) (τ : XS) (S F L : Nat → Int32) (h1 : xI1 P) : XF l yX7_cordCount cX7_cordCount 1 (some .int) rm_X7_cordCount P [.ref (P.2.2.1 (.inr 9))] (mW τ S F L) (some (.int (S 2))) (mW τ S (upd F 7 0) L) := by
  refine XM.of (by decide +kernel) (Nat.le_of_ble_eq_true rfl) (fun p e s m args below meth c A C => ?_)
  replace C : XC p s m args meth c P A 1 RX7 cX7_cordCount (some .int) := C
  refine XW.eq (lv' := [(0, _)]) rfl rfl rfl ?_
  refine X_aload_n (pc := 0) C 0 dX7_cordCount_0 rfl rfl ?_
  refine X_aload_n (pc := 1) C 0 dX7_cordCount_1 rfl rfl ?_
  refine G_X7_9 (pc := 2) C (by assumption) dX7_cordCount_2 ?_
  refine X_iconst (pc := 5) (v := 2) C dX7_cordCount_5 (by decide) ?_
  refine X_ialdN (j := 2) (pc := 6) C (by first | exact h1 _ (by decide) (by decide)) rfl (by omega) (by decide) dX7_cordCount_6 ?_
  rw [mW_10]
  refine K_X7_285 (pc := 7) C (by assumption) (c_X7_told l P _ _ _ _ h1 _) ⟨Nat.le_of_ble_eq_true rfl, Nat.le_of_ble_eq_true rfl⟩ ⟨rfl, rfl⟩ ⟨Nat.zero_le _, Nat.zero_le _⟩ (Nat.le_of_ble_eq_true rfl) dX7_cordCount_7 ?_
  exact X_iret (pc := 10) C (Nat.zero_le _) (Nat.zero_le _) dX7_cordCount_10 ⟨rfl, rfl⟩

set_option maxRecDepth 100000 in
set_option maxHeartbeats 4000000 in
theorem c_X7_trunkCount (l : Launch) (P : XP) (τ : XS) (S F L : Nat → Int32) (h1 : xI1 P) : XF l yX7_trunkCount cX7_trunkCount 1 (some .int) rm_X7_trunkCount P [.ref (P.2.2.1 (.inr 9))] (mW τ S F L) (some (.int (S 3))) (mW τ S (upd F 7 0) L) := by
  refine XM.of (by decide +kernel) (Nat.le_of_ble_eq_true rfl) (fun p e s m args below meth c A C => ?_)
  replace C : XC p s m args meth c P A 1 RX7 cX7_trunkCount (some .int) := C
  refine XW.eq (lv' := [(0, _)]) rfl rfl rfl ?_
  refine X_aload_n (pc := 0) C 0 dX7_trunkCount_0 rfl rfl ?_
  refine X_aload_n (pc := 1) C 0 dX7_trunkCount_1 rfl rfl ?_
  refine G_X7_9 (pc := 2) C (by assumption) dX7_trunkCount_2 ?_
  refine X_iconst (pc := 5) (v := 3) C dX7_trunkCount_5 (by decide) ?_
  refine X_ialdN (j := 3) (pc := 6) C (by first | exact h1 _ (by decide) (by decide)) rfl (by omega) (by decide) dX7_trunkCount_6 ?_
  rw [mW_10]
  refine K_X7_285 (pc := 7) C (by assumption) (c_X7_told l P _ _ _ _ h1 _) ⟨Nat.le_of_ble_eq_true rfl, Nat.le_of_ble_eq_true rfl⟩ ⟨rfl, rfl⟩ ⟨Nat.zero_le _, Nat.zero_le _⟩ (Nat.le_of_ble_eq_true rfl) dX7_trunkCount_7 ?_
  exact X_iret (pc := 10) C (Nat.zero_le _) (Nat.zero_le _) dX7_trunkCount_10 ⟨rfl, rfl⟩

set_option maxRecDepth 100000 in
set_option maxHeartbeats 4000000 in
theorem c_X7_subscriberCount (l : Launch) (P : XP) (τ : XS) (S F L : Nat → Int32) (h1 : xI1 P) : XF l yX7_subscriberCount cX7_subscriberCount 1 (some .int) rm_X7_subscriberCount P [.ref (P.2.2.1 (.inr 9))] (mW τ S F L) (some (.int (S 4))) (mW τ S (upd F 7 0) L) := by
  refine XM.of (by decide +kernel) (Nat.le_of_ble_eq_true rfl) (fun p e s m args below meth c A C => ?_)
  replace C : XC p s m args meth c P A 1 RX7 cX7_subscriberCount (some .int) := C
  refine XW.eq (lv' := [(0, _)]) rfl rfl rfl ?_
  refine X_aload_n (pc := 0) C 0 dX7_subscriberCount_0 rfl rfl ?_
  refine X_aload_n (pc := 1) C 0 dX7_subscriberCount_1 rfl rfl ?_
  refine G_X7_9 (pc := 2) C (by assumption) dX7_subscriberCount_2 ?_
  refine X_iconst (pc := 5) (v := 4) C dX7_subscriberCount_5 (by decide) ?_
  refine X_ialdN (j := 4) (pc := 6) C (by first | exact h1 _ (by decide) (by decide)) rfl (by omega) (by decide) dX7_subscriberCount_6 ?_
  rw [mW_10]
  refine K_X7_285 (pc := 7) C (by assumption) (c_X7_told l P _ _ _ _ h1 _) ⟨Nat.le_of_ble_eq_true rfl, Nat.le_of_ble_eq_true rfl⟩ ⟨rfl, rfl⟩ ⟨Nat.zero_le _, Nat.zero_le _⟩ (Nat.le_of_ble_eq_true rfl) dX7_subscriberCount_7 ?_
  exact X_iret (pc := 10) C (Nat.zero_le _) (Nat.zero_le _) dX7_subscriberCount_10 ⟨rfl, rfl⟩

set_option maxRecDepth 100000 in
set_option maxHeartbeats 4000000 in
theorem c_X7_callCount (l : Launch) (P : XP) (τ : XS) (S F L : Nat → Int32) (h1 : xI1 P) : XF l yX7_callCount cX7_callCount 1 (some .int) rm_X7_callCount P [.ref (P.2.2.1 (.inr 9))] (mW τ S F L) (some (.int (S 5))) (mW τ S (upd F 7 0) L) := by
  refine XM.of (by decide +kernel) (Nat.le_of_ble_eq_true rfl) (fun p e s m args below meth c A C => ?_)
  replace C : XC p s m args meth c P A 1 RX7 cX7_callCount (some .int) := C
  refine XW.eq (lv' := [(0, _)]) rfl rfl rfl ?_
  refine X_aload_n (pc := 0) C 0 dX7_callCount_0 rfl rfl ?_
  refine X_aload_n (pc := 1) C 0 dX7_callCount_1 rfl rfl ?_
  refine G_X7_9 (pc := 2) C (by assumption) dX7_callCount_2 ?_
  refine X_iconst (pc := 5) (v := 5) C dX7_callCount_5 (by decide) ?_
  refine X_ialdN (j := 5) (pc := 6) C (by first | exact h1 _ (by decide) (by decide)) rfl (by omega) (by decide) dX7_callCount_6 ?_
  rw [mW_10]
  refine K_X7_285 (pc := 7) C (by assumption) (c_X7_told l P _ _ _ _ h1 _) ⟨Nat.le_of_ble_eq_true rfl, Nat.le_of_ble_eq_true rfl⟩ ⟨rfl, rfl⟩ ⟨Nat.zero_le _, Nat.zero_le _⟩ (Nat.le_of_ble_eq_true rfl) dX7_callCount_7 ?_
  exact X_iret (pc := 10) C (Nat.zero_le _) (Nat.zero_le _) dX7_callCount_10 ⟨rfl, rfl⟩

set_option maxRecDepth 100000 in
set_option maxHeartbeats 4000000 in
theorem c_X7_undoableChanges (l : Launch) (P : XP) (τ : XS) (S F L : Nat → Int32) (h1 : xI1 P) : XF l yX7_undoableChanges cX7_undoableChanges 1 (some .int) rm_X7_undoableChanges P [.ref (P.2.2.1 (.inr 9))] (mW τ S F L) (some (.int (F 6))) (mW τ S (upd F 7 0) L) := by
  refine XM.of (by decide +kernel) (Nat.le_of_ble_eq_true rfl) (fun p e s m args below meth c A C => ?_)
  replace C : XC p s m args meth c P A 1 RX7 cX7_undoableChanges (some .int) := C
  refine XW.eq (lv' := [(0, _)]) rfl rfl rfl ?_
  refine X_aload_n (pc := 0) C 0 dX7_undoableChanges_0 rfl rfl ?_
  refine X_aload_n (pc := 1) C 0 dX7_undoableChanges_1 rfl rfl ?_
  refine G_X7_64 (pc := 2) C (by assumption) dX7_undoableChanges_2 ?_
  rw [mW_9]
  refine K_X7_285 (pc := 5) C (by assumption) (c_X7_told l P _ _ _ _ h1 _) ⟨Nat.le_of_ble_eq_true rfl, Nat.le_of_ble_eq_true rfl⟩ ⟨rfl, rfl⟩ ⟨Nat.zero_le _, Nat.zero_le _⟩ (Nat.le_of_ble_eq_true rfl) dX7_undoableChanges_5 ?_
  exact X_iret (pc := 8) C (Nat.zero_le _) (Nat.zero_le _) dX7_undoableChanges_8 ⟨rfl, rfl⟩

set_option maxRecDepth 100000 in
set_option maxHeartbeats 4000000 in
theorem c_X7_errorCode (l : Launch) (P : XP) (τ : XS) (S F L : Nat → Int32) (h1 : xI1 P) : XF l yX7_errorCode cX7_errorCode 1 (some .int) rm_X7_errorCode P [.ref (P.2.2.1 (.inr 9))] (mW τ S F L) (some (.int (F 12))) (mW τ S (upd F 7 0) L) := by
  refine XM.of (by decide +kernel) (Nat.le_of_ble_eq_true rfl) (fun p e s m args below meth c A C => ?_)
  replace C : XC p s m args meth c P A 1 RX7 cX7_errorCode (some .int) := C
  refine XW.eq (lv' := [(0, _)]) rfl rfl rfl ?_
  refine X_aload_n (pc := 0) C 0 dX7_errorCode_0 rfl rfl ?_
  refine X_aload_n (pc := 1) C 0 dX7_errorCode_1 rfl rfl ?_
  refine G_X7_184 (pc := 2) C (by assumption) dX7_errorCode_2 ?_
  rw [mW_9]
  refine K_X7_285 (pc := 5) C (by assumption) (c_X7_told l P _ _ _ _ h1 _) ⟨Nat.le_of_ble_eq_true rfl, Nat.le_of_ble_eq_true rfl⟩ ⟨rfl, rfl⟩ ⟨Nat.zero_le _, Nat.zero_le _⟩ (Nat.le_of_ble_eq_true rfl) dX7_errorCode_5 ?_
  exact X_iret (pc := 8) C (Nat.zero_le _) (Nat.zero_le _) dX7_errorCode_8 ⟨rfl, rfl⟩

set_option maxRecDepth 100000 in
set_option maxHeartbeats 4000000 in
theorem c_X7_errorOffset (l : Launch) (P : XP) (τ : XS) (S F L : Nat → Int32) (h1 : xI1 P) : XF l yX7_errorOffset cX7_errorOffset 1 (some .int) rm_X7_errorOffset P [.ref (P.2.2.1 (.inr 9))] (mW τ S F L) (some (.int (F 13))) (mW τ S (upd F 7 0) L) := by
  refine XM.of (by decide +kernel) (Nat.le_of_ble_eq_true rfl) (fun p e s m args below meth c A C => ?_)
  replace C : XC p s m args meth c P A 1 RX7 cX7_errorOffset (some .int) := C
  refine XW.eq (lv' := [(0, _)]) rfl rfl rfl ?_
  refine X_aload_n (pc := 0) C 0 dX7_errorOffset_0 rfl rfl ?_
  refine X_aload_n (pc := 1) C 0 dX7_errorOffset_1 rfl rfl ?_
  refine G_X7_35 (pc := 2) C (by assumption) dX7_errorOffset_2 ?_
  rw [mW_9]
  refine K_X7_285 (pc := 5) C (by assumption) (c_X7_told l P _ _ _ _ h1 _) ⟨Nat.le_of_ble_eq_true rfl, Nat.le_of_ble_eq_true rfl⟩ ⟨rfl, rfl⟩ ⟨Nat.zero_le _, Nat.zero_le _⟩ (Nat.le_of_ble_eq_true rfl) dX7_errorOffset_5 ?_
  exact X_iret (pc := 8) C (Nat.zero_le _) (Nat.zero_le _) dX7_errorOffset_8 ⟨rfl, rfl⟩

set_option maxRecDepth 100000 in
set_option maxHeartbeats 4000000 in
theorem c_X7_freeCords (l : Launch) (P : XP) (τ : XS) (S F L : Nat → Int32) (h1 : xI1 P) (hM : MI S) : XF l yX7_freeCords cX7_freeCords 1 (some .int) rm_X7_freeCords P [.ref (P.2.2.1 (.inr 9))] (mW τ S F L) (some (.int (S 2 - nI (mCords S (mK S))))) (mW τ S (upd F 7 0) L) := by
  refine XM.of (by decide +kernel) (Nat.le_of_ble_eq_true rfl) (fun p e s m args below meth c A C => ?_)
  replace C : XC p s m args meth c P A 1 RX7 cX7_freeCords (some .int) := C
  refine XW.eq (lv' := [(0, _)]) rfl rfl rfl ?_
  refine X_aload_n (pc := 0) C 0 dX7_freeCords_0 rfl rfl ?_
  refine X_aload_n (pc := 1) C 0 dX7_freeCords_1 rfl rfl ?_
  refine G_X7_9 (pc := 2) C (by assumption) dX7_freeCords_2 ?_
  refine X_iconst (pc := 5) (v := 2) C dX7_freeCords_5 (by decide) ?_
  refine X_ialdN (j := 2) (pc := 6) C (by first | exact h1 _ (by decide) (by decide)) rfl (by omega) (by decide) dX7_freeCords_6 ?_
  rw [mW_10]
  refine X_aload_n (pc := 7) C 0 dX7_freeCords_7 rfl rfl ?_
  refine K_X7_112 (pc := 8) C (by assumption) (c_X7_cordsUsed l P _ _ _ _ h1 hM) ⟨Nat.le_of_ble_eq_true rfl, Nat.le_of_ble_eq_true rfl⟩ ⟨rfl, rfl⟩ ⟨Nat.zero_le _, Nat.zero_le _⟩ (Nat.le_of_ble_eq_true rfl) dX7_freeCords_8 ?_
  refine X_isub (pc := 11) C dX7_freeCords_11 ?_
  refine K_X7_285 (pc := 12) C (by assumption) (c_X7_told l P _ _ _ _ h1 _) ⟨Nat.le_of_ble_eq_true rfl, Nat.le_of_ble_eq_true rfl⟩ ⟨rfl, rfl⟩ ⟨Nat.zero_le _, Nat.zero_le _⟩ (Nat.le_of_ble_eq_true rfl) dX7_freeCords_12 ?_
  exact X_iret (pc := 15) C (Nat.zero_le _) (Nat.zero_le _) dX7_freeCords_15 ⟨rfl, rfl⟩

set_option maxRecDepth 100000 in
set_option maxHeartbeats 4000000 in
theorem c_X7_waitingCalls (l : Launch) (P : XP) (τ : XS) (S F L : Nat → Int32) (h1 : xI1 P) (hM : MI S) : XF l yX7_waitingCalls cX7_waitingCalls 1 (some .int) rm_X7_waitingCalls P [.ref (P.2.2.1 (.inr 9))] (mW τ S F L) (some (.int (nI (cCount (fun c => sC S 4 c) 0 (mK S))))) (mW τ S (upd F 7 0) L) := by
  refine XM.of (by decide +kernel) (Nat.le_of_ble_eq_true rfl) (fun p e s m args below meth c A C => ?_)
  replace C : XC p s m args meth c P A 1 RX7 cX7_waitingCalls (some .int) := C
  refine XW.eq (lv' := [(0, _)]) rfl rfl rfl ?_
  refine X_aload_n (pc := 0) C 0 dX7_waitingCalls_0 rfl rfl ?_
  refine X_aload_n (pc := 1) C 0 dX7_waitingCalls_1 rfl rfl ?_
  refine X_iconst (pc := 2) (v := 0) C dX7_waitingCalls_2 (by decide) ?_
  refine K_X7_297 (pc := 3) C (by assumption) (c_X7_callsIn l P _ _ _ _ h1 hM _) ⟨Nat.le_of_ble_eq_true rfl, Nat.le_of_ble_eq_true rfl⟩ ⟨rfl, rfl⟩ ⟨Nat.zero_le _, Nat.zero_le _⟩ (Nat.le_of_ble_eq_true rfl) dX7_waitingCalls_3 ?_
  refine K_X7_285 (pc := 6) C (by assumption) (c_X7_told l P _ _ _ _ h1 _) ⟨Nat.le_of_ble_eq_true rfl, Nat.le_of_ble_eq_true rfl⟩ ⟨rfl, rfl⟩ ⟨Nat.zero_le _, Nat.zero_le _⟩ (Nat.le_of_ble_eq_true rfl) dX7_waitingCalls_6 ?_
  exact X_iret (pc := 9) C (Nat.zero_le _) (Nat.zero_le _) dX7_waitingCalls_9 ⟨rfl, rfl⟩

set_option maxRecDepth 100000 in
set_option maxHeartbeats 4000000 in
theorem c_X7_talkingCalls (l : Launch) (P : XP) (τ : XS) (S F L : Nat → Int32) (h1 : xI1 P) (hM : MI S) : XF l yX7_talkingCalls cX7_talkingCalls 1 (some .int) rm_X7_talkingCalls P [.ref (P.2.2.1 (.inr 9))] (mW τ S F L) (some (.int (nI (cCount (fun c => sC S 4 c) 1 (mK S))))) (mW τ S (upd F 7 0) L) := by
  refine XM.of (by decide +kernel) (Nat.le_of_ble_eq_true rfl) (fun p e s m args below meth c A C => ?_)
  replace C : XC p s m args meth c P A 1 RX7 cX7_talkingCalls (some .int) := C
  refine XW.eq (lv' := [(0, _)]) rfl rfl rfl ?_
  refine X_aload_n (pc := 0) C 0 dX7_talkingCalls_0 rfl rfl ?_
  refine X_aload_n (pc := 1) C 0 dX7_talkingCalls_1 rfl rfl ?_
  refine X_iconst (pc := 2) (v := 1) C dX7_talkingCalls_2 (by decide) ?_
  refine K_X7_297 (pc := 3) C (by assumption) (c_X7_callsIn l P _ _ _ _ h1 hM _) ⟨Nat.le_of_ble_eq_true rfl, Nat.le_of_ble_eq_true rfl⟩ ⟨rfl, rfl⟩ ⟨Nat.zero_le _, Nat.zero_le _⟩ (Nat.le_of_ble_eq_true rfl) dX7_talkingCalls_3 ?_
  refine K_X7_285 (pc := 6) C (by assumption) (c_X7_told l P _ _ _ _ h1 _) ⟨Nat.le_of_ble_eq_true rfl, Nat.le_of_ble_eq_true rfl⟩ ⟨rfl, rfl⟩ ⟨Nat.zero_le _, Nat.zero_le _⟩ (Nat.le_of_ble_eq_true rfl) dX7_talkingCalls_6 ?_
  exact X_iret (pc := 9) C (Nat.zero_le _) (Nat.zero_le _) dX7_talkingCalls_9 ⟨rfl, rfl⟩

set_option maxRecDepth 100000 in
set_option maxHeartbeats 4000000 in
theorem c_X7_isLineBusy (l : Launch) (P : XP) (τ : XS) (S F L : Nat → Int32) (h1 : xI1 P) (hM : MI S) (x : Int32) : XF l yX7_isLineBusy cX7_isLineBusy 2 (some .boolean) rm_X7_isLineBusy P [.ref (P.2.2.1 (.inr 9)), .int x] (mW τ S F L) (some (.int (if xok x (mL S) ∧ 0 < mLine S x (mK S) then 1 else 0))) (mW τ S (upd F 7 (if xok x (mL S) then 0 else 1)) L) := by
  refine XM.of (by decide +kernel) (Nat.le_of_ble_eq_true rfl) (fun p e s m args below meth c A C => ?_)
  replace C : XC p s m args meth c P A 2 RX7 cX7_isLineBusy (some .boolean) := C
  refine XW.eq (lv' := [(0, _), (1, _)]) rfl rfl rfl ?_
  refine X_aload_n (pc := 0) C 0 dX7_isLineBusy_0 rfl rfl ?_
  refine X_aload_n (pc := 1) C 0 dX7_isLineBusy_1 rfl rfl ?_
  refine X_iload_n (pc := 2) C 1 dX7_isLineBusy_2 rfl rfl ?_
  refine K_X7_300 (pc := 3) C (by assumption) (c_X7_noLine l P _ _ _ _ h1 (mL S) (by have := hM.l6; omega) hM.l x) ⟨Nat.le_of_ble_eq_true rfl, Nat.le_of_ble_eq_true rfl⟩ ⟨rfl, rfl⟩ ⟨Nat.zero_le _, Nat.zero_le _⟩ (Nat.le_of_ble_eq_true rfl) dX7_isLineBusy_3 ?_
  refine X_iconst (pc := 6) (v := 0) C dX7_isLineBusy_6 (by decide) ?_
  refine X_iconst (pc := 7) (v := 0) C dX7_isLineBusy_7 (by decide) ?_
  refine K_X7_154 (pc := 8) C (by assumption) (c_X7_fails l P _ _ _ _ h1 _ 0 0) ⟨Nat.le_of_ble_eq_true rfl, Nat.le_of_ble_eq_true rfl⟩ ⟨rfl, rfl⟩ ⟨Nat.zero_le _, Nat.zero_le _⟩ (Nat.le_of_ble_eq_true rfl) dX7_isLineBusy_8 ?_
  rw [mFl_1, if01_0]
  refine X_if_ne (pc := 11) C 26 dX7_isLineBusy_11 (by decide) (fun h11 => ?_) (fun h11 => ?_)
  · have g11 := bz01 h11
    refine X_iconst (pc := 26) (v := 0) C dX7_isLineBusy_26 (by decide) ?_
    exact X_zret (pc := 27) C (Nat.zero_le _) (Nat.zero_le _) (rfl) dX7_isLineBusy_27 ⟨by rw [if_neg (fun q => g11 q.1)], rfl⟩
  · have g11 := bz00 h11
    refine X_aload_n (pc := 14) C 0 dX7_isLineBusy_14 rfl rfl ?_
    refine X_iload_n (pc := 15) C 1 dX7_isLineBusy_15 rfl rfl ?_
    refine K_X7_106 (pc := 16) C (by assumption) (c_X7_talkersOnLine l P _ _ _ _ h1 hM _) ⟨Nat.le_of_ble_eq_true rfl, Nat.le_of_ble_eq_true rfl⟩ ⟨rfl, rfl⟩ ⟨Nat.zero_le _, Nat.zero_le _⟩ (Nat.le_of_ble_eq_true rfl) dX7_isLineBusy_16 ?_
    refine X_if_le (pc := 19) C 26 dX7_isLineBusy_19 (by decide) (fun h19 => ?_) (fun h19 => ?_)
    · skip
      refine X_iconst (pc := 26) (v := 0) C dX7_isLineBusy_26 (by decide) ?_
      exact X_zret (pc := 27) C (Nat.zero_le _) (Nat.zero_le _) (rfl) dX7_isLineBusy_27 ⟨by rw [if_neg (fun q => nle0 h19 (Nat.le_trans (cCnt_le _ _) (by have := hM.k40; omega)) q.2)], rfl⟩
    · skip
      refine X_iconst (pc := 22) (v := 1) C dX7_isLineBusy_22 (by decide) ?_
      refine X_goto (pc := 23) C 27 dX7_isLineBusy_23 (by decide) ?_
      exact X_zret (pc := 27) C (Nat.zero_le _) (Nat.zero_le _) (rfl) dX7_isLineBusy_27 ⟨by rw [if_pos ⟨g11, nnle0 h19⟩], rfl⟩

set_option maxRecDepth 100000 in
set_option maxHeartbeats 4000000 in
theorem c_X7_isTrunkBusy (l : Launch) (P : XP) (τ : XS) (S F L : Nat → Int32) (h1 : xI1 P) (hM : MI S) (x : Int32) : XF l yX7_isTrunkBusy cX7_isTrunkBusy 2 (some .boolean) rm_X7_isTrunkBusy P [.ref (P.2.2.1 (.inr 9)), .int x] (mW τ S F L) (some (.int (if xok x (mT S) ∧ 0 < mTrk S x (mK S) then 1 else 0))) (mW τ S (upd F 7 (if xok x (mT S) then 0 else 1)) L) := by
  refine XM.of (by decide +kernel) (Nat.le_of_ble_eq_true rfl) (fun p e s m args below meth c A C => ?_)
  replace C : XC p s m args meth c P A 2 RX7 cX7_isTrunkBusy (some .boolean) := C
  refine XW.eq (lv' := [(0, _), (1, _)]) rfl rfl rfl ?_
  refine X_aload_n (pc := 0) C 0 dX7_isTrunkBusy_0 rfl rfl ?_
  refine X_aload_n (pc := 1) C 0 dX7_isTrunkBusy_1 rfl rfl ?_
  refine X_iload_n (pc := 2) C 1 dX7_isTrunkBusy_2 rfl rfl ?_
  refine K_X7_291 (pc := 3) C (by assumption) (c_X7_noTrunk l P _ _ _ _ h1 (mT S) (by have := hM.t4; omega) hM.t x) ⟨Nat.le_of_ble_eq_true rfl, Nat.le_of_ble_eq_true rfl⟩ ⟨rfl, rfl⟩ ⟨Nat.zero_le _, Nat.zero_le _⟩ (Nat.le_of_ble_eq_true rfl) dX7_isTrunkBusy_3 ?_
  refine X_iconst (pc := 6) (v := 0) C dX7_isTrunkBusy_6 (by decide) ?_
  refine X_iconst (pc := 7) (v := 0) C dX7_isTrunkBusy_7 (by decide) ?_
  refine K_X7_154 (pc := 8) C (by assumption) (c_X7_fails l P _ _ _ _ h1 _ 0 0) ⟨Nat.le_of_ble_eq_true rfl, Nat.le_of_ble_eq_true rfl⟩ ⟨rfl, rfl⟩ ⟨Nat.zero_le _, Nat.zero_le _⟩ (Nat.le_of_ble_eq_true rfl) dX7_isTrunkBusy_8 ?_
  rw [mFl_1, if01_0]
  refine X_if_ne (pc := 11) C 26 dX7_isTrunkBusy_11 (by decide) (fun h11 => ?_) (fun h11 => ?_)
  · have g11 := bz01 h11
    refine X_iconst (pc := 26) (v := 0) C dX7_isTrunkBusy_26 (by decide) ?_
    exact X_zret (pc := 27) C (Nat.zero_le _) (Nat.zero_le _) (rfl) dX7_isTrunkBusy_27 ⟨by rw [if_neg (fun q => g11 q.1)], rfl⟩
  · have g11 := bz00 h11
    refine X_aload_n (pc := 14) C 0 dX7_isTrunkBusy_14 rfl rfl ?_
    refine X_iload_n (pc := 15) C 1 dX7_isTrunkBusy_15 rfl rfl ?_
    refine K_X7_109 (pc := 16) C (by assumption) (c_X7_talkersOnTrunk l P _ _ _ _ h1 hM _) ⟨Nat.le_of_ble_eq_true rfl, Nat.le_of_ble_eq_true rfl⟩ ⟨rfl, rfl⟩ ⟨Nat.zero_le _, Nat.zero_le _⟩ (Nat.le_of_ble_eq_true rfl) dX7_isTrunkBusy_16 ?_
    refine X_if_le (pc := 19) C 26 dX7_isTrunkBusy_19 (by decide) (fun h19 => ?_) (fun h19 => ?_)
    · skip
      refine X_iconst (pc := 26) (v := 0) C dX7_isTrunkBusy_26 (by decide) ?_
      exact X_zret (pc := 27) C (Nat.zero_le _) (Nat.zero_le _) (rfl) dX7_isTrunkBusy_27 ⟨by rw [if_neg (fun q => nle0 h19 (Nat.le_trans (cCnt_le _ _) (by have := hM.k40; omega)) q.2)], rfl⟩
    · skip
      refine X_iconst (pc := 22) (v := 1) C dX7_isTrunkBusy_22 (by decide) ?_
      refine X_goto (pc := 23) C 27 dX7_isTrunkBusy_23 (by decide) ?_
      exact X_zret (pc := 27) C (Nat.zero_le _) (Nat.zero_le _) (rfl) dX7_isTrunkBusy_27 ⟨by rw [if_pos ⟨g11, nnle0 h19⟩], rfl⟩

set_option maxRecDepth 100000 in
set_option maxHeartbeats 4000000 in
theorem c_X7_toll (l : Launch) (P : XP) (τ : XS) (S F L : Nat → Int32) (h1 : xI1 P) (hM : MI S) (x : Int32) : XF l yX7_toll cX7_toll 2 (some .int) rm_X7_toll P [.ref (P.2.2.1 (.inr 9)), .int x] (mW τ S F L) (some (.int (if xok x (mT S) then S (6 + cN x) else 0))) (mW τ S (upd F 7 (if xok x (mT S) then 0 else 1)) L) := by
  refine XM.of (by decide +kernel) (Nat.le_of_ble_eq_true rfl) (fun p e s m args below meth c A C => ?_)
  replace C : XC p s m args meth c P A 2 RX7 cX7_toll (some .int) := C
  refine XW.eq (lv' := [(0, _), (1, _)]) rfl rfl rfl ?_
  refine X_aload_n (pc := 0) C 0 dX7_toll_0 rfl rfl ?_
  refine X_aload_n (pc := 1) C 0 dX7_toll_1 rfl rfl ?_
  refine X_iload_n (pc := 2) C 1 dX7_toll_2 rfl rfl ?_
  refine K_X7_291 (pc := 3) C (by assumption) (c_X7_noTrunk l P _ _ _ _ h1 (mT S) (by have := hM.t4; omega) hM.t x) ⟨Nat.le_of_ble_eq_true rfl, Nat.le_of_ble_eq_true rfl⟩ ⟨rfl, rfl⟩ ⟨Nat.zero_le _, Nat.zero_le _⟩ (Nat.le_of_ble_eq_true rfl) dX7_toll_3 ?_
  refine X_iconst (pc := 6) (v := 0) C dX7_toll_6 (by decide) ?_
  refine X_iconst (pc := 7) (v := 0) C dX7_toll_7 (by decide) ?_
  refine K_X7_154 (pc := 8) C (by assumption) (c_X7_fails l P _ _ _ _ h1 _ 0 0) ⟨Nat.le_of_ble_eq_true rfl, Nat.le_of_ble_eq_true rfl⟩ ⟨rfl, rfl⟩ ⟨Nat.zero_le _, Nat.zero_le _⟩ (Nat.le_of_ble_eq_true rfl) dX7_toll_8 ?_
  rw [mFl_1, if01_0]
  refine X_if_eq (pc := 11) C 18 dX7_toll_11 (by decide) (fun h11 => ?_) (fun h11 => ?_)
  · have g11 := bz00 h11
    have gx := xok_c g11 (by have := hM.t4; omega)
    have g4 := hM.t4
    refine X_aload_n (pc := 18) C 0 dX7_toll_18 rfl rfl ?_
    refine G_X7_9 (pc := 19) C (by assumption) dX7_toll_19 ?_
    refine X_bipush (pc := 22) (v := 6) C dX7_toll_22 (by decide) ?_
    refine X_iload_n (pc := 24) C 1 dX7_toll_24 rfl rfl ?_
    refine X_iadd (pc := 25) C dX7_toll_25 ?_
    rw [tix gx.2]
    refine X_ialdN (pc := 26) C (by first | exact h1 _ (by decide) (by decide)) rfl (by omega) (by decide) dX7_toll_26 ?_
    rw [mW_10]
    exact X_iret (pc := 27) C (Nat.zero_le _) (Nat.zero_le _) dX7_toll_27 ⟨by rw [if_pos g11], rfl⟩
  · have g11 := bz01 h11
    refine X_iconst (pc := 14) (v := 0) C dX7_toll_14 (by decide) ?_
    refine X_goto (pc := 15) C 27 dX7_toll_15 (by decide) ?_
    exact X_iret (pc := 27) C (Nat.zero_le _) (Nat.zero_le _) dX7_toll_27 ⟨by rw [if_neg g11], rfl⟩

set_option maxRecDepth 100000 in
set_option maxHeartbeats 4000000 in
theorem c_X7_lineOf (l : Launch) (P : XP) (τ : XS) (S F L : Nat → Int32) (h1 : xI1 P) (hM : MI S) (x : Int32) : XF l yX7_lineOf cX7_lineOf 2 (some .int) rm_X7_lineOf P [.ref (P.2.2.1 (.inr 9)), .int x] (mW τ S F L) (some (.int (if xok x (mU S) then sU S 0 (cN x) else 0))) (mW τ S (upd F 7 (if xok x (mU S) then 0 else 1)) L) := by
  refine XM.of (by decide +kernel) (Nat.le_of_ble_eq_true rfl) (fun p e s m args below meth c A C => ?_)
  replace C : XC p s m args meth c P A 2 RX7 cX7_lineOf (some .int) := C
  refine XW.eq (lv' := [(0, _), (1, _)]) rfl rfl rfl ?_
  refine X_aload_n (pc := 0) C 0 dX7_lineOf_0 rfl rfl ?_
  refine X_iload_n (pc := 1) C 1 dX7_lineOf_1 rfl rfl ?_
  refine X_iconst (pc := 2) (v := 0) C dX7_lineOf_2 (by decide) ?_
  refine K_X7_306 (pc := 3) C (by assumption) (c_X7_toldUser l P _ _ _ _ h1 (mU S) hM.u15 hM.u x 0 (by decide) _ rfl) ⟨Nat.le_of_ble_eq_true rfl, Nat.le_of_ble_eq_true rfl⟩ ⟨rfl, rfl⟩ ⟨Nat.zero_le _, Nat.zero_le _⟩ (Nat.le_of_ble_eq_true rfl) dX7_lineOf_3 ?_
  exact X_iret (pc := 6) C (Nat.zero_le _) (Nat.zero_le _) dX7_lineOf_6 ⟨rfl, rfl⟩

set_option maxRecDepth 100000 in
set_option maxHeartbeats 4000000 in
theorem c_X7_curiosity (l : Launch) (P : XP) (τ : XS) (S F L : Nat → Int32) (h1 : xI1 P) (hM : MI S) (x : Int32) : XF l yX7_curiosity cX7_curiosity 2 (some .int) rm_X7_curiosity P [.ref (P.2.2.1 (.inr 9)), .int x] (mW τ S F L) (some (.int (if xok x (mU S) then sU S 2 (cN x) else 0))) (mW τ S (upd F 7 (if xok x (mU S) then 0 else 1)) L) := by
  refine XM.of (by decide +kernel) (Nat.le_of_ble_eq_true rfl) (fun p e s m args below meth c A C => ?_)
  replace C : XC p s m args meth c P A 2 RX7 cX7_curiosity (some .int) := C
  refine XW.eq (lv' := [(0, _), (1, _)]) rfl rfl rfl ?_
  refine X_aload_n (pc := 0) C 0 dX7_curiosity_0 rfl rfl ?_
  refine X_iload_n (pc := 1) C 1 dX7_curiosity_1 rfl rfl ?_
  refine X_iconst (pc := 2) (v := 2) C dX7_curiosity_2 (by decide) ?_
  refine K_X7_306 (pc := 3) C (by assumption) (c_X7_toldUser l P _ _ _ _ h1 (mU S) hM.u15 hM.u x 2 (by decide) _ rfl) ⟨Nat.le_of_ble_eq_true rfl, Nat.le_of_ble_eq_true rfl⟩ ⟨rfl, rfl⟩ ⟨Nat.zero_le _, Nat.zero_le _⟩ (Nat.le_of_ble_eq_true rfl) dX7_curiosity_3 ?_
  exact X_iret (pc := 6) C (Nat.zero_le _) (Nat.zero_le _) dX7_curiosity_6 ⟨rfl, rfl⟩

set_option maxRecDepth 100000 in
set_option maxHeartbeats 4000000 in
theorem c_X7_bill (l : Launch) (P : XP) (τ : XS) (S F L : Nat → Int32) (h1 : xI1 P) (hM : MI S) (x : Int32) : XF l yX7_bill cX7_bill 2 (some .int) rm_X7_bill P [.ref (P.2.2.1 (.inr 9)), .int x] (mW τ S F L) (some (.int (if xok x (mU S) then sU S 3 (cN x) else 0))) (mW τ S (upd F 7 (if xok x (mU S) then 0 else 1)) L) := by
  refine XM.of (by decide +kernel) (Nat.le_of_ble_eq_true rfl) (fun p e s m args below meth c A C => ?_)
  replace C : XC p s m args meth c P A 2 RX7 cX7_bill (some .int) := C
  refine XW.eq (lv' := [(0, _), (1, _)]) rfl rfl rfl ?_
  refine X_aload_n (pc := 0) C 0 dX7_bill_0 rfl rfl ?_
  refine X_iload_n (pc := 1) C 1 dX7_bill_1 rfl rfl ?_
  refine X_iconst (pc := 2) (v := 3) C dX7_bill_2 (by decide) ?_
  refine K_X7_306 (pc := 3) C (by assumption) (c_X7_toldUser l P _ _ _ _ h1 (mU S) hM.u15 hM.u x 3 (by decide) _ rfl) ⟨Nat.le_of_ble_eq_true rfl, Nat.le_of_ble_eq_true rfl⟩ ⟨rfl, rfl⟩ ⟨Nat.zero_le _, Nat.zero_le _⟩ (Nat.le_of_ble_eq_true rfl) dX7_bill_3 ?_
  exact X_iret (pc := 6) C (Nat.zero_le _) (Nat.zero_le _) dX7_bill_6 ⟨rfl, rfl⟩

set_option maxRecDepth 100000 in
set_option maxHeartbeats 4000000 in
theorem c_X7_secretsKnown (l : Launch) (P : XP) (τ : XS) (S F L : Nat → Int32) (h1 : xI1 P) (hM : MI S) (x : Int32) : XF l yX7_secretsKnown cX7_secretsKnown 2 (some .int) rm_X7_secretsKnown P [.ref (P.2.2.1 (.inr 9)), .int x] (mW τ S F L) (some (.int (if xok x (mU S) then sU S 4 (cN x) else 0))) (mW τ S (upd F 7 (if xok x (mU S) then 0 else 1)) L) := by
  refine XM.of (by decide +kernel) (Nat.le_of_ble_eq_true rfl) (fun p e s m args below meth c A C => ?_)
  replace C : XC p s m args meth c P A 2 RX7 cX7_secretsKnown (some .int) := C
  refine XW.eq (lv' := [(0, _), (1, _)]) rfl rfl rfl ?_
  refine X_aload_n (pc := 0) C 0 dX7_secretsKnown_0 rfl rfl ?_
  refine X_iload_n (pc := 1) C 1 dX7_secretsKnown_1 rfl rfl ?_
  refine X_iconst (pc := 2) (v := 4) C dX7_secretsKnown_2 (by decide) ?_
  refine K_X7_306 (pc := 3) C (by assumption) (c_X7_toldUser l P _ _ _ _ h1 (mU S) hM.u15 hM.u x 4 (by decide) _ rfl) ⟨Nat.le_of_ble_eq_true rfl, Nat.le_of_ble_eq_true rfl⟩ ⟨rfl, rfl⟩ ⟨Nat.zero_le _, Nat.zero_le _⟩ (Nat.le_of_ble_eq_true rfl) dX7_secretsKnown_3 ?_
  exact X_iret (pc := 6) C (Nat.zero_le _) (Nat.zero_le _) dX7_secretsKnown_6 ⟨rfl, rfl⟩

set_option maxRecDepth 100000 in
set_option maxHeartbeats 4000000 in
theorem c_X7_callState (l : Launch) (P : XP) (τ : XS) (S F L : Nat → Int32) (h1 : xI1 P) (hM : MI S) (x : Int32) : XF l yX7_callState cX7_callState 2 (some .int) rm_X7_callState P [.ref (P.2.2.1 (.inr 9)), .int x] (mW τ S F L) (some (.int (if xok x (mK S) then sC S 4 (cN x) else 0))) (mW τ S (upd F 7 (if xok x (mK S) then 0 else 1)) L) := by
  refine XM.of (by decide +kernel) (Nat.le_of_ble_eq_true rfl) (fun p e s m args below meth c A C => ?_)
  replace C : XC p s m args meth c P A 2 RX7 cX7_callState (some .int) := C
  refine XW.eq (lv' := [(0, _), (1, _)]) rfl rfl rfl ?_
  refine X_aload_n (pc := 0) C 0 dX7_callState_0 rfl rfl ?_
  refine X_iload_n (pc := 1) C 1 dX7_callState_1 rfl rfl ?_
  refine X_iconst (pc := 2) (v := 4) C dX7_callState_2 (by decide) ?_
  refine K_X7_315 (pc := 3) C (by assumption) (c_X7_toldCall l P _ _ _ _ h1 (mK S) hM.k40 hM.k x 4 (by decide) _ rfl) ⟨Nat.le_of_ble_eq_true rfl, Nat.le_of_ble_eq_true rfl⟩ ⟨rfl, rfl⟩ ⟨Nat.zero_le _, Nat.zero_le _⟩ (Nat.le_of_ble_eq_true rfl) dX7_callState_3 ?_
  exact X_iret (pc := 6) C (Nat.zero_le _) (Nat.zero_le _) dX7_callState_6 ⟨rfl, rfl⟩

set_option maxRecDepth 100000 in
set_option maxHeartbeats 4000000 in
theorem c_X7_callerOf (l : Launch) (P : XP) (τ : XS) (S F L : Nat → Int32) (h1 : xI1 P) (hM : MI S) (x : Int32) : XF l yX7_callerOf cX7_callerOf 2 (some .int) rm_X7_callerOf P [.ref (P.2.2.1 (.inr 9)), .int x] (mW τ S F L) (some (.int (if xok x (mK S) then sC S 0 (cN x) else 0))) (mW τ S (upd F 7 (if xok x (mK S) then 0 else 1)) L) := by
  refine XM.of (by decide +kernel) (Nat.le_of_ble_eq_true rfl) (fun p e s m args below meth c A C => ?_)
  replace C : XC p s m args meth c P A 2 RX7 cX7_callerOf (some .int) := C
  refine XW.eq (lv' := [(0, _), (1, _)]) rfl rfl rfl ?_
  refine X_aload_n (pc := 0) C 0 dX7_callerOf_0 rfl rfl ?_
  refine X_iload_n (pc := 1) C 1 dX7_callerOf_1 rfl rfl ?_
  refine X_iconst (pc := 2) (v := 0) C dX7_callerOf_2 (by decide) ?_
  refine K_X7_315 (pc := 3) C (by assumption) (c_X7_toldCall l P _ _ _ _ h1 (mK S) hM.k40 hM.k x 0 (by decide) _ rfl) ⟨Nat.le_of_ble_eq_true rfl, Nat.le_of_ble_eq_true rfl⟩ ⟨rfl, rfl⟩ ⟨Nat.zero_le _, Nat.zero_le _⟩ (Nat.le_of_ble_eq_true rfl) dX7_callerOf_3 ?_
  exact X_iret (pc := 6) C (Nat.zero_le _) (Nat.zero_le _) dX7_callerOf_6 ⟨rfl, rfl⟩

set_option maxRecDepth 100000 in
set_option maxHeartbeats 4000000 in
theorem c_X7_calledSubscriber (l : Launch) (P : XP) (τ : XS) (S F L : Nat → Int32) (h1 : xI1 P) (hM : MI S) (x : Int32) : XF l yX7_calledSubscriber cX7_calledSubscriber 2 (some .int) rm_X7_calledSubscriber P [.ref (P.2.2.1 (.inr 9)), .int x] (mW τ S F L) (some (.int (if xok x (mK S) then sC S 1 (cN x) else 0))) (mW τ S (upd F 7 (if xok x (mK S) then 0 else 1)) L) := by
  refine XM.of (by decide +kernel) (Nat.le_of_ble_eq_true rfl) (fun p e s m args below meth c A C => ?_)
  replace C : XC p s m args meth c P A 2 RX7 cX7_calledSubscriber (some .int) := C
  refine XW.eq (lv' := [(0, _), (1, _)]) rfl rfl rfl ?_
  refine X_aload_n (pc := 0) C 0 dX7_calledSubscriber_0 rfl rfl ?_
  refine X_iload_n (pc := 1) C 1 dX7_calledSubscriber_1 rfl rfl ?_
  refine X_iconst (pc := 2) (v := 1) C dX7_calledSubscriber_2 (by decide) ?_
  refine K_X7_315 (pc := 3) C (by assumption) (c_X7_toldCall l P _ _ _ _ h1 (mK S) hM.k40 hM.k x 1 (by decide) _ rfl) ⟨Nat.le_of_ble_eq_true rfl, Nat.le_of_ble_eq_true rfl⟩ ⟨rfl, rfl⟩ ⟨Nat.zero_le _, Nat.zero_le _⟩ (Nat.le_of_ble_eq_true rfl) dX7_calledSubscriber_3 ?_
  exact X_iret (pc := 6) C (Nat.zero_le _) (Nat.zero_le _) dX7_calledSubscriber_6 ⟨rfl, rfl⟩

set_option maxRecDepth 100000 in
set_option maxHeartbeats 4000000 in
theorem c_X7_calledTrunk (l : Launch) (P : XP) (τ : XS) (S F L : Nat → Int32) (h1 : xI1 P) (hM : MI S) (x : Int32) : XF l yX7_calledTrunk cX7_calledTrunk 2 (some .int) rm_X7_calledTrunk P [.ref (P.2.2.1 (.inr 9)), .int x] (mW τ S F L) (some (.int (if xok x (mK S) then sC S 2 (cN x) else 0))) (mW τ S (upd F 7 (if xok x (mK S) then 0 else 1)) L) := by
  refine XM.of (by decide +kernel) (Nat.le_of_ble_eq_true rfl) (fun p e s m args below meth c A C => ?_)
  replace C : XC p s m args meth c P A 2 RX7 cX7_calledTrunk (some .int) := C
  refine XW.eq (lv' := [(0, _), (1, _)]) rfl rfl rfl ?_
  refine X_aload_n (pc := 0) C 0 dX7_calledTrunk_0 rfl rfl ?_
  refine X_iload_n (pc := 1) C 1 dX7_calledTrunk_1 rfl rfl ?_
  refine X_iconst (pc := 2) (v := 2) C dX7_calledTrunk_2 (by decide) ?_
  refine K_X7_315 (pc := 3) C (by assumption) (c_X7_toldCall l P _ _ _ _ h1 (mK S) hM.k40 hM.k x 2 (by decide) _ rfl) ⟨Nat.le_of_ble_eq_true rfl, Nat.le_of_ble_eq_true rfl⟩ ⟨rfl, rfl⟩ ⟨Nat.zero_le _, Nat.zero_le _⟩ (Nat.le_of_ble_eq_true rfl) dX7_calledTrunk_3 ?_
  exact X_iret (pc := 6) C (Nat.zero_le _) (Nat.zero_le _) dX7_calledTrunk_6 ⟨rfl, rfl⟩

set_option maxRecDepth 100000 in
set_option maxHeartbeats 4000000 in
theorem c_X7_startTime (l : Launch) (P : XP) (τ : XS) (S F L : Nat → Int32) (h1 : xI1 P) (hM : MI S) (x : Int32) : XF l yX7_startTime cX7_startTime 2 (some .int) rm_X7_startTime P [.ref (P.2.2.1 (.inr 9)), .int x] (mW τ S F L) (some (.int (if xok x (mK S) then sC S 5 (cN x) else 0))) (mW τ S (upd F 7 (if xok x (mK S) then 0 else 1)) L) := by
  refine XM.of (by decide +kernel) (Nat.le_of_ble_eq_true rfl) (fun p e s m args below meth c A C => ?_)
  replace C : XC p s m args meth c P A 2 RX7 cX7_startTime (some .int) := C
  refine XW.eq (lv' := [(0, _), (1, _)]) rfl rfl rfl ?_
  refine X_aload_n (pc := 0) C 0 dX7_startTime_0 rfl rfl ?_
  refine X_iload_n (pc := 1) C 1 dX7_startTime_1 rfl rfl ?_
  refine X_iconst (pc := 2) (v := 5) C dX7_startTime_2 (by decide) ?_
  refine K_X7_315 (pc := 3) C (by assumption) (c_X7_toldCall l P _ _ _ _ h1 (mK S) hM.k40 hM.k x 5 (by decide) _ rfl) ⟨Nat.le_of_ble_eq_true rfl, Nat.le_of_ble_eq_true rfl⟩ ⟨rfl, rfl⟩ ⟨Nat.zero_le _, Nat.zero_le _⟩ (Nat.le_of_ble_eq_true rfl) dX7_startTime_3 ?_
  exact X_iret (pc := 6) C (Nat.zero_le _) (Nat.zero_le _) dX7_startTime_6 ⟨rfl, rfl⟩

set_option maxRecDepth 100000 in
set_option maxHeartbeats 4000000 in
theorem c_X7_endTime (l : Launch) (P : XP) (τ : XS) (S F L : Nat → Int32) (h1 : xI1 P) (hM : MI S) (x : Int32) : XF l yX7_endTime cX7_endTime 2 (some .int) rm_X7_endTime P [.ref (P.2.2.1 (.inr 9)), .int x] (mW τ S F L) (some (.int (if xok x (mK S) then sC S 6 (cN x) else 0))) (mW τ S (upd F 7 (if xok x (mK S) then 0 else 1)) L) := by
  refine XM.of (by decide +kernel) (Nat.le_of_ble_eq_true rfl) (fun p e s m args below meth c A C => ?_)
  replace C : XC p s m args meth c P A 2 RX7 cX7_endTime (some .int) := C
  refine XW.eq (lv' := [(0, _), (1, _)]) rfl rfl rfl ?_
  refine X_aload_n (pc := 0) C 0 dX7_endTime_0 rfl rfl ?_
  refine X_iload_n (pc := 1) C 1 dX7_endTime_1 rfl rfl ?_
  refine X_bipush (pc := 2) (v := 6) C dX7_endTime_2 (by decide) ?_
  refine K_X7_315 (pc := 4) C (by assumption) (c_X7_toldCall l P _ _ _ _ h1 (mK S) hM.k40 hM.k x 6 (by decide) _ rfl) ⟨Nat.le_of_ble_eq_true rfl, Nat.le_of_ble_eq_true rfl⟩ ⟨rfl, rfl⟩ ⟨Nat.zero_le _, Nat.zero_le _⟩ (Nat.le_of_ble_eq_true rfl) dX7_endTime_4 ?_
  exact X_iret (pc := 7) C (Nat.zero_le _) (Nat.zero_le _) dX7_endTime_7 ⟨rfl, rfl⟩

set_option maxRecDepth 100000 in
set_option maxHeartbeats 4000000 in
theorem c_X7_listeners (l : Launch) (P : XP) (τ : XS) (S F L : Nat → Int32) (h1 : xI1 P) (hM : MI S) (x : Int32) : XF l yX7_listeners cX7_listeners 2 (some .int) rm_X7_listeners P [.ref (P.2.2.1 (.inr 9)), .int x] (mW τ S F L) (some (.int (if xok x (mK S) then sC S 7 (cN x) else 0))) (mW τ S (upd F 7 (if xok x (mK S) then 0 else 1)) L) := by
  refine XM.of (by decide +kernel) (Nat.le_of_ble_eq_true rfl) (fun p e s m args below meth c A C => ?_)
  replace C : XC p s m args meth c P A 2 RX7 cX7_listeners (some .int) := C
  refine XW.eq (lv' := [(0, _), (1, _)]) rfl rfl rfl ?_
  refine X_aload_n (pc := 0) C 0 dX7_listeners_0 rfl rfl ?_
  refine X_iload_n (pc := 1) C 1 dX7_listeners_1 rfl rfl ?_
  refine X_bipush (pc := 2) (v := 7) C dX7_listeners_2 (by decide) ?_
  refine K_X7_315 (pc := 4) C (by assumption) (c_X7_toldCall l P _ _ _ _ h1 (mK S) hM.k40 hM.k x 7 (by decide) _ rfl) ⟨Nat.le_of_ble_eq_true rfl, Nat.le_of_ble_eq_true rfl⟩ ⟨rfl, rfl⟩ ⟨Nat.zero_le _, Nat.zero_le _⟩ (Nat.le_of_ble_eq_true rfl) dX7_listeners_4 ?_
  exact X_iret (pc := 7) C (Nat.zero_le _) (Nat.zero_le _) dX7_listeners_7 ⟨rfl, rfl⟩

set_option maxRecDepth 100000 in
set_option maxHeartbeats 4000000 in
theorem c_X7_volume (l : Launch) (P : XP) (τ : XS) (S F L : Nat → Int32) (h1 : xI1 P) (hM : MI S) (x : Int32) : XF l yX7_volume cX7_volume 2 (some .int) rm_X7_volume P [.ref (P.2.2.1 (.inr 9)), .int x] (mW τ S F L) (some (.int (if xok x (mK S) then sC S 8 (cN x) else 0))) (mW τ S (upd F 7 (if xok x (mK S) then 0 else 1)) L) := by
  refine XM.of (by decide +kernel) (Nat.le_of_ble_eq_true rfl) (fun p e s m args below meth c A C => ?_)
  replace C : XC p s m args meth c P A 2 RX7 cX7_volume (some .int) := C
  refine XW.eq (lv' := [(0, _), (1, _)]) rfl rfl rfl ?_
  refine X_aload_n (pc := 0) C 0 dX7_volume_0 rfl rfl ?_
  refine X_iload_n (pc := 1) C 1 dX7_volume_1 rfl rfl ?_
  refine X_bipush (pc := 2) (v := 8) C dX7_volume_2 (by decide) ?_
  refine K_X7_315 (pc := 4) C (by assumption) (c_X7_toldCall l P _ _ _ _ h1 (mK S) hM.k40 hM.k x 8 (by decide) _ rfl) ⟨Nat.le_of_ble_eq_true rfl, Nat.le_of_ble_eq_true rfl⟩ ⟨rfl, rfl⟩ ⟨Nat.zero_le _, Nat.zero_le _⟩ (Nat.le_of_ble_eq_true rfl) dX7_volume_4 ?_
  exact X_iret (pc := 7) C (Nat.zero_le _) (Nat.zero_le _) dX7_volume_7 ⟨rfl, rfl⟩

set_option maxRecDepth 100000 in
set_option maxHeartbeats 4000000 in
theorem c_X7_isUrgent (l : Launch) (P : XP) (τ : XS) (S F L : Nat → Int32) (h1 : xI1 P) (hM : MI S) (x : Int32) : XF l yX7_isUrgent cX7_isUrgent 2 (some .boolean) rm_X7_isUrgent P [.ref (P.2.2.1 (.inr 9)), .int x] (mW τ S F L) (some (.int (if (if xok x (mK S) then sC S 3 (cN x) else 0) = 1 then 1 else 0))) (mW τ S (upd F 7 (if xok x (mK S) then 0 else 1)) L) := by
  refine XM.of (by decide +kernel) (Nat.le_of_ble_eq_true rfl) (fun p e s m args below meth c A C => ?_)
  replace C : XC p s m args meth c P A 2 RX7 cX7_isUrgent (some .boolean) := C
  refine XW.eq (lv' := [(0, _), (1, _)]) rfl rfl rfl ?_
  refine X_aload_n (pc := 0) C 0 dX7_isUrgent_0 rfl rfl ?_
  refine X_iload_n (pc := 1) C 1 dX7_isUrgent_1 rfl rfl ?_
  refine X_iconst (pc := 2) (v := 3) C dX7_isUrgent_2 (by decide) ?_
  refine K_X7_315 (pc := 3) C (by assumption) (c_X7_toldCall l P _ _ _ _ h1 (mK S) hM.k40 hM.k x 3 (by decide) _ rfl) ⟨Nat.le_of_ble_eq_true rfl, Nat.le_of_ble_eq_true rfl⟩ ⟨rfl, rfl⟩ ⟨Nat.zero_le _, Nat.zero_le _⟩ (Nat.le_of_ble_eq_true rfl) dX7_isUrgent_3 ?_
  refine X_iconst (pc := 6) (v := 1) C dX7_isUrgent_6 (by decide) ?_
  refine X_icmp_ne (pc := 7) C 14 dX7_isUrgent_7 (by decide) (fun h7 => ?_) (fun h7 => ?_)
  · skip
    refine X_iconst (pc := 14) (v := 0) C dX7_isUrgent_14 (by decide) ?_
    exact X_zret (pc := 15) C (Nat.zero_le _) (Nat.zero_le _) (rfl) dX7_isUrgent_15 ⟨by rw [if_neg h7], rfl⟩
  · skip
    refine X_iconst (pc := 10) (v := 1) C dX7_isUrgent_10 (by decide) ?_
    refine X_goto (pc := 11) C 15 dX7_isUrgent_11 (by decide) ?_
    exact X_zret (pc := 15) C (Nat.zero_le _) (Nat.zero_le _) (rfl) dX7_isUrgent_15 ⟨by rw [if_pos h7], rfl⟩

set_option maxRecDepth 100000 in
set_option maxHeartbeats 4000000 in
theorem L_X7_ringsIn {Post : Option Value → XS → Prop} {mc ms : Nat} (C : XC p s m args meth c P A 3 RX7 cX7_ringsIn (some .int)) {x0 : Int32} : ∀ (k a j : Nat), k ≤ 6 → j < 2 ^ k → Post (some (.int (nI (a + mRg k j)))) σ → XW p l e rm_X7_ringsIn s m args below meth c P A 3 0 0 (MQ below (XQ P A Post) args s mc ms A) σ 4 [(0, .int x0), (1, .int (nI (a))), (2, .int (nI (j)))] [] := by
  intro k
  induction k with
  | zero =>
    intro a j hk hj hp
    obtain rfl : j = 0 := by omega
    refine X_iload_n (pc := 4) C 2 dX7_ringsIn_4 rfl rfl ?_
    refine X_iconst (pc := 5) (v := 1) C dX7_ringsIn_5 (by decide) ?_
    refine X_icmp_le (pc := 6) C 19 dX7_ringsIn_6 (by decide) (fun h6 => ?_) (fun h6 => ?_)
    · skip
      refine X_iload_n (pc := 19) C 1 dX7_ringsIn_19 rfl rfl ?_
      exact X_iret (pc := 20) C (Nat.zero_le _) (Nat.zero_le _) dX7_ringsIn_20 hp
    · exact absurd (show nI 0 ≤ 1 from by decide) h6
  | succ k ih =>
    intro a j hk hj hp
    have hj6 : j < 64 := Nat.lt_of_lt_of_le hj (Nat.pow_le_pow_right (by decide) (show k + 1 ≤ 6 from hk))
    have h2 : 2 ^ (k + 1) = 2 * 2 ^ k := by rw [Nat.pow_succ, Nat.mul_comm]
    refine X_iload_n (pc := 4) C 2 dX7_ringsIn_4 rfl rfl ?_
    refine X_iconst (pc := 5) (v := 1) C dX7_ringsIn_5 (by decide) ?_
    refine X_icmp_le (pc := 6) C 19 dX7_ringsIn_6 (by decide) (fun h6 => ?_) (fun h6 => ?_)
    · have g6 : j ≤ 1 := nle (b := 1) h6
      rw [mRg, if_pos g6] at hp
      refine X_iload_n (pc := 19) C 1 dX7_ringsIn_19 rfl rfl ?_
      exact X_iret (pc := 20) C (Nat.zero_le _) (Nat.zero_le _) dX7_ringsIn_20 hp
    · have g6 : ¬ j ≤ 1 := fun q => h6 (nI_le (b := 1) q (by decide))
      rw [mRg, if_neg g6] at hp
      first | refine X_iincN (pc := 9) (lv1 := [(0, _), (1, _), (2, _)]) C dX7_ringsIn_9 rfl (by decide) (by decide) rfl ?_ | refine X_iinc (pc := 9) (kk := 1) (lv1 := [(0, _), (1, _), (2, _)]) C dX7_ringsIn_9 rfl (by decide) (by decide) rfl ?_
      refine X_iload_n (pc := 12) C 2 dX7_ringsIn_12 rfl rfl ?_
      refine X_iconst (pc := 13) (v := 1) C dX7_ringsIn_13 (by decide) ?_
      refine X_ishr (pc := 14) C dX7_ringsIn_14 ?_
      rw [shr1 j hj6]
      refine X_istore_n (pc := 15) (lv1 := [(0, _), (1, _), (2, _)]) C 2 dX7_ringsIn_15 rfl (by decide) rfl ?_
      refine X_goto (pc := 16) C 4 dX7_ringsIn_16 (by decide) ?_
      exact XW.less (lv' := [(0, _), (1, _), (2, _)]) [0, 1, 2] rfl (ih (a + 1) (j / 2) (by omega) (by omega) (by rw [show a + 1 + mRg k (j / 2) = a + (mRg k (j / 2) + 1) by omega]; exact hp))

set_option maxRecDepth 100000 in
set_option maxHeartbeats 4000000 in
theorem c_X7_ringsIn (l : Launch) (P : XP) (σ : XS) (j : Nat) (hj : j < 64) (x : Int32) (hx : x = nI j) : XF l yX7_ringsIn cX7_ringsIn 3 (some .int) rm_X7_ringsIn P [.int x] σ (some (.int (nI (mRg 6 j)))) (σ) := by
  refine XM.of (by decide +kernel) (Nat.le_of_ble_eq_true rfl) (fun p e s m args below meth c A C => ?_)
  replace C : XC p s m args meth c P A 3 RX7 cX7_ringsIn (some .int) := C
  refine XW.eq (lv' := [(0, _)]) rfl rfl rfl ?_
  subst hx
  refine X_iconst (pc := 0) (v := 0) C dX7_ringsIn_0 (by decide) ?_
  refine X_istore_n (pc := 1) (lv1 := [(0, _), (1, _)]) C 1 dX7_ringsIn_1 rfl (by decide) rfl ?_
  refine X_iload_n (pc := 2) C 0 dX7_ringsIn_2 rfl rfl ?_
  refine X_istore_n (pc := 3) (lv1 := [(0, _), (1, _), (2, _)]) C 2 dX7_ringsIn_3 rfl (by decide) rfl ?_
  exact L_X7_ringsIn C 6 0 j (by omega) hj ⟨by rw [Nat.zero_add], rfl⟩

set_option maxRecDepth 100000 in
set_option maxHeartbeats 4000000 in
theorem c_X7_begins (l : Launch) (P : XP) (σ : XS) (i j : Nat) (hi : i < 64) (hj : j < 64) (x y : Int32) (hx : x = nI i) (hy : y = nI j) : XF l yX7_begins cX7_begins 3 (some .boolean) rm_X7_begins P [.int x, .int y] σ (some (.int (if 0 ≤ nI (mRg 6 j) - nI (mRg 6 i) ∧ nI j >>> ((nI (mRg 6 j) - nI (mRg 6 i)) &&& 31) = nI i then 1 else 0))) (σ) := by
  refine XM.of (by decide +kernel) (Nat.le_of_ble_eq_true rfl) (fun p e s m args below meth c A C => ?_)
  replace C : XC p s m args meth c P A 3 RX7 cX7_begins (some .boolean) := C
  refine XW.eq (lv' := [(0, _), (1, _)]) rfl rfl rfl ?_
  subst hx
  subst hy
  refine X_iload_n (pc := 0) C 1 dX7_begins_0 rfl rfl ?_
  refine K_X7_84 (pc := 1) C (c_X7_ringsIn l P _ j hj _ rfl) ⟨Nat.le_of_ble_eq_true rfl, Nat.le_of_ble_eq_true rfl⟩ ⟨rfl, rfl⟩ ⟨Nat.zero_le _, Nat.zero_le _⟩ (Nat.le_of_ble_eq_true rfl) dX7_begins_1 ?_
  refine X_iload_n (pc := 4) C 0 dX7_begins_4 rfl rfl ?_
  refine K_X7_84 (pc := 5) C (c_X7_ringsIn l P _ i hi _ rfl) ⟨Nat.le_of_ble_eq_true rfl, Nat.le_of_ble_eq_true rfl⟩ ⟨rfl, rfl⟩ ⟨Nat.zero_le _, Nat.zero_le _⟩ (Nat.le_of_ble_eq_true rfl) dX7_begins_5 ?_
  refine X_isub (pc := 8) C dX7_begins_8 ?_
  refine X_istore_n (pc := 9) (lv1 := [(0, _), (1, _), (2, _)]) C 2 dX7_begins_9 rfl (by decide) rfl ?_
  refine X_iload_n (pc := 10) C 2 dX7_begins_10 rfl rfl ?_
  refine X_if_lt (pc := 11) C 25 dX7_begins_11 (by decide) (fun h11 => ?_) (fun h11 => ?_)
  · skip
    refine X_iconst (pc := 25) (v := 0) C dX7_begins_25 (by decide) ?_
    exact X_zret (pc := 26) C (Nat.zero_le _) (Nat.zero_le _) (rfl) dX7_begins_26 ⟨by rw [if_neg (fun q => Int32.not_le.mpr h11 q.1)], rfl⟩
  · skip
    refine X_iload_n (pc := 14) C 1 dX7_begins_14 rfl rfl ?_
    refine X_iload_n (pc := 15) C 2 dX7_begins_15 rfl rfl ?_
    refine X_ishr (pc := 16) C dX7_begins_16 ?_
    refine X_iload_n (pc := 17) C 0 dX7_begins_17 rfl rfl ?_
    refine X_icmp_ne (pc := 18) C 25 dX7_begins_18 (by decide) (fun h18 => ?_) (fun h18 => ?_)
    · skip
      refine X_iconst (pc := 25) (v := 0) C dX7_begins_25 (by decide) ?_
      exact X_zret (pc := 26) C (Nat.zero_le _) (Nat.zero_le _) (rfl) dX7_begins_26 ⟨by rw [if_neg (fun q => h18 q.2)], rfl⟩
    · skip
      refine X_iconst (pc := 21) (v := 1) C dX7_begins_21 (by decide) ?_
      refine X_goto (pc := 22) C 26 dX7_begins_22 (by decide) ?_
      exact X_zret (pc := 26) C (Nat.zero_le _) (Nat.zero_le _) (rfl) dX7_begins_26 ⟨by rw [if_pos ⟨Int32.not_lt.mp h11, h18⟩], rfl⟩

set_option maxRecDepth 100000 in
set_option maxHeartbeats 4000000 in
theorem c_X7_ringCount (l : Launch) (P : XP) (τ : XS) (S F L : Nat → Int32) (h1 : xI1 P) (hM : MI S) (hC : MC S) (x : Int32) : XF l yX7_ringCount cX7_ringCount 2 (some .int) rm_X7_ringCount P [.ref (P.2.2.1 (.inr 9)), .int x] (mW τ S F L) (some (.int (if xok x (mU S) then nI (mRg 6 (cN (sU S 1 (cN x)))) else 0))) (mW τ S (upd F 7 (if xok x (mU S) then 0 else 1)) L) := by
  refine XM.of (by decide +kernel) (Nat.le_of_ble_eq_true rfl) (fun p e s m args below meth c A C => ?_)
  replace C : XC p s m args meth c P A 2 RX7 cX7_ringCount (some .int) := C
  refine XW.eq (lv' := [(0, _), (1, _)]) rfl rfl rfl ?_
  refine X_aload_n (pc := 0) C 0 dX7_ringCount_0 rfl rfl ?_
  refine X_iload_n (pc := 1) C 1 dX7_ringCount_1 rfl rfl ?_
  refine K_X7_303 (pc := 2) C (by assumption) (c_X7_isBad l P _ _ _ _ h1 (mU S) (by have := hM.u15; omega) hM.u x) ⟨Nat.le_of_ble_eq_true rfl, Nat.le_of_ble_eq_true rfl⟩ ⟨rfl, rfl⟩ ⟨Nat.zero_le _, Nat.zero_le _⟩ (Nat.le_of_ble_eq_true rfl) dX7_ringCount_2 ?_
  refine X_if_eq (pc := 5) C 12 dX7_ringCount_5 (by decide) (fun h5 => ?_) (fun h5 => ?_)
  · have g5 := bz00 h5
    have gx := xok_c g5 (by have := hM.u15; omega)
    have g15 := hM.u15
    refine X_aload_n (pc := 12) C 0 dX7_ringCount_12 rfl rfl ?_
    refine X_iload_n (pc := 13) C 1 dX7_ringCount_13 rfl rfl ?_
    refine X_iconst (pc := 14) (v := 1) C dX7_ringCount_14 (by decide) ?_
    refine K_X7_92 (pc := 15) C (by assumption) (c_X7_ofUser l P _ _ _ _ h1 (cN x) 1 (by omega) (by decide) _ 1 gx.2 rfl) ⟨Nat.le_of_ble_eq_true rfl, Nat.le_of_ble_eq_true rfl⟩ ⟨rfl, rfl⟩ ⟨Nat.zero_le _, Nat.zero_le _⟩ (Nat.le_of_ble_eq_true rfl) dX7_ringCount_15 ?_
    refine K_X7_84 (pc := 18) C (c_X7_ringsIn l P _ _ (xok_c (hC _ gx.1)).1 _ (xok_c (hC _ gx.1)).2) ⟨Nat.le_of_ble_eq_true rfl, Nat.le_of_ble_eq_true rfl⟩ ⟨rfl, rfl⟩ ⟨Nat.zero_le _, Nat.zero_le _⟩ (Nat.le_of_ble_eq_true rfl) dX7_ringCount_18 ?_
    exact X_iret (pc := 21) C (Nat.zero_le _) (Nat.zero_le _) dX7_ringCount_21 ⟨by rw [if_pos g5], rfl⟩
  · have g5 := bz01 h5
    refine X_iconst (pc := 8) (v := 0) C dX7_ringCount_8 (by decide) ?_
    refine X_goto (pc := 9) C 21 dX7_ringCount_9 (by decide) ?_
    exact X_iret (pc := 21) C (Nat.zero_le _) (Nat.zero_le _) dX7_ringCount_21 ⟨by rw [if_neg g5], rfl⟩

set_option maxRecDepth 100000 in
set_option maxHeartbeats 4000000 in
theorem L_X7_ringSeconds {Post : Option Value → XS → Prop} {mc ms : Nat} (C : XC p s m args meth c P A 4 RX7 cX7_ringSeconds (some .int)) {y0 : Nat} {x0 : Int32} : ∀ (k : Nat) (a : Int32) (j : Nat), k ≤ 6 → j < 2 ^ k → Post (some (.int (mSec k j a))) σ → XW p l e rm_X7_ringSeconds s m args below meth c P A 4 0 0 (MQ below (XQ P A Post) args s mc ms A) σ 19 [(0, .ref y0), (1, .int x0), (2, .int (a)), (3, .int (nI (j)))] [] := by
  intro k
  induction k with
  | zero =>
    intro a j hk hj hp
    obtain rfl : j = 0 := by omega
    refine X_iload_n (pc := 19) C 3 dX7_ringSeconds_19 rfl rfl ?_
    refine X_iconst (pc := 20) (v := 1) C dX7_ringSeconds_20 (by decide) ?_
    refine X_icmp_le (pc := 21) C 46 dX7_ringSeconds_21 (by decide) (fun h21 => ?_) (fun h21 => ?_)
    · skip
      refine X_iload_n (pc := 46) C 2 dX7_ringSeconds_46 rfl rfl ?_
      exact X_iret (pc := 47) C (Nat.zero_le _) (Nat.zero_le _) dX7_ringSeconds_47 hp
    · exact absurd (show nI 0 ≤ 1 from by decide) h21
  | succ k ih =>
    intro a j hk hj hp
    have hj6 : j < 64 := Nat.lt_of_lt_of_le hj (Nat.pow_le_pow_right (by decide) (show k + 1 ≤ 6 from hk))
    have h2 : 2 ^ (k + 1) = 2 * 2 ^ k := by rw [Nat.pow_succ, Nat.mul_comm]
    refine X_iload_n (pc := 19) C 3 dX7_ringSeconds_19 rfl rfl ?_
    refine X_iconst (pc := 20) (v := 1) C dX7_ringSeconds_20 (by decide) ?_
    refine X_icmp_le (pc := 21) C 46 dX7_ringSeconds_21 (by decide) (fun h21 => ?_) (fun h21 => ?_)
    · have g6 : j ≤ 1 := nle (b := 1) h21
      rw [mSec, if_pos g6] at hp
      refine X_iload_n (pc := 46) C 2 dX7_ringSeconds_46 rfl rfl ?_
      exact X_iret (pc := 47) C (Nat.zero_le _) (Nat.zero_le _) dX7_ringSeconds_47 hp
    · have g6 : ¬ j ≤ 1 := fun q => h21 (nI_le (b := 1) q (by decide))
      rw [mSec, if_neg g6] at hp
      refine X_iload_n (pc := 24) C 2 dX7_ringSeconds_24 rfl rfl ?_
      refine X_iload_n (pc := 25) C 3 dX7_ringSeconds_25 rfl rfl ?_
      refine X_iconst (pc := 26) (v := 2) C dX7_ringSeconds_26 (by decide) ?_
      refine X_irem (pc := 27) C dX7_ringSeconds_27 (by decide) ?_
      rw [rem2 j hj6]
      refine X_iconst (pc := 28) (v := 1) C dX7_ringSeconds_28 (by decide) ?_
      refine X_icmp_ne (pc := 29) C 36 dX7_ringSeconds_29 (by decide) (fun h29 => ?_) (fun h29 => ?_)
      · have g29 : ¬ j % 2 = 1 := fun q => h29 (by rw [q]; rfl)
        rw [if_neg g29] at hp
        refine X_iconst (pc := 36) (v := 2) C dX7_ringSeconds_36 (by decide) ?_
        refine X_iadd (pc := 37) C dX7_ringSeconds_37 ?_
        refine X_istore_n (pc := 38) (lv1 := [(0, _), (1, _), (2, _), (3, _)]) C 2 dX7_ringSeconds_38 rfl (by decide) rfl ?_
        refine X_iload_n (pc := 39) C 3 dX7_ringSeconds_39 rfl rfl ?_
        refine X_iconst (pc := 40) (v := 1) C dX7_ringSeconds_40 (by decide) ?_
        refine X_ishr (pc := 41) C dX7_ringSeconds_41 ?_
        rw [shr1 j hj6]
        refine X_istore_n (pc := 42) (lv1 := [(0, _), (1, _), (2, _), (3, _)]) C 3 dX7_ringSeconds_42 rfl (by decide) rfl ?_
        refine X_goto (pc := 43) C 19 dX7_ringSeconds_43 (by decide) ?_
        exact XW.less (lv' := [(0, _), (1, _), (2, _), (3, _)]) [0, 1, 2, 3] rfl (ih _ (j / 2) (by omega) (by omega) hp)
      · have g29 : j % 2 = 1 := neq (b := 1) h29
        rw [if_pos g29] at hp
        refine X_iconst (pc := 32) (v := 4) C dX7_ringSeconds_32 (by decide) ?_
        refine X_goto (pc := 33) C 37 dX7_ringSeconds_33 (by decide) ?_
        refine X_iadd (pc := 37) C dX7_ringSeconds_37 ?_
        refine X_istore_n (pc := 38) (lv1 := [(0, _), (1, _), (2, _), (3, _)]) C 2 dX7_ringSeconds_38 rfl (by decide) rfl ?_
        refine X_iload_n (pc := 39) C 3 dX7_ringSeconds_39 rfl rfl ?_
        refine X_iconst (pc := 40) (v := 1) C dX7_ringSeconds_40 (by decide) ?_
        refine X_ishr (pc := 41) C dX7_ringSeconds_41 ?_
        rw [shr1 j hj6]
        refine X_istore_n (pc := 42) (lv1 := [(0, _), (1, _), (2, _), (3, _)]) C 3 dX7_ringSeconds_42 rfl (by decide) rfl ?_
        refine X_goto (pc := 43) C 19 dX7_ringSeconds_43 (by decide) ?_
        exact XW.less (lv' := [(0, _), (1, _), (2, _), (3, _)]) [0, 1, 2, 3] rfl (ih _ (j / 2) (by omega) (by omega) hp)

set_option maxRecDepth 100000 in
set_option maxHeartbeats 4000000 in
theorem c_X7_ringSeconds (l : Launch) (P : XP) (τ : XS) (S F L : Nat → Int32) (h1 : xI1 P) (hM : MI S) (hC : MC S) (x : Int32) : XF l yX7_ringSeconds cX7_ringSeconds 4 (some .int) rm_X7_ringSeconds P [.ref (P.2.2.1 (.inr 9)), .int x] (mW τ S F L) (some (.int (if xok x (mU S) then mSec 6 (cN (sU S 1 (cN x))) (-1) else 0))) (mW τ S (upd F 7 (if xok x (mU S) then 0 else 1)) L) := by
  refine XM.of (by decide +kernel) (Nat.le_of_ble_eq_true rfl) (fun p e s m args below meth c A C => ?_)
  replace C : XC p s m args meth c P A 4 RX7 cX7_ringSeconds (some .int) := C
  refine XW.eq (lv' := [(0, _), (1, _)]) rfl rfl rfl ?_
  refine X_aload_n (pc := 0) C 0 dX7_ringSeconds_0 rfl rfl ?_
  refine X_iload_n (pc := 1) C 1 dX7_ringSeconds_1 rfl rfl ?_
  refine K_X7_303 (pc := 2) C (by assumption) (c_X7_isBad l P _ _ _ _ h1 (mU S) (by have := hM.u15; omega) hM.u x) ⟨Nat.le_of_ble_eq_true rfl, Nat.le_of_ble_eq_true rfl⟩ ⟨rfl, rfl⟩ ⟨Nat.zero_le _, Nat.zero_le _⟩ (Nat.le_of_ble_eq_true rfl) dX7_ringSeconds_2 ?_
  refine X_if_eq (pc := 5) C 10 dX7_ringSeconds_5 (by decide) (fun h5 => ?_) (fun h5 => ?_)
  · have g5 := bz00 h5
    have gx := xok_c g5 (by have := hM.u15; omega)
    have g15 := hM.u15
    refine X_iconst (pc := 10) (v := (-1)) C dX7_ringSeconds_10 (by decide) ?_
    refine X_istore_n (pc := 11) (lv1 := [(0, _), (1, _), (2, _)]) C 2 dX7_ringSeconds_11 rfl (by decide) rfl ?_
    refine X_aload_n (pc := 12) C 0 dX7_ringSeconds_12 rfl rfl ?_
    refine X_iload_n (pc := 13) C 1 dX7_ringSeconds_13 rfl rfl ?_
    refine X_iconst (pc := 14) (v := 1) C dX7_ringSeconds_14 (by decide) ?_
    refine K_X7_92 (pc := 15) C (by assumption) (c_X7_ofUser l P _ _ _ _ h1 (cN x) 1 (by omega) (by decide) _ 1 gx.2 rfl) ⟨Nat.le_of_ble_eq_true rfl, Nat.le_of_ble_eq_true rfl⟩ ⟨rfl, rfl⟩ ⟨Nat.zero_le _, Nat.zero_le _⟩ (Nat.le_of_ble_eq_true rfl) dX7_ringSeconds_15 ?_
    refine X_istore_n (pc := 18) (lv1 := [(0, _), (1, _), (2, _), (3, _)]) C 3 dX7_ringSeconds_18 rfl (by decide) rfl ?_
    refine XW.eq (lv' := [(0, _), (1, _), (2, _), (3, .int (nI (cN (sU S 1 (cN x)))))]) rfl (by rw [← (xok_c (hC _ gx.1)).2]) rfl ?_
    exact L_X7_ringSeconds C 6 (-1) _ (by omega) (xok_c (hC _ gx.1)).1 ⟨by rw [if_pos g5], rfl⟩
  · have g5 := bz01 h5
    refine X_iconst (pc := 8) (v := 0) C dX7_ringSeconds_8 (by decide) ?_
    exact X_iret (pc := 9) C (Nat.zero_le _) (Nat.zero_le _) dX7_ringSeconds_9 ⟨by rw [if_neg g5], rfl⟩

set_option maxRecDepth 100000 in
set_option maxHeartbeats 4000000 in
theorem L_X7_neighbours (C : XC p s m args meth c P A 4 RX7 cX7_neighbours (some .int)) {τ : XS} {S F L : Nat → Int32} (h1 : xI1 P) (hM : MI S) {y : Nat} (hy : y < 15) (kx : XW p l e rm_X7_neighbours s m args below meth c P A 4 0 0 Q (mW τ S F L) 48 [(0, .ref (P.2.2.1 (.inr 9))), (1, .int (nI y)), (2, .int (mNb (cCount (fun u => sU S 0 u) (sU S 0 y) (mU S)))), (3, .int (nI (mU S)))] []) : ∀ (k i : Nat), i + k = mU S → XW p l e rm_X7_neighbours s m args below meth c P A 4 0 0 Q (mW τ S F L) 14 [(0, .ref (P.2.2.1 (.inr 9))), (1, .int (nI y)), (2, .int (mNb (cCount (fun u => sU S 0 u) (sU S 0 y) (i)))), (3, .int (nI (i)))] [] := by
  have hbd := hM.u15
  intro k
  induction k with
  | zero =>
    intro i hi
    have e9 : i = mU S := by omega
    subst e9
    refine X_iload_n (pc := 14) C 3 dX7_neighbours_14 rfl rfl ?_
    refine X_aload_n (pc := 15) C 0 dX7_neighbours_15 rfl rfl ?_
    refine G_X7_9 (pc := 16) C (by assumption) dX7_neighbours_16 ?_
    refine X_iconst (pc := 19) (v := 4) C dX7_neighbours_19 (by decide) ?_
    refine X_ialdN (j := 4) (pc := 20) C (by first | exact h1 _ (by decide) (by decide)) rfl (by omega) (by decide) dX7_neighbours_20 ?_
    rw [mW_10]
    rw [hM.u]
    refine X_icmp_ge (pc := 21) C 48 dX7_neighbours_21 (by decide) (fun h21 => ?_) (fun h21 => ?_)
    · skip
      exact kx
    · exact absurd (nI_le (Nat.le_refl _) (n31 (by omega))) h21
  | succ k ih =>
    intro i hi
    have hlt : i < mU S := by omega
    refine X_iload_n (pc := 14) C 3 dX7_neighbours_14 rfl rfl ?_
    refine X_aload_n (pc := 15) C 0 dX7_neighbours_15 rfl rfl ?_
    refine G_X7_9 (pc := 16) C (by assumption) dX7_neighbours_16 ?_
    refine X_iconst (pc := 19) (v := 4) C dX7_neighbours_19 (by decide) ?_
    refine X_ialdN (j := 4) (pc := 20) C (by first | exact h1 _ (by decide) (by decide)) rfl (by omega) (by decide) dX7_neighbours_20 ?_
    rw [mW_10]
    rw [hM.u]
    refine X_icmp_ge (pc := 21) C 48 dX7_neighbours_21 (by decide) (fun h21 => ?_) (fun h21 => ?_)
    · exact absurd (nle h21) (by omega)
    · skip
      refine X_aload_n (pc := 24) C 0 dX7_neighbours_24 rfl rfl ?_
      refine X_iload_n (pc := 25) C 3 dX7_neighbours_25 rfl rfl ?_
      refine X_iconst (pc := 26) (v := 0) C dX7_neighbours_26 (by decide) ?_
      refine K_X7_92 (pc := 27) C (by assumption) (c_X7_ofUser l P _ _ _ _ h1 i 0 (by omega) (by decide) _ 0 rfl rfl) ⟨Nat.le_of_ble_eq_true rfl, Nat.le_of_ble_eq_true rfl⟩ ⟨rfl, rfl⟩ ⟨Nat.zero_le _, Nat.zero_le _⟩ (Nat.le_of_ble_eq_true rfl) dX7_neighbours_27 ?_
      refine X_aload_n (pc := 30) C 0 dX7_neighbours_30 rfl rfl ?_
      refine X_iload_n (pc := 31) C 1 dX7_neighbours_31 rfl rfl ?_
      refine X_iconst (pc := 32) (v := 0) C dX7_neighbours_32 (by decide) ?_
      refine K_X7_92 (pc := 33) C (by assumption) (c_X7_ofUser l P _ _ _ _ h1 y 0 hy (by decide) _ 0 rfl rfl) ⟨Nat.le_of_ble_eq_true rfl, Nat.le_of_ble_eq_true rfl⟩ ⟨rfl, rfl⟩ ⟨Nat.zero_le _, Nat.zero_le _⟩ (Nat.le_of_ble_eq_true rfl) dX7_neighbours_33 ?_
      refine X_icmp_ne (pc := 36) C 42 dX7_neighbours_36 (by decide) (fun h36 => ?_) (fun h36 => ?_)
      · skip
        first | refine X_iincN (pc := 42) (lv1 := [(0, _), (1, _), (2, _), (3, _)]) C dX7_neighbours_42 rfl (by decide) (by decide) rfl ?_ | refine X_iinc (pc := 42) (kk := 1) (lv1 := [(0, _), (1, _), (2, _), (3, _)]) C dX7_neighbours_42 rfl (by decide) (by decide) rfl ?_
        refine X_goto (pc := 45) C 14 dX7_neighbours_45 (by decide) ?_
        exact XW.eq rfl (by first | simp [cCount, h36]) rfl (ih (i + 1) (by omega))
      · skip
        first | refine X_iincN (pc := 39) (lv1 := [(0, _), (1, _), (2, _), (3, _)]) C dX7_neighbours_39 rfl (by decide) (by decide) rfl ?_ | refine X_iinc (pc := 39) (kk := 1) (lv1 := [(0, _), (1, _), (2, _), (3, _)]) C dX7_neighbours_39 rfl (by decide) (by decide) rfl ?_
        rw [mNb_1]
        first | refine X_iincN (pc := 42) (lv1 := [(0, _), (1, _), (2, _), (3, _)]) C dX7_neighbours_42 rfl (by decide) (by decide) rfl ?_ | refine X_iinc (pc := 42) (kk := 1) (lv1 := [(0, _), (1, _), (2, _), (3, _)]) C dX7_neighbours_42 rfl (by decide) (by decide) rfl ?_
        refine X_goto (pc := 45) C 14 dX7_neighbours_45 (by decide) ?_
        exact XW.eq rfl (by first | simp [cCount, h36]) rfl (ih (i + 1) (by omega))

set_option maxRecDepth 100000 in
set_option maxHeartbeats 4000000 in
theorem c_X7_neighbours (l : Launch) (P : XP) (τ : XS) (S F L : Nat → Int32) (h1 : xI1 P) (hM : MI S) (x : Int32) : XF l yX7_neighbours cX7_neighbours 4 (some .int) rm_X7_neighbours P [.ref (P.2.2.1 (.inr 9)), .int x] (mW τ S F L) (some (.int (if xok x (mU S) then nI (cCount (fun u => sU S 0 u) (sU S 0 (cN x)) (mU S)) - 1 else 0))) (mW τ S (upd F 7 (if xok x (mU S) then 0 else 1)) L) := by
  refine XM.of (by decide +kernel) (Nat.le_of_ble_eq_true rfl) (fun p e s m args below meth c A C => ?_)
  replace C : XC p s m args meth c P A 4 RX7 cX7_neighbours (some .int) := C
  refine XW.eq (lv' := [(0, _), (1, _)]) rfl rfl rfl ?_
  refine X_aload_n (pc := 0) C 0 dX7_neighbours_0 rfl rfl ?_
  refine X_iload_n (pc := 1) C 1 dX7_neighbours_1 rfl rfl ?_
  refine K_X7_303 (pc := 2) C (by assumption) (c_X7_isBad l P _ _ _ _ h1 (mU S) (by have := hM.u15; omega) hM.u x) ⟨Nat.le_of_ble_eq_true rfl, Nat.le_of_ble_eq_true rfl⟩ ⟨rfl, rfl⟩ ⟨Nat.zero_le _, Nat.zero_le _⟩ (Nat.le_of_ble_eq_true rfl) dX7_neighbours_2 ?_
  refine X_if_eq (pc := 5) C 10 dX7_neighbours_5 (by decide) (fun h5 => ?_) (fun h5 => ?_)
  · have g5 := bz00 h5
    have gx := xok_c g5 (by have := hM.u15; omega)
    have g15 := hM.u15
    refine X_iconst (pc := 10) (v := (-1)) C dX7_neighbours_10 (by decide) ?_
    refine X_istore_n (pc := 11) (lv1 := [(0, _), (1, _), (2, _)]) C 2 dX7_neighbours_11 rfl (by decide) rfl ?_
    refine X_iconst (pc := 12) (v := 0) C dX7_neighbours_12 (by decide) ?_
    refine X_istore_n (pc := 13) (lv1 := [(0, _), (1, _), (2, _), (3, _)]) C 3 dX7_neighbours_13 rfl (by decide) rfl ?_
    refine XW.eq (lv' := [(0, _), (1, .int (nI (cN x))), (2, .int (mNb 0)), (3, .int (nI 0))]) rfl (by rw [← gx.2]; rfl) rfl ?_
    refine L_X7_neighbours C h1 hM (y := cN x) (by omega) ?_ (mU S) 0 (by omega)
    refine X_iload_n (pc := 48) C 2 dX7_neighbours_48 rfl rfl ?_
    exact X_iret (pc := 49) C (Nat.zero_le _) (Nat.zero_le _) dX7_neighbours_49 ⟨by rw [if_pos g5, mNb_e], rfl⟩
  · have g5 := bz01 h5
    refine X_iconst (pc := 8) (v := 0) C dX7_neighbours_8 (by decide) ?_
    exact X_iret (pc := 9) C (Nat.zero_le _) (Nat.zero_le _) dX7_neighbours_9 ⟨by rw [if_neg g5], rfl⟩

set_option maxRecDepth 100000 in
set_option maxHeartbeats 4000000 in
theorem c_X7_nameByte (l : Launch) (P : XP) (τ : XS) (S F L : Nat → Int32) (h1 : xI1 P) (hM : MI S) (hN : MN S) (x i : Int32) : XF l yX7_nameByte cX7_nameByte 3 (some .int) rm_X7_nameByte P [.ref (P.2.2.1 (.inr 9)), .int x, .int i] (mW τ S F L) (some (.int (if xok x (mU S) then (if xok i (cN (sU S 5 (cN x))) then sU S (6 + cN i) (cN x) else -1) else 0))) (mW τ S (upd F 7 (if xok x (mU S) then 0 else 1)) L) := by
  refine XM.of (by decide +kernel) (Nat.le_of_ble_eq_true rfl) (fun p e s m args below meth c A C => ?_)
  replace C : XC p s m args meth c P A 3 RX7 cX7_nameByte (some .int) := C
  refine XW.eq (lv' := [(0, _), (1, _), (2, _)]) rfl rfl rfl ?_
  refine X_aload_n (pc := 0) C 0 dX7_nameByte_0 rfl rfl ?_
  refine X_iload_n (pc := 1) C 1 dX7_nameByte_1 rfl rfl ?_
  refine K_X7_303 (pc := 2) C (by assumption) (c_X7_isBad l P _ _ _ _ h1 (mU S) (by have := hM.u15; omega) hM.u x) ⟨Nat.le_of_ble_eq_true rfl, Nat.le_of_ble_eq_true rfl⟩ ⟨rfl, rfl⟩ ⟨Nat.zero_le _, Nat.zero_le _⟩ (Nat.le_of_ble_eq_true rfl) dX7_nameByte_2 ?_
  refine X_if_eq (pc := 5) C 10 dX7_nameByte_5 (by decide) (fun h5 => ?_) (fun h5 => ?_)
  · have g5 := bz00 h5
    have gx := xok_c g5 (by have := hM.u15; omega)
    have g15 := hM.u15
    refine X_iload_n (pc := 10) C 2 dX7_nameByte_10 rfl rfl ?_
    refine X_iconst (pc := 11) (v := 0) C dX7_nameByte_11 (by decide) ?_
    refine X_aload_n (pc := 12) C 0 dX7_nameByte_12 rfl rfl ?_
    refine X_iload_n (pc := 13) C 1 dX7_nameByte_13 rfl rfl ?_
    refine X_iconst (pc := 14) (v := 5) C dX7_nameByte_14 (by decide) ?_
    refine K_X7_92 (pc := 15) C (by assumption) (c_X7_ofUser l P _ _ _ _ h1 (cN x) 5 (by omega) (by decide) _ 5 gx.2 rfl) ⟨Nat.le_of_ble_eq_true rfl, Nat.le_of_ble_eq_true rfl⟩ ⟨rfl, rfl⟩ ⟨Nat.zero_le _, Nat.zero_le _⟩ (Nat.le_of_ble_eq_true rfl) dX7_nameByte_15 ?_
    have gn := xok_c (hN _ gx.1)
    rw [gn.2]
    refine X_iconst (pc := 18) (v := 1) C dX7_nameByte_18 (by decide) ?_
    refine X_isub (pc := 19) C dX7_nameByte_19 ?_
    refine K_X7_80 (pc := 20) C (c_X7_isIn l P _ _ _ _) ⟨Nat.le_of_ble_eq_true rfl, Nat.le_of_ble_eq_true rfl⟩ ⟨rfl, rfl⟩ ⟨Nat.zero_le _, Nat.zero_le _⟩ (Nat.le_of_ble_eq_true rfl) dX7_nameByte_20 ?_
    rw [mIn_ok (by omega)]
    refine X_if_eq (pc := 23) C 38 dX7_nameByte_23 (by decide) (fun h23 => ?_) (fun h23 => ?_)
    · have g23 := bz0 h23
      refine X_iconst (pc := 38) (v := (-1)) C dX7_nameByte_38 (by decide) ?_
      exact X_iret (pc := 39) C (Nat.zero_le _) (Nat.zero_le _) dX7_nameByte_39 ⟨by rw [if_pos g5, ← gn.2, if_neg g23], rfl⟩
    · have g23 := bz1 h23
      have gi := xok_c g23 (by omega)
      refine X_aload_n (pc := 26) C 0 dX7_nameByte_26 rfl rfl ?_
      refine X_iload_n (pc := 27) C 1 dX7_nameByte_27 rfl rfl ?_
      refine X_bipush (pc := 28) (v := 6) C dX7_nameByte_28 (by decide) ?_
      refine X_iload_n (pc := 30) C 2 dX7_nameByte_30 rfl rfl ?_
      refine X_iadd (pc := 31) C dX7_nameByte_31 ?_
      rw [tix gi.2]
      refine K_X7_92 (pc := 32) C (by assumption) (c_X7_ofUser l P _ _ _ _ h1 (cN x) (6 + cN i) (by omega) (by omega) _ _ gx.2 rfl) ⟨Nat.le_of_ble_eq_true rfl, Nat.le_of_ble_eq_true rfl⟩ ⟨rfl, rfl⟩ ⟨Nat.zero_le _, Nat.zero_le _⟩ (Nat.le_of_ble_eq_true rfl) dX7_nameByte_32 ?_
      refine X_goto (pc := 35) C 39 dX7_nameByte_35 (by decide) ?_
      exact X_iret (pc := 39) C (Nat.zero_le _) (Nat.zero_le _) dX7_nameByte_39 ⟨by rw [if_pos g5, ← gn.2, if_pos g23], rfl⟩
  · have g5 := bz01 h5
    refine X_iconst (pc := 8) (v := 0) C dX7_nameByte_8 (by decide) ?_
    exact X_iret (pc := 9) C (Nat.zero_le _) (Nat.zero_le _) dX7_nameByte_9 ⟨by rw [if_neg g5], rfl⟩

set_option maxRecDepth 100000 in
set_option maxHeartbeats 4000000 in
theorem L_X7_whoAnswers {Post : Option Value → XS → Prop} {mc ms : Nat} (C : XC p s m args meth c P A 4 RX7 cX7_whoAnswers (some .int)) {τ : XS} {S F L : Nat → Int32} (h1 : xI1 P) (hM : MI S) {x y : Int32} : ∀ (k i : Nat), i + k = mU S → Post (some (.int (cFirst (fun k => sU S 0 k == x && sU S 1 k == y) k i))) (mW τ S F L) → XW p l e rm_X7_whoAnswers s m args below meth c P A 4 0 0 (MQ below (XQ P A Post) args s mc ms A) (mW τ S F L) 18 [(0, .ref (P.2.2.1 (.inr 9))), (1, .int x), (2, .int y), (3, .int (nI (i)))] [] := by
  have hbd := hM.u15
  intro k
  induction k with
  | zero =>
    intro i hi hp
    have e9 : i = mU S := by omega
    subst e9
    refine X_iload_n (pc := 18) C 3 dX7_whoAnswers_18 rfl rfl ?_
    refine X_aload_n (pc := 19) C 0 dX7_whoAnswers_19 rfl rfl ?_
    refine G_X7_9 (pc := 20) C (by assumption) dX7_whoAnswers_20 ?_
    refine X_iconst (pc := 23) (v := 4) C dX7_whoAnswers_23 (by decide) ?_
    refine X_ialdN (j := 4) (pc := 24) C (by first | exact h1 _ (by decide) (by decide)) rfl (by omega) (by decide) dX7_whoAnswers_24 ?_
    rw [mW_10]
    rw [hM.u]
    refine X_icmp_ge (pc := 25) C 56 dX7_whoAnswers_25 (by decide) (fun h25 => ?_) (fun h25 => ?_)
    · skip
      refine X_iconst (pc := 56) (v := (-1)) C dX7_whoAnswers_56 (by decide) ?_
      exact X_iret (pc := 57) C (Nat.zero_le _) (Nat.zero_le _) dX7_whoAnswers_57 hp
    · exact absurd (nI_le (Nat.le_refl _) (n31 (by omega))) h25
  | succ k ih =>
    intro i hi hp
    have hlt : i < mU S := by omega
    refine X_iload_n (pc := 18) C 3 dX7_whoAnswers_18 rfl rfl ?_
    refine X_aload_n (pc := 19) C 0 dX7_whoAnswers_19 rfl rfl ?_
    refine G_X7_9 (pc := 20) C (by assumption) dX7_whoAnswers_20 ?_
    refine X_iconst (pc := 23) (v := 4) C dX7_whoAnswers_23 (by decide) ?_
    refine X_ialdN (j := 4) (pc := 24) C (by first | exact h1 _ (by decide) (by decide)) rfl (by omega) (by decide) dX7_whoAnswers_24 ?_
    rw [mW_10]
    rw [hM.u]
    refine X_icmp_ge (pc := 25) C 56 dX7_whoAnswers_25 (by decide) (fun h25 => ?_) (fun h25 => ?_)
    · exact absurd (nle h25) (by omega)
    · skip
      refine X_aload_n (pc := 28) C 0 dX7_whoAnswers_28 rfl rfl ?_
      refine X_iload_n (pc := 29) C 3 dX7_whoAnswers_29 rfl rfl ?_
      refine X_iconst (pc := 30) (v := 0) C dX7_whoAnswers_30 (by decide) ?_
      refine K_X7_92 (pc := 31) C (by assumption) (c_X7_ofUser l P _ _ _ _ h1 i 0 (by omega) (by decide) _ 0 rfl rfl) ⟨Nat.le_of_ble_eq_true rfl, Nat.le_of_ble_eq_true rfl⟩ ⟨rfl, rfl⟩ ⟨Nat.zero_le _, Nat.zero_le _⟩ (Nat.le_of_ble_eq_true rfl) dX7_whoAnswers_31 ?_
      refine X_iload_n (pc := 34) C 1 dX7_whoAnswers_34 rfl rfl ?_
      refine X_icmp_ne (pc := 35) C 50 dX7_whoAnswers_35 (by decide) (fun h35 => ?_) (fun h35 => ?_)
      · skip
        first | refine X_iincN (pc := 50) (lv1 := [(0, _), (1, _), (2, _), (3, _)]) C dX7_whoAnswers_50 rfl (by decide) (by decide) rfl ?_ | refine X_iinc (pc := 50) (kk := 1) (lv1 := [(0, _), (1, _), (2, _), (3, _)]) C dX7_whoAnswers_50 rfl (by decide) (by decide) rfl ?_
        refine X_goto (pc := 53) C 18 dX7_whoAnswers_53 (by decide) ?_
        exact ih (i + 1) (by omega) (by rw [cFirst, if_neg (by first | simp [h35, h45] | simp [h35])] at hp; exact hp)
      · skip
        refine X_aload_n (pc := 38) C 0 dX7_whoAnswers_38 rfl rfl ?_
        refine X_iload_n (pc := 39) C 3 dX7_whoAnswers_39 rfl rfl ?_
        refine X_iconst (pc := 40) (v := 1) C dX7_whoAnswers_40 (by decide) ?_
        refine K_X7_92 (pc := 41) C (by assumption) (c_X7_ofUser l P _ _ _ _ h1 i 1 (by omega) (by decide) _ 1 rfl rfl) ⟨Nat.le_of_ble_eq_true rfl, Nat.le_of_ble_eq_true rfl⟩ ⟨rfl, rfl⟩ ⟨Nat.zero_le _, Nat.zero_le _⟩ (Nat.le_of_ble_eq_true rfl) dX7_whoAnswers_41 ?_
        refine X_iload_n (pc := 44) C 2 dX7_whoAnswers_44 rfl rfl ?_
        refine X_icmp_ne (pc := 45) C 50 dX7_whoAnswers_45 (by decide) (fun h45 => ?_) (fun h45 => ?_)
        · skip
          first | refine X_iincN (pc := 50) (lv1 := [(0, _), (1, _), (2, _), (3, _)]) C dX7_whoAnswers_50 rfl (by decide) (by decide) rfl ?_ | refine X_iinc (pc := 50) (kk := 1) (lv1 := [(0, _), (1, _), (2, _), (3, _)]) C dX7_whoAnswers_50 rfl (by decide) (by decide) rfl ?_
          refine X_goto (pc := 53) C 18 dX7_whoAnswers_53 (by decide) ?_
          exact ih (i + 1) (by omega) (by rw [cFirst, if_neg (by first | simp [h35, h45] | simp [h35])] at hp; exact hp)
        · skip
          refine X_iload_n (pc := 48) C 3 dX7_whoAnswers_48 rfl rfl ?_
          exact X_iret (pc := 49) C (Nat.zero_le _) (Nat.zero_le _) dX7_whoAnswers_49 (by rw [cFirst, if_pos (by simp [h35, h45])] at hp; exact hp)

set_option maxRecDepth 100000 in
set_option maxHeartbeats 4000000 in
theorem c_X7_whoAnswers (l : Launch) (P : XP) (τ : XS) (S F L : Nat → Int32) (h1 : xI1 P) (hM : MI S) (x y : Int32) : XF l yX7_whoAnswers cX7_whoAnswers 4 (some .int) rm_X7_whoAnswers P [.ref (P.2.2.1 (.inr 9)), .int x, .int y] (mW τ S F L) (some (.int (if xok x (mL S) then cFirst (fun k => sU S 0 k == x && sU S 1 k == y) (mU S) 0 else 0))) (mW τ S (upd F 7 (if xok x (mL S) then 0 else 1)) L) := by
  refine XM.of (by decide +kernel) (Nat.le_of_ble_eq_true rfl) (fun p e s m args below meth c A C => ?_)
  replace C : XC p s m args meth c P A 4 RX7 cX7_whoAnswers (some .int) := C
  refine XW.eq (lv' := [(0, _), (1, _), (2, _)]) rfl rfl rfl ?_
  refine X_aload_n (pc := 0) C 0 dX7_whoAnswers_0 rfl rfl ?_
  refine X_aload_n (pc := 1) C 0 dX7_whoAnswers_1 rfl rfl ?_
  refine X_iload_n (pc := 2) C 1 dX7_whoAnswers_2 rfl rfl ?_
  refine K_X7_300 (pc := 3) C (by assumption) (c_X7_noLine l P _ _ _ _ h1 (mL S) (by have := hM.l6; omega) hM.l x) ⟨Nat.le_of_ble_eq_true rfl, Nat.le_of_ble_eq_true rfl⟩ ⟨rfl, rfl⟩ ⟨Nat.zero_le _, Nat.zero_le _⟩ (Nat.le_of_ble_eq_true rfl) dX7_whoAnswers_3 ?_
  refine X_iconst (pc := 6) (v := 0) C dX7_whoAnswers_6 (by decide) ?_
  refine X_iconst (pc := 7) (v := 0) C dX7_whoAnswers_7 (by decide) ?_
  refine K_X7_154 (pc := 8) C (by assumption) (c_X7_fails l P _ _ _ _ h1 _ 0 0) ⟨Nat.le_of_ble_eq_true rfl, Nat.le_of_ble_eq_true rfl⟩ ⟨rfl, rfl⟩ ⟨Nat.zero_le _, Nat.zero_le _⟩ (Nat.le_of_ble_eq_true rfl) dX7_whoAnswers_8 ?_
  rw [mFl_1, if01_0]
  refine X_if_eq (pc := 11) C 16 dX7_whoAnswers_11 (by decide) (fun h11 => ?_) (fun h11 => ?_)
  · have g11 := bz00 h11
    refine X_iconst (pc := 16) (v := 0) C dX7_whoAnswers_16 (by decide) ?_
    refine X_istore_n (pc := 17) (lv1 := [(0, _), (1, _), (2, _), (3, _)]) C 3 dX7_whoAnswers_17 rfl (by decide) rfl ?_
    exact L_X7_whoAnswers C h1 hM (mU S) 0 (by omega) ⟨by rw [if_pos g11], rfl⟩
  · have g11 := bz01 h11
    refine X_iconst (pc := 14) (v := 0) C dX7_whoAnswers_14 (by decide) ?_
    exact X_iret (pc := 15) C (Nat.zero_le _) (Nat.zero_le _) dX7_whoAnswers_15 ⟨by rw [if_neg g11], rfl⟩

set_option maxRecDepth 100000 in
set_option maxHeartbeats 4000000 in
theorem L_X7_knowers (C : XC p s m args meth c P A 4 RX7 cX7_knowers (some .int)) {τ : XS} {S F L : Nat → Int32} (h1 : xI1 P) (hM : MI S) {x : Int32} (kx : XW p l e rm_X7_knowers s m args below meth c P A 4 0 0 Q (mW τ S F L) 43 [(0, .ref (P.2.2.1 (.inr 9))), (1, .int x), (2, .int (cSum (fun u => sU S 4 u >>> (x &&& 31) &&& 1) (mU S))), (3, .int (nI (mU S)))] []) : ∀ (k i : Nat), i + k = mU S → XW p l e rm_X7_knowers s m args below meth c P A 4 0 0 Q (mW τ S F L) 14 [(0, .ref (P.2.2.1 (.inr 9))), (1, .int x), (2, .int (cSum (fun u => sU S 4 u >>> (x &&& 31) &&& 1) (i))), (3, .int (nI (i)))] [] := by
  have hbd := hM.u15
  intro k
  induction k with
  | zero =>
    intro i hi
    have e9 : i = mU S := by omega
    subst e9
    refine X_iload_n (pc := 14) C 3 dX7_knowers_14 rfl rfl ?_
    refine X_aload_n (pc := 15) C 0 dX7_knowers_15 rfl rfl ?_
    refine G_X7_9 (pc := 16) C (by assumption) dX7_knowers_16 ?_
    refine X_iconst (pc := 19) (v := 4) C dX7_knowers_19 (by decide) ?_
    refine X_ialdN (j := 4) (pc := 20) C (by first | exact h1 _ (by decide) (by decide)) rfl (by omega) (by decide) dX7_knowers_20 ?_
    rw [mW_10]
    rw [hM.u]
    refine X_icmp_ge (pc := 21) C 43 dX7_knowers_21 (by decide) (fun h21 => ?_) (fun h21 => ?_)
    · skip
      exact kx
    · exact absurd (nI_le (Nat.le_refl _) (n31 (by omega))) h21
  | succ k ih =>
    intro i hi
    have hlt : i < mU S := by omega
    refine X_iload_n (pc := 14) C 3 dX7_knowers_14 rfl rfl ?_
    refine X_aload_n (pc := 15) C 0 dX7_knowers_15 rfl rfl ?_
    refine G_X7_9 (pc := 16) C (by assumption) dX7_knowers_16 ?_
    refine X_iconst (pc := 19) (v := 4) C dX7_knowers_19 (by decide) ?_
    refine X_ialdN (j := 4) (pc := 20) C (by first | exact h1 _ (by decide) (by decide)) rfl (by omega) (by decide) dX7_knowers_20 ?_
    rw [mW_10]
    rw [hM.u]
    refine X_icmp_ge (pc := 21) C 43 dX7_knowers_21 (by decide) (fun h21 => ?_) (fun h21 => ?_)
    · exact absurd (nle h21) (by omega)
    · skip
      refine X_iload_n (pc := 24) C 2 dX7_knowers_24 rfl rfl ?_
      refine X_aload_n (pc := 25) C 0 dX7_knowers_25 rfl rfl ?_
      refine X_iload_n (pc := 26) C 3 dX7_knowers_26 rfl rfl ?_
      refine X_iconst (pc := 27) (v := 4) C dX7_knowers_27 (by decide) ?_
      refine K_X7_92 (pc := 28) C (by assumption) (c_X7_ofUser l P _ _ _ _ h1 i 4 (by omega) (by decide) _ 4 rfl rfl) ⟨Nat.le_of_ble_eq_true rfl, Nat.le_of_ble_eq_true rfl⟩ ⟨rfl, rfl⟩ ⟨Nat.zero_le _, Nat.zero_le _⟩ (Nat.le_of_ble_eq_true rfl) dX7_knowers_28 ?_
      refine X_iload_n (pc := 31) C 1 dX7_knowers_31 rfl rfl ?_
      refine X_ishr (pc := 32) C dX7_knowers_32 ?_
      refine X_iconst (pc := 33) (v := 1) C dX7_knowers_33 (by decide) ?_
      refine X_iand (pc := 34) C dX7_knowers_34 ?_
      refine X_iadd (pc := 35) C dX7_knowers_35 ?_
      refine X_istore_n (pc := 36) (lv1 := [(0, _), (1, _), (2, _), (3, _)]) C 2 dX7_knowers_36 rfl (by decide) rfl ?_
      first | refine X_iincN (pc := 37) (lv1 := [(0, _), (1, _), (2, _), (3, _)]) C dX7_knowers_37 rfl (by decide) (by decide) rfl ?_ | refine X_iinc (pc := 37) (kk := 1) (lv1 := [(0, _), (1, _), (2, _), (3, _)]) C dX7_knowers_37 rfl (by decide) (by decide) rfl ?_
      refine X_goto (pc := 40) C 14 dX7_knowers_40 (by decide) ?_
      exact XW.less (lv' := [(0, _), (1, _), (2, _), (3, _)]) [0, 1, 2, 3] rfl (ih (i + 1) (by omega))

set_option maxRecDepth 100000 in
set_option maxHeartbeats 4000000 in
theorem c_X7_knowers (l : Launch) (P : XP) (τ : XS) (S F L : Nat → Int32) (h1 : xI1 P) (hM : MI S) (x : Int32) : XF l yX7_knowers cX7_knowers 4 (some .int) rm_X7_knowers P [.ref (P.2.2.1 (.inr 9)), .int x] (mW τ S F L) (some (.int (if xok x (mU S) then cSum (fun u => sU S 4 u >>> (x &&& 31) &&& 1) (mU S) else 0))) (mW τ S (upd F 7 (if xok x (mU S) then 0 else 1)) L) := by
  refine XM.of (by decide +kernel) (Nat.le_of_ble_eq_true rfl) (fun p e s m args below meth c A C => ?_)
  replace C : XC p s m args meth c P A 4 RX7 cX7_knowers (some .int) := C
  refine XW.eq (lv' := [(0, _), (1, _)]) rfl rfl rfl ?_
  refine X_aload_n (pc := 0) C 0 dX7_knowers_0 rfl rfl ?_
  refine X_iload_n (pc := 1) C 1 dX7_knowers_1 rfl rfl ?_
  refine K_X7_303 (pc := 2) C (by assumption) (c_X7_isBad l P _ _ _ _ h1 (mU S) (by have := hM.u15; omega) hM.u x) ⟨Nat.le_of_ble_eq_true rfl, Nat.le_of_ble_eq_true rfl⟩ ⟨rfl, rfl⟩ ⟨Nat.zero_le _, Nat.zero_le _⟩ (Nat.le_of_ble_eq_true rfl) dX7_knowers_2 ?_
  refine X_if_eq (pc := 5) C 10 dX7_knowers_5 (by decide) (fun h5 => ?_) (fun h5 => ?_)
  · have g5 := bz00 h5
    have gx := xok_c g5 (by have := hM.u15; omega)
    have g15 := hM.u15
    refine X_iconst (pc := 10) (v := 0) C dX7_knowers_10 (by decide) ?_
    refine X_istore_n (pc := 11) (lv1 := [(0, _), (1, _), (2, _)]) C 2 dX7_knowers_11 rfl (by decide) rfl ?_
    refine X_iconst (pc := 12) (v := 0) C dX7_knowers_12 (by decide) ?_
    refine X_istore_n (pc := 13) (lv1 := [(0, _), (1, _), (2, _), (3, _)]) C 3 dX7_knowers_13 rfl (by decide) rfl ?_
    refine L_X7_knowers C h1 hM ?_ (mU S) 0 (by omega)
    refine X_iload_n (pc := 43) C 2 dX7_knowers_43 rfl rfl ?_
    exact X_iret (pc := 44) C (Nat.zero_le _) (Nat.zero_le _) dX7_knowers_44 ⟨by rw [if_pos g5], rfl⟩
  · have g5 := bz01 h5
    refine X_iconst (pc := 8) (v := 0) C dX7_knowers_8 (by decide) ?_
    exact X_iret (pc := 9) C (Nat.zero_le _) (Nat.zero_le _) dX7_knowers_9 ⟨by rw [if_neg g5], rfl⟩

set_option maxRecDepth 100000 in
set_option maxHeartbeats 4000000 in
theorem c_X7_known (l : Launch) (P : XP) (τ : XS) (S F L : Nat → Int32) (h1 : xI1 P) (j : Nat) (hj : j < 15) : XF l yX7_known cX7_known 2 (some .int) rm_X7_known P [.ref (P.2.2.1 (.inr 9)), .int (nI j)] (mW τ S F L) (some (.int (xbc (sU S 4 j)))) (mW τ S F L) := by
  refine XM.of (by decide +kernel) (Nat.le_of_ble_eq_true rfl) (fun p e s m args below meth c A C => ?_)
  replace C : XC p s m args meth c P A 2 RX7 cX7_known (some .int) := C
  refine XW.eq (lv' := [(0, _), (1, _)]) rfl rfl rfl ?_
  refine X_aload_n (pc := 0) C 0 dX7_known_0 rfl rfl ?_
  refine X_iload_n (pc := 1) C 1 dX7_known_1 rfl rfl ?_
  refine X_iconst (pc := 2) (v := 4) C dX7_known_2 (by decide) ?_
  refine K_X7_92 (pc := 3) C (by assumption) (c_X7_ofUser l P _ _ _ _ h1 j 4 hj (by decide) _ 4 rfl rfl) ⟨Nat.le_of_ble_eq_true rfl, Nat.le_of_ble_eq_true rfl⟩ ⟨rfl, rfl⟩ ⟨Nat.zero_le _, Nat.zero_le _⟩ (Nat.le_of_ble_eq_true rfl) dX7_known_3 ?_
  refine K_X7_118 (pc := 6) C (c_J6_bitCount l P _ _) ⟨Nat.le_of_ble_eq_true rfl, Nat.le_of_ble_eq_true rfl⟩ ⟨rfl, rfl⟩ ⟨Nat.zero_le _, Nat.zero_le _⟩ (Nat.le_of_ble_eq_true rfl) dX7_known_6 ?_
  exact X_iret (pc := 9) C (Nat.zero_le _) (Nat.zero_le _) dX7_known_9 ⟨rfl, rfl⟩

set_option maxRecDepth 100000 in
set_option maxHeartbeats 4000000 in
theorem L_X7_bestInformed (C : XC p s m args meth c P A 3 RX7 cX7_bestInformed (some .int)) {τ : XS} {S F L : Nat → Int32} (h1 : xI1 P) (hM : MI S) (kx : XW p l e rm_X7_bestInformed s m args below meth c P A 3 0 0 Q (mW τ S F L) 40 [(0, .ref (P.2.2.1 (.inr 9))), (1, .int (nI (mBest (fun u => xbc (sU S 4 u)) (mU S)))), (2, .int (nI (mU S)))] []) : ∀ (k i : Nat), 0 < i → i + k = mU S → XW p l e rm_X7_bestInformed s m args below meth c P A 3 0 0 Q (mW τ S F L) 9 [(0, .ref (P.2.2.1 (.inr 9))), (1, .int (nI (mBest (fun u => xbc (sU S 4 u)) (i)))), (2, .int (nI (i)))] [] := by
  have hbd := hM.u15
  intro k
  induction k with
  | zero =>
    intro i h0 hi
    have e9 : i = mU S := by omega
    subst e9
    refine X_iload_n (pc := 9) C 2 dX7_bestInformed_9 rfl rfl ?_
    refine X_aload_n (pc := 10) C 0 dX7_bestInformed_10 rfl rfl ?_
    refine G_X7_9 (pc := 11) C (by assumption) dX7_bestInformed_11 ?_
    refine X_iconst (pc := 14) (v := 4) C dX7_bestInformed_14 (by decide) ?_
    refine X_ialdN (j := 4) (pc := 15) C (by first | exact h1 _ (by decide) (by decide)) rfl (by omega) (by decide) dX7_bestInformed_15 ?_
    rw [mW_10]
    rw [hM.u]
    refine X_icmp_ge (pc := 16) C 40 dX7_bestInformed_16 (by decide) (fun h16 => ?_) (fun h16 => ?_)
    · skip
      exact kx
    · exact absurd (nI_le (Nat.le_refl _) (n31 (by omega))) h16
  | succ k ih =>
    intro i h0 hi
    have hlt : i < mU S := by omega
    have hb := mBest_le (fun u => xbc (sU S 4 u)) i h0
    refine X_iload_n (pc := 9) C 2 dX7_bestInformed_9 rfl rfl ?_
    refine X_aload_n (pc := 10) C 0 dX7_bestInformed_10 rfl rfl ?_
    refine G_X7_9 (pc := 11) C (by assumption) dX7_bestInformed_11 ?_
    refine X_iconst (pc := 14) (v := 4) C dX7_bestInformed_14 (by decide) ?_
    refine X_ialdN (j := 4) (pc := 15) C (by first | exact h1 _ (by decide) (by decide)) rfl (by omega) (by decide) dX7_bestInformed_15 ?_
    rw [mW_10]
    rw [hM.u]
    refine X_icmp_ge (pc := 16) C 40 dX7_bestInformed_16 (by decide) (fun h16 => ?_) (fun h16 => ?_)
    · exact absurd (nle h16) (by omega)
    · skip
      refine X_aload_n (pc := 19) C 0 dX7_bestInformed_19 rfl rfl ?_
      refine X_iload_n (pc := 20) C 2 dX7_bestInformed_20 rfl rfl ?_
      refine K_X7_309 (pc := 21) C (by assumption) (c_X7_known l P _ _ _ _ h1 i (by omega)) ⟨Nat.le_of_ble_eq_true rfl, Nat.le_of_ble_eq_true rfl⟩ ⟨rfl, rfl⟩ ⟨Nat.zero_le _, Nat.zero_le _⟩ (Nat.le_of_ble_eq_true rfl) dX7_bestInformed_21 ?_
      refine X_aload_n (pc := 24) C 0 dX7_bestInformed_24 rfl rfl ?_
      refine X_iload_n (pc := 25) C 1 dX7_bestInformed_25 rfl rfl ?_
      refine K_X7_309 (pc := 26) C (by assumption) (c_X7_known l P _ _ _ _ h1 _ (by omega)) ⟨Nat.le_of_ble_eq_true rfl, Nat.le_of_ble_eq_true rfl⟩ ⟨rfl, rfl⟩ ⟨Nat.zero_le _, Nat.zero_le _⟩ (Nat.le_of_ble_eq_true rfl) dX7_bestInformed_26 ?_
      refine X_icmp_le (pc := 29) C 34 dX7_bestInformed_29 (by decide) (fun h29 => ?_) (fun h29 => ?_)
      · skip
        first | refine X_iincN (pc := 34) (lv1 := [(0, _), (1, _), (2, _)]) C dX7_bestInformed_34 rfl (by decide) (by decide) rfl ?_ | refine X_iinc (pc := 34) (kk := 1) (lv1 := [(0, _), (1, _), (2, _)]) C dX7_bestInformed_34 rfl (by decide) (by decide) rfl ?_
        refine X_goto (pc := 37) C 9 dX7_bestInformed_37 (by decide) ?_
        exact XW.less (lv' := [(0, _), (1, _), (2, _)]) [0, 1, 2] rfl (XW.eq rfl (by first | rw [mBest_n h29] | rw [mBest_y h29]) rfl (ih (i + 1) (by omega) (by omega)))
      · skip
        refine X_iload_n (pc := 32) C 2 dX7_bestInformed_32 rfl rfl ?_
        refine X_istore_n (pc := 33) (lv1 := [(0, _), (1, _), (2, _)]) C 1 dX7_bestInformed_33 rfl (by decide) rfl ?_
        first | refine X_iincN (pc := 34) (lv1 := [(0, _), (1, _), (2, _)]) C dX7_bestInformed_34 rfl (by decide) (by decide) rfl ?_ | refine X_iinc (pc := 34) (kk := 1) (lv1 := [(0, _), (1, _), (2, _)]) C dX7_bestInformed_34 rfl (by decide) (by decide) rfl ?_
        refine X_goto (pc := 37) C 9 dX7_bestInformed_37 (by decide) ?_
        exact XW.less (lv' := [(0, _), (1, _), (2, _)]) [0, 1, 2] rfl (XW.eq rfl (by first | rw [mBest_n h29] | rw [mBest_y h29]) rfl (ih (i + 1) (by omega) (by omega)))

set_option maxRecDepth 100000 in
set_option maxHeartbeats 4000000 in
theorem c_X7_bestInformed (l : Launch) (P : XP) (τ : XS) (S F L : Nat → Int32) (h1 : xI1 P) (hM : MI S) (h0 : 0 < mU S) : XF l yX7_bestInformed cX7_bestInformed 3 (some .int) rm_X7_bestInformed P [.ref (P.2.2.1 (.inr 9))] (mW τ S F L) (some (.int (nI (mBest (fun u => xbc (sU S 4 u)) (mU S))))) (mW τ S (upd F 7 0) L) := by
  refine XM.of (by decide +kernel) (Nat.le_of_ble_eq_true rfl) (fun p e s m args below meth c A C => ?_)
  replace C : XC p s m args meth c P A 3 RX7 cX7_bestInformed (some .int) := C
  refine XW.eq (lv' := [(0, _)]) rfl rfl rfl ?_
  refine X_aload_n (pc := 0) C 0 dX7_bestInformed_0 rfl rfl ?_
  refine X_iconst (pc := 1) (v := 0) C dX7_bestInformed_1 (by decide) ?_
  refine U_X7_67 (pc := 2) C (by assumption) dX7_bestInformed_2 ?_
  rw [mW_u9]
  refine X_iconst (pc := 5) (v := 0) C dX7_bestInformed_5 (by decide) ?_
  refine X_istore_n (pc := 6) (lv1 := [(0, _), (1, _)]) C 1 dX7_bestInformed_6 rfl (by decide) rfl ?_
  refine X_iconst (pc := 7) (v := 1) C dX7_bestInformed_7 (by decide) ?_
  refine X_istore_n (pc := 8) (lv1 := [(0, _), (1, _), (2, _)]) C 2 dX7_bestInformed_8 rfl (by decide) rfl ?_
  refine XW.eq (lv' := [(0, _), (1, .int (nI (mBest (fun u => xbc (sU S 4 u)) 1))), (2, .int (nI 1))]) rfl (by rw [mBest_1]; rfl) rfl ?_
  refine L_X7_bestInformed C h1 hM ?_ (mU S - 1) 1 (by omega) (by omega)
  refine X_iload_n (pc := 40) C 1 dX7_bestInformed_40 rfl rfl ?_
  exact X_iret (pc := 41) C (Nat.zero_le _) (Nat.zero_le _) dX7_bestInformed_41 ⟨rfl, rfl⟩

set_option maxRecDepth 100000 in
set_option maxHeartbeats 4000000 in
theorem c_X7_charge (l : Launch) (P : XP) (τ : XS) (S F L : Nat → Int32) (h1 : xI1 P) (hM : MI S) (x : Int32) : XF l yX7_charge cX7_charge 2 (some .int) rm_X7_charge P [.ref (P.2.2.1 (.inr 9)), .int x] (mW τ S F L) (some (.int (if xok x (mK S) then mCost S (cN x) else 0))) (mW τ S (upd F 7 (if xok x (mK S) then 0 else 1)) L) := by
  refine XM.of (by decide +kernel) (Nat.le_of_ble_eq_true rfl) (fun p e s m args below meth c A C => ?_)
  replace C : XC p s m args meth c P A 2 RX7 cX7_charge (some .int) := C
  refine XW.eq (lv' := [(0, _), (1, _)]) rfl rfl rfl ?_
  refine X_aload_n (pc := 0) C 0 dX7_charge_0 rfl rfl ?_
  refine X_iload_n (pc := 1) C 1 dX7_charge_1 rfl rfl ?_
  refine K_X7_312 (pc := 2) C (by assumption) (c_X7_isBadCall l P _ _ _ _ h1 (mK S) (by have := hM.k40; omega) hM.k x) ⟨Nat.le_of_ble_eq_true rfl, Nat.le_of_ble_eq_true rfl⟩ ⟨rfl, rfl⟩ ⟨Nat.zero_le _, Nat.zero_le _⟩ (Nat.le_of_ble_eq_true rfl) dX7_charge_2 ?_
  refine X_if_eq (pc := 5) C 12 dX7_charge_5 (by decide) (fun h5 => ?_) (fun h5 => ?_)
  · have g5 := bz00 h5
    have gx := xok_c g5 (by have := hM.k40; omega)
    have g40 := hM.k40
    refine X_aload_n (pc := 12) C 0 dX7_charge_12 rfl rfl ?_
    refine X_iload_n (pc := 13) C 1 dX7_charge_13 rfl rfl ?_
    refine K_X7_142 (pc := 14) C (by assumption) (c_X7_cost l P _ _ _ _ h1 hM _ gx.1 _ gx.2) ⟨Nat.le_of_ble_eq_true rfl, Nat.le_of_ble_eq_true rfl⟩ ⟨rfl, rfl⟩ ⟨Nat.zero_le _, Nat.zero_le _⟩ (Nat.le_of_ble_eq_true rfl) dX7_charge_14 ?_
    exact X_iret (pc := 17) C (Nat.zero_le _) (Nat.zero_le _) dX7_charge_17 ⟨by rw [if_pos g5], rfl⟩
  · have g5 := bz01 h5
    refine X_iconst (pc := 8) (v := 0) C dX7_charge_8 (by decide) ?_
    refine X_goto (pc := 9) C 17 dX7_charge_9 (by decide) ?_
    exact X_iret (pc := 17) C (Nat.zero_le _) (Nat.zero_le _) dX7_charge_17 ⟨by rw [if_neg g5], rfl⟩

set_option maxRecDepth 100000 in
set_option maxHeartbeats 4000000 in
theorem c_X7_obstacle (l : Launch) (P : XP) (τ : XS) (S F L : Nat → Int32) (h1 : xI1 P) (hM : MI S) (x : Int32) : XF l yX7_obstacle cX7_obstacle 2 (some .int) rm_X7_obstacle P [.ref (P.2.2.1 (.inr 9)), .int x] (mW τ S F L) (some (.int (if xok x (mK S) ∧ sC S 4 (cN x) = 0 then mWhy S (cN x) else 0))) (mW τ S (upd F 7 (if xok x (mK S) then 0 else 1)) L) := by
  refine XM.of (by decide +kernel) (Nat.le_of_ble_eq_true rfl) (fun p e s m args below meth c A C => ?_)
  replace C : XC p s m args meth c P A 2 RX7 cX7_obstacle (some .int) := C
  refine XW.eq (lv' := [(0, _), (1, _)]) rfl rfl rfl ?_
  refine X_aload_n (pc := 0) C 0 dX7_obstacle_0 rfl rfl ?_
  refine X_iload_n (pc := 1) C 1 dX7_obstacle_1 rfl rfl ?_
  refine K_X7_312 (pc := 2) C (by assumption) (c_X7_isBadCall l P _ _ _ _ h1 (mK S) (by have := hM.k40; omega) hM.k x) ⟨Nat.le_of_ble_eq_true rfl, Nat.le_of_ble_eq_true rfl⟩ ⟨rfl, rfl⟩ ⟨Nat.zero_le _, Nat.zero_le _⟩ (Nat.le_of_ble_eq_true rfl) dX7_obstacle_2 ?_
  refine X_if_ne (pc := 5) C 16 dX7_obstacle_5 (by decide) (fun h5 => ?_) (fun h5 => ?_)
  · have g5 := bz01 h5
    refine X_iconst (pc := 16) (v := 0) C dX7_obstacle_16 (by decide) ?_
    refine X_goto (pc := 17) C 25 dX7_obstacle_17 (by decide) ?_
    exact X_iret (pc := 25) C (Nat.zero_le _) (Nat.zero_le _) dX7_obstacle_25 ⟨by rw [if_neg (fun q => g5 q.1)], rfl⟩
  · have g5 := bz00 h5
    have gx := xok_c g5 (by have := hM.k40; omega)
    have g40 := hM.k40
    refine X_aload_n (pc := 8) C 0 dX7_obstacle_8 rfl rfl ?_
    refine X_iload_n (pc := 9) C 1 dX7_obstacle_9 rfl rfl ?_
    refine K_X7_318 (pc := 10) C (by assumption) (c_X7_isWaiting l P _ _ _ _ h1 _ (by omega) _ gx.2) ⟨Nat.le_of_ble_eq_true rfl, Nat.le_of_ble_eq_true rfl⟩ ⟨rfl, rfl⟩ ⟨Nat.zero_le _, Nat.zero_le _⟩ (Nat.le_of_ble_eq_true rfl) dX7_obstacle_10 ?_
    refine X_if_ne (pc := 13) C 20 dX7_obstacle_13 (by decide) (fun h13 => ?_) (fun h13 => ?_)
    · have g13 := bz1 h13
      refine X_aload_n (pc := 20) C 0 dX7_obstacle_20 rfl rfl ?_
      refine X_iload_n (pc := 21) C 1 dX7_obstacle_21 rfl rfl ?_
      refine K_X7_130 (pc := 22) C (by assumption) (c_X7_why l P _ _ _ _ h1 hM _ gx.1 _ gx.2) ⟨Nat.le_of_ble_eq_true rfl, Nat.le_of_ble_eq_true rfl⟩ ⟨rfl, rfl⟩ ⟨Nat.zero_le _, Nat.zero_le _⟩ (Nat.le_of_ble_eq_true rfl) dX7_obstacle_22 ?_
      exact X_iret (pc := 25) C (Nat.zero_le _) (Nat.zero_le _) dX7_obstacle_25 ⟨by rw [if_pos ⟨g5, g13⟩], rfl⟩
    · have g13 := bz0 h13
      refine X_iconst (pc := 16) (v := 0) C dX7_obstacle_16 (by decide) ?_
      refine X_goto (pc := 17) C 25 dX7_obstacle_17 (by decide) ?_
      exact X_iret (pc := 25) C (Nat.zero_le _) (Nat.zero_le _) dX7_obstacle_25 ⟨by rw [if_neg (fun q => g13 q.2)], rfl⟩

/-- call c waits ahead of one of urgency u, of number x -/
def mAh (S : Nat → Int32) (u x : Int32) (c : Nat) : Prop := sC S 4 c = 0 ∧ (u < sC S 3 c ∨ (sC S 3 c = u ∧ nI c < x))
set_option maxRecDepth 100000 in
set_option maxHeartbeats 4000000 in
theorem L_X7_queuePlace (C : XC p s m args meth c P A 5 RX7 cX7_queuePlace (some .int)) {τ : XS} {S F L : Nat → Int32} (h1 : xI1 P) (hM : MI S) {u x : Int32} (kx : XW p l e rm_X7_queuePlace s m args below meth c P A 5 0 0 Q (mW τ S F L) 89 [(0, .ref (P.2.2.1 (.inr 9))), (1, .int x), (2, .int (nI (cCnt (mAh S u x) (mK S)))), (3, .int u), (4, .int (nI (mK S)))] []) : ∀ (k i : Nat), i + k = mK S → XW p l e rm_X7_queuePlace s m args below meth c P A 5 0 0 Q (mW τ S F L) 32 [(0, .ref (P.2.2.1 (.inr 9))), (1, .int x), (2, .int (nI (cCnt (mAh S u x) (i)))), (3, .int u), (4, .int (nI (i)))] [] := by
  have hbd := hM.k40
  intro k
  induction k with
  | zero =>
    intro i hi
    have e9 : i = mK S := by omega
    subst e9
    refine X_iload (pc := 32) C dX7_queuePlace_32 rfl ?_
    refine X_aload_n (pc := 34) C 0 dX7_queuePlace_34 rfl rfl ?_
    refine G_X7_9 (pc := 35) C (by assumption) dX7_queuePlace_35 ?_
    refine X_iconst (pc := 38) (v := 5) C dX7_queuePlace_38 (by decide) ?_
    refine X_ialdN (j := 5) (pc := 39) C (by first | exact h1 _ (by decide) (by decide)) rfl (by omega) (by decide) dX7_queuePlace_39 ?_
    rw [mW_10]
    rw [hM.k]
    refine X_icmp_ge (pc := 40) C 89 dX7_queuePlace_40 (by decide) (fun h40 => ?_) (fun h40 => ?_)
    · skip
      exact kx
    · exact absurd (nI_le (Nat.le_refl _) (n31 (by omega))) h40
  | succ k ih =>
    intro i hi
    have hlt : i < mK S := by omega
    refine X_iload (pc := 32) C dX7_queuePlace_32 rfl ?_
    refine X_aload_n (pc := 34) C 0 dX7_queuePlace_34 rfl rfl ?_
    refine G_X7_9 (pc := 35) C (by assumption) dX7_queuePlace_35 ?_
    refine X_iconst (pc := 38) (v := 5) C dX7_queuePlace_38 (by decide) ?_
    refine X_ialdN (j := 5) (pc := 39) C (by first | exact h1 _ (by decide) (by decide)) rfl (by omega) (by decide) dX7_queuePlace_39 ?_
    rw [mW_10]
    rw [hM.k]
    refine X_icmp_ge (pc := 40) C 89 dX7_queuePlace_40 (by decide) (fun h40 => ?_) (fun h40 => ?_)
    · exact absurd (nle h40) (by omega)
    · skip
      refine X_aload_n (pc := 43) C 0 dX7_queuePlace_43 rfl rfl ?_
      refine X_iload (pc := 44) C dX7_queuePlace_44 rfl ?_
      refine K_X7_318 (pc := 46) C (by assumption) (c_X7_isWaiting l P _ _ _ _ h1 i (by omega) _ rfl) ⟨Nat.le_of_ble_eq_true rfl, Nat.le_of_ble_eq_true rfl⟩ ⟨rfl, rfl⟩ ⟨Nat.zero_le _, Nat.zero_le _⟩ (Nat.le_of_ble_eq_true rfl) dX7_queuePlace_46 ?_
      refine X_if_eq (pc := 49) C 83 dX7_queuePlace_49 (by decide) (fun h49 => ?_) (fun h49 => ?_)
      · have g9 : ¬ (mAh S u x i) := fun q => bz0 h49 q.1
        first | refine X_iincN (pc := 83) (lv1 := [(0, _), (1, _), (2, _), (3, _), (4, _)]) C dX7_queuePlace_83 rfl (by decide) (by decide) rfl ?_ | refine X_iinc (pc := 83) (kk := 1) (lv1 := [(0, _), (1, _), (2, _), (3, _), (4, _)]) C dX7_queuePlace_83 rfl (by decide) (by decide) rfl ?_
        refine X_goto (pc := 86) C 32 dX7_queuePlace_86 (by decide) ?_
        exact XW.less (lv' := [(0, _), (1, _), (2, _), (3, _), (4, _)]) [0, 1, 2, 3, 4] rfl (XW.eq rfl (by first | rw [cCnt_n g9] | rw [cCnt_y g9]) rfl (ih (i + 1) (by omega)))
      · skip
        refine X_aload_n (pc := 52) C 0 dX7_queuePlace_52 rfl rfl ?_
        refine X_iload (pc := 53) C dX7_queuePlace_53 rfl ?_
        refine X_iconst (pc := 55) (v := 3) C dX7_queuePlace_55 (by decide) ?_
        refine K_X7_88 (pc := 56) C (by assumption) (c_X7_ofCall l P _ _ _ _ h1 i 3 (by omega) (by decide) _ 3 rfl rfl) ⟨Nat.le_of_ble_eq_true rfl, Nat.le_of_ble_eq_true rfl⟩ ⟨rfl, rfl⟩ ⟨Nat.zero_le _, Nat.zero_le _⟩ (Nat.le_of_ble_eq_true rfl) dX7_queuePlace_56 ?_
        refine X_iload_n (pc := 59) C 3 dX7_queuePlace_59 rfl rfl ?_
        refine X_icmp_gt (pc := 60) C 80 dX7_queuePlace_60 (by decide) (fun h60 => ?_) (fun h60 => ?_)
        · have g9 : mAh S u x i := ⟨bz1 h49, Or.inl h60⟩
          first | refine X_iincN (pc := 80) (lv1 := [(0, _), (1, _), (2, _), (3, _), (4, _)]) C dX7_queuePlace_80 rfl (by decide) (by decide) rfl ?_ | refine X_iinc (pc := 80) (kk := 1) (lv1 := [(0, _), (1, _), (2, _), (3, _), (4, _)]) C dX7_queuePlace_80 rfl (by decide) (by decide) rfl ?_
          first | refine X_iincN (pc := 83) (lv1 := [(0, _), (1, _), (2, _), (3, _), (4, _)]) C dX7_queuePlace_83 rfl (by decide) (by decide) rfl ?_ | refine X_iinc (pc := 83) (kk := 1) (lv1 := [(0, _), (1, _), (2, _), (3, _), (4, _)]) C dX7_queuePlace_83 rfl (by decide) (by decide) rfl ?_
          refine X_goto (pc := 86) C 32 dX7_queuePlace_86 (by decide) ?_
          exact XW.less (lv' := [(0, _), (1, _), (2, _), (3, _), (4, _)]) [0, 1, 2, 3, 4] rfl (XW.eq rfl (by first | rw [cCnt_n g9] | rw [cCnt_y g9]) rfl (ih (i + 1) (by omega)))
        · skip
          refine X_aload_n (pc := 63) C 0 dX7_queuePlace_63 rfl rfl ?_
          refine X_iload (pc := 64) C dX7_queuePlace_64 rfl ?_
          refine X_iconst (pc := 66) (v := 3) C dX7_queuePlace_66 (by decide) ?_
          refine K_X7_88 (pc := 67) C (by assumption) (c_X7_ofCall l P _ _ _ _ h1 i 3 (by omega) (by decide) _ 3 rfl rfl) ⟨Nat.le_of_ble_eq_true rfl, Nat.le_of_ble_eq_true rfl⟩ ⟨rfl, rfl⟩ ⟨Nat.zero_le _, Nat.zero_le _⟩ (Nat.le_of_ble_eq_true rfl) dX7_queuePlace_67 ?_
          refine X_iload_n (pc := 70) C 3 dX7_queuePlace_70 rfl rfl ?_
          refine X_icmp_ne (pc := 71) C 83 dX7_queuePlace_71 (by decide) (fun h71 => ?_) (fun h71 => ?_)
          · have g9 : ¬ (mAh S u x i) := fun q => q.2.elim h60 (fun r => h71 r.1)
            first | refine X_iincN (pc := 83) (lv1 := [(0, _), (1, _), (2, _), (3, _), (4, _)]) C dX7_queuePlace_83 rfl (by decide) (by decide) rfl ?_ | refine X_iinc (pc := 83) (kk := 1) (lv1 := [(0, _), (1, _), (2, _), (3, _), (4, _)]) C dX7_queuePlace_83 rfl (by decide) (by decide) rfl ?_
            refine X_goto (pc := 86) C 32 dX7_queuePlace_86 (by decide) ?_
            exact XW.less (lv' := [(0, _), (1, _), (2, _), (3, _), (4, _)]) [0, 1, 2, 3, 4] rfl (XW.eq rfl (by first | rw [cCnt_n g9] | rw [cCnt_y g9]) rfl (ih (i + 1) (by omega)))
          · skip
            refine X_iload (pc := 74) C dX7_queuePlace_74 rfl ?_
            refine X_iload_n (pc := 76) C 1 dX7_queuePlace_76 rfl rfl ?_
            refine X_icmp_ge (pc := 77) C 83 dX7_queuePlace_77 (by decide) (fun h77 => ?_) (fun h77 => ?_)
            · have g9 : ¬ (mAh S u x i) := fun q => q.2.elim h60 (fun r => Int32.not_lt.mpr h77 r.2)
              first | refine X_iincN (pc := 83) (lv1 := [(0, _), (1, _), (2, _), (3, _), (4, _)]) C dX7_queuePlace_83 rfl (by decide) (by decide) rfl ?_ | refine X_iinc (pc := 83) (kk := 1) (lv1 := [(0, _), (1, _), (2, _), (3, _), (4, _)]) C dX7_queuePlace_83 rfl (by decide) (by decide) rfl ?_
              refine X_goto (pc := 86) C 32 dX7_queuePlace_86 (by decide) ?_
              exact XW.less (lv' := [(0, _), (1, _), (2, _), (3, _), (4, _)]) [0, 1, 2, 3, 4] rfl (XW.eq rfl (by first | rw [cCnt_n g9] | rw [cCnt_y g9]) rfl (ih (i + 1) (by omega)))
            · have g9 : mAh S u x i := ⟨bz1 h49, Or.inr ⟨h71, Int32.not_le.mp h77⟩⟩
              first | refine X_iincN (pc := 80) (lv1 := [(0, _), (1, _), (2, _), (3, _), (4, _)]) C dX7_queuePlace_80 rfl (by decide) (by decide) rfl ?_ | refine X_iinc (pc := 80) (kk := 1) (lv1 := [(0, _), (1, _), (2, _), (3, _), (4, _)]) C dX7_queuePlace_80 rfl (by decide) (by decide) rfl ?_
              first | refine X_iincN (pc := 83) (lv1 := [(0, _), (1, _), (2, _), (3, _), (4, _)]) C dX7_queuePlace_83 rfl (by decide) (by decide) rfl ?_ | refine X_iinc (pc := 83) (kk := 1) (lv1 := [(0, _), (1, _), (2, _), (3, _), (4, _)]) C dX7_queuePlace_83 rfl (by decide) (by decide) rfl ?_
              refine X_goto (pc := 86) C 32 dX7_queuePlace_86 (by decide) ?_
              exact XW.less (lv' := [(0, _), (1, _), (2, _), (3, _), (4, _)]) [0, 1, 2, 3, 4] rfl (XW.eq rfl (by first | rw [cCnt_n g9] | rw [cCnt_y g9]) rfl (ih (i + 1) (by omega)))

set_option maxRecDepth 100000 in
set_option maxHeartbeats 4000000 in
theorem c_X7_queuePlace (l : Launch) (P : XP) (τ : XS) (S F L : Nat → Int32) (h1 : xI1 P) (hM : MI S) (x : Int32) : XF l yX7_queuePlace cX7_queuePlace 5 (some .int) rm_X7_queuePlace P [.ref (P.2.2.1 (.inr 9)), .int x] (mW τ S F L) (some (.int (if xok x (mK S) then (if sC S 4 (cN x) = 0 then nI (cCnt (mAh S (sC S 3 (cN x)) x) (mK S)) else -1) else 0))) (mW τ S (upd F 7 (if xok x (mK S) then 0 else 1)) L) := by
  refine XM.of (by decide +kernel) (Nat.le_of_ble_eq_true rfl) (fun p e s m args below meth c A C => ?_)
  replace C : XC p s m args meth c P A 5 RX7 cX7_queuePlace (some .int) := C
  refine XW.eq (lv' := [(0, _), (1, _)]) rfl rfl rfl ?_
  refine X_aload_n (pc := 0) C 0 dX7_queuePlace_0 rfl rfl ?_
  refine X_iload_n (pc := 1) C 1 dX7_queuePlace_1 rfl rfl ?_
  refine K_X7_312 (pc := 2) C (by assumption) (c_X7_isBadCall l P _ _ _ _ h1 (mK S) (by have := hM.k40; omega) hM.k x) ⟨Nat.le_of_ble_eq_true rfl, Nat.le_of_ble_eq_true rfl⟩ ⟨rfl, rfl⟩ ⟨Nat.zero_le _, Nat.zero_le _⟩ (Nat.le_of_ble_eq_true rfl) dX7_queuePlace_2 ?_
  refine X_if_eq (pc := 5) C 10 dX7_queuePlace_5 (by decide) (fun h5 => ?_) (fun h5 => ?_)
  · have g5 := bz00 h5
    have gx := xok_c g5 (by have := hM.k40; omega)
    have g40 := hM.k40
    refine X_aload_n (pc := 10) C 0 dX7_queuePlace_10 rfl rfl ?_
    refine X_iload_n (pc := 11) C 1 dX7_queuePlace_11 rfl rfl ?_
    refine K_X7_318 (pc := 12) C (by assumption) (c_X7_isWaiting l P _ _ _ _ h1 _ (by omega) _ gx.2) ⟨Nat.le_of_ble_eq_true rfl, Nat.le_of_ble_eq_true rfl⟩ ⟨rfl, rfl⟩ ⟨Nat.zero_le _, Nat.zero_le _⟩ (Nat.le_of_ble_eq_true rfl) dX7_queuePlace_12 ?_
    refine X_if_ne (pc := 15) C 20 dX7_queuePlace_15 (by decide) (fun h15 => ?_) (fun h15 => ?_)
    · have g15 := bz1 h15
      refine X_iconst (pc := 20) (v := 0) C dX7_queuePlace_20 (by decide) ?_
      refine X_istore_n (pc := 21) (lv1 := [(0, _), (1, _), (2, _)]) C 2 dX7_queuePlace_21 rfl (by decide) rfl ?_
      refine X_aload_n (pc := 22) C 0 dX7_queuePlace_22 rfl rfl ?_
      refine X_iload_n (pc := 23) C 1 dX7_queuePlace_23 rfl rfl ?_
      refine X_iconst (pc := 24) (v := 3) C dX7_queuePlace_24 (by decide) ?_
      refine K_X7_88 (pc := 25) C (by assumption) (c_X7_ofCall l P _ _ _ _ h1 (cN x) 3 (by omega) (by decide) _ 3 gx.2 rfl) ⟨Nat.le_of_ble_eq_true rfl, Nat.le_of_ble_eq_true rfl⟩ ⟨rfl, rfl⟩ ⟨Nat.zero_le _, Nat.zero_le _⟩ (Nat.le_of_ble_eq_true rfl) dX7_queuePlace_25 ?_
      refine X_istore_n (pc := 28) (lv1 := [(0, _), (1, _), (2, _), (3, _)]) C 3 dX7_queuePlace_28 rfl (by decide) rfl ?_
      refine X_iconst (pc := 29) (v := 0) C dX7_queuePlace_29 (by decide) ?_
      refine X_istore (pc := 30) (lv1 := [(0, _), (1, _), (2, _), (3, _), (4, _)]) C dX7_queuePlace_30 (by decide) rfl ?_
      refine L_X7_queuePlace C h1 hM ?_ (mK S) 0 (by omega)
      refine X_iload_n (pc := 89) C 2 dX7_queuePlace_89 rfl rfl ?_
      exact X_iret (pc := 90) C (Nat.zero_le _) (Nat.zero_le _) dX7_queuePlace_90 ⟨by rw [if_pos g5, if_pos g15], rfl⟩
    · have g15 := bz0 h15
      refine X_iconst (pc := 18) (v := (-1)) C dX7_queuePlace_18 (by decide) ?_
      exact X_iret (pc := 19) C (Nat.zero_le _) (Nat.zero_le _) dX7_queuePlace_19 ⟨by rw [if_pos g5, if_neg g15], rfl⟩
  · have g5 := bz01 h5
    refine X_iconst (pc := 8) (v := 0) C dX7_queuePlace_8 (by decide) ?_
    exact X_iret (pc := 9) C (Nat.zero_le _) (Nat.zero_le _) dX7_queuePlace_9 ⟨by rw [if_neg g5], rfl⟩

/-- what is wrong with a pair -/
def mTh (S : Nat → Int32) (x y : Int32) : Int32 := if xok x (mU S) ∧ xok y (mU S) then (if x = y then 2 else 0) else 1
theorem mTh_0 {S : Nat → Int32} {x y : Int32} (h : mTh S x y = 0) : xok x (mU S) ∧ xok y (mU S) := by
  unfold mTh at h
  by_cases g : xok x (mU S) ∧ xok y (mU S)
  · exact g
  · rw [if_neg g] at h; exact absurd h (by decide)
set_option maxRecDepth 100000 in
set_option maxHeartbeats 4000000 in
theorem c_X7_listenersBetween (l : Launch) (P : XP) (τ : XS) (S F L : Nat → Int32) (h1 : xI1 P) (hM : MI S) (x y : Int32) : XF l yX7_listenersBetween cX7_listenersBetween 3 (some .int) rm_X7_listenersBetween P [.ref (P.2.2.1 (.inr 9)), .int x, .int y] (mW τ S F L) (some (.int (if mTh S x y = 0 then mEars S x y else 0))) (mW τ S (upd F 7 (mTh S x y)) L) := by
  refine XM.of (by decide +kernel) (Nat.le_of_ble_eq_true rfl) (fun p e s m args below meth c A C => ?_)
  replace C : XC p s m args meth c P A 3 RX7 cX7_listenersBetween (some .int) := C
  refine XW.eq (lv' := [(0, _), (1, _), (2, _)]) rfl rfl rfl ?_
  refine X_aload_n (pc := 0) C 0 dX7_listenersBetween_0 rfl rfl ?_
  refine X_aload_n (pc := 1) C 0 dX7_listenersBetween_1 rfl rfl ?_
  refine X_iload_n (pc := 2) C 1 dX7_listenersBetween_2 rfl rfl ?_
  refine K_X7_288 (pc := 3) C (by assumption) (c_X7_noUser l P _ _ _ _ h1 (mU S) (by have := hM.u15; omega) hM.u x) ⟨Nat.le_of_ble_eq_true rfl, Nat.le_of_ble_eq_true rfl⟩ ⟨rfl, rfl⟩ ⟨Nat.zero_le _, Nat.zero_le _⟩ (Nat.le_of_ble_eq_true rfl) dX7_listenersBetween_3 ?_
  refine X_if_ne (pc := 6) C 17 dX7_listenersBetween_6 (by decide) (fun h6 => ?_) (fun h6 => ?_)
  · have g6 := bz01 h6
    refine X_iconst (pc := 17) (v := 1) C dX7_listenersBetween_17 (by decide) ?_
    refine X_goto (pc := 18) C 22 dX7_listenersBetween_18 (by decide) ?_
    refine X_iload_n (pc := 22) C 1 dX7_listenersBetween_22 rfl rfl ?_
    refine X_iload_n (pc := 23) C 2 dX7_listenersBetween_23 rfl rfl ?_
    refine X_icmp_ne (pc := 24) C 31 dX7_listenersBetween_24 (by decide) (fun h24 => ?_) (fun h24 => ?_)
    · skip
      refine X_iconst (pc := 31) (v := 0) C dX7_listenersBetween_31 (by decide) ?_
      refine X_iconst (pc := 32) (v := 0) C dX7_listenersBetween_32 (by decide) ?_
      refine K_X7_154 (pc := 33) C (by assumption) (c_X7_fails l P _ _ _ _ h1 _ _ _) ⟨Nat.le_of_ble_eq_true rfl, Nat.le_of_ble_eq_true rfl⟩ ⟨rfl, rfl⟩ ⟨Nat.zero_le _, Nat.zero_le _⟩ (Nat.le_of_ble_eq_true rfl) dX7_listenersBetween_33 ?_
      rw [show mFl _ _ _ = mTh S x y from by first | (rw [mTh, if_neg (fun q => g6 q.1)]; rfl) | (rw [mTh, if_neg (fun q => g14 q.2)]; rfl) | (rw [mTh, if_pos ⟨g6, g14⟩, if_neg h24]; rfl) | (rw [mTh, if_pos ⟨g6, g14⟩, if_pos h24]; rfl)]
      refine X_if_eq (pc := 36) C 43 dX7_listenersBetween_36 (by decide) (fun h36 => ?_) (fun h36 => ?_)
      · have g36 := bz00 h36
        refine X_aload_n (pc := 43) C 0 dX7_listenersBetween_43 rfl rfl ?_
        refine X_iload_n (pc := 44) C 1 dX7_listenersBetween_44 rfl rfl ?_
        refine X_iload_n (pc := 45) C 2 dX7_listenersBetween_45 rfl rfl ?_
        refine K_X7_115 (pc := 46) C (by assumption) (c_X7_ears l P _ _ _ _ h1 hM _ _ (xok_mono (mTh_0 g36).1 hM.u15) (Or.inr (xok_mono (mTh_0 g36).2 hM.u15))) ⟨Nat.le_of_ble_eq_true rfl, Nat.le_of_ble_eq_true rfl⟩ ⟨rfl, rfl⟩ ⟨Nat.zero_le _, Nat.zero_le _⟩ (Nat.le_of_ble_eq_true rfl) dX7_listenersBetween_46 ?_
        exact X_iret (pc := 49) C (Nat.zero_le _) (Nat.zero_le _) dX7_listenersBetween_49 ⟨by first | rw [if_pos g36] | rw [if_neg g36], rfl⟩
      · have g36 := bz01 h36
        refine X_iconst (pc := 39) (v := 0) C dX7_listenersBetween_39 (by decide) ?_
        refine X_goto (pc := 40) C 49 dX7_listenersBetween_40 (by decide) ?_
        exact X_iret (pc := 49) C (Nat.zero_le _) (Nat.zero_le _) dX7_listenersBetween_49 ⟨by first | rw [if_pos g36] | rw [if_neg g36], rfl⟩
    · skip
      refine X_iconst (pc := 27) (v := 1) C dX7_listenersBetween_27 (by decide) ?_
      refine X_goto (pc := 28) C 32 dX7_listenersBetween_28 (by decide) ?_
      refine X_iconst (pc := 32) (v := 0) C dX7_listenersBetween_32 (by decide) ?_
      refine K_X7_154 (pc := 33) C (by assumption) (c_X7_fails l P _ _ _ _ h1 _ _ _) ⟨Nat.le_of_ble_eq_true rfl, Nat.le_of_ble_eq_true rfl⟩ ⟨rfl, rfl⟩ ⟨Nat.zero_le _, Nat.zero_le _⟩ (Nat.le_of_ble_eq_true rfl) dX7_listenersBetween_33 ?_
      rw [show mFl _ _ _ = mTh S x y from by first | (rw [mTh, if_neg (fun q => g6 q.1)]; rfl) | (rw [mTh, if_neg (fun q => g14 q.2)]; rfl) | (rw [mTh, if_pos ⟨g6, g14⟩, if_neg h24]; rfl) | (rw [mTh, if_pos ⟨g6, g14⟩, if_pos h24]; rfl)]
      refine X_if_eq (pc := 36) C 43 dX7_listenersBetween_36 (by decide) (fun h36 => ?_) (fun h36 => ?_)
      · have g36 := bz00 h36
        refine X_aload_n (pc := 43) C 0 dX7_listenersBetween_43 rfl rfl ?_
        refine X_iload_n (pc := 44) C 1 dX7_listenersBetween_44 rfl rfl ?_
        refine X_iload_n (pc := 45) C 2 dX7_listenersBetween_45 rfl rfl ?_
        refine K_X7_115 (pc := 46) C (by assumption) (c_X7_ears l P _ _ _ _ h1 hM _ _ (xok_mono (mTh_0 g36).1 hM.u15) (Or.inr (xok_mono (mTh_0 g36).2 hM.u15))) ⟨Nat.le_of_ble_eq_true rfl, Nat.le_of_ble_eq_true rfl⟩ ⟨rfl, rfl⟩ ⟨Nat.zero_le _, Nat.zero_le _⟩ (Nat.le_of_ble_eq_true rfl) dX7_listenersBetween_46 ?_
        exact X_iret (pc := 49) C (Nat.zero_le _) (Nat.zero_le _) dX7_listenersBetween_49 ⟨by first | rw [if_pos g36] | rw [if_neg g36], rfl⟩
      · have g36 := bz01 h36
        refine X_iconst (pc := 39) (v := 0) C dX7_listenersBetween_39 (by decide) ?_
        refine X_goto (pc := 40) C 49 dX7_listenersBetween_40 (by decide) ?_
        exact X_iret (pc := 49) C (Nat.zero_le _) (Nat.zero_le _) dX7_listenersBetween_49 ⟨by first | rw [if_pos g36] | rw [if_neg g36], rfl⟩
  · have g6 := bz00 h6
    refine X_aload_n (pc := 9) C 0 dX7_listenersBetween_9 rfl rfl ?_
    refine X_iload_n (pc := 10) C 2 dX7_listenersBetween_10 rfl rfl ?_
    refine K_X7_288 (pc := 11) C (by assumption) (c_X7_noUser l P _ _ _ _ h1 (mU S) (by have := hM.u15; omega) hM.u y) ⟨Nat.le_of_ble_eq_true rfl, Nat.le_of_ble_eq_true rfl⟩ ⟨rfl, rfl⟩ ⟨Nat.zero_le _, Nat.zero_le _⟩ (Nat.le_of_ble_eq_true rfl) dX7_listenersBetween_11 ?_
    refine X_if_eq (pc := 14) C 21 dX7_listenersBetween_14 (by decide) (fun h14 => ?_) (fun h14 => ?_)
    · have g14 := bz00 h14
      refine X_iconst (pc := 21) (v := 0) C dX7_listenersBetween_21 (by decide) ?_
      refine X_iload_n (pc := 22) C 1 dX7_listenersBetween_22 rfl rfl ?_
      refine X_iload_n (pc := 23) C 2 dX7_listenersBetween_23 rfl rfl ?_
      refine X_icmp_ne (pc := 24) C 31 dX7_listenersBetween_24 (by decide) (fun h24 => ?_) (fun h24 => ?_)
      · skip
        refine X_iconst (pc := 31) (v := 0) C dX7_listenersBetween_31 (by decide) ?_
        refine X_iconst (pc := 32) (v := 0) C dX7_listenersBetween_32 (by decide) ?_
        refine K_X7_154 (pc := 33) C (by assumption) (c_X7_fails l P _ _ _ _ h1 _ _ _) ⟨Nat.le_of_ble_eq_true rfl, Nat.le_of_ble_eq_true rfl⟩ ⟨rfl, rfl⟩ ⟨Nat.zero_le _, Nat.zero_le _⟩ (Nat.le_of_ble_eq_true rfl) dX7_listenersBetween_33 ?_
        rw [show mFl _ _ _ = mTh S x y from by first | (rw [mTh, if_neg (fun q => g6 q.1)]; rfl) | (rw [mTh, if_neg (fun q => g14 q.2)]; rfl) | (rw [mTh, if_pos ⟨g6, g14⟩, if_neg h24]; rfl) | (rw [mTh, if_pos ⟨g6, g14⟩, if_pos h24]; rfl)]
        refine X_if_eq (pc := 36) C 43 dX7_listenersBetween_36 (by decide) (fun h36 => ?_) (fun h36 => ?_)
        · have g36 := bz00 h36
          refine X_aload_n (pc := 43) C 0 dX7_listenersBetween_43 rfl rfl ?_
          refine X_iload_n (pc := 44) C 1 dX7_listenersBetween_44 rfl rfl ?_
          refine X_iload_n (pc := 45) C 2 dX7_listenersBetween_45 rfl rfl ?_
          refine K_X7_115 (pc := 46) C (by assumption) (c_X7_ears l P _ _ _ _ h1 hM _ _ (xok_mono (mTh_0 g36).1 hM.u15) (Or.inr (xok_mono (mTh_0 g36).2 hM.u15))) ⟨Nat.le_of_ble_eq_true rfl, Nat.le_of_ble_eq_true rfl⟩ ⟨rfl, rfl⟩ ⟨Nat.zero_le _, Nat.zero_le _⟩ (Nat.le_of_ble_eq_true rfl) dX7_listenersBetween_46 ?_
          exact X_iret (pc := 49) C (Nat.zero_le _) (Nat.zero_le _) dX7_listenersBetween_49 ⟨by first | rw [if_pos g36] | rw [if_neg g36], rfl⟩
        · have g36 := bz01 h36
          refine X_iconst (pc := 39) (v := 0) C dX7_listenersBetween_39 (by decide) ?_
          refine X_goto (pc := 40) C 49 dX7_listenersBetween_40 (by decide) ?_
          exact X_iret (pc := 49) C (Nat.zero_le _) (Nat.zero_le _) dX7_listenersBetween_49 ⟨by first | rw [if_pos g36] | rw [if_neg g36], rfl⟩
      · skip
        refine X_iconst (pc := 27) (v := 1) C dX7_listenersBetween_27 (by decide) ?_
        refine X_goto (pc := 28) C 32 dX7_listenersBetween_28 (by decide) ?_
        refine X_iconst (pc := 32) (v := 0) C dX7_listenersBetween_32 (by decide) ?_
        refine K_X7_154 (pc := 33) C (by assumption) (c_X7_fails l P _ _ _ _ h1 _ _ _) ⟨Nat.le_of_ble_eq_true rfl, Nat.le_of_ble_eq_true rfl⟩ ⟨rfl, rfl⟩ ⟨Nat.zero_le _, Nat.zero_le _⟩ (Nat.le_of_ble_eq_true rfl) dX7_listenersBetween_33 ?_
        rw [show mFl _ _ _ = mTh S x y from by first | (rw [mTh, if_neg (fun q => g6 q.1)]; rfl) | (rw [mTh, if_neg (fun q => g14 q.2)]; rfl) | (rw [mTh, if_pos ⟨g6, g14⟩, if_neg h24]; rfl) | (rw [mTh, if_pos ⟨g6, g14⟩, if_pos h24]; rfl)]
        refine X_if_eq (pc := 36) C 43 dX7_listenersBetween_36 (by decide) (fun h36 => ?_) (fun h36 => ?_)
        · have g36 := bz00 h36
          refine X_aload_n (pc := 43) C 0 dX7_listenersBetween_43 rfl rfl ?_
          refine X_iload_n (pc := 44) C 1 dX7_listenersBetween_44 rfl rfl ?_
          refine X_iload_n (pc := 45) C 2 dX7_listenersBetween_45 rfl rfl ?_
          refine K_X7_115 (pc := 46) C (by assumption) (c_X7_ears l P _ _ _ _ h1 hM _ _ (xok_mono (mTh_0 g36).1 hM.u15) (Or.inr (xok_mono (mTh_0 g36).2 hM.u15))) ⟨Nat.le_of_ble_eq_true rfl, Nat.le_of_ble_eq_true rfl⟩ ⟨rfl, rfl⟩ ⟨Nat.zero_le _, Nat.zero_le _⟩ (Nat.le_of_ble_eq_true rfl) dX7_listenersBetween_46 ?_
          exact X_iret (pc := 49) C (Nat.zero_le _) (Nat.zero_le _) dX7_listenersBetween_49 ⟨by first | rw [if_pos g36] | rw [if_neg g36], rfl⟩
        · have g36 := bz01 h36
          refine X_iconst (pc := 39) (v := 0) C dX7_listenersBetween_39 (by decide) ?_
          refine X_goto (pc := 40) C 49 dX7_listenersBetween_40 (by decide) ?_
          exact X_iret (pc := 49) C (Nat.zero_le _) (Nat.zero_le _) dX7_listenersBetween_49 ⟨by first | rw [if_pos g36] | rw [if_neg g36], rfl⟩
    · have g14 := bz01 h14
      refine X_iconst (pc := 17) (v := 1) C dX7_listenersBetween_17 (by decide) ?_
      refine X_goto (pc := 18) C 22 dX7_listenersBetween_18 (by decide) ?_
      refine X_iload_n (pc := 22) C 1 dX7_listenersBetween_22 rfl rfl ?_
      refine X_iload_n (pc := 23) C 2 dX7_listenersBetween_23 rfl rfl ?_
      refine X_icmp_ne (pc := 24) C 31 dX7_listenersBetween_24 (by decide) (fun h24 => ?_) (fun h24 => ?_)
      · skip
        refine X_iconst (pc := 31) (v := 0) C dX7_listenersBetween_31 (by decide) ?_
        refine X_iconst (pc := 32) (v := 0) C dX7_listenersBetween_32 (by decide) ?_
        refine K_X7_154 (pc := 33) C (by assumption) (c_X7_fails l P _ _ _ _ h1 _ _ _) ⟨Nat.le_of_ble_eq_true rfl, Nat.le_of_ble_eq_true rfl⟩ ⟨rfl, rfl⟩ ⟨Nat.zero_le _, Nat.zero_le _⟩ (Nat.le_of_ble_eq_true rfl) dX7_listenersBetween_33 ?_
        rw [show mFl _ _ _ = mTh S x y from by first | (rw [mTh, if_neg (fun q => g6 q.1)]; rfl) | (rw [mTh, if_neg (fun q => g14 q.2)]; rfl) | (rw [mTh, if_pos ⟨g6, g14⟩, if_neg h24]; rfl) | (rw [mTh, if_pos ⟨g6, g14⟩, if_pos h24]; rfl)]
        refine X_if_eq (pc := 36) C 43 dX7_listenersBetween_36 (by decide) (fun h36 => ?_) (fun h36 => ?_)
        · have g36 := bz00 h36
          refine X_aload_n (pc := 43) C 0 dX7_listenersBetween_43 rfl rfl ?_
          refine X_iload_n (pc := 44) C 1 dX7_listenersBetween_44 rfl rfl ?_
          refine X_iload_n (pc := 45) C 2 dX7_listenersBetween_45 rfl rfl ?_
          refine K_X7_115 (pc := 46) C (by assumption) (c_X7_ears l P _ _ _ _ h1 hM _ _ (xok_mono (mTh_0 g36).1 hM.u15) (Or.inr (xok_mono (mTh_0 g36).2 hM.u15))) ⟨Nat.le_of_ble_eq_true rfl, Nat.le_of_ble_eq_true rfl⟩ ⟨rfl, rfl⟩ ⟨Nat.zero_le _, Nat.zero_le _⟩ (Nat.le_of_ble_eq_true rfl) dX7_listenersBetween_46 ?_
          exact X_iret (pc := 49) C (Nat.zero_le _) (Nat.zero_le _) dX7_listenersBetween_49 ⟨by first | rw [if_pos g36] | rw [if_neg g36], rfl⟩
        · have g36 := bz01 h36
          refine X_iconst (pc := 39) (v := 0) C dX7_listenersBetween_39 (by decide) ?_
          refine X_goto (pc := 40) C 49 dX7_listenersBetween_40 (by decide) ?_
          exact X_iret (pc := 49) C (Nat.zero_le _) (Nat.zero_le _) dX7_listenersBetween_49 ⟨by first | rw [if_pos g36] | rw [if_neg g36], rfl⟩
      · skip
        refine X_iconst (pc := 27) (v := 1) C dX7_listenersBetween_27 (by decide) ?_
        refine X_goto (pc := 28) C 32 dX7_listenersBetween_28 (by decide) ?_
        refine X_iconst (pc := 32) (v := 0) C dX7_listenersBetween_32 (by decide) ?_
        refine K_X7_154 (pc := 33) C (by assumption) (c_X7_fails l P _ _ _ _ h1 _ _ _) ⟨Nat.le_of_ble_eq_true rfl, Nat.le_of_ble_eq_true rfl⟩ ⟨rfl, rfl⟩ ⟨Nat.zero_le _, Nat.zero_le _⟩ (Nat.le_of_ble_eq_true rfl) dX7_listenersBetween_33 ?_
        rw [show mFl _ _ _ = mTh S x y from by first | (rw [mTh, if_neg (fun q => g6 q.1)]; rfl) | (rw [mTh, if_neg (fun q => g14 q.2)]; rfl) | (rw [mTh, if_pos ⟨g6, g14⟩, if_neg h24]; rfl) | (rw [mTh, if_pos ⟨g6, g14⟩, if_pos h24]; rfl)]
        refine X_if_eq (pc := 36) C 43 dX7_listenersBetween_36 (by decide) (fun h36 => ?_) (fun h36 => ?_)
        · have g36 := bz00 h36
          refine X_aload_n (pc := 43) C 0 dX7_listenersBetween_43 rfl rfl ?_
          refine X_iload_n (pc := 44) C 1 dX7_listenersBetween_44 rfl rfl ?_
          refine X_iload_n (pc := 45) C 2 dX7_listenersBetween_45 rfl rfl ?_
          refine K_X7_115 (pc := 46) C (by assumption) (c_X7_ears l P _ _ _ _ h1 hM _ _ (xok_mono (mTh_0 g36).1 hM.u15) (Or.inr (xok_mono (mTh_0 g36).2 hM.u15))) ⟨Nat.le_of_ble_eq_true rfl, Nat.le_of_ble_eq_true rfl⟩ ⟨rfl, rfl⟩ ⟨Nat.zero_le _, Nat.zero_le _⟩ (Nat.le_of_ble_eq_true rfl) dX7_listenersBetween_46 ?_
          exact X_iret (pc := 49) C (Nat.zero_le _) (Nat.zero_le _) dX7_listenersBetween_49 ⟨by first | rw [if_pos g36] | rw [if_neg g36], rfl⟩
        · have g36 := bz01 h36
          refine X_iconst (pc := 39) (v := 0) C dX7_listenersBetween_39 (by decide) ?_
          refine X_goto (pc := 40) C 49 dX7_listenersBetween_40 (by decide) ?_
          exact X_iret (pc := 49) C (Nat.zero_le _) (Nat.zero_le _) dX7_listenersBetween_49 ⟨by first | rw [if_pos g36] | rw [if_neg g36], rfl⟩

set_option maxRecDepth 100000 in
set_option maxHeartbeats 4000000 in
theorem L_X7_quietestCall (C : XC p s m args meth c P A 6 RX7 cX7_quietestCall (some .int)) {τ : XS} {S F L : Nat → Int32} (h1 : xI1 P) (hM : MI S) {x : Int32} (hx : xok x 15) (kx : XW p l e rm_X7_quietestCall s m args below meth c P A 6 0 0 Q (mW τ S F L) 75 [(0, .ref (P.2.2.1 (.inr 9))), (1, .int x), (2, .int (mQuiet (fun u => xbc (mEars S x (nI u))) x (mU S)).1), (3, .int (mQuiet (fun u => xbc (mEars S x (nI u))) x (mU S)).2), (4, .int (nI (mU S)))] []) : ∀ (k i : Nat), i + k = mU S → XW p l e rm_X7_quietestCall s m args below meth c P A 6 0 0 Q (mW τ S F L) 17 [(0, .ref (P.2.2.1 (.inr 9))), (1, .int x), (2, .int (mQuiet (fun u => xbc (mEars S x (nI u))) x (i)).1), (3, .int (mQuiet (fun u => xbc (mEars S x (nI u))) x (i)).2), (4, .int (nI (i)))] [] := by
  have hbd := hM.u15
  intro k
  induction k with
  | zero =>
    intro i hi
    have e9 : i = mU S := by omega
    subst e9
    refine X_iload (pc := 17) C dX7_quietestCall_17 rfl ?_
    refine X_aload_n (pc := 19) C 0 dX7_quietestCall_19 rfl rfl ?_
    refine G_X7_9 (pc := 20) C (by assumption) dX7_quietestCall_20 ?_
    refine X_iconst (pc := 23) (v := 4) C dX7_quietestCall_23 (by decide) ?_
    refine X_ialdN (j := 4) (pc := 24) C (by first | exact h1 _ (by decide) (by decide)) rfl (by omega) (by decide) dX7_quietestCall_24 ?_
    rw [mW_10]
    rw [hM.u]
    refine X_icmp_ge (pc := 25) C 75 dX7_quietestCall_25 (by decide) (fun h25 => ?_) (fun h25 => ?_)
    · skip
      exact kx
    · exact absurd (nI_le (Nat.le_refl _) (n31 (by omega))) h25
  | succ k ih =>
    intro i hi
    have hlt : i < mU S := by omega
    refine X_iload (pc := 17) C dX7_quietestCall_17 rfl ?_
    refine X_aload_n (pc := 19) C 0 dX7_quietestCall_19 rfl rfl ?_
    refine G_X7_9 (pc := 20) C (by assumption) dX7_quietestCall_20 ?_
    refine X_iconst (pc := 23) (v := 4) C dX7_quietestCall_23 (by decide) ?_
    refine X_ialdN (j := 4) (pc := 24) C (by first | exact h1 _ (by decide) (by decide)) rfl (by omega) (by decide) dX7_quietestCall_24 ?_
    rw [mW_10]
    rw [hM.u]
    refine X_icmp_ge (pc := 25) C 75 dX7_quietestCall_25 (by decide) (fun h25 => ?_) (fun h25 => ?_)
    · exact absurd (nle h25) (by omega)
    · skip
      refine X_iload (pc := 28) C dX7_quietestCall_28 rfl ?_
      refine X_iload_n (pc := 30) C 1 dX7_quietestCall_30 rfl rfl ?_
      refine X_icmp_ne (pc := 31) C 37 dX7_quietestCall_31 (by decide) (fun h31 => ?_) (fun h31 => ?_)
      · skip
        refine X_aload_n (pc := 37) C 0 dX7_quietestCall_37 rfl rfl ?_
        refine X_iload_n (pc := 38) C 1 dX7_quietestCall_38 rfl rfl ?_
        refine X_iload (pc := 39) C dX7_quietestCall_39 rfl ?_
        refine K_X7_115 (pc := 41) C (by assumption) (c_X7_ears l P _ _ _ _ h1 hM _ _ hx (Or.inr (xok_nI (by omega)))) ⟨Nat.le_of_ble_eq_true rfl, Nat.le_of_ble_eq_true rfl⟩ ⟨rfl, rfl⟩ ⟨Nat.zero_le _, Nat.zero_le _⟩ (Nat.le_of_ble_eq_true rfl) dX7_quietestCall_41 ?_
        refine K_X7_118 (pc := 44) C (c_J6_bitCount l P _ _) ⟨Nat.le_of_ble_eq_true rfl, Nat.le_of_ble_eq_true rfl⟩ ⟨rfl, rfl⟩ ⟨Nat.zero_le _, Nat.zero_le _⟩ (Nat.le_of_ble_eq_true rfl) dX7_quietestCall_44 ?_
        refine X_istore (pc := 47) (lv1 := [(0, _), (1, _), (2, _), (3, _), (4, _), (5, _)]) C dX7_quietestCall_47 (by decide) rfl ?_
        refine X_iload_n (pc := 49) C 2 dX7_quietestCall_49 rfl rfl ?_
        refine X_iconst (pc := 50) (v := (-1)) C dX7_quietestCall_50 (by decide) ?_
        refine X_icmp_eq (pc := 51) C 63 dX7_quietestCall_51 (by decide) (fun h51 => ?_) (fun h51 => ?_)
        · have g9 : ¬ (nI i = x ∨ (¬ (mQuiet (fun u => xbc (mEars S x (nI u))) x i).1 = -1 ∧ (mQuiet (fun u => xbc (mEars S x (nI u))) x i).2 ≤ xbc (mEars S x (nI i)))) := fun q => q.elim h31 (fun r => r.1 h51)
          refine X_iload (pc := 63) C dX7_quietestCall_63 rfl ?_
          refine X_istore_n (pc := 65) (lv1 := [(0, _), (1, _), (2, _), (3, _), (4, _), (5, _)]) C 2 dX7_quietestCall_65 rfl (by decide) rfl ?_
          refine X_iload (pc := 66) C dX7_quietestCall_66 rfl ?_
          refine X_istore_n (pc := 68) (lv1 := [(0, _), (1, _), (2, _), (3, _), (4, _), (5, _)]) C 3 dX7_quietestCall_68 rfl (by decide) rfl ?_
          first | refine X_iincN (pc := 69) (lv1 := [(0, _), (1, _), (2, _), (3, _), (4, _), (5, _)]) C dX7_quietestCall_69 rfl (by decide) (by decide) rfl ?_ | refine X_iinc (pc := 69) (kk := 1) (lv1 := [(0, _), (1, _), (2, _), (3, _), (4, _), (5, _)]) C dX7_quietestCall_69 rfl (by decide) (by decide) rfl ?_
          refine X_goto (pc := 72) C 17 dX7_quietestCall_72 (by decide) ?_
          exact XW.less (lv' := [(0, _), (1, _), (2, _), (3, _), (4, _)]) [0, 1, 2, 3, 4] rfl (XW.eq rfl (by first | rw [mQuiet_n (f := (fun u => xbc (mEars S x (nI u)))) g9] | rw [mQuiet_y (f := (fun u => xbc (mEars S x (nI u)))) g9]) rfl (ih (i + 1) (by omega)))
        · skip
          refine X_iload (pc := 54) C dX7_quietestCall_54 rfl ?_
          refine X_iload_n (pc := 56) C 3 dX7_quietestCall_56 rfl rfl ?_
          refine X_icmp_lt (pc := 57) C 63 dX7_quietestCall_57 (by decide) (fun h57 => ?_) (fun h57 => ?_)
          · have g9 : ¬ (nI i = x ∨ (¬ (mQuiet (fun u => xbc (mEars S x (nI u))) x i).1 = -1 ∧ (mQuiet (fun u => xbc (mEars S x (nI u))) x i).2 ≤ xbc (mEars S x (nI i)))) := fun q => q.elim h31 (fun r => Int32.not_lt.mpr r.2 h57)
            refine X_iload (pc := 63) C dX7_quietestCall_63 rfl ?_
            refine X_istore_n (pc := 65) (lv1 := [(0, _), (1, _), (2, _), (3, _), (4, _), (5, _)]) C 2 dX7_quietestCall_65 rfl (by decide) rfl ?_
            refine X_iload (pc := 66) C dX7_quietestCall_66 rfl ?_
            refine X_istore_n (pc := 68) (lv1 := [(0, _), (1, _), (2, _), (3, _), (4, _), (5, _)]) C 3 dX7_quietestCall_68 rfl (by decide) rfl ?_
            first | refine X_iincN (pc := 69) (lv1 := [(0, _), (1, _), (2, _), (3, _), (4, _), (5, _)]) C dX7_quietestCall_69 rfl (by decide) (by decide) rfl ?_ | refine X_iinc (pc := 69) (kk := 1) (lv1 := [(0, _), (1, _), (2, _), (3, _), (4, _), (5, _)]) C dX7_quietestCall_69 rfl (by decide) (by decide) rfl ?_
            refine X_goto (pc := 72) C 17 dX7_quietestCall_72 (by decide) ?_
            exact XW.less (lv' := [(0, _), (1, _), (2, _), (3, _), (4, _)]) [0, 1, 2, 3, 4] rfl (XW.eq rfl (by first | rw [mQuiet_n (f := (fun u => xbc (mEars S x (nI u)))) g9] | rw [mQuiet_y (f := (fun u => xbc (mEars S x (nI u)))) g9]) rfl (ih (i + 1) (by omega)))
          · have g9 : nI i = x ∨ (¬ (mQuiet (fun u => xbc (mEars S x (nI u))) x i).1 = -1 ∧ (mQuiet (fun u => xbc (mEars S x (nI u))) x i).2 ≤ xbc (mEars S x (nI i))) := Or.inr ⟨h51, Int32.not_lt.mp h57⟩
            refine X_goto (pc := 60) C 69 dX7_quietestCall_60 (by decide) ?_
            first | refine X_iincN (pc := 69) (lv1 := [(0, _), (1, _), (2, _), (3, _), (4, _), (5, _)]) C dX7_quietestCall_69 rfl (by decide) (by decide) rfl ?_ | refine X_iinc (pc := 69) (kk := 1) (lv1 := [(0, _), (1, _), (2, _), (3, _), (4, _), (5, _)]) C dX7_quietestCall_69 rfl (by decide) (by decide) rfl ?_
            refine X_goto (pc := 72) C 17 dX7_quietestCall_72 (by decide) ?_
            exact XW.less (lv' := [(0, _), (1, _), (2, _), (3, _), (4, _)]) [0, 1, 2, 3, 4] rfl (XW.eq rfl (by first | rw [mQuiet_n (f := (fun u => xbc (mEars S x (nI u)))) g9] | rw [mQuiet_y (f := (fun u => xbc (mEars S x (nI u)))) g9]) rfl (ih (i + 1) (by omega)))
      · have g9 : nI i = x ∨ (¬ (mQuiet (fun u => xbc (mEars S x (nI u))) x i).1 = -1 ∧ (mQuiet (fun u => xbc (mEars S x (nI u))) x i).2 ≤ xbc (mEars S x (nI i))) := Or.inl h31
        refine X_goto (pc := 34) C 69 dX7_quietestCall_34 (by decide) ?_
        first | refine X_iincN (pc := 69) (lv1 := [(0, _), (1, _), (2, _), (3, _), (4, _)]) C dX7_quietestCall_69 rfl (by decide) (by decide) rfl ?_ | refine X_iinc (pc := 69) (kk := 1) (lv1 := [(0, _), (1, _), (2, _), (3, _), (4, _)]) C dX7_quietestCall_69 rfl (by decide) (by decide) rfl ?_
        refine X_goto (pc := 72) C 17 dX7_quietestCall_72 (by decide) ?_
        exact XW.less (lv' := [(0, _), (1, _), (2, _), (3, _), (4, _)]) [0, 1, 2, 3, 4] rfl (XW.eq rfl (by first | rw [mQuiet_n (f := (fun u => xbc (mEars S x (nI u)))) g9] | rw [mQuiet_y (f := (fun u => xbc (mEars S x (nI u)))) g9]) rfl (ih (i + 1) (by omega)))

set_option maxRecDepth 100000 in
set_option maxHeartbeats 4000000 in
theorem c_X7_quietestCall (l : Launch) (P : XP) (τ : XS) (S F L : Nat → Int32) (h1 : xI1 P) (hM : MI S) (x : Int32) : XF l yX7_quietestCall cX7_quietestCall 6 (some .int) rm_X7_quietestCall P [.ref (P.2.2.1 (.inr 9)), .int x] (mW τ S F L) (some (.int (if xok x (mU S) then (mQuiet (fun u => xbc (mEars S x (nI u))) x (mU S)).1 else 0))) (mW τ S (upd F 7 (if xok x (mU S) then 0 else 1)) L) := by
  refine XM.of (by decide +kernel) (Nat.le_of_ble_eq_true rfl) (fun p e s m args below meth c A C => ?_)
  replace C : XC p s m args meth c P A 6 RX7 cX7_quietestCall (some .int) := C
  refine XW.eq (lv' := [(0, _), (1, _)]) rfl rfl rfl ?_
  refine X_aload_n (pc := 0) C 0 dX7_quietestCall_0 rfl rfl ?_
  refine X_iload_n (pc := 1) C 1 dX7_quietestCall_1 rfl rfl ?_
  refine K_X7_303 (pc := 2) C (by assumption) (c_X7_isBad l P _ _ _ _ h1 (mU S) (by have := hM.u15; omega) hM.u x) ⟨Nat.le_of_ble_eq_true rfl, Nat.le_of_ble_eq_true rfl⟩ ⟨rfl, rfl⟩ ⟨Nat.zero_le _, Nat.zero_le _⟩ (Nat.le_of_ble_eq_true rfl) dX7_quietestCall_2 ?_
  refine X_if_eq (pc := 5) C 10 dX7_quietestCall_5 (by decide) (fun h5 => ?_) (fun h5 => ?_)
  · have g5 := bz00 h5
    have gx := xok_c g5 (by have := hM.u15; omega)
    have g15 := hM.u15
    refine X_iconst (pc := 10) (v := (-1)) C dX7_quietestCall_10 (by decide) ?_
    refine X_istore_n (pc := 11) (lv1 := [(0, _), (1, _), (2, _)]) C 2 dX7_quietestCall_11 rfl (by decide) rfl ?_
    refine X_iconst (pc := 12) (v := 0) C dX7_quietestCall_12 (by decide) ?_
    refine X_istore_n (pc := 13) (lv1 := [(0, _), (1, _), (2, _), (3, _)]) C 3 dX7_quietestCall_13 rfl (by decide) rfl ?_
    refine X_iconst (pc := 14) (v := 0) C dX7_quietestCall_14 (by decide) ?_
    refine X_istore (pc := 15) (lv1 := [(0, _), (1, _), (2, _), (3, _), (4, _)]) C dX7_quietestCall_15 (by decide) rfl ?_
    refine L_X7_quietestCall C h1 hM (xok_mono g5 hM.u15) ?_ (mU S) 0 (by omega)
    refine X_iload_n (pc := 75) C 2 dX7_quietestCall_75 rfl rfl ?_
    exact X_iret (pc := 76) C (Nat.zero_le _) (Nat.zero_le _) dX7_quietestCall_76 ⟨by rw [if_pos g5], rfl⟩
  · have g5 := bz01 h5
    refine X_iconst (pc := 8) (v := 0) C dX7_quietestCall_8 (by decide) ?_
    exact X_iret (pc := 9) C (Nat.zero_le _) (Nat.zero_le _) dX7_quietestCall_9 ⟨by rw [if_neg g5], rfl⟩

set_option maxRecDepth 100000 in
set_option maxHeartbeats 4000000 in
theorem L1_X7_inconsistencies (C : XC p s m args meth c P A 4 RX7 cX7_inconsistencies (some .int)) {τ : XS} {S F L : Nat → Int32} (h1 : xI1 P) (hM : MI S) {x2 : Int32} (kx : XW p l e rm_X7_inconsistencies s m args below meth c P A 4 0 0 Q (mW τ S F L) 39 [(0, .ref (P.2.2.1 (.inr 9))), (1, .int (nI (cCnt (fun i => 1 < mLine S (nI i) (mK S)) (mL S)))), (2, .int x2), (3, .int (nI (mL S)))] []) : ∀ (k i : Nat), i + k = mL S → XW p l e rm_X7_inconsistencies s m args below meth c P A 4 0 0 Q (mW τ S F L) 11 [(0, .ref (P.2.2.1 (.inr 9))), (1, .int (nI (cCnt (fun i => 1 < mLine S (nI i) (mK S)) (i)))), (2, .int x2), (3, .int (nI (i)))] [] := by
  have hbd := hM.l6
  intro k
  induction k with
  | zero =>
    intro i hi
    have e9 : i = mL S := by omega
    subst e9
    refine X_iload_n (pc := 11) C 3 dX7_inconsistencies_11 rfl rfl ?_
    refine X_aload_n (pc := 12) C 0 dX7_inconsistencies_12 rfl rfl ?_
    refine G_X7_9 (pc := 13) C (by assumption) dX7_inconsistencies_13 ?_
    refine X_iconst (pc := 16) (v := 1) C dX7_inconsistencies_16 (by decide) ?_
    refine X_ialdN (j := 1) (pc := 17) C (by first | exact h1 _ (by decide) (by decide)) rfl (by omega) (by decide) dX7_inconsistencies_17 ?_
    rw [mW_10]
    rw [hM.l]
    refine X_icmp_ge (pc := 18) C 39 dX7_inconsistencies_18 (by decide) (fun h18 => ?_) (fun h18 => ?_)
    · skip
      exact kx
    · exact absurd (nI_le (Nat.le_refl _) (n31 (by omega))) h18
  | succ k ih =>
    intro i hi
    have hlt : i < mL S := by omega
    refine X_iload_n (pc := 11) C 3 dX7_inconsistencies_11 rfl rfl ?_
    refine X_aload_n (pc := 12) C 0 dX7_inconsistencies_12 rfl rfl ?_
    refine G_X7_9 (pc := 13) C (by assumption) dX7_inconsistencies_13 ?_
    refine X_iconst (pc := 16) (v := 1) C dX7_inconsistencies_16 (by decide) ?_
    refine X_ialdN (j := 1) (pc := 17) C (by first | exact h1 _ (by decide) (by decide)) rfl (by omega) (by decide) dX7_inconsistencies_17 ?_
    rw [mW_10]
    rw [hM.l]
    refine X_icmp_ge (pc := 18) C 39 dX7_inconsistencies_18 (by decide) (fun h18 => ?_) (fun h18 => ?_)
    · exact absurd (nle h18) (by omega)
    · skip
      refine X_aload_n (pc := 21) C 0 dX7_inconsistencies_21 rfl rfl ?_
      refine X_iload_n (pc := 22) C 3 dX7_inconsistencies_22 rfl rfl ?_
      refine K_X7_106 (pc := 23) C (by assumption) (c_X7_talkersOnLine l P _ _ _ _ h1 hM _) ⟨Nat.le_of_ble_eq_true rfl, Nat.le_of_ble_eq_true rfl⟩ ⟨rfl, rfl⟩ ⟨Nat.zero_le _, Nat.zero_le _⟩ (Nat.le_of_ble_eq_true rfl) dX7_inconsistencies_23 ?_
      refine X_iconst (pc := 26) (v := 1) C dX7_inconsistencies_26 (by decide) ?_
      refine X_icmp_le (pc := 27) C 33 dX7_inconsistencies_27 (by decide) (fun h27 => ?_) (fun h27 => ?_)
      · have g9 : ¬ (1 < mLine S (nI i) (mK S)) := fun q => absurd (nle (b := 1) h27 (Nat.le_trans (cCnt_le _ _) (by have := hM.k40; omega))) (by omega)
        first | refine X_iincN (pc := 33) (lv1 := [(0, _), (1, _), (2, _), (3, _)]) C dX7_inconsistencies_33 rfl (by decide) (by decide) rfl ?_ | refine X_iinc (pc := 33) (kk := 1) (lv1 := [(0, _), (1, _), (2, _), (3, _)]) C dX7_inconsistencies_33 rfl (by decide) (by decide) rfl ?_
        refine X_goto (pc := 36) C 11 dX7_inconsistencies_36 (by decide) ?_
        exact XW.eq rfl (by first | rw [cCnt_n (q := fun i => 1 < mLine S (nI i) (mK S)) g9] | rw [cCnt_y (q := fun i => 1 < mLine S (nI i) (mK S)) g9]) rfl (ih (i + 1) (by omega))
      · have g9 : 1 < mLine S (nI i) (mK S) := nnle (b := 1) h27 (Nat.le_trans (cCnt_le _ _) (by have := hM.k40; omega))
        first | refine X_iincN (pc := 30) (lv1 := [(0, _), (1, _), (2, _), (3, _)]) C dX7_inconsistencies_30 rfl (by decide) (by decide) rfl ?_ | refine X_iinc (pc := 30) (kk := 1) (lv1 := [(0, _), (1, _), (2, _), (3, _)]) C dX7_inconsistencies_30 rfl (by decide) (by decide) rfl ?_
        first | refine X_iincN (pc := 33) (lv1 := [(0, _), (1, _), (2, _), (3, _)]) C dX7_inconsistencies_33 rfl (by decide) (by decide) rfl ?_ | refine X_iinc (pc := 33) (kk := 1) (lv1 := [(0, _), (1, _), (2, _), (3, _)]) C dX7_inconsistencies_33 rfl (by decide) (by decide) rfl ?_
        refine X_goto (pc := 36) C 11 dX7_inconsistencies_36 (by decide) ?_
        exact XW.eq rfl (by first | rw [cCnt_n (q := fun i => 1 < mLine S (nI i) (mK S)) g9] | rw [cCnt_y (q := fun i => 1 < mLine S (nI i) (mK S)) g9]) rfl (ih (i + 1) (by omega))

set_option maxRecDepth 100000 in
set_option maxHeartbeats 4000000 in
theorem L2_X7_inconsistencies (C : XC p s m args meth c P A 4 RX7 cX7_inconsistencies (some .int)) {τ : XS} {S F L : Nat → Int32} (h1 : xI1 P) (hM : MI S) {a : Nat} {x2 : Int32} (kx : XW p l e rm_X7_inconsistencies s m args below meth c P A 4 0 0 Q (mW τ S F L) 69 [(0, .ref (P.2.2.1 (.inr 9))), (1, .int (nI (a + (cCnt (fun i => 1 < mTrk S (nI i) (mK S)) (mT S))))), (2, .int x2), (3, .int (nI (mT S)))] []) : ∀ (k i : Nat), i + k = mT S → XW p l e rm_X7_inconsistencies s m args below meth c P A 4 0 0 Q (mW τ S F L) 41 [(0, .ref (P.2.2.1 (.inr 9))), (1, .int (nI (a + (cCnt (fun i => 1 < mTrk S (nI i) (mK S)) (i))))), (2, .int x2), (3, .int (nI (i)))] [] := by
  have hbd := hM.t4
  intro k
  induction k with
  | zero =>
    intro i hi
    have e9 : i = mT S := by omega
    subst e9
    refine X_iload_n (pc := 41) C 3 dX7_inconsistencies_41 rfl rfl ?_
    refine X_aload_n (pc := 42) C 0 dX7_inconsistencies_42 rfl rfl ?_
    refine G_X7_9 (pc := 43) C (by assumption) dX7_inconsistencies_43 ?_
    refine X_iconst (pc := 46) (v := 3) C dX7_inconsistencies_46 (by decide) ?_
    refine X_ialdN (j := 3) (pc := 47) C (by first | exact h1 _ (by decide) (by decide)) rfl (by omega) (by decide) dX7_inconsistencies_47 ?_
    rw [mW_10]
    rw [hM.t]
    refine X_icmp_ge (pc := 48) C 69 dX7_inconsistencies_48 (by decide) (fun h48 => ?_) (fun h48 => ?_)
    · skip
      exact kx
    · exact absurd (nI_le (Nat.le_refl _) (n31 (by omega))) h48
  | succ k ih =>
    intro i hi
    have hlt : i < mT S := by omega
    refine X_iload_n (pc := 41) C 3 dX7_inconsistencies_41 rfl rfl ?_
    refine X_aload_n (pc := 42) C 0 dX7_inconsistencies_42 rfl rfl ?_
    refine G_X7_9 (pc := 43) C (by assumption) dX7_inconsistencies_43 ?_
    refine X_iconst (pc := 46) (v := 3) C dX7_inconsistencies_46 (by decide) ?_
    refine X_ialdN (j := 3) (pc := 47) C (by first | exact h1 _ (by decide) (by decide)) rfl (by omega) (by decide) dX7_inconsistencies_47 ?_
    rw [mW_10]
    rw [hM.t]
    refine X_icmp_ge (pc := 48) C 69 dX7_inconsistencies_48 (by decide) (fun h48 => ?_) (fun h48 => ?_)
    · exact absurd (nle h48) (by omega)
    · skip
      refine X_aload_n (pc := 51) C 0 dX7_inconsistencies_51 rfl rfl ?_
      refine X_iload_n (pc := 52) C 3 dX7_inconsistencies_52 rfl rfl ?_
      refine K_X7_109 (pc := 53) C (by assumption) (c_X7_talkersOnTrunk l P _ _ _ _ h1 hM _) ⟨Nat.le_of_ble_eq_true rfl, Nat.le_of_ble_eq_true rfl⟩ ⟨rfl, rfl⟩ ⟨Nat.zero_le _, Nat.zero_le _⟩ (Nat.le_of_ble_eq_true rfl) dX7_inconsistencies_53 ?_
      refine X_iconst (pc := 56) (v := 1) C dX7_inconsistencies_56 (by decide) ?_
      refine X_icmp_le (pc := 57) C 63 dX7_inconsistencies_57 (by decide) (fun h57 => ?_) (fun h57 => ?_)
      · have g9 : ¬ (1 < mTrk S (nI i) (mK S)) := fun q => absurd (nle (b := 1) h57 (Nat.le_trans (cCnt_le _ _) (by have := hM.k40; omega))) (by omega)
        first | refine X_iincN (pc := 63) (lv1 := [(0, _), (1, _), (2, _), (3, _)]) C dX7_inconsistencies_63 rfl (by decide) (by decide) rfl ?_ | refine X_iinc (pc := 63) (kk := 1) (lv1 := [(0, _), (1, _), (2, _), (3, _)]) C dX7_inconsistencies_63 rfl (by decide) (by decide) rfl ?_
        refine X_goto (pc := 66) C 41 dX7_inconsistencies_66 (by decide) ?_
        exact XW.eq rfl (by first | rw [cCnt_n (q := fun i => 1 < mTrk S (nI i) (mK S)) g9] | (rw [cCnt_y (q := fun i => 1 < mTrk S (nI i) (mK S)) g9]; rfl)) rfl (ih (i + 1) (by omega))
      · have g9 : 1 < mTrk S (nI i) (mK S) := nnle (b := 1) h57 (Nat.le_trans (cCnt_le _ _) (by have := hM.k40; omega))
        first | refine X_iincN (pc := 60) (lv1 := [(0, _), (1, _), (2, _), (3, _)]) C dX7_inconsistencies_60 rfl (by decide) (by decide) rfl ?_ | refine X_iinc (pc := 60) (kk := 1) (lv1 := [(0, _), (1, _), (2, _), (3, _)]) C dX7_inconsistencies_60 rfl (by decide) (by decide) rfl ?_
        first | refine X_iincN (pc := 63) (lv1 := [(0, _), (1, _), (2, _), (3, _)]) C dX7_inconsistencies_63 rfl (by decide) (by decide) rfl ?_ | refine X_iinc (pc := 63) (kk := 1) (lv1 := [(0, _), (1, _), (2, _), (3, _)]) C dX7_inconsistencies_63 rfl (by decide) (by decide) rfl ?_
        refine X_goto (pc := 66) C 41 dX7_inconsistencies_66 (by decide) ?_
        exact XW.eq rfl (by first | rw [cCnt_n (q := fun i => 1 < mTrk S (nI i) (mK S)) g9] | (rw [cCnt_y (q := fun i => 1 < mTrk S (nI i) (mK S)) g9]; rfl)) rfl (ih (i + 1) (by omega))

set_option maxRecDepth 100000 in
set_option maxHeartbeats 4000000 in
theorem L3_X7_inconsistencies (C : XC p s m args meth c P A 4 RX7 cX7_inconsistencies (some .int)) {τ : XS} {S F L : Nat → Int32} (h1 : xI1 P) (hM : MI S) {x1 : Int32} (kx : XW p l e rm_X7_inconsistencies s m args below meth c P A 4 0 0 Q (mW τ S F L) 96 [(0, .ref (P.2.2.1 (.inr 9))), (1, .int x1), (2, .int (cSum (fun u => sU S 3 u) (mU S))), (3, .int (nI (mU S)))] []) : ∀ (k i : Nat), i + k = mU S → XW p l e rm_X7_inconsistencies s m args below meth c P A 4 0 0 Q (mW τ S F L) 71 [(0, .ref (P.2.2.1 (.inr 9))), (1, .int x1), (2, .int (cSum (fun u => sU S 3 u) (i))), (3, .int (nI (i)))] [] := by
  have hbd := hM.u15
  intro k
  induction k with
  | zero =>
    intro i hi
    have e9 : i = mU S := by omega
    subst e9
    refine X_iload_n (pc := 71) C 3 dX7_inconsistencies_71 rfl rfl ?_
    refine X_aload_n (pc := 72) C 0 dX7_inconsistencies_72 rfl rfl ?_
    refine G_X7_9 (pc := 73) C (by assumption) dX7_inconsistencies_73 ?_
    refine X_iconst (pc := 76) (v := 4) C dX7_inconsistencies_76 (by decide) ?_
    refine X_ialdN (j := 4) (pc := 77) C (by first | exact h1 _ (by decide) (by decide)) rfl (by omega) (by decide) dX7_inconsistencies_77 ?_
    rw [mW_10]
    rw [hM.u]
    refine X_icmp_ge (pc := 78) C 96 dX7_inconsistencies_78 (by decide) (fun h78 => ?_) (fun h78 => ?_)
    · skip
      exact kx
    · exact absurd (nI_le (Nat.le_refl _) (n31 (by omega))) h78
  | succ k ih =>
    intro i hi
    have hlt : i < mU S := by omega
    refine X_iload_n (pc := 71) C 3 dX7_inconsistencies_71 rfl rfl ?_
    refine X_aload_n (pc := 72) C 0 dX7_inconsistencies_72 rfl rfl ?_
    refine G_X7_9 (pc := 73) C (by assumption) dX7_inconsistencies_73 ?_
    refine X_iconst (pc := 76) (v := 4) C dX7_inconsistencies_76 (by decide) ?_
    refine X_ialdN (j := 4) (pc := 77) C (by first | exact h1 _ (by decide) (by decide)) rfl (by omega) (by decide) dX7_inconsistencies_77 ?_
    rw [mW_10]
    rw [hM.u]
    refine X_icmp_ge (pc := 78) C 96 dX7_inconsistencies_78 (by decide) (fun h78 => ?_) (fun h78 => ?_)
    · exact absurd (nle h78) (by omega)
    · skip
      refine X_iload_n (pc := 81) C 2 dX7_inconsistencies_81 rfl rfl ?_
      refine X_aload_n (pc := 82) C 0 dX7_inconsistencies_82 rfl rfl ?_
      refine X_iload_n (pc := 83) C 3 dX7_inconsistencies_83 rfl rfl ?_
      refine X_iconst (pc := 84) (v := 3) C dX7_inconsistencies_84 (by decide) ?_
      refine K_X7_92 (pc := 85) C (by assumption) (c_X7_ofUser l P _ _ _ _ h1 i 3 (by omega) (by decide) _ 3 rfl rfl) ⟨Nat.le_of_ble_eq_true rfl, Nat.le_of_ble_eq_true rfl⟩ ⟨rfl, rfl⟩ ⟨Nat.zero_le _, Nat.zero_le _⟩ (Nat.le_of_ble_eq_true rfl) dX7_inconsistencies_85 ?_
      refine X_iadd (pc := 88) C dX7_inconsistencies_88 ?_
      refine X_istore_n (pc := 89) (lv1 := [(0, _), (1, _), (2, _), (3, _)]) C 2 dX7_inconsistencies_89 rfl (by decide) rfl ?_
      first | refine X_iincN (pc := 90) (lv1 := [(0, _), (1, _), (2, _), (3, _)]) C dX7_inconsistencies_90 rfl (by decide) (by decide) rfl ?_ | refine X_iinc (pc := 90) (kk := 1) (lv1 := [(0, _), (1, _), (2, _), (3, _)]) C dX7_inconsistencies_90 rfl (by decide) (by decide) rfl ?_
      refine X_goto (pc := 93) C 71 dX7_inconsistencies_93 (by decide) ?_
      exact ih (i + 1) (by omega)

set_option maxRecDepth 100000 in
set_option maxHeartbeats 4000000 in
theorem L4_X7_inconsistencies (C : XC p s m args meth c P A 4 RX7 cX7_inconsistencies (some .int)) {τ : XS} {S F L : Nat → Int32} (h1 : xI1 P) (hM : MI S) {x1 b : Int32} (kx : XW p l e rm_X7_inconsistencies s m args below meth c P A 4 0 0 Q (mW τ S F L) 132 [(0, .ref (P.2.2.1 (.inr 9))), (1, .int x1), (2, .int (mLess S b (mK S))), (3, .int (nI (mK S)))] []) : ∀ (k i : Nat), i + k = mK S → XW p l e rm_X7_inconsistencies s m args below meth c P A 4 0 0 Q (mW τ S F L) 98 [(0, .ref (P.2.2.1 (.inr 9))), (1, .int x1), (2, .int (mLess S b (i))), (3, .int (nI (i)))] [] := by
  have hbd := hM.k40
  intro k
  induction k with
  | zero =>
    intro i hi
    have e9 : i = mK S := by omega
    subst e9
    refine X_iload_n (pc := 98) C 3 dX7_inconsistencies_98 rfl rfl ?_
    refine X_aload_n (pc := 99) C 0 dX7_inconsistencies_99 rfl rfl ?_
    refine G_X7_9 (pc := 100) C (by assumption) dX7_inconsistencies_100 ?_
    refine X_iconst (pc := 103) (v := 5) C dX7_inconsistencies_103 (by decide) ?_
    refine X_ialdN (j := 5) (pc := 104) C (by first | exact h1 _ (by decide) (by decide)) rfl (by omega) (by decide) dX7_inconsistencies_104 ?_
    rw [mW_10]
    rw [hM.k]
    refine X_icmp_ge (pc := 105) C 132 dX7_inconsistencies_105 (by decide) (fun h105 => ?_) (fun h105 => ?_)
    · skip
      exact kx
    · exact absurd (nI_le (Nat.le_refl _) (n31 (by omega))) h105
  | succ k ih =>
    intro i hi
    have hlt : i < mK S := by omega
    refine X_iload_n (pc := 98) C 3 dX7_inconsistencies_98 rfl rfl ?_
    refine X_aload_n (pc := 99) C 0 dX7_inconsistencies_99 rfl rfl ?_
    refine G_X7_9 (pc := 100) C (by assumption) dX7_inconsistencies_100 ?_
    refine X_iconst (pc := 103) (v := 5) C dX7_inconsistencies_103 (by decide) ?_
    refine X_ialdN (j := 5) (pc := 104) C (by first | exact h1 _ (by decide) (by decide)) rfl (by omega) (by decide) dX7_inconsistencies_104 ?_
    rw [mW_10]
    rw [hM.k]
    refine X_icmp_ge (pc := 105) C 132 dX7_inconsistencies_105 (by decide) (fun h105 => ?_) (fun h105 => ?_)
    · exact absurd (nle h105) (by omega)
    · skip
      refine X_aload_n (pc := 108) C 0 dX7_inconsistencies_108 rfl rfl ?_
      refine X_iload_n (pc := 109) C 3 dX7_inconsistencies_109 rfl rfl ?_
      refine X_iconst (pc := 110) (v := 4) C dX7_inconsistencies_110 (by decide) ?_
      refine K_X7_88 (pc := 111) C (by assumption) (c_X7_ofCall l P _ _ _ _ h1 i 4 (by omega) (by decide) _ 4 rfl rfl) ⟨Nat.le_of_ble_eq_true rfl, Nat.le_of_ble_eq_true rfl⟩ ⟨rfl, rfl⟩ ⟨Nat.zero_le _, Nat.zero_le _⟩ (Nat.le_of_ble_eq_true rfl) dX7_inconsistencies_111 ?_
      refine X_iconst (pc := 114) (v := 2) C dX7_inconsistencies_114 (by decide) ?_
      refine X_icmp_ne (pc := 115) C 126 dX7_inconsistencies_115 (by decide) (fun h115 => ?_) (fun h115 => ?_)
      · skip
        first | refine X_iincN (pc := 126) (lv1 := [(0, _), (1, _), (2, _), (3, _)]) C dX7_inconsistencies_126 rfl (by decide) (by decide) rfl ?_ | refine X_iinc (pc := 126) (kk := 1) (lv1 := [(0, _), (1, _), (2, _), (3, _)]) C dX7_inconsistencies_126 rfl (by decide) (by decide) rfl ?_
        refine X_goto (pc := 129) C 98 dX7_inconsistencies_129 (by decide) ?_
        exact XW.eq rfl (by simp [mLess, h115]) rfl (ih (i + 1) (by omega))
      · skip
        refine X_iload_n (pc := 118) C 2 dX7_inconsistencies_118 rfl rfl ?_
        refine X_aload_n (pc := 119) C 0 dX7_inconsistencies_119 rfl rfl ?_
        refine X_iload_n (pc := 120) C 3 dX7_inconsistencies_120 rfl rfl ?_
        refine K_X7_142 (pc := 121) C (by assumption) (c_X7_cost l P _ _ _ _ h1 hM i (by omega) _ rfl) ⟨Nat.le_of_ble_eq_true rfl, Nat.le_of_ble_eq_true rfl⟩ ⟨rfl, rfl⟩ ⟨Nat.zero_le _, Nat.zero_le _⟩ (Nat.le_of_ble_eq_true rfl) dX7_inconsistencies_121 ?_
        refine X_isub (pc := 124) C dX7_inconsistencies_124 ?_
        refine X_istore_n (pc := 125) (lv1 := [(0, _), (1, _), (2, _), (3, _)]) C 2 dX7_inconsistencies_125 rfl (by decide) rfl ?_
        first | refine X_iincN (pc := 126) (lv1 := [(0, _), (1, _), (2, _), (3, _)]) C dX7_inconsistencies_126 rfl (by decide) (by decide) rfl ?_ | refine X_iinc (pc := 126) (kk := 1) (lv1 := [(0, _), (1, _), (2, _), (3, _)]) C dX7_inconsistencies_126 rfl (by decide) (by decide) rfl ?_
        refine X_goto (pc := 129) C 98 dX7_inconsistencies_129 (by decide) ?_
        exact XW.eq rfl (by simp [mLess, h115]) rfl (ih (i + 1) (by omega))

set_option maxRecDepth 100000 in
set_option maxHeartbeats 4000000 in
theorem c_X7_inconsistencies (l : Launch) (P : XP) (τ : XS) (S F L : Nat → Int32) (h1 : xI1 P) (hM : MI S) : XF l yX7_inconsistencies cX7_inconsistencies 4 (some .int) rm_X7_inconsistencies P [.ref (P.2.2.1 (.inr 9))] (mW τ S F L) (some (.int (nI ((cCnt (fun i => 1 < mLine S (nI i) (mK S)) (mL S)) + (cCnt (fun i => 1 < mTrk S (nI i) (mK S)) (mT S))) + xabs (S 2 - (S 2 - nI (mCords S (mK S))) - nI (mCords S (mK S))) + xabs (mLess S (cSum (fun u => sU S 3 u) (mU S)) (mK S))))) (mW τ S (upd F 7 0) L) := by
  refine XM.of (by decide +kernel) (Nat.le_of_ble_eq_true rfl) (fun p e s m args below meth c A C => ?_)
  replace C : XC p s m args meth c P A 4 RX7 cX7_inconsistencies (some .int) := C
  refine XW.eq (lv' := [(0, _)]) rfl rfl rfl ?_
  refine X_aload_n (pc := 0) C 0 dX7_inconsistencies_0 rfl rfl ?_
  refine X_iconst (pc := 1) (v := 0) C dX7_inconsistencies_1 (by decide) ?_
  refine U_X7_67 (pc := 2) C (by assumption) dX7_inconsistencies_2 ?_
  rw [mW_u9]
  refine X_iconst (pc := 5) (v := 0) C dX7_inconsistencies_5 (by decide) ?_
  refine X_istore_n (pc := 6) (lv1 := [(0, _), (1, _)]) C 1 dX7_inconsistencies_6 rfl (by decide) rfl ?_
  refine X_iconst (pc := 7) (v := 0) C dX7_inconsistencies_7 (by decide) ?_
  refine X_istore_n (pc := 8) (lv1 := [(0, _), (1, _), (2, _)]) C 2 dX7_inconsistencies_8 rfl (by decide) rfl ?_
  refine X_iconst (pc := 9) (v := 0) C dX7_inconsistencies_9 (by decide) ?_
  refine X_istore_n (pc := 10) (lv1 := [(0, _), (1, _), (2, _), (3, _)]) C 3 dX7_inconsistencies_10 rfl (by decide) rfl ?_
  refine L1_X7_inconsistencies C h1 hM ?_ (mL S) 0 (by omega)
  refine X_iconst (pc := 39) (v := 0) C dX7_inconsistencies_39 (by decide) ?_
  refine X_istore_n (pc := 40) (lv1 := [(0, _), (1, _), (2, _), (3, _)]) C 3 dX7_inconsistencies_40 rfl (by decide) rfl ?_
  refine L2_X7_inconsistencies (a := (cCnt (fun i => 1 < mLine S (nI i) (mK S)) (mL S))) C h1 hM ?_ (mT S) 0 (by omega)
  refine X_iconst (pc := 69) (v := 0) C dX7_inconsistencies_69 (by decide) ?_
  refine X_istore_n (pc := 70) (lv1 := [(0, _), (1, _), (2, _), (3, _)]) C 3 dX7_inconsistencies_70 rfl (by decide) rfl ?_
  refine L3_X7_inconsistencies C h1 hM ?_ (mU S) 0 (by omega)
  refine X_iconst (pc := 96) (v := 0) C dX7_inconsistencies_96 (by decide) ?_
  refine X_istore_n (pc := 97) (lv1 := [(0, _), (1, _), (2, _), (3, _)]) C 3 dX7_inconsistencies_97 rfl (by decide) rfl ?_
  refine L4_X7_inconsistencies (b := cSum (fun u => sU S 3 u) (mU S)) C h1 hM ?_ (mK S) 0 (by omega)
  refine X_aload_n (pc := 132) C 0 dX7_inconsistencies_132 rfl rfl ?_
  refine G_X7_9 (pc := 133) C (by assumption) dX7_inconsistencies_133 ?_
  refine X_iconst (pc := 136) (v := 2) C dX7_inconsistencies_136 (by decide) ?_
  refine X_ialdN (j := 2) (pc := 137) C (by first | exact h1 _ (by decide) (by decide)) rfl (by omega) (by decide) dX7_inconsistencies_137 ?_
  rw [mW_10]
  refine X_aload_n (pc := 138) C 0 dX7_inconsistencies_138 rfl rfl ?_
  refine G_X7_9 (pc := 139) C (by assumption) dX7_inconsistencies_139 ?_
  refine X_iconst (pc := 142) (v := 2) C dX7_inconsistencies_142 (by decide) ?_
  refine X_ialdN (j := 2) (pc := 143) C (by first | exact h1 _ (by decide) (by decide)) rfl (by omega) (by decide) dX7_inconsistencies_143 ?_
  rw [mW_10]
  refine X_aload_n (pc := 144) C 0 dX7_inconsistencies_144 rfl rfl ?_
  refine K_X7_112 (pc := 145) C (by assumption) (c_X7_cordsUsed l P _ _ _ _ h1 hM) ⟨Nat.le_of_ble_eq_true rfl, Nat.le_of_ble_eq_true rfl⟩ ⟨rfl, rfl⟩ ⟨Nat.zero_le _, Nat.zero_le _⟩ (Nat.le_of_ble_eq_true rfl) dX7_inconsistencies_145 ?_
  refine X_isub (pc := 148) C dX7_inconsistencies_148 ?_
  refine X_isub (pc := 149) C dX7_inconsistencies_149 ?_
  refine X_aload_n (pc := 150) C 0 dX7_inconsistencies_150 rfl rfl ?_
  refine K_X7_112 (pc := 151) C (by assumption) (c_X7_cordsUsed l P _ _ _ _ h1 hM) ⟨Nat.le_of_ble_eq_true rfl, Nat.le_of_ble_eq_true rfl⟩ ⟨rfl, rfl⟩ ⟨Nat.zero_le _, Nat.zero_le _⟩ (Nat.le_of_ble_eq_true rfl) dX7_inconsistencies_151 ?_
  refine X_isub (pc := 154) C dX7_inconsistencies_154 ?_
  refine X_istore_n (pc := 155) (lv1 := [(0, _), (1, _), (2, _), (3, _)]) C 3 dX7_inconsistencies_155 rfl (by decide) rfl ?_
  refine X_iload_n (pc := 156) C 1 dX7_inconsistencies_156 rfl rfl ?_
  refine X_iload_n (pc := 157) C 3 dX7_inconsistencies_157 rfl rfl ?_
  refine X_mabs (pc := 158) C m_m_X7_321 (Nat.le_of_ble_eq_true rfl) (Nat.le_of_ble_eq_true rfl) ⟨Nat.zero_le _, Nat.zero_le _⟩ dX7_inconsistencies_158 ?_
  refine X_iadd (pc := 161) C dX7_inconsistencies_161 ?_
  refine X_iload_n (pc := 162) C 2 dX7_inconsistencies_162 rfl rfl ?_
  refine X_mabs (pc := 163) C m_m_X7_321 (Nat.le_of_ble_eq_true rfl) (Nat.le_of_ble_eq_true rfl) ⟨Nat.zero_le _, Nat.zero_le _⟩ dX7_inconsistencies_163 ?_
  refine X_iadd (pc := 166) C dX7_inconsistencies_166 ?_
  exact X_iret (pc := 167) C (Nat.zero_le _) (Nat.zero_le _) dX7_inconsistencies_167 ⟨rfl, rfl⟩

end XP33

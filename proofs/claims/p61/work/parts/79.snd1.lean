/-! isSound, WALKED -/
section X79a
variable {p : Program} {l : Launch} {e : Env} {R : Room} {s : State} {m : MethodId} {args : Array Value} {below : List Frame} {meth : Method} {c : Code} {P : XP} {A : Nat → Prop} {nL cells slots : Nat} {Q : State → Prop} {own : String} {cc : ByteArray} {ret : Option FieldType} {σ : XS} {pc : Nat} {lv : List (Nat × Value)} {st : List Value}
theorem X_setEq (C : XC p s m args meth c P A nL own cc ret) {x y : Int32} (d0 : decode cc pc = .ok (.if_icmp .ne 7, 3)) (d1 : decode cc (pc + 3) = .ok (.iconst 1, 1)) (d2 : decode cc (pc + 4) = .ok (.goto 4, 3)) (d3 : decode cc (pc + 7) = .ok (.iconst 0, 1)) (k : XW p l e R s m args below meth c P A nL cells slots Q σ (pc + 8) lv (.int (if x = y then 1 else 0) :: st)) : XW p l e R s m args below meth c P A nL cells slots Q σ pc lv (.int y :: .int x :: st) := by
  refine X_icmp_ne C (pc + 7) d0 (by omega) (fun h => ?_) (fun h => ?_)
  · rw [if_neg h] at k
    exact X_iconst (v := 0) C d3 (by decide) k
  · rw [if_pos h] at k
    exact X_iconst (v := 1) C d1 (by decide) (X_goto C (pc + 8) d2 (by omega) k)
theorem X_setLt (C : XC p s m args meth c P A nL own cc ret) {x y : Int32} (d0 : decode cc pc = .ok (.if_icmp .ge 7, 3)) (d1 : decode cc (pc + 3) = .ok (.iconst 1, 1)) (d2 : decode cc (pc + 4) = .ok (.goto 4, 3)) (d3 : decode cc (pc + 7) = .ok (.iconst 0, 1)) (k : XW p l e R s m args below meth c P A nL cells slots Q σ (pc + 8) lv (.int (if x < y then 1 else 0) :: st)) : XW p l e R s m args below meth c P A nL cells slots Q σ pc lv (.int y :: .int x :: st) := by
  refine X_icmp_ge C (pc + 7) d0 (by omega) (fun h => ?_) (fun h => ?_)
  · rw [if_neg (Int32.not_lt.mpr h)] at k
    exact X_iconst (v := 0) C d3 (by decide) k
  · rw [if_pos (Int32.not_le.mp h)] at k
    exact X_iconst (v := 1) C d1 (by decide) (X_goto C (pc + 8) d2 (by omega) k)
theorem X_or3 (C : XC p s m args meth c P A nL own cc ret) {x : Int32} {i : Nat} (d0 : decode cc pc = .ok (.ifCond .eq 9, 3)) (d1 : decode cc (pc + 3) = .ok (.iload i, 2)) (d2 : decode cc (pc + 5) = .ok (.iconst 3, 1)) (d3 : decode cc (pc + 6) = .ok (.if_icmp .ne 7, 3)) (d4 : decode cc (pc + 9) = .ok (.iconst 1, 1)) (d5 : decode cc (pc + 10) = .ok (.goto 4, 3)) (d6 : decode cc (pc + 13) = .ok (.iconst 0, 1)) (hl : xlk lv i = some (.int x)) (k : XW p l e R s m args below meth c P A nL cells slots Q σ (pc + 14) lv (.int (if x = 0 ∨ x = 3 then 1 else 0) :: st)) : XW p l e R s m args below meth c P A nL cells slots Q σ pc lv (.int x :: st) := by
  refine X_if_eq C (pc + 9) d0 (by omega) (fun h => ?_) (fun h => ?_)
  · rw [if_pos (Or.inl h)] at k
    exact X_iconst (v := 1) C d4 (by decide) (X_goto C (pc + 14) d5 (by omega) k)
  · refine X_iload C d1 hl (X_iconst (v := 3) C d2 (by decide) (X_icmp_ne C (pc + 13) d3 (by omega) (fun h3 => ?_) (fun h3 => ?_)))
    · rw [if_neg (fun q => q.elim h h3)] at k
      exact X_iconst (v := 0) C d6 (by decide) k
    · rw [if_pos (Or.inr h3)] at k
      exact X_iconst (v := 1) C d4 (by decide) (X_goto C (pc + 14) d5 (by omega) k)
/-! two arrays behind the world: lines, trunks -/
abbrev wS (P : XP) (aL aT : Nat) (f g : Nat → Int32) : va_W := xRaw P ++ [(aL, .inl (P.2.1 0, 6, .inl f)), (aT, .inl (P.2.1 0, 4, .inl g))]
theorem wS_0 {aL aT : Nat} {f g : Nat → Int32} : (xRaw (xPR P (wS P aL aT f g)))[(xRaw P).length]? = some (aL, .inl (P.2.1 0, 6, .inl f)) := by
  show (xRaw P ++ _)[(xRaw P).length]? = _
  rw [List.getElem?_append_right (Nat.le_refl _), Nat.sub_self]; rfl
theorem wS_1 {aL aT : Nat} {f g : Nat → Int32} : (xRaw (xPR P (wS P aL aT f g)))[(xRaw P).length + 1]? = some (aT, .inl (P.2.1 0, 4, .inl g)) := by
  show (xRaw P ++ _)[(xRaw P).length + 1]? = _
  rw [List.getElem?_append_right (by omega), Nat.add_sub_cancel_left]; rfl
theorem wS_s0 {aL aT : Nat} {f g f1 : Nat → Int32} : (xRaw (xPR P (wS P aL aT f g))).set (xRaw P).length (aL, .inl (P.2.1 0, 6, .inl f1)) = wS P aL aT f1 g := by
  show (xRaw P ++ _).set (xRaw P).length _ = _
  rw [List.set_append_right _ _ (Nat.le_refl _), Nat.sub_self]; rfl
theorem wS_s1 {aL aT : Nat} {f g g1 : Nat → Int32} : (xRaw (xPR P (wS P aL aT f g))).set ((xRaw P).length + 1) (aT, .inl (P.2.1 0, 4, .inl g1)) = wS P aL aT f g1 := by
  show (xRaw P ++ _).set ((xRaw P).length + 1) _ = _
  rw [List.set_append_right _ _ (by omega), Nat.add_sub_cancel_left]; rfl
theorem X_lnL {aL aT : Nat} {f g : Nat → Int32} (C : XC p s m args meth c (xPR P (wS P aL aT f g)) A nL own cc ret) {j : Nat} (hj : j < 6) (d : decode cc pc = .ok (.iaload, 1)) (kk : XW p l e R s m args below meth c (xPR P (wS P aL aT f g)) A nL cells slots Q σ (pc + 1) lv (.int (f j) :: st)) : XW p l e R s m args below meth c (xPR P (wS P aL aT f g)) A nL cells slots Q σ pc lv (.int (nI j) :: .ref aL :: st) := X_rIald C (xRaw P).length wS_0 hj (by decide) d kk
theorem X_lnT {aL aT : Nat} {f g : Nat → Int32} (C : XC p s m args meth c (xPR P (wS P aL aT f g)) A nL own cc ret) {j : Nat} (hj : j < 4) (d : decode cc pc = .ok (.iaload, 1)) (kk : XW p l e R s m args below meth c (xPR P (wS P aL aT f g)) A nL cells slots Q σ (pc + 1) lv (.int (g j) :: st)) : XW p l e R s m args below meth c (xPR P (wS P aL aT f g)) A nL cells slots Q σ pc lv (.int (nI j) :: .ref aT :: st) := X_rIald C ((xRaw P).length + 1) wS_1 hj (by decide) d kk
theorem X_stL {aL aT : Nat} {f g : Nat → Int32} {x : Int32} (C : XC p s m args meth c (xPR P (wS P aL aT f g)) A nL own cc ret) {j : Nat} (hj : j < 6) (d : decode cc pc = .ok (.iastore, 1)) (kk : XC p s m args meth c (xPR P (wS P aL aT (upd f j x) g)) A nL own cc ret → XW p l e R s m args below meth c (xPR P (wS P aL aT (upd f j x) g)) A nL cells slots Q σ (pc + 1) lv st) : XW p l e R s m args below meth c (xPR P (wS P aL aT f g)) A nL cells slots Q σ pc lv (.int x :: .int (nI j) :: .ref aL :: st) := by
  refine X_rIast C (xRaw P).length wS_0 hj (by decide) d (fun C1 => ?_)
  rw [wS_s0 (P := P)] at C1 ⊢
  exact kk C1
theorem X_stT {aL aT : Nat} {f g : Nat → Int32} {x : Int32} (C : XC p s m args meth c (xPR P (wS P aL aT f g)) A nL own cc ret) {j : Nat} (hj : j < 4) (d : decode cc pc = .ok (.iastore, 1)) (kk : XC p s m args meth c (xPR P (wS P aL aT f (upd g j x))) A nL own cc ret → XW p l e R s m args below meth c (xPR P (wS P aL aT f (upd g j x))) A nL cells slots Q σ (pc + 1) lv st) : XW p l e R s m args below meth c (xPR P (wS P aL aT f g)) A nL cells slots Q σ pc lv (.int x :: .int (nI j) :: .ref aT :: st) := by
  refine X_rIast C ((xRaw P).length + 1) wS_1 hj (by decide) d (fun C1 => ?_)
  rw [wS_s1 (P := P)] at C1 ⊢
  exact kk C1
theorem cN_nI {a : Nat} (h : a ≤ 1000000) : cN (nI a) = a := cNn h
theorem if_iff {p q : Prop} [Decidable p] [Decidable q] (h : p ↔ q) : (if p then (1 : Int32) else 0) = if q then 1 else 0 := by
  by_cases g : q
  · rw [if_pos g, if_pos (h.mpr g)]
  · rw [if_neg g, if_neg (fun z => g (h.mp z))]
theorem XA.pr {w : va_W} (h : XA P) : XA (xPR P w) := h
theorem onesN (l : Launch) (P : XP) (σ : XS) (x : Int32) {y : Int32} (h : cSum (fun k => x >>> (nI k &&& 31) &&& 1) 31 = y) : XF l yL_ones cL_ones 3 (some .int) rm_L_ones P [.int x] σ (some (.int y)) σ := h ▸ c_L_ones l P σ x
theorem a_lineOfN {S : Nat → Int32} {o ch : Nat} (l : Launch) (hl0 : l.stackTraces = false) (P : XP) (hP : XA P) (σ : XS) (h : GV σ S o ch) {u a : Nat} (hu : u < mU S) (e : sU S 0 u = nI a) : AK l yL_lineOf cL_lineOf 3 [(0, 5, 6, 19)] (rmL 2 rm_X6_lineOf) P [.ref (P.2.2.1 (.inr 0)), .int (nI u)] σ (nI a) := e ▸ a_lineOf l hl0 P hP σ h hu
end X79a
section X79
variable {p : Program} {l : Launch} {e : Env} {R : Room} {s : State} {m : MethodId} {args : Array Value} {below : List Frame} {meth : Method} {c : Code} {P : XP} {A : Nat → Prop}  {Q : State → Prop} {cc : ByteArray} {ret : Option FieldType} {σ : XS} {pc : Nat} {lv : List (Nat × Value)} {st : List Value}
variable {S : Nat → Int32} {o ch : Nat} {k T cl u r1 r2 : Nat} {mo nu : Int32}

set_option maxRecDepth 100000 in
set_option maxHeartbeats 4000000 in
theorem sA {co wa ta : Int32} (hl0 : l.stackTraces = false) (C : XC p s m args meth c P A 17 RL cL_isSound (some .boolean)) (hP : XA P) (hG : GV σ S o ch) (hp : PS S T) (hcl : cl < mK S) (hk : k + 40 ≤ 3000) (kx : XW p l e rm_L_isSound s m args below meth c P A 17 (k + 6) (6 * (k + 6)) Q σ 160 [(0, .ref (P.2.2.1 (.inr 0))), (1, .ref r1), (2, .ref r2), (3, .int co), (4, .int mo), (5, .int wa), (6, .int ta), (7, .int nu), (8, .int (nI cl)), (9, .int (sC S 4 cl)), (10, .int (sC S 2 cl)), (11, .int (sC S 0 cl)), (12, .int (sC S 1 cl))] []) : XW p l e rm_L_isSound s m args below meth c P A 17 (k) (6 * (k)) Q σ 38 [(0, .ref (P.2.2.1 (.inr 0))), (1, .ref r1), (2, .ref r2), (3, .int co), (4, .int mo), (5, .int wa), (6, .int ta), (7, .int nu), (8, .int (nI cl))] [] := by
  have hM := hG.b.x.i
  have hpc := hp.c hcl
  have hA : ¬ (if sC S 2 cl = -1 then (1 : Int32) else 0) = if sC S 1 cl = -1 then 1 else 0 := by
    rcases (hM.c hcl).two hM.u15 hM.t4 with ⟨q1, q2, -⟩ | ⟨q1, q2, -⟩
    · rw [if_pos q1, if_neg q2]; decide
    · rw [if_neg q2, if_pos q1]; decide
  have hB : (if sC S 5 cl = -1 then (1 : Int32) else 0) = if sC S 4 cl = 0 ∨ sC S 4 cl = 3 then 1 else 0 := if_iff hpc.1
  have hE : (if sC S 6 cl = -1 then (1 : Int32) else 0) = if sC S 4 cl < 2 then 1 else 0 := by
    refine if_iff (hpc.2.1.trans ?_)
    rcases st_of hG.b.x hcl with q | q | q | q <;> rw [q] <;> decide
  refine X_aload_n (pc := 38) C 0 dL_isSound_38 rfl rfl ?_
  refine X_iload (pc := 39) C dL_isSound_39 rfl ?_
  refine X_ask (n := 2) (pc := 41) C [.ref _, .int _] (a_callState l hl0 _ hP σ hG hcl) ⟨rfl, rfl⟩ m_h_L_callState m_m_L_133 m_t_L_callState m_n_L ⟨by decide +kernel, by decide +kernel, by decide +kernel⟩ ⟨Nat.le_of_ble_eq_true rfl, Nat.le_of_ble_eq_true rfl⟩ ⟨by show _ ≤ 3000; omega, by show _ ≤ 18000; omega⟩ rfl (Nat.le_of_ble_eq_true rfl) rfl dL_isSound_41 ?_
  refine X_istore (pc := 44) (lv1 := [(0, _), (1, _), (2, _), (3, _), (4, _), (5, _), (6, _), (7, _), (8, _), (9, _)]) C dL_isSound_44 (by decide) rfl ?_
  refine X_aload_n (pc := 46) C 0 dL_isSound_46 rfl rfl ?_
  refine X_iload (pc := 47) C dL_isSound_47 rfl ?_
  refine X_ask (n := 2) (pc := 49) C [.ref _, .int _] (a_calledTrunk l hl0 _ hP σ hG hcl) ⟨rfl, rfl⟩ m_h_L_calledTrunk m_m_L_135 m_t_L_calledTrunk m_n_L ⟨by decide +kernel, by decide +kernel, by decide +kernel⟩ ⟨Nat.le_of_ble_eq_true rfl, Nat.le_of_ble_eq_true rfl⟩ ⟨by show _ ≤ 3000; omega, by show _ ≤ 18000; omega⟩ rfl (Nat.le_of_ble_eq_true rfl) rfl dL_isSound_49 ?_
  refine X_istore (pc := 52) (lv1 := [(0, _), (1, _), (2, _), (3, _), (4, _), (5, _), (6, _), (7, _), (8, _), (9, _), (10, _)]) C dL_isSound_52 (by decide) rfl ?_
  refine X_aload_n (pc := 54) C 0 dL_isSound_54 rfl rfl ?_
  refine X_iload (pc := 55) C dL_isSound_55 rfl ?_
  refine X_ask (n := 2) (pc := 57) C [.ref _, .int _] (a_callerOf l hl0 _ hP σ hG hcl) ⟨rfl, rfl⟩ m_h_L_callerOf m_m_L_137 m_t_L_callerOf m_n_L ⟨by decide +kernel, by decide +kernel, by decide +kernel⟩ ⟨Nat.le_of_ble_eq_true rfl, Nat.le_of_ble_eq_true rfl⟩ ⟨by show _ ≤ 3000; omega, by show _ ≤ 18000; omega⟩ rfl (Nat.le_of_ble_eq_true rfl) rfl dL_isSound_57 ?_
  refine X_istore (pc := 60) (lv1 := [(0, _), (1, _), (2, _), (3, _), (4, _), (5, _), (6, _), (7, _), (8, _), (9, _), (10, _), (11, _)]) C dL_isSound_60 (by decide) rfl ?_
  refine X_aload_n (pc := 62) C 0 dL_isSound_62 rfl rfl ?_
  refine X_iload (pc := 63) C dL_isSound_63 rfl ?_
  refine X_ask (n := 2) (pc := 65) C [.ref _, .int _] (a_calledSubscriber l hl0 _ hP σ hG hcl) ⟨rfl, rfl⟩ m_h_L_calledSubscriber m_m_L_139 m_t_L_calledSubscriber m_n_L ⟨by decide +kernel, by decide +kernel, by decide +kernel⟩ ⟨Nat.le_of_ble_eq_true rfl, Nat.le_of_ble_eq_true rfl⟩ ⟨by show _ ≤ 3000; omega, by show _ ≤ 18000; omega⟩ rfl (Nat.le_of_ble_eq_true rfl) rfl dL_isSound_65 ?_
  refine X_istore (pc := 68) (lv1 := [(0, _), (1, _), (2, _), (3, _), (4, _), (5, _), (6, _), (7, _), (8, _), (9, _), (10, _), (11, _), (12, _)]) C dL_isSound_68 (by decide) rfl ?_
  refine X_iload (pc := 70) C dL_isSound_70 rfl ?_
  refine X_iconst (pc := 72) (v := (-1)) C dL_isSound_72 (by decide) ?_
  refine X_setEq (pc := 73) C dL_isSound_73 dL_isSound_76 dL_isSound_77 dL_isSound_80 ?_
  refine X_iload (pc := 81) C dL_isSound_81 rfl ?_
  refine X_iconst (pc := 83) (v := (-1)) C dL_isSound_83 (by decide) ?_
  refine X_setEq (pc := 84) C dL_isSound_84 dL_isSound_87 dL_isSound_88 dL_isSound_91 ?_
  refine X_icmp_eq (pc := 92) C 158 dL_isSound_92 (by decide) (fun h92 => absurd h92 hA) (fun h92 => ?_)
  refine X_aload_n (pc := 95) C 0 dL_isSound_95 rfl rfl ?_
  refine X_iload (pc := 96) C dL_isSound_96 rfl ?_
  refine X_ask (n := 2) (pc := 98) C [.ref _, .int _] (a_startTime l hl0 _ hP σ hG hcl) ⟨rfl, rfl⟩ m_h_L_startTime m_m_L_141 m_t_L_startTime m_n_L ⟨by decide +kernel, by decide +kernel, by decide +kernel⟩ ⟨Nat.le_of_ble_eq_true rfl, Nat.le_of_ble_eq_true rfl⟩ ⟨by show _ ≤ 3000; omega, by show _ ≤ 18000; omega⟩ rfl (Nat.le_of_ble_eq_true rfl) rfl dL_isSound_98 ?_
  refine X_iconst (pc := 101) (v := (-1)) C dL_isSound_101 (by decide) ?_
  refine X_setEq (pc := 102) C dL_isSound_102 dL_isSound_105 dL_isSound_106 dL_isSound_109 ?_
  refine X_iload (pc := 110) C dL_isSound_110 rfl ?_
  refine X_or3 (pc := 112) C dL_isSound_112 dL_isSound_115 dL_isSound_117 dL_isSound_118 dL_isSound_121 dL_isSound_122 dL_isSound_125 rfl ?_
  refine X_icmp_ne (pc := 126) C 158 dL_isSound_126 (by decide) (fun h126 => absurd hB h126) (fun h126 => ?_)
  refine X_aload_n (pc := 129) C 0 dL_isSound_129 rfl rfl ?_
  refine X_iload (pc := 130) C dL_isSound_130 rfl ?_
  refine X_ask (n := 2) (pc := 132) C [.ref _, .int _] (a_endTime l hl0 _ hP σ hG hcl) ⟨rfl, rfl⟩ m_h_L_endTime m_m_L_143 m_t_L_endTime m_n_L ⟨by decide +kernel, by decide +kernel, by decide +kernel⟩ ⟨Nat.le_of_ble_eq_true rfl, Nat.le_of_ble_eq_true rfl⟩ ⟨by show _ ≤ 3000; omega, by show _ ≤ 18000; omega⟩ rfl (Nat.le_of_ble_eq_true rfl) rfl dL_isSound_132 ?_
  refine X_iconst (pc := 135) (v := (-1)) C dL_isSound_135 (by decide) ?_
  refine X_setEq (pc := 136) C dL_isSound_136 dL_isSound_139 dL_isSound_140 dL_isSound_143 ?_
  refine X_iload (pc := 144) C dL_isSound_144 rfl ?_
  refine X_iconst (pc := 146) (v := 2) C dL_isSound_146 (by decide) ?_
  refine X_setLt (pc := 147) C dL_isSound_147 dL_isSound_150 dL_isSound_151 dL_isSound_154 ?_
  refine X_icmp_eq (pc := 155) C 160 dL_isSound_155 (by decide) (fun h155 => ?_) (fun h155 => absurd hE h155)
  exact kx

set_option maxRecDepth 100000 in
set_option maxHeartbeats 4000000 in
theorem sB1 {co wa ta : Int32} (C : XC p s m args meth c P A 17 RL cL_isSound (some .boolean)) : ∀ (n i : Nat), n ≤ 100 → (XW p l e rm_L_isSound s m args below meth c P A 17 (k) (6 * (k)) Q σ 199 [(0, .ref (P.2.2.1 (.inr 0))), (1, .ref r1), (2, .ref r2), (3, .int co), (4, .int mo), (5, .int wa), (6, .int ta), (7, .int nu), (8, .int (nI cl)), (9, .int (sC S 4 cl)), (10, .int (sC S 2 cl)), (11, .int (nI u)), (12, .int (sC S 1 cl)), (13, .int (xvol (i + n))), (14, .int (nI 0))] []) → XW p l e rm_L_isSound s m args below meth c P A 17 (k) (6 * (k)) Q σ 175 [(0, .ref (P.2.2.1 (.inr 0))), (1, .ref r1), (2, .ref r2), (3, .int co), (4, .int mo), (5, .int wa), (6, .int ta), (7, .int nu), (8, .int (nI cl)), (9, .int (sC S 4 cl)), (10, .int (sC S 2 cl)), (11, .int (nI u)), (12, .int (sC S 1 cl)), (13, .int (xvol i)), (14, .int (nI n))] []
  | 0, i, _, kx => by
    refine X_iload (pc := 175) C dL_isSound_175 rfl ?_
    refine X_if_le (pc := 177) C 199 dL_isSound_177 (by decide) (fun h => ?_) (fun h => absurd (by decide) h)
    exact kx
  | n + 1, i, hn, kx => by
    have ih := sB1 C n (i + 1) (by omega) (by rw [show i + 1 + n = i + (n + 1) by omega]; exact kx)
    refine X_iload (pc := 175) C dL_isSound_175 rfl ?_
    refine X_if_le (pc := 177) C 199 dL_isSound_177 (by decide) (fun h => absurd h (nI_nle (by omega) (n31 (by omega)))) (fun h => ?_)
    refine X_iload (pc := 180) C dL_isSound_180 rfl ?_
    refine X_iload (pc := 182) C dL_isSound_182 rfl ?_
    refine X_bipush (pc := 184) (v := 9) C dL_isSound_184 (by decide) ?_
    refine X_iadd (pc := 186) C dL_isSound_186 ?_
    refine X_bipush (pc := 187) (v := 10) C dL_isSound_187 (by decide) ?_
    refine X_idiv (pc := 189) C dL_isSound_189 (by decide) ?_
    refine X_isub (pc := 190) C dL_isSound_190 ?_
    refine X_istore (pc := 191) (lv1 := [(0, _), (1, _), (2, _), (3, _), (4, _), (5, _), (6, _), (7, _), (8, _), (9, _), (10, _), (11, _), (12, _), (13, _), (14, _)]) C dL_isSound_191 (by decide) rfl ?_
    refine X_iinc (pc := 193) (kk := (-1)) (lv1 := [(0, _), (1, _), (2, _), (3, _), (4, _), (5, _), (6, _), (7, _), (8, _), (9, _), (10, _), (11, _), (12, _), (13, _), (14, _)]) C dL_isSound_193 rfl (by decide) (by decide) rfl ?_
    refine X_goto (pc := 196) C 175 dL_isSound_196 (by decide) ?_
    rw [show nI (n + 1) + -1 = nI n by rw [← Int32.sub_eq_add_neg, nI_pred]]
    exact ih

set_option maxRecDepth 100000 in
set_option maxHeartbeats 4000000 in
theorem sB {co wa ta : Int32} (hl0 : l.stackTraces = false) (C : XC p s m args meth c P A 17 RL cL_isSound (some .boolean)) (hP : XA P) (hG : GV σ S o ch) (hp : PS S T) (hcl : cl < mK S) (hk : k + 40 ≤ 3000) (kx : XW p l e rm_L_isSound s m args below meth c P A 17 (k + 5) (6 * (k + 5)) Q σ 231 [(0, .ref (P.2.2.1 (.inr 0))), (1, .ref r1), (2, .ref r2), (3, .int co), (4, .int mo), (5, .int wa), (6, .int ta), (7, .int nu), (8, .int (nI cl)), (9, .int (sC S 4 cl)), (10, .int (sC S 2 cl)), (11, .int (nI u)), (12, .int (sC S 1 cl))] []) : XW p l e rm_L_isSound s m args below meth c P A 17 (k) (6 * (k)) Q σ 160 [(0, .ref (P.2.2.1 (.inr 0))), (1, .ref r1), (2, .ref r2), (3, .int co), (4, .int mo), (5, .int wa), (6, .int ta), (7, .int nu), (8, .int (nI cl)), (9, .int (sC S 4 cl)), (10, .int (sC S 2 cl)), (11, .int (nI u)), (12, .int (sC S 1 cl))] [] := by
  have hpc := hp.c hcl
  obtain ⟨n, hn15, hn⟩ : ∃ n, n ≤ 15 ∧ cSum (fun k => sC S 7 cl >>> (nI k &&& 31) &&& 1) 31 = nI n := ⟨_, bC_le (bt (sC S 7 cl)) 15, by rw [ones_eq hpc.2.2.2.1, xbc_15 hpc.2.2.2.1]⟩
  have hv : xvolW (sC S 7 cl) = xvol (0 + n) := by
    unfold xvolW
    rw [← ones_eq hpc.2.2.2.1, hn, cNn (by omega), Nat.zero_add]
  refine X_bipush (pc := 160) (v := 100) C dL_isSound_160 (by decide) ?_
  refine X_istore (pc := 162) (lv1 := [(0, _), (1, _), (2, _), (3, _), (4, _), (5, _), (6, _), (7, _), (8, _), (9, _), (10, _), (11, _), (12, _), (13, _)]) C dL_isSound_162 (by decide) rfl ?_
  refine X_aload_n (pc := 164) C 0 dL_isSound_164 rfl rfl ?_
  refine X_iload (pc := 165) C dL_isSound_165 rfl ?_
  refine X_ask (n := 2) (pc := 167) C [.ref _, .int _] (a_listeners l hl0 _ hP σ hG hcl) ⟨rfl, rfl⟩ m_h_L_listeners m_m_L_145 m_t_L_listeners m_n_L ⟨by decide +kernel, by decide +kernel, by decide +kernel⟩ ⟨Nat.le_of_ble_eq_true rfl, Nat.le_of_ble_eq_true rfl⟩ ⟨by show _ ≤ 3000; omega, by show _ ≤ 18000; omega⟩ rfl (Nat.le_of_ble_eq_true rfl) rfl dL_isSound_167 ?_
  refine X_callSF (n := 1) (pc := 170) C [.int _] (onesN l _ σ (sC S 7 cl) hn) m_c_L_ones m_m_L_147 m_t_L_ones m_n_L ⟨by decide +kernel, by decide +kernel, by decide +kernel⟩ ⟨Nat.le_of_ble_eq_true rfl, Nat.le_of_ble_eq_true rfl⟩ ⟨rfl, rfl⟩ ⟨by show _ ≤ 3000; omega, by show _ ≤ 18000; omega⟩ rfl (Nat.le_of_ble_eq_true rfl) rfl dL_isSound_170 ?_
  refine X_istore (pc := 173) (lv1 := [(0, _), (1, _), (2, _), (3, _), (4, _), (5, _), (6, _), (7, _), (8, _), (9, _), (10, _), (11, _), (12, _), (13, _), (14, _)]) C dL_isSound_173 (by decide) rfl ?_
  refine sB1 C n 0 (by omega) ?_
  refine X_aload_n (pc := 199) C 0 dL_isSound_199 rfl rfl ?_
  refine X_iload (pc := 200) C dL_isSound_200 rfl ?_
  refine X_ask (n := 2) (pc := 202) C [.ref _, .int _] (a_volume l hl0 _ hP σ hG hcl) ⟨rfl, rfl⟩ m_h_L_volume m_m_L_150 m_t_L_volume m_n_L ⟨by decide +kernel, by decide +kernel, by decide +kernel⟩ ⟨Nat.le_of_ble_eq_true rfl, Nat.le_of_ble_eq_true rfl⟩ ⟨by show _ ≤ 3000; omega, by show _ ≤ 18000; omega⟩ rfl (Nat.le_of_ble_eq_true rfl) rfl dL_isSound_202 ?_
  refine X_iload (pc := 205) C dL_isSound_205 rfl ?_
  refine X_icmp_ne (pc := 207) C 229 dL_isSound_207 (by decide) (fun h207 => absurd hv h207) (fun h207 => ?_)
  refine X_aload_n (pc := 210) C 0 dL_isSound_210 rfl rfl ?_
  refine X_iload (pc := 211) C dL_isSound_211 rfl ?_
  refine X_ask (n := 2) (pc := 213) C [.ref _, .int _] (a_startTime l hl0 _ hP σ hG hcl) ⟨rfl, rfl⟩ m_h_L_startTime m_m_L_141 m_t_L_startTime m_n_L ⟨by decide +kernel, by decide +kernel, by decide +kernel⟩ ⟨Nat.le_of_ble_eq_true rfl, Nat.le_of_ble_eq_true rfl⟩ ⟨by show _ ≤ 3000; omega, by show _ ≤ 18000; omega⟩ rfl (Nat.le_of_ble_eq_true rfl) rfl dL_isSound_213 ?_
  refine X_iconst (pc := 216) (v := (-1)) C dL_isSound_216 (by decide) ?_
  refine X_icmp_ne (pc := 217) C 231 dL_isSound_217 (by decide) (fun h217 => XW.up (by omega) (by omega) (XW.less [0, 1, 2, 3, 4, 5, 6, 7, 8, 9, 10, 11, 12] rfl kx)) (fun h217 => ?_)
  refine X_aload_n (pc := 220) C 0 dL_isSound_220 rfl rfl ?_
  refine X_iload (pc := 221) C dL_isSound_221 rfl ?_
  refine X_ask (n := 2) (pc := 223) C [.ref _, .int _] (a_listeners l hl0 _ hP σ hG hcl) ⟨rfl, rfl⟩ m_h_L_listeners m_m_L_145 m_t_L_listeners m_n_L ⟨by decide +kernel, by decide +kernel, by decide +kernel⟩ ⟨Nat.le_of_ble_eq_true rfl, Nat.le_of_ble_eq_true rfl⟩ ⟨by show _ ≤ 3000; omega, by show _ ≤ 18000; omega⟩ rfl (Nat.le_of_ble_eq_true rfl) rfl dL_isSound_223 ?_
  refine X_if_eq (pc := 226) C 231 dL_isSound_226 (by decide) (fun h226 => XW.up (by omega) (by omega) (XW.less [0, 1, 2, 3, 4, 5, 6, 7, 8, 9, 10, 11, 12] rfl kx)) (fun h226 => absurd (hpc.2.2.1 (hpc.1.mp h217)) h226)

set_option maxRecDepth 100000 in
set_option maxHeartbeats 4000000 in
theorem sC1 {co wa ta : Int32} {d : Nat} (hd : d ≤ 900001) (C : XC p s m args meth c P A 17 RL cL_isSound (some .boolean)) (kx : XW p l e rm_L_isSound s m args below meth c P A 17 (k) (6 * (k)) Q σ 278 [(0, .ref (P.2.2.1 (.inr 0))), (1, .ref r1), (2, .ref r2), (3, .int co), (4, .int mo), (5, .int wa), (6, .int ta), (7, .int nu), (8, .int (nI cl)), (9, .int (sC S 4 cl)), (10, .int (sC S 2 cl)), (11, .int (nI u)), (12, .int (sC S 1 cl)), (14, .int (nI d)), (15, .int (nI (mins d)))] []) : ∀ (n j : Nat), n + j = 15100 → 1 ≤ j → (j = 1 ∨ 60 * (j - 1) < d) → XW p l e rm_L_isSound s m args below meth c P A 17 (k) (6 * (k)) Q σ 262 [(0, .ref (P.2.2.1 (.inr 0))), (1, .ref r1), (2, .ref r2), (3, .int co), (4, .int mo), (5, .int wa), (6, .int ta), (7, .int nu), (8, .int (nI cl)), (9, .int (sC S 4 cl)), (10, .int (sC S 2 cl)), (11, .int (nI u)), (12, .int (sC S 1 cl)), (14, .int (nI d)), (15, .int (nI j))] []
  | 0, j, h1, h2, h3 => by omega
  | n + 1, j, h1, h2, h3 => by
    refine X_bipush (pc := 262) (v := 60) C dL_isSound_262 (by decide) ?_
    refine X_iload (pc := 264) C dL_isSound_264 rfl ?_
    refine X_imul (pc := 266) C dL_isSound_266 ?_
    rw [show (60 : Int32) = nI 60 from rfl, nI_m]
    refine X_iload (pc := 267) C dL_isSound_267 rfl ?_
    refine X_icmp_ge (pc := 269) C 278 dL_isSound_269 (by decide) (fun h => ?_) (fun h => ?_)
    · have := (nI_leI (n31 (by omega)) (n31 (by omega))).mp h
      obtain rfl : j = mins d := by unfold mins; split <;> omega
      exact kx
    · have h5 : 60 * j < d := Nat.lt_of_not_le (fun q => h ((nI_leI (n31 (by omega)) (n31 (by omega))).mpr q))
      refine X_iincN (pc := 272) (lv1 := [(0, _), (1, _), (2, _), (3, _), (4, _), (5, _), (6, _), (7, _), (8, _), (9, _), (10, _), (11, _), (12, _), (14, _), (15, _)]) C dL_isSound_272 rfl (by decide) (by decide) rfl ?_
      exact X_goto (pc := 275) C 262 dL_isSound_275 (by decide) (sC1 hd C kx n (j + 1) (by omega) (by omega) (Or.inr (by rw [Nat.add_sub_cancel]; exact h5)))

set_option maxRecDepth 100000 in
set_option maxHeartbeats 4000000 in
theorem sCc {co wa ta : Int32} (hl0 : l.stackTraces = false) (C : XC p s m args meth c P A 17 RL cL_isSound (some .boolean)) (hP : XA P) (hG : GV σ S o ch) (hp : PS S T) (hcl : cl < mK S) (hk : k + 40 ≤ 3000) (he : PE S T) (kx : XW p l e rm_L_isSound s m args below meth c P A 17 (k + 5) (6 * (k + 5)) Q σ 327 [(0, .ref (P.2.2.1 (.inr 0))), (1, .ref r1), (2, .ref r2), (3, .int co), (4, .int mo), (5, .int wa), (6, .int ta), (7, .int nu), (8, .int (nI cl)), (9, .int (sC S 4 cl)), (10, .int (sC S 2 cl)), (11, .int (nI u)), (12, .int (sC S 1 cl)), (16, .int (mCost S cl))] []) : XW p l e rm_L_isSound s m args below meth c P A 17 (k) (6 * (k)) Q σ 231 [(0, .ref (P.2.2.1 (.inr 0))), (1, .ref r1), (2, .ref r2), (3, .int co), (4, .int mo), (5, .int wa), (6, .int ta), (7, .int nu), (8, .int (nI cl)), (9, .int (sC S 4 cl)), (10, .int (sC S 2 cl)), (11, .int (nI u)), (12, .int (sC S 1 cl))] [] := by
  have hM := hG.b.x.i
  obtain ⟨d, hd, hs⟩ := secs_ok hG.b.x hp he hcl
  have hco := cost_of hG.b.x hcl hd hs
  unfold secs at hs
  have m312 : XW p l e rm_L_isSound s m args below meth c P A 17 (k + 3) (6 * (k + 3)) Q σ 312 [(0, .ref (P.2.2.1 (.inr 0))), (1, .ref r1), (2, .ref r2), (3, .int co), (4, .int mo), (5, .int wa), (6, .int ta), (7, .int nu), (8, .int (nI cl)), (9, .int (sC S 4 cl)), (10, .int (sC S 2 cl)), (11, .int (nI u)), (12, .int (sC S 1 cl)), (14, .int (nI d)), (15, .int (nI (mins d)))] [.int (mCost S cl)] := by
    refine X_istore (pc := 312) (lv1 := [(0, _), (1, _), (2, _), (3, _), (4, _), (5, _), (6, _), (7, _), (8, _), (9, _), (10, _), (11, _), (12, _), (14, _), (15, _), (16, _)]) C dL_isSound_312 (by decide) rfl ?_
    refine X_aload_n (pc := 314) C 0 dL_isSound_314 rfl rfl ?_
    refine X_iload (pc := 315) C dL_isSound_315 rfl ?_
    refine X_ask (n := 2) (pc := 317) C [.ref _, .int _] (a_charge l hl0 _ hP σ hG hcl) ⟨rfl, rfl⟩ m_h_L_charge m_m_L_157 m_t_L_charge m_n_L ⟨by decide +kernel, by decide +kernel, by decide +kernel⟩ ⟨Nat.le_of_ble_eq_true rfl, Nat.le_of_ble_eq_true rfl⟩ ⟨by show _ ≤ 3000; omega, by show _ ≤ 18000; omega⟩ rfl (Nat.le_of_ble_eq_true rfl) rfl dL_isSound_317 ?_
    refine X_iload (pc := 320) C dL_isSound_320 rfl ?_
    refine X_icmp_eq (pc := 322) C 327 dL_isSound_322 (by decide) (fun h322 => XW.up (c1 := k + 5) (s1 := 6 * (k + 5)) (by omega) (by omega) (XW.less (lv' := [(0, _), (1, _), (2, _), (3, _), (4, _), (5, _), (6, _), (7, _), (8, _), (9, _), (10, _), (11, _), (12, _), (16, _)]) [0, 1, 2, 3, 4, 5, 6, 7, 8, 9, 10, 11, 12, 15] rfl kx)) (fun h322 => absurd rfl h322)
  have m278 : XW p l e rm_L_isSound s m args below meth c P A 17 (k + 2) (6 * (k + 2)) Q σ 278 [(0, .ref (P.2.2.1 (.inr 0))), (1, .ref r1), (2, .ref r2), (3, .int co), (4, .int mo), (5, .int wa), (6, .int ta), (7, .int nu), (8, .int (nI cl)), (9, .int (sC S 4 cl)), (10, .int (sC S 2 cl)), (11, .int (nI u)), (12, .int (sC S 1 cl)), (14, .int (nI d)), (15, .int (nI (mins d)))] [] := by
    refine X_iload (pc := 278) C dL_isSound_278 rfl ?_
    refine X_if_eq (pc := 280) C 289 dL_isSound_280 (by decide) (fun h1 => ?_) (fun h1 => ?_)
    · rw [if_pos (Or.inl h1)] at hco
      refine X_iconst (pc := 289) (v := 0) C dL_isSound_289 (by decide) ?_
      refine X_goto (pc := 290) C 312 dL_isSound_290 (by decide) ?_
      rw [hco]
      exact XW.up (by omega) (by omega) m312
    · refine X_iload (pc := 283) C dL_isSound_283 rfl ?_
      refine X_iconst (pc := 285) (v := 3) C dL_isSound_285 (by decide) ?_
      refine X_icmp_ne (pc := 286) C 293 dL_isSound_286 (by decide) (fun h2 => ?_) (fun h2 => ?_)
      · rw [if_neg (fun q => q.elim h1 h2)] at hco
        refine X_iload (pc := 293) C dL_isSound_293 rfl ?_
        refine X_iconst (pc := 295) (v := (-1)) C dL_isSound_295 (by decide) ?_
        refine X_icmp_ne (pc := 296) C 303 dL_isSound_296 (by decide) (fun h3 => ?_) (fun h3 => ?_)
        · rw [if_neg h3] at hco
          have ht := (hM.tr hcl h3).2
          have ht4 : cN (sC S 2 cl) < mT S := by
            rcases (hM.c hcl).two hM.u15 hM.t4 with ⟨q1, -⟩ | ⟨-, -, q3, -⟩
            · exact absurd q1 h3
            · exact q3
          refine X_aload_n (pc := 303) C 0 dL_isSound_303 rfl rfl ?_
          refine X_iload (pc := 304) C dL_isSound_304 rfl ?_
          refine XW.eq (st' := [.int (nI (cN (sC S 2 cl))), _]) rfl rfl (congrArg (fun z => [Value.int z, _]) ht) ?_
          refine X_ask (n := 2) (pc := 306) C [.ref _, .int _] (a_toll l hl0 _ hP σ hG ht4) ⟨rfl, rfl⟩ m_h_L_toll m_m_L_155 m_t_L_toll m_n_L ⟨by decide +kernel, by decide +kernel, by decide +kernel⟩ ⟨Nat.le_of_ble_eq_true rfl, Nat.le_of_ble_eq_true rfl⟩ ⟨by show _ ≤ 3000; omega, by show _ ≤ 18000; omega⟩ rfl (Nat.le_of_ble_eq_true rfl) rfl dL_isSound_306 ?_
          refine X_iload (pc := 309) C dL_isSound_309 rfl ?_
          refine X_imul (pc := 311) C dL_isSound_311 ?_
          rw [hco]
          exact XW.up (by omega) (by omega) m312
        · rw [if_pos h3] at hco
          refine X_iconst (pc := 299) (v := 5) C dL_isSound_299 (by decide) ?_
          refine X_goto (pc := 300) C 312 dL_isSound_300 (by decide) ?_
          rw [hco]
          exact XW.up (by omega) (by omega) m312
      · rw [if_pos (Or.inr h2)] at hco
        refine X_iconst (pc := 289) (v := 0) C dL_isSound_289 (by decide) ?_
        refine X_goto (pc := 290) C 312 dL_isSound_290 (by decide) ?_
        rw [hco]
        exact XW.up (by omega) (by omega) m312
  have m250 : XW p l e rm_L_isSound s m args below meth c P A 17 (k + 1) (6 * (k + 1)) Q σ 250 [(0, .ref (P.2.2.1 (.inr 0))), (1, .ref r1), (2, .ref r2), (3, .int co), (4, .int mo), (5, .int wa), (6, .int ta), (7, .int nu), (8, .int (nI cl)), (9, .int (sC S 4 cl)), (10, .int (sC S 2 cl)), (11, .int (nI u)), (12, .int (sC S 1 cl))] [.int (if sC S 4 cl = 1 then S 0 else sC S 6 cl)] := by
    refine X_aload_n (pc := 250) C 0 dL_isSound_250 rfl rfl ?_
    refine X_iload (pc := 251) C dL_isSound_251 rfl ?_
    refine X_ask (n := 2) (pc := 253) C [.ref _, .int _] (a_startTime l hl0 _ hP σ hG hcl) ⟨rfl, rfl⟩ m_h_L_startTime m_m_L_141 m_t_L_startTime m_n_L ⟨by decide +kernel, by decide +kernel, by decide +kernel⟩ ⟨Nat.le_of_ble_eq_true rfl, Nat.le_of_ble_eq_true rfl⟩ ⟨by show _ ≤ 3000; omega, by show _ ≤ 18000; omega⟩ rfl (Nat.le_of_ble_eq_true rfl) rfl dL_isSound_253 ?_
    refine X_isub (pc := 256) C dL_isSound_256 ?_
    refine X_istore (pc := 257) (lv1 := [(0, _), (1, _), (2, _), (3, _), (4, _), (5, _), (6, _), (7, _), (8, _), (9, _), (10, _), (11, _), (12, _), (14, _)]) C dL_isSound_257 (by decide) rfl ?_
    rw [hs]
    refine X_iconst (pc := 259) (v := 1) C dL_isSound_259 (by decide) ?_
    refine X_istore (pc := 260) (lv1 := [(0, _), (1, _), (2, _), (3, _), (4, _), (5, _), (6, _), (7, _), (8, _), (9, _), (10, _), (11, _), (12, _), (14, _), (15, _)]) C dL_isSound_260 (by decide) rfl ?_
    exact sC1 hd C m278 15099 1 (by omega) (by omega) (Or.inl rfl)
  refine X_iload (pc := 231) C dL_isSound_231 rfl ?_
  refine X_iconst (pc := 233) (v := 1) C dL_isSound_233 (by decide) ?_
  refine X_icmp_ne (pc := 234) C 244 dL_isSound_234 (by decide) (fun h1 => ?_) (fun h1 => ?_)
  · rw [if_neg h1] at m250
    refine X_aload_n (pc := 244) C 0 dL_isSound_244 rfl rfl ?_
    refine X_iload (pc := 245) C dL_isSound_245 rfl ?_
    refine X_ask (n := 2) (pc := 247) C [.ref _, .int _] (a_endTime l hl0 _ hP σ hG hcl) ⟨rfl, rfl⟩ m_h_L_endTime m_m_L_143 m_t_L_endTime m_n_L ⟨by decide +kernel, by decide +kernel, by decide +kernel⟩ ⟨Nat.le_of_ble_eq_true rfl, Nat.le_of_ble_eq_true rfl⟩ ⟨by show _ ≤ 3000; omega, by show _ ≤ 18000; omega⟩ rfl (Nat.le_of_ble_eq_true rfl) rfl dL_isSound_247 ?_
    exact m250
  · rw [if_pos h1] at m250
    refine X_aload_n (pc := 237) C 0 dL_isSound_237 rfl rfl ?_
    refine X_fV (i := .inr 0) (ci := 6) (n := 0) (pc := 238) C [] (d_clock l _ hP σ hG) m_c_X6_clock m_m_L_152 m_i_X6_clock m_s_X6_clock m_n_X6 ⟨by decide +kernel, by decide +kernel, by decide +kernel⟩ ⟨Nat.le_of_ble_eq_true rfl, Nat.le_of_ble_eq_true rfl⟩ ⟨rfl, rfl⟩ ⟨by show _ ≤ 3000; omega, by show _ ≤ 18000; omega⟩ hP.n0 rfl rfl rfl rfl (Nat.le_of_ble_eq_true rfl) rfl dL_isSound_238 ?_
    refine X_goto (pc := 241) C 250 dL_isSound_241 (by decide) ?_
    exact XW.up (by omega) (by omega) m250

set_option maxRecDepth 100000 in
set_option maxHeartbeats 4000000 in
theorem sD {co ta : Int32} (hl0 : l.stackTraces = false) (C : XC p s m args meth c P A 17 RL cL_isSound (some .boolean)) (hP : XA P) (hG : GV σ S o ch) (hp : PS S T) (hcl : cl < mK S) (hk : k + 40 ≤ 3000) (hb : PB S) (hu : u < mU S) (hca : sC S 0 cl = nI u) (kx : XW p l e rm_L_isSound s m args below meth c P A 17 (k + 9) (6 * (k + 9)) Q σ 456 [(0, .ref (P.2.2.1 (.inr 0))), (1, .ref r1), (2, .ref r2), (3, .int co), (4, .int (mo + mDue S cl)), (5, .int (nI (cCnt (fun c => sC S 4 c = 0) (cl + 1)))), (6, .int ta), (7, .int nu), (8, .int (nI cl)), (9, .int (sC S 4 cl)), (10, .int (sC S 2 cl)), (11, .int (nI u)), (12, .int (sC S 1 cl))] []) : XW p l e rm_L_isSound s m args below meth c P A 17 (k) (6 * (k)) Q σ 327 [(0, .ref (P.2.2.1 (.inr 0))), (1, .ref r1), (2, .ref r2), (3, .int co), (4, .int mo), (5, .int (nI (cCnt (fun c => sC S 4 c = 0) cl))), (6, .int ta), (7, .int nu), (8, .int (nI cl)), (9, .int (sC S 4 cl)), (10, .int (sC S 2 cl)), (11, .int (nI u)), (12, .int (sC S 1 cl)), (16, .int (mCost S cl))] [] := by
  have hM := hG.b.x.i
  have k40 := hM.k40
  obtain ⟨a, ha, ea⟩ := xok_of (hG.b.x.u hu).1 (by have := hM.l6; omega)
  have m340 : XW p l e rm_L_isSound s m args below meth c P A 17 (k) (6 * (k)) Q σ 340 [(0, .ref (P.2.2.1 (.inr 0))), (1, .ref r1), (2, .ref r2), (3, .int co), (4, .int (mo + mDue S cl)), (5, .int (nI (cCnt (fun c => sC S 4 c = 0) cl))), (6, .int ta), (7, .int nu), (8, .int (nI cl)), (9, .int (sC S 4 cl)), (10, .int (sC S 2 cl)), (11, .int (nI u)), (12, .int (sC S 1 cl)), (16, .int (mCost S cl))] [] := by
    refine X_iload (pc := 340) C dL_isSound_340 rfl ?_
    refine X_if_ne (pc := 342) C 435 dL_isSound_342 (by decide) (fun g0 => ?_) (fun g0 => ?_)
    · rw [cCnt_n (q := fun c => sC S 4 c = 0) g0] at kx
      refine X_aload_n (pc := 435) C 0 dL_isSound_435 rfl rfl ?_
      refine X_iload (pc := 436) C dL_isSound_436 rfl ?_
      refine X_ask (n := 2) (pc := 438) C [.ref _, .int _] (a_obstacle l hl0 _ hP σ hG hcl) ⟨rfl, rfl⟩ m_h_L_obstacle m_m_L_159 m_t_L_obstacle m_n_L ⟨by decide +kernel, by decide +kernel, by decide +kernel⟩ ⟨Nat.le_of_ble_eq_true rfl, Nat.le_of_ble_eq_true rfl⟩ ⟨by show _ ≤ 3000; omega, by show _ ≤ 18000; omega⟩ rfl (Nat.le_of_ble_eq_true rfl) rfl dL_isSound_438 ?_
      refine X_if_ne (pc := 441) C 454 dL_isSound_441 (by decide) (fun h => absurd (if_neg g0) h) (fun h => ?_)
      refine X_aload_n (pc := 444) C 0 dL_isSound_444 rfl rfl ?_
      refine X_iload (pc := 445) C dL_isSound_445 rfl ?_
      refine X_ask (n := 2) (pc := 447) C [.ref _, .int _] (a_queuePlace l hl0 _ hP σ hG hcl) ⟨rfl, rfl⟩ m_h_L_queuePlace m_m_L_161 m_t_L_queuePlace m_n_L ⟨by decide +kernel, by decide +kernel, by decide +kernel⟩ ⟨Nat.le_of_ble_eq_true rfl, Nat.le_of_ble_eq_true rfl⟩ ⟨by show _ ≤ 3000; omega, by show _ ≤ 18000; omega⟩ rfl (Nat.le_of_ble_eq_true rfl) rfl dL_isSound_447 ?_
      refine X_iconst (pc := 450) (v := (-1)) C dL_isSound_450 (by decide) ?_
      refine X_icmp_eq (pc := 451) C 456 dL_isSound_451 (by decide) (fun h => XW.up (by omega) (by omega) (XW.less [0, 1, 2, 3, 4, 5, 6, 7, 8, 9, 10, 11, 12] rfl kx)) (fun h => absurd (if_neg g0) h)
    · have hw := why_b hb hcl g0
      have hob : (if sC S 4 cl = 0 then mWhy S cl else 0) = mWhy S cl := if_pos g0
      have hqp : (if sC S 4 cl = 0 then nI (cCnt (mAh S (sC S 3 cl) (nI cl)) (mK S)) else -1) = nI (cCnt (mAh S (sC S 3 cl) (nI cl)) (mK S)) := if_pos g0
      have hpl := place_lt hcl g0
      have hcw := cCnt_le (fun c => sC S 4 c = 0) (mK S)
      have o1 : ¬ (if sC S 4 cl = 0 then mWhy S cl else 0) < 1 := by rw [hob]; rcases hw with q | q | q <;> rw [q] <;> decide
      have o3 : ¬ 3 < (if sC S 4 cl = 0 then mWhy S cl else 0) := by rw [hob]; rcases hw with q | q | q <;> rw [q] <;> decide
      have q0 : ¬ (if sC S 4 cl = 0 then nI (cCnt (mAh S (sC S 3 cl) (nI cl)) (mK S)) else -1) < 0 := by rw [hqp]; exact nI_pos (n31 (by omega))
      have q1 : (if sC S 4 cl = 0 then nI (cCnt (mAh S (sC S 3 cl) (nI cl)) (mK S)) else -1) < nI (cCnt (fun c => sC S 4 c = 0) (mK S)) := by rw [hqp]; exact (nI_ltI (n31 (by omega)) (n31 (by omega))).mpr hpl
      have hbz : (if sC S 4 cl = 0 then mWhy S cl else 0) = 1 → 0 < mLine S (nI a) (mK S) := fun q => by
        have := why_1 (hob.symm.trans q)
        rw [hca, cN_nI (a := u) (by have := hM.u15; omega), ea] at this
        exact this
      have hfr : (if sC S 4 cl = 0 then mWhy S cl else 0) = 3 → S 2 - nI (mCords S (mK S)) = 0 := fun q => why_3 (hob.symm.trans q)
      rw [cCnt_y (q := fun c => sC S 4 c = 0) g0] at kx
      have m416 : XW p l e rm_L_isSound s m args below meth c P A 17 (k + 7) (6 * (k + 7)) Q σ 416 [(0, .ref (P.2.2.1 (.inr 0))), (1, .ref r1), (2, .ref r2), (3, .int co), (4, .int (mo + mDue S cl)), (5, .int (nI (cCnt (fun c => sC S 4 c = 0) cl + 1))), (6, .int ta), (7, .int nu), (8, .int (nI cl)), (9, .int (sC S 4 cl)), (10, .int (sC S 2 cl)), (11, .int (nI u)), (12, .int (sC S 1 cl)), (16, .int (mCost S cl))] [] := by
        refine X_aload_n (pc := 416) C 0 dL_isSound_416 rfl rfl ?_
        refine X_iload (pc := 417) C dL_isSound_417 rfl ?_
        refine X_ask (n := 2) (pc := 419) C [.ref _, .int _] (a_obstacle l hl0 _ hP σ hG hcl) ⟨rfl, rfl⟩ m_h_L_obstacle m_m_L_159 m_t_L_obstacle m_n_L ⟨by decide +kernel, by decide +kernel, by decide +kernel⟩ ⟨Nat.le_of_ble_eq_true rfl, Nat.le_of_ble_eq_true rfl⟩ ⟨by show _ ≤ 3000; omega, by show _ ≤ 18000; omega⟩ rfl (Nat.le_of_ble_eq_true rfl) rfl dL_isSound_419 ?_
        refine X_iconst (pc := 422) (v := 3) C dL_isSound_422 (by decide) ?_
        refine X_icmp_ne (pc := 423) C 456 dL_isSound_423 (by decide) (fun h => XW.up (by omega) (by omega) (XW.less [0, 1, 2, 3, 4, 5, 6, 7, 8, 9, 10, 11, 12] rfl kx)) (fun h423 => ?_)
        refine X_aload_n (pc := 426) C 0 dL_isSound_426 rfl rfl ?_
        refine X_fV (i := .inr 0) (ci := 6) (n := 0) (pc := 427) C [] (d_freeCords l _ hP σ hG) m_c_X6_freeCords m_m_L_170 m_i_X6_freeCords m_s_X6_freeCords m_n_X6 ⟨by decide +kernel, by decide +kernel, by decide +kernel⟩ ⟨Nat.le_of_ble_eq_true rfl, Nat.le_of_ble_eq_true rfl⟩ ⟨rfl, rfl⟩ ⟨by show _ ≤ 3000; omega, by show _ ≤ 18000; omega⟩ hP.n0 rfl rfl rfl rfl (Nat.le_of_ble_eq_true rfl) rfl dL_isSound_427 ?_
        refine X_if_eq (pc := 430) C 456 dL_isSound_430 (by decide) (fun h => XW.up (by omega) (by omega) (XW.less [0, 1, 2, 3, 4, 5, 6, 7, 8, 9, 10, 11, 12] rfl kx)) (fun h => absurd (hfr h423) h)
      first | refine X_iincN (pc := 345) (lv1 := [(0, _), (1, _), (2, _), (3, _), (4, _), (5, _), (6, _), (7, _), (8, _), (9, _), (10, _), (11, _), (12, _), (16, _)]) C dL_isSound_345 rfl (by decide) (by decide) rfl ?_ | refine X_iinc (pc := 345) (kk := 1) (lv1 := [(0, _), (1, _), (2, _), (3, _), (4, _), (5, _), (6, _), (7, _), (8, _), (9, _), (10, _), (11, _), (12, _), (16, _)]) C dL_isSound_345 rfl (by decide) (by decide) rfl ?_
      refine X_aload_n (pc := 348) C 0 dL_isSound_348 rfl rfl ?_
      refine X_iload (pc := 349) C dL_isSound_349 rfl ?_
      refine X_ask (n := 2) (pc := 351) C [.ref _, .int _] (a_obstacle l hl0 _ hP σ hG hcl) ⟨rfl, rfl⟩ m_h_L_obstacle m_m_L_159 m_t_L_obstacle m_n_L ⟨by decide +kernel, by decide +kernel, by decide +kernel⟩ ⟨Nat.le_of_ble_eq_true rfl, Nat.le_of_ble_eq_true rfl⟩ ⟨by show _ ≤ 3000; omega, by show _ ≤ 18000; omega⟩ rfl (Nat.le_of_ble_eq_true rfl) rfl dL_isSound_351 ?_
      refine X_iconst (pc := 354) (v := 1) C dL_isSound_354 (by decide) ?_
      refine X_icmp_lt (pc := 355) C 390 dL_isSound_355 (by decide) (fun h => absurd h o1) (fun h => ?_)
      refine X_aload_n (pc := 358) C 0 dL_isSound_358 rfl rfl ?_
      refine X_iload (pc := 359) C dL_isSound_359 rfl ?_
      refine X_ask (n := 2) (pc := 361) C [.ref _, .int _] (a_obstacle l hl0 _ hP σ hG hcl) ⟨rfl, rfl⟩ m_h_L_obstacle m_m_L_159 m_t_L_obstacle m_n_L ⟨by decide +kernel, by decide +kernel, by decide +kernel⟩ ⟨Nat.le_of_ble_eq_true rfl, Nat.le_of_ble_eq_true rfl⟩ ⟨by show _ ≤ 3000; omega, by show _ ≤ 18000; omega⟩ rfl (Nat.le_of_ble_eq_true rfl) rfl dL_isSound_361 ?_
      refine X_iconst (pc := 364) (v := 3) C dL_isSound_364 (by decide) ?_
      refine X_icmp_gt (pc := 365) C 390 dL_isSound_365 (by decide) (fun h => absurd h o3) (fun h => ?_)
      refine X_aload_n (pc := 368) C 0 dL_isSound_368 rfl rfl ?_
      refine X_iload (pc := 369) C dL_isSound_369 rfl ?_
      refine X_ask (n := 2) (pc := 371) C [.ref _, .int _] (a_queuePlace l hl0 _ hP σ hG hcl) ⟨rfl, rfl⟩ m_h_L_queuePlace m_m_L_161 m_t_L_queuePlace m_n_L ⟨by decide +kernel, by decide +kernel, by decide +kernel⟩ ⟨Nat.le_of_ble_eq_true rfl, Nat.le_of_ble_eq_true rfl⟩ ⟨by show _ ≤ 3000; omega, by show _ ≤ 18000; omega⟩ rfl (Nat.le_of_ble_eq_true rfl) rfl dL_isSound_371 ?_
      refine X_if_lt (pc := 374) C 390 dL_isSound_374 (by decide) (fun h => absurd h q0) (fun h => ?_)
      refine X_aload_n (pc := 377) C 0 dL_isSound_377 rfl rfl ?_
      refine X_iload (pc := 378) C dL_isSound_378 rfl ?_
      refine X_ask (n := 2) (pc := 380) C [.ref _, .int _] (a_queuePlace l hl0 _ hP σ hG hcl) ⟨rfl, rfl⟩ m_h_L_queuePlace m_m_L_161 m_t_L_queuePlace m_n_L ⟨by decide +kernel, by decide +kernel, by decide +kernel⟩ ⟨Nat.le_of_ble_eq_true rfl, Nat.le_of_ble_eq_true rfl⟩ ⟨by show _ ≤ 3000; omega, by show _ ≤ 18000; omega⟩ rfl (Nat.le_of_ble_eq_true rfl) rfl dL_isSound_380 ?_
      refine X_aload_n (pc := 383) C 0 dL_isSound_383 rfl rfl ?_
      refine X_fV (i := .inr 0) (ci := 6) (n := 0) (pc := 384) C [] (d_waitingCalls l _ hP σ hG) m_c_X6_waitingCalls m_m_L_163 m_i_X6_waitingCalls m_s_X6_waitingCalls m_n_X6 ⟨by decide +kernel, by decide +kernel, by decide +kernel⟩ ⟨Nat.le_of_ble_eq_true rfl, Nat.le_of_ble_eq_true rfl⟩ ⟨rfl, rfl⟩ ⟨by show _ ≤ 3000; omega, by show _ ≤ 18000; omega⟩ hP.n0 rfl rfl rfl rfl (Nat.le_of_ble_eq_true rfl) rfl dL_isSound_384 ?_
      refine X_icmp_lt (pc := 387) C 392 dL_isSound_387 (by decide) (fun h => ?_) (fun h => absurd q1 h)
      refine X_aload_n (pc := 392) C 0 dL_isSound_392 rfl rfl ?_
      refine X_iload (pc := 393) C dL_isSound_393 rfl ?_
      refine X_ask (n := 2) (pc := 395) C [.ref _, .int _] (a_obstacle l hl0 _ hP σ hG hcl) ⟨rfl, rfl⟩ m_h_L_obstacle m_m_L_159 m_t_L_obstacle m_n_L ⟨by decide +kernel, by decide +kernel, by decide +kernel⟩ ⟨Nat.le_of_ble_eq_true rfl, Nat.le_of_ble_eq_true rfl⟩ ⟨by show _ ≤ 3000; omega, by show _ ≤ 18000; omega⟩ rfl (Nat.le_of_ble_eq_true rfl) rfl dL_isSound_395 ?_
      refine X_iconst (pc := 398) (v := 1) C dL_isSound_398 (by decide) ?_
      refine X_icmp_ne (pc := 399) C 416 dL_isSound_399 (by decide) (fun h => XW.up (by omega) (by omega) m416) (fun h399 => ?_)
      refine X_aload_n (pc := 402) C 0 dL_isSound_402 rfl rfl ?_
      refine X_aload_n (pc := 403) C 0 dL_isSound_403 rfl rfl ?_
      refine X_iload (pc := 404) C dL_isSound_404 rfl ?_
      refine X_ask (n := 2) (pc := 406) C [.ref _, .int _] (a_lineOfN l hl0 _ hP σ hG hu ea) ⟨rfl, rfl⟩ m_h_L_lineOf m_m_L_166 m_t_L_lineOf m_n_L ⟨by decide +kernel, by decide +kernel, by decide +kernel⟩ ⟨Nat.le_of_ble_eq_true rfl, Nat.le_of_ble_eq_true rfl⟩ ⟨by show _ ≤ 3000; omega, by show _ ≤ 18000; omega⟩ rfl (Nat.le_of_ble_eq_true rfl) rfl dL_isSound_406 ?_
      refine X_ask (n := 2) (pc := 409) C [.ref _, .int _] (a_isLineBusy l hl0 _ hP σ hG ha) ⟨rfl, rfl⟩ m_h_L_isLineBusy m_m_L_168 m_t_L_isLineBusy m_n_L ⟨by decide +kernel, by decide +kernel, by decide +kernel⟩ ⟨Nat.le_of_ble_eq_true rfl, Nat.le_of_ble_eq_true rfl⟩ ⟨by show _ ≤ 3000; omega, by show _ ≤ 18000; omega⟩ rfl (Nat.le_of_ble_eq_true rfl) rfl dL_isSound_409 ?_
      refine X_iconst (pc := 412) (v := 1) C dL_isSound_412 (by decide) ?_
      refine X_icmp_ne (pc := 413) C 433 dL_isSound_413 (by decide) (fun h => absurd (if_pos (hbz h399)) h) (fun h => XW.up (by omega) (by omega) m416)
  refine X_iload (pc := 327) C dL_isSound_327 rfl ?_
  refine X_iconst (pc := 329) (v := 2) C dL_isSound_329 (by decide) ?_
  refine X_icmp_ne (pc := 330) C 340 dL_isSound_330 (by decide) (fun h1 => ?_) (fun h1 => ?_)
  · rw [mDue, if_neg h1, Int32.add_zero] at m340
    exact m340
  · rw [mDue, if_pos h1] at m340
    refine X_iload (pc := 333) C dL_isSound_333 rfl ?_
    refine X_iload (pc := 335) C dL_isSound_335 rfl ?_
    refine X_iadd (pc := 337) C dL_isSound_337 ?_
    refine X_istore (pc := 338) (lv1 := [(0, _), (1, _), (2, _), (3, _), (4, _), (5, _), (6, _), (7, _), (8, _), (9, _), (10, _), (11, _), (12, _), (16, _)]) C dL_isSound_338 (by decide) rfl ?_
    exact m340

set_option maxRecDepth 100000 in
set_option maxHeartbeats 4000000 in
theorem sE {wa : Int32} {f g : Nat → Int32} (hl0 : l.stackTraces = false) (C : XC p s m args meth c (xPR P (wS P r1 r2 f g)) A 17 RL cL_isSound (some .boolean)) (hP : XA P) (hG : GV σ S o ch) (hp : PS S T) (hcl : cl < mK S) (hk : k + 40 ≤ 3000) (hu : u < mU S) (hca : sC S 0 cl = nI u) (hf : ∀ a, a < 6 → f a = nI (mLine S (nI a) cl)) (hg : ∀ t, t < 4 → g t = nI (mTrk S (nI t) cl)) (kx : ∀ f1 g1 : Nat → Int32, (∀ a, a < 6 → f1 a = nI (mLine S (nI a) (cl + 1))) → (∀ t, t < 4 → g1 t = nI (mTrk S (nI t) (cl + 1))) → XC p s m args meth c (xPR P (wS P r1 r2 f1 g1)) A 17 RL cL_isSound (some .boolean) → XW p l e rm_L_isSound s m args below meth c (xPR P (wS P r1 r2 f1 g1)) A 17 (k + 7) (6 * (k + 7)) Q σ 546 [(0, .ref (P.2.2.1 (.inr 0))), (1, .ref r1), (2, .ref r2), (3, .int (nI (mCords S (cl + 1)))), (4, .int mo), (5, .int wa), (6, .int (nI (cCnt (fun c => sC S 4 c = 1) (cl + 1)))), (7, .int nu), (8, .int (nI cl))] []) : XW p l e rm_L_isSound s m args below meth c (xPR P (wS P r1 r2 f g)) A 17 (k) (6 * (k)) Q σ 456 [(0, .ref (P.2.2.1 (.inr 0))), (1, .ref r1), (2, .ref r2), (3, .int (nI (mCords S cl))), (4, .int mo), (5, .int wa), (6, .int (nI (cCnt (fun c => sC S 4 c = 1) cl))), (7, .int nu), (8, .int (nI cl)), (9, .int (sC S 4 cl)), (10, .int (sC S 2 cl)), (11, .int (nI u)), (12, .int (sC S 1 cl))] [] := by
  have hM := hG.b.x.i
  have hM15 := hM.u15
  obtain ⟨a, ha, ea⟩ := xok_of (hG.b.x.u hu).1 (by have := hM.l6; omega)
  have ha6 : a < 6 := by have := hM.l6; omega
  have eu : sU S 0 (cN (sC S 0 cl)) = nI a := by rw [hca, cN_nI (a := u) (by omega)]; exact ea
  refine X_iload (pc := 456) C dL_isSound_456 rfl ?_
  refine X_iconst (pc := 458) (v := 1) C dL_isSound_458 (by decide) ?_
  refine X_icmp_eq (pc := 459) C 465 dL_isSound_459 (by decide) (fun g1 => ?_) (fun g1 => ?_)
  · rw [cCnt_y (q := fun c => sC S 4 c = 1) g1] at kx
    rcases (hM.c hcl).two hM.u15 hM.t4 with ⟨e2, e1, hok, hv⟩ | ⟨e1, e2, ht, et⟩
    · have eo := (xok_c hok (by omega)).2
      generalize cN (sC S 1 cl) = v at hv eo
      obtain ⟨b, hb, eb⟩ := xok_of (hG.b.x.u hv).1 (by have := hM.l6; omega)
      have hb6 : b < 6 := by have := hM.l6; omega
      have ev : sU S 0 (cN (sC S 1 cl)) = nI b := by rw [eo, cN_nI (a := v) (by omega)]; exact eb
      have hg1 : ∀ t, t < 4 → g t = nI (mTrk S (nI t) (cl + 1)) := fun t ht => by
        rw [trk_y g1, if_neg (fun q => not_m1 (by omega) (q.symm.trans e2)), Nat.add_zero]; exact hg t ht
      have hus : ∀ x : Nat, x < 6 → (mUses S cl (nI x) ↔ (x = a ∨ x = b)) := fun x hx => by
        unfold mUses
        rw [eu, ev]
        constructor
        · rintro (q | q)
          · exact Or.inl ((nI_eq (n31 (by omega)) (n31 (by omega))).mp q).symm
          · exact Or.inr ((nI_eq (n31 (by omega)) (n31 (by omega))).mp q.2).symm
        · rintro (rfl | rfl)
          · exact Or.inl rfl
          · exact Or.inr ⟨e2, rfl⟩
      rw [e2, eo]
      by_cases hba : b = a
      · have hown : mOwn S cl := ⟨e2, by rw [eu, ev, hba]⟩
        rw [crd_y g1, if_pos hown, Nat.add_zero] at kx
        have hf1 : ∀ x, x < 6 → upd f a (f a + 1) x = nI (mLine S (nI x) (cl + 1)) := fun x hx => by
          rw [lin_y g1]
          by_cases q : x = a
          · subst q
            rw [upd_at, hf x hx, if_pos ((hus x hx).mpr (Or.inl rfl)), nI_1]
          · rw [upd_ne q, hf x hx, if_neg (fun z => ((hus x hx).mp z).elim q (fun y => q (y.trans hba))), Nat.add_zero]
        first | refine X_iincN (pc := 465) (lv1 := [(0, _), (1, _), (2, _), (3, _), (4, _), (5, _), (6, _), (7, _), (8, _), (9, _), (10, _), (11, _), (12, _)]) C dL_isSound_465 rfl (by decide) (by decide) rfl ?_ | refine X_iinc (pc := 465) (kk := 1) (lv1 := [(0, _), (1, _), (2, _), (3, _), (4, _), (5, _), (6, _), (7, _), (8, _), (9, _), (10, _), (11, _), (12, _)]) C dL_isSound_465 rfl (by decide) (by decide) rfl ?_
        refine X_aload_n (pc := 468) C 1 dL_isSound_468 rfl rfl ?_
        refine X_aload_n (pc := 469) C 0 dL_isSound_469 rfl rfl ?_
        refine X_iload (pc := 470) C dL_isSound_470 rfl ?_
        refine X_ask (n := 2) (pc := 472) C [.ref _, .int _] (a_lineOfN l hl0 _ (XA.pr hP) σ hG hu ea) ⟨rfl, rfl⟩ m_h_L_lineOf m_m_L_166 m_t_L_lineOf m_n_L ⟨by decide +kernel, by decide +kernel, by decide +kernel⟩ ⟨Nat.le_of_ble_eq_true rfl, Nat.le_of_ble_eq_true rfl⟩ ⟨by show _ ≤ 3000; omega, by show _ ≤ 18000; omega⟩ rfl (Nat.le_of_ble_eq_true rfl) rfl dL_isSound_472 ?_
        refine X_dup2 (pc := 475) C dL_isSound_475 rfl rfl ?_
        refine X_lnL (pc := 476) C ha6 dL_isSound_476 ?_
        refine X_iconst (pc := 477) (v := 1) C dL_isSound_477 (by decide) ?_
        refine X_iadd (pc := 478) C dL_isSound_478 ?_
        refine X_stL (pc := 479) C ha6 dL_isSound_479 (fun C => ?_)
        refine X_iload (pc := 480) C dL_isSound_480 rfl ?_
        refine X_if_lt (pc := 482) C 496 dL_isSound_482 (by decide) (fun h => ?_) (fun h => absurd (by decide) h)
        refine X_aload_n (pc := 496) C 0 dL_isSound_496 rfl rfl ?_
        refine X_iload (pc := 497) C dL_isSound_497 rfl ?_
        refine X_ask (n := 2) (pc := 499) C [.ref _, .int _] (a_lineOfN l hl0 _ (XA.pr hP) σ hG hv eb) ⟨rfl, rfl⟩ m_h_L_lineOf m_m_L_166 m_t_L_lineOf m_n_L ⟨by decide +kernel, by decide +kernel, by decide +kernel⟩ ⟨Nat.le_of_ble_eq_true rfl, Nat.le_of_ble_eq_true rfl⟩ ⟨by show _ ≤ 3000; omega, by show _ ≤ 18000; omega⟩ rfl (Nat.le_of_ble_eq_true rfl) rfl dL_isSound_499 ?_
        refine X_aload_n (pc := 502) C 0 dL_isSound_502 rfl rfl ?_
        refine X_iload (pc := 503) C dL_isSound_503 rfl ?_
        refine X_ask (n := 2) (pc := 505) C [.ref _, .int _] (a_lineOfN l hl0 _ (XA.pr hP) σ hG hu ea) ⟨rfl, rfl⟩ m_h_L_lineOf m_m_L_166 m_t_L_lineOf m_n_L ⟨by decide +kernel, by decide +kernel, by decide +kernel⟩ ⟨Nat.le_of_ble_eq_true rfl, Nat.le_of_ble_eq_true rfl⟩ ⟨by show _ ≤ 3000; omega, by show _ ≤ 18000; omega⟩ rfl (Nat.le_of_ble_eq_true rfl) rfl dL_isSound_505 ?_
        refine X_icmp_eq (pc := 508) C 523 dL_isSound_508 (by decide) (fun h => ?_) (fun h => absurd (congrArg nI hba) h)
        refine X_iload (pc := 523) C dL_isSound_523 rfl ?_
        refine X_if_ge (pc := 525) C 543 dL_isSound_525 (by decide) (fun h => absurd h (by decide)) (fun h => ?_)
        refine X_aload_n (pc := 528) C 0 dL_isSound_528 rfl rfl ?_
        refine X_iload (pc := 529) C dL_isSound_529 rfl ?_
        refine X_ask (n := 2) (pc := 531) C [.ref _, .int _] (a_lineOfN l hl0 _ (XA.pr hP) σ hG hv eb) ⟨rfl, rfl⟩ m_h_L_lineOf m_m_L_166 m_t_L_lineOf m_n_L ⟨by decide +kernel, by decide +kernel, by decide +kernel⟩ ⟨Nat.le_of_ble_eq_true rfl, Nat.le_of_ble_eq_true rfl⟩ ⟨by show _ ≤ 3000; omega, by show _ ≤ 18000; omega⟩ rfl (Nat.le_of_ble_eq_true rfl) rfl dL_isSound_531 ?_
        refine X_aload_n (pc := 534) C 0 dL_isSound_534 rfl rfl ?_
        refine X_iload (pc := 535) C dL_isSound_535 rfl ?_
        refine X_ask (n := 2) (pc := 537) C [.ref _, .int _] (a_lineOfN l hl0 _ (XA.pr hP) σ hG hu ea) ⟨rfl, rfl⟩ m_h_L_lineOf m_m_L_166 m_t_L_lineOf m_n_L ⟨by decide +kernel, by decide +kernel, by decide +kernel⟩ ⟨Nat.le_of_ble_eq_true rfl, Nat.le_of_ble_eq_true rfl⟩ ⟨by show _ ≤ 3000; omega, by show _ ≤ 18000; omega⟩ rfl (Nat.le_of_ble_eq_true rfl) rfl dL_isSound_537 ?_
        refine X_icmp_eq (pc := 540) C 546 dL_isSound_540 (by decide) (fun h => ?_) (fun h => absurd (congrArg nI hba) h)
        exact XW.up (by omega) (by omega) (XW.less [0, 1, 2, 3, 4, 5, 6, 7, 8] rfl (kx _ _ hf1 hg1 C))
      · have hown : ¬ mOwn S cl := fun q => hba ((nI_eq (n31 (by omega)) (n31 (by omega))).mp (by have := q.2; rw [eu, ev] at this; exact this))
        rw [crd_y g1, if_neg hown] at kx
        have hf1 : ∀ x, x < 6 → upd (upd f a (f a + 1)) b (upd f a (f a + 1) b + 1) x = nI (mLine S (nI x) (cl + 1)) := fun x hx => by
          rw [lin_y g1]
          by_cases q : x = b
          · subst q
            rw [upd_at, upd_ne hba, hf x hx, if_pos ((hus x hx).mpr (Or.inr rfl)), nI_1]
          · rw [upd_ne q]
            by_cases q2 : x = a
            · subst q2
              rw [upd_at, hf x hx, if_pos ((hus x hx).mpr (Or.inl rfl)), nI_1]
            · rw [upd_ne q2, hf x hx, if_neg (fun z => ((hus x hx).mp z).elim q2 q), Nat.add_zero]
        first | refine X_iincN (pc := 465) (lv1 := [(0, _), (1, _), (2, _), (3, _), (4, _), (5, _), (6, _), (7, _), (8, _), (9, _), (10, _), (11, _), (12, _)]) C dL_isSound_465 rfl (by decide) (by decide) rfl ?_ | refine X_iinc (pc := 465) (kk := 1) (lv1 := [(0, _), (1, _), (2, _), (3, _), (4, _), (5, _), (6, _), (7, _), (8, _), (9, _), (10, _), (11, _), (12, _)]) C dL_isSound_465 rfl (by decide) (by decide) rfl ?_
        refine X_aload_n (pc := 468) C 1 dL_isSound_468 rfl rfl ?_
        refine X_aload_n (pc := 469) C 0 dL_isSound_469 rfl rfl ?_
        refine X_iload (pc := 470) C dL_isSound_470 rfl ?_
        refine X_ask (n := 2) (pc := 472) C [.ref _, .int _] (a_lineOfN l hl0 _ (XA.pr hP) σ hG hu ea) ⟨rfl, rfl⟩ m_h_L_lineOf m_m_L_166 m_t_L_lineOf m_n_L ⟨by decide +kernel, by decide +kernel, by decide +kernel⟩ ⟨Nat.le_of_ble_eq_true rfl, Nat.le_of_ble_eq_true rfl⟩ ⟨by show _ ≤ 3000; omega, by show _ ≤ 18000; omega⟩ rfl (Nat.le_of_ble_eq_true rfl) rfl dL_isSound_472 ?_
        refine X_dup2 (pc := 475) C dL_isSound_475 rfl rfl ?_
        refine X_lnL (pc := 476) C ha6 dL_isSound_476 ?_
        refine X_iconst (pc := 477) (v := 1) C dL_isSound_477 (by decide) ?_
        refine X_iadd (pc := 478) C dL_isSound_478 ?_
        refine X_stL (pc := 479) C ha6 dL_isSound_479 (fun C => ?_)
        refine X_iload (pc := 480) C dL_isSound_480 rfl ?_
        refine X_if_lt (pc := 482) C 496 dL_isSound_482 (by decide) (fun h => ?_) (fun h => absurd (by decide) h)
        refine X_aload_n (pc := 496) C 0 dL_isSound_496 rfl rfl ?_
        refine X_iload (pc := 497) C dL_isSound_497 rfl ?_
        refine X_ask (n := 2) (pc := 499) C [.ref _, .int _] (a_lineOfN l hl0 _ (XA.pr hP) σ hG hv eb) ⟨rfl, rfl⟩ m_h_L_lineOf m_m_L_166 m_t_L_lineOf m_n_L ⟨by decide +kernel, by decide +kernel, by decide +kernel⟩ ⟨Nat.le_of_ble_eq_true rfl, Nat.le_of_ble_eq_true rfl⟩ ⟨by show _ ≤ 3000; omega, by show _ ≤ 18000; omega⟩ rfl (Nat.le_of_ble_eq_true rfl) rfl dL_isSound_499 ?_
        refine X_aload_n (pc := 502) C 0 dL_isSound_502 rfl rfl ?_
        refine X_iload (pc := 503) C dL_isSound_503 rfl ?_
        refine X_ask (n := 2) (pc := 505) C [.ref _, .int _] (a_lineOfN l hl0 _ (XA.pr hP) σ hG hu ea) ⟨rfl, rfl⟩ m_h_L_lineOf m_m_L_166 m_t_L_lineOf m_n_L ⟨by decide +kernel, by decide +kernel, by decide +kernel⟩ ⟨Nat.le_of_ble_eq_true rfl, Nat.le_of_ble_eq_true rfl⟩ ⟨by show _ ≤ 3000; omega, by show _ ≤ 18000; omega⟩ rfl (Nat.le_of_ble_eq_true rfl) rfl dL_isSound_505 ?_
        refine X_icmp_eq (pc := 508) C 523 dL_isSound_508 (by decide) (fun h => absurd ((nI_eq (n31 (by omega)) (n31 (by omega))).mp h) hba) (fun h => ?_)
        refine X_aload_n (pc := 511) C 1 dL_isSound_511 rfl rfl ?_
        refine X_aload_n (pc := 512) C 0 dL_isSound_512 rfl rfl ?_
        refine X_iload (pc := 513) C dL_isSound_513 rfl ?_
        refine X_ask (n := 2) (pc := 515) C [.ref _, .int _] (a_lineOfN l hl0 _ (XA.pr hP) σ hG hv eb) ⟨rfl, rfl⟩ m_h_L_lineOf m_m_L_166 m_t_L_lineOf m_n_L ⟨by decide +kernel, by decide +kernel, by decide +kernel⟩ ⟨Nat.le_of_ble_eq_true rfl, Nat.le_of_ble_eq_true rfl⟩ ⟨by show _ ≤ 3000; omega, by show _ ≤ 18000; omega⟩ rfl (Nat.le_of_ble_eq_true rfl) rfl dL_isSound_515 ?_
        refine X_dup2 (pc := 518) C dL_isSound_518 rfl rfl ?_
        refine X_lnL (pc := 519) C hb6 dL_isSound_519 ?_
        refine X_iconst (pc := 520) (v := 1) C dL_isSound_520 (by decide) ?_
        refine X_iadd (pc := 521) C dL_isSound_521 ?_
        refine X_stL (pc := 522) C hb6 dL_isSound_522 (fun C => ?_)
        refine X_iload (pc := 523) C dL_isSound_523 rfl ?_
        refine X_if_ge (pc := 525) C 543 dL_isSound_525 (by decide) (fun h => absurd h (by decide)) (fun h => ?_)
        refine X_aload_n (pc := 528) C 0 dL_isSound_528 rfl rfl ?_
        refine X_iload (pc := 529) C dL_isSound_529 rfl ?_
        refine X_ask (n := 2) (pc := 531) C [.ref _, .int _] (a_lineOfN l hl0 _ (XA.pr hP) σ hG hv eb) ⟨rfl, rfl⟩ m_h_L_lineOf m_m_L_166 m_t_L_lineOf m_n_L ⟨by decide +kernel, by decide +kernel, by decide +kernel⟩ ⟨Nat.le_of_ble_eq_true rfl, Nat.le_of_ble_eq_true rfl⟩ ⟨by show _ ≤ 3000; omega, by show _ ≤ 18000; omega⟩ rfl (Nat.le_of_ble_eq_true rfl) rfl dL_isSound_531 ?_
        refine X_aload_n (pc := 534) C 0 dL_isSound_534 rfl rfl ?_
        refine X_iload (pc := 535) C dL_isSound_535 rfl ?_
        refine X_ask (n := 2) (pc := 537) C [.ref _, .int _] (a_lineOfN l hl0 _ (XA.pr hP) σ hG hu ea) ⟨rfl, rfl⟩ m_h_L_lineOf m_m_L_166 m_t_L_lineOf m_n_L ⟨by decide +kernel, by decide +kernel, by decide +kernel⟩ ⟨Nat.le_of_ble_eq_true rfl, Nat.le_of_ble_eq_true rfl⟩ ⟨by show _ ≤ 3000; omega, by show _ ≤ 18000; omega⟩ rfl (Nat.le_of_ble_eq_true rfl) rfl dL_isSound_537 ?_
        refine X_icmp_eq (pc := 540) C 546 dL_isSound_540 (by decide) (fun h => absurd ((nI_eq (n31 (by omega)) (n31 (by omega))).mp h) hba) (fun h => ?_)
        first | refine X_iincN (pc := 543) (lv1 := [(0, _), (1, _), (2, _), (3, _), (4, _), (5, _), (6, _), (7, _), (8, _), (9, _), (10, _), (11, _), (12, _)]) C dL_isSound_543 rfl (by decide) (by decide) rfl ?_ | refine X_iinc (pc := 543) (kk := 1) (lv1 := [(0, _), (1, _), (2, _), (3, _), (4, _), (5, _), (6, _), (7, _), (8, _), (9, _), (10, _), (11, _), (12, _)]) C dL_isSound_543 rfl (by decide) (by decide) rfl ?_
        exact XW.up (by omega) (by omega) (XW.less [0, 1, 2, 3, 4, 5, 6, 7, 8] rfl (kx _ _ hf1 hg1 C))
    · have t4 : cN (sC S 2 cl) < 4 := by have := hM.t4; omega
      generalize cN (sC S 2 cl) = t at ht et t4
      have ht4 : t < 4 := t4
      have hown : ¬ mOwn S cl := fun q => e2 q.1
      rw [crd_y g1, if_neg hown] at kx
      have hus : ∀ x : Nat, x < 6 → (mUses S cl (nI x) ↔ x = a) := fun x hx => by
        unfold mUses
        rw [eu]
        constructor
        · rintro (q | q)
          · exact ((nI_eq (n31 (by omega)) (n31 (by omega))).mp q).symm
          · exact absurd q.1 e2
        · rintro rfl
          exact Or.inl rfl
      have hf1 : ∀ x, x < 6 → upd f a (f a + 1) x = nI (mLine S (nI x) (cl + 1)) := fun x hx => by
        rw [lin_y g1]
        by_cases q : x = a
        · subst q
          rw [upd_at, hf x hx, if_pos ((hus x hx).mpr rfl), nI_1]
        · rw [upd_ne q, hf x hx, if_neg (fun z => q ((hus x hx).mp z)), Nat.add_zero]
      have hg1 : ∀ y, y < 4 → upd g t (g t + 1) y = nI (mTrk S (nI y) (cl + 1)) := fun y hy => by
        rw [trk_y g1]
        by_cases q : y = t
        · subst q
          rw [upd_at, hg y hy, if_pos et, nI_1]
        · rw [upd_ne q, hg y hy, if_neg (fun z => q ((nI_eq (n31 (by omega)) (n31 (by omega))).mp (et.symm.trans z)).symm), Nat.add_zero]
      rw [et]
      first | refine X_iincN (pc := 465) (lv1 := [(0, _), (1, _), (2, _), (3, _), (4, _), (5, _), (6, _), (7, _), (8, _), (9, _), (10, _), (11, _), (12, _)]) C dL_isSound_465 rfl (by decide) (by decide) rfl ?_ | refine X_iinc (pc := 465) (kk := 1) (lv1 := [(0, _), (1, _), (2, _), (3, _), (4, _), (5, _), (6, _), (7, _), (8, _), (9, _), (10, _), (11, _), (12, _)]) C dL_isSound_465 rfl (by decide) (by decide) rfl ?_
      refine X_aload_n (pc := 468) C 1 dL_isSound_468 rfl rfl ?_
      refine X_aload_n (pc := 469) C 0 dL_isSound_469 rfl rfl ?_
      refine X_iload (pc := 470) C dL_isSound_470 rfl ?_
      refine X_ask (n := 2) (pc := 472) C [.ref _, .int _] (a_lineOfN l hl0 _ (XA.pr hP) σ hG hu ea) ⟨rfl, rfl⟩ m_h_L_lineOf m_m_L_166 m_t_L_lineOf m_n_L ⟨by decide +kernel, by decide +kernel, by decide +kernel⟩ ⟨Nat.le_of_ble_eq_true rfl, Nat.le_of_ble_eq_true rfl⟩ ⟨by show _ ≤ 3000; omega, by show _ ≤ 18000; omega⟩ rfl (Nat.le_of_ble_eq_true rfl) rfl dL_isSound_472 ?_
      refine X_dup2 (pc := 475) C dL_isSound_475 rfl rfl ?_
      refine X_lnL (pc := 476) C ha6 dL_isSound_476 ?_
      refine X_iconst (pc := 477) (v := 1) C dL_isSound_477 (by decide) ?_
      refine X_iadd (pc := 478) C dL_isSound_478 ?_
      refine X_stL (pc := 479) C ha6 dL_isSound_479 (fun C => ?_)
      refine X_iload (pc := 480) C dL_isSound_480 rfl ?_
      refine X_if_lt (pc := 482) C 496 dL_isSound_482 (by decide) (fun h => absurd h (nI_pos (n31 (by omega)))) (fun h => ?_)
      refine X_aload_n (pc := 485) C 2 dL_isSound_485 rfl rfl ?_
      refine X_iload (pc := 486) C dL_isSound_486 rfl ?_
      refine X_dup2 (pc := 488) C dL_isSound_488 rfl rfl ?_
      refine X_lnT (pc := 489) C ht4 dL_isSound_489 ?_
      refine X_iconst (pc := 490) (v := 1) C dL_isSound_490 (by decide) ?_
      refine X_iadd (pc := 491) C dL_isSound_491 ?_
      refine X_stT (pc := 492) C ht4 dL_isSound_492 (fun C => ?_)
      refine X_goto (pc := 493) C 523 dL_isSound_493 (by decide) ?_
      refine X_iload (pc := 523) C dL_isSound_523 rfl ?_
      refine X_if_ge (pc := 525) C 543 dL_isSound_525 (by decide) (fun h => ?_) (fun h => absurd (nI_pos' (n31 (by omega))) h)
      first | refine X_iincN (pc := 543) (lv1 := [(0, _), (1, _), (2, _), (3, _), (4, _), (5, _), (6, _), (7, _), (8, _), (9, _), (10, _), (11, _), (12, _)]) C dL_isSound_543 rfl (by decide) (by decide) rfl ?_ | refine X_iinc (pc := 543) (kk := 1) (lv1 := [(0, _), (1, _), (2, _), (3, _), (4, _), (5, _), (6, _), (7, _), (8, _), (9, _), (10, _), (11, _), (12, _)]) C dL_isSound_543 rfl (by decide) (by decide) rfl ?_
      exact XW.up (by omega) (by omega) (XW.less [0, 1, 2, 3, 4, 5, 6, 7, 8] rfl (kx _ _ hf1 hg1 C))
  · rw [cCnt_n (q := fun c => sC S 4 c = 1) g1, crd_n g1] at kx
    refine X_goto (pc := 462) C 546 dL_isSound_462 (by decide) ?_
    exact XW.up (by omega) (by omega) (XW.less [0, 1, 2, 3, 4, 5, 6, 7, 8] rfl (kx f g (fun x hx => by rw [lin_n g1]; exact hf x hx) (fun y hy => by rw [trk_n g1]; exact hg y hy) C))

end X79

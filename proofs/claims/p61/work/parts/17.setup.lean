/-! READER: the commands, the setup's statements -/
/-- a command -/
def rCmd (σ : XS) (n p : Nat) : RR :=
  if rIsW σ n p 3 = 0 then (if rIsW σ n p 1 = 0 then (if rIsW σ n p 4 = 0 then (if rIsW σ n p 5 = 0 then (if rIsW σ n p 6 = 0 then (0, fF σ n p 1, p) else rMood σ n p) else rWait σ n p) else rEnd σ n p) else rTrk σ n p) else rCall σ n p
def rCmds (n : Nat) : Nat → XS → Nat → Nat → Int32 × XS
  | 0, σ, _, c => (nI c, σ)
  | k + 1, σ, p, c => if kT σ n p = 0 then (nI c, σ) else if (rCmd σ n p).1 = 0 then (-1, (rCmd σ n p).2.1) else rCmds n k (rCmd σ n p).2.1 (rCmd σ n p).2.2 (c + 1)
/-- what a reading method keeps: a flag, the token behind it, the counts, the other cells -/
def rOk (n : Nat) (r : RR) : Prop := (r.1 = 0 ∨ r.1 = 1) ∧ (¬ r.1 = 0 → At r.2.1 n r.2.2 ∧ Bd r.2.1 1)
theorem rOk.no {n p : Nat} {τ : XS} : rOk n (0, τ, p) := ⟨Or.inl rfl, fun h => absurd rfl h⟩
theorem rOk.yes {n p : Nat} {τ : XS} (h1 : At τ n p) (h2 : Bd τ 1) : rOk n (1, fA τ n p, eT τ n p) := ⟨Or.inr rfl, fun _ => ⟨h1.a, h2.fA⟩⟩
theorem Bd.req {σ : XS} {ca ot tr ur : Int32} (h : Bd σ 1) (hc : ncN σ 1 < 40) : Bd (uReq σ 1 (nuN σ 1) (ncN σ 1) ca ot tr ur) 1 :=
  Bd.mk (nu := nuN σ 1) (nc := ncN σ 1 + 1) (nt := ntN σ 1) (by rw [uReq_nu]; exact h.1) h.2.1 uReq_nc (by omega) (by rw [uReq_nt]; exact h.2.2.2.2.1) h.2.2.2.2.2
theorem rReq1_ok {σ : XS} {n p : Nat} {ca ot tr ur : Int32} (hA : At σ n p) (hB : Bd σ 1) : rOk n (rReq1 σ n p ca ot tr ur) := by
  unfold rReq1
  by_cases h : kT σ n p = 3
  · rw [if_pos h]
    by_cases h2 : ncN σ 1 < 40
    · rw [if_pos h2]
      have h3 := rOk.yes (n := n) (p := p) (hA.req (nu := nuN σ 1) (nc := ncN σ 1) (ca := ca) (ot := ot) (tr := tr) (ur := ur)) (hB.req h2)
      rw [eT_req] at h3
      exact h3
    · rw [if_neg h2]
      exact rOk.no
  · rw [if_neg h]
    exact rOk.no
theorem rReq_ok {σ : XS} {n p : Nat} {ca ot tr : Int32} (hA : At σ n p) (hB : Bd σ 1) : rOk n (rReq σ n p ca ot tr) := rReq1_ok (rUrg_At hA) (rUrg_Bd hB)
theorem At.clock {σ : XS} {n p : Nat} {v : Int32} (h : At σ n p) : At (uClock σ 1 v) n p := h.o (xu_ne _ _ _ (by simp)) (xu_ne _ _ _ (by simp))
theorem Bd.clock {σ : XS} {v : Int32} (h : Bd σ 1) : Bd (uClock σ 1 v) 1 := h.o (by simp [uClock, xu_ap]) (by simp [uClock, xu_ap]) (by simp [uClock, xu_ap])
theorem eT_clock {σ : XS} {n p : Nat} {v : Int32} : eT (uClock σ 1 v) n p = eT σ n p := by unfold eT uClock; rw [xu_ne _ _ _ (by simp)]
theorem At.mood {σ : XS} {n p k : Nat} {v : Int32} (h : At σ n p) : At (xu σ (.inl (1, 5)) k v) n p := h.o (xu_ne _ _ _ (by simp)) (xu_ne _ _ _ (by simp))
theorem Bd.mood {σ : XS} {k : Nat} {v : Int32} (h : Bd σ 1) : Bd (xu σ (.inl (1, 5)) k v) 1 := h.o (by simp [xu_ap]) (by simp [xu_ap]) (by simp [xu_ap])
theorem eT_mood {σ : XS} {n p k : Nat} {v : Int32} : eT (xu σ (.inl (1, 5)) k v) n p = eT σ n p := by unfold eT; rw [xu_ne _ _ _ (by simp)]
theorem rSem_ok {σ τ : XS} {n p : Nat} (hA : At τ n p) (hB : Bd τ 1) (he : eT τ n p = eT σ n p) : rOk n (rSem σ n p τ) := by
  unfold rSem
  by_cases h : kT σ n p = 3
  · rw [if_pos h, ← he]
    exact rOk.yes hA hB
  · rw [if_neg h]
    exact rOk.no
theorem rCall1_ok {σ : XS} {n p : Nat} (hA : At σ n p) (hB : Bd σ 1) : rOk n (rCall1 σ n p) := by
  unfold rCall1
  by_cases h : (rKnown σ n p (nuN σ 1) (-1)).1 = -1
  · rw [if_pos h]; exact rOk.no
  · rw [if_neg h]
    by_cases h2 : (rKnown (fA σ n p) n (eT σ n p) (nuN σ 1) (rKnown σ n p (nuN σ 1) (-1)).1).1 = -1
    · rw [if_pos h2]; exact rOk.no
    · rw [if_neg h2]; exact rReq_ok hA.a.a hB.fA.fA
theorem rCall_ok {σ : XS} {n p : Nat} (hA : At σ n p) (hB : Bd σ 1) : rOk n (rCall σ n p) := rCall1_ok hA.a hB.fA
theorem rTrk1_ok {σ : XS} {n p : Nat} (hA : At σ n p) (hB : Bd σ 1) : rOk n (rTrk1 σ n p) := by
  unfold rTrk1
  by_cases h : (rKnown σ n p (nuN σ 1) (-1)).1 = -1
  · rw [if_pos h]; exact rOk.no
  · rw [if_neg h]
    by_cases h2 : (rNum (fA σ n p) n (eT σ n p) 0 (σ.1 (.inl (1, 0)) 6 - 1)).1 = -1
    · rw [if_pos h2]; exact rOk.no
    · rw [if_neg h2]; exact rReq_ok hA.a.a hB.fA.fA
theorem rTrk_ok {σ : XS} {n p : Nat} (hA : At σ n p) (hB : Bd σ 1) : rOk n (rTrk σ n p) := rTrk1_ok hA.a hB.fA
theorem uFinB_At {σ : XS} {n p j : Nat} (h : At σ n p) : At (uFinB σ 1 (nuN σ 1) (ncN σ 1) (ntN σ 1) j).1 n p := h.o (uFinB_o (by simp) (by simp) (by simp) (by simp) (by simp) (by simp)) (uFinB_o (by simp) (by simp) (by simp) (by simp) (by simp) (by simp))
theorem uFinB_Bd {σ : XS} {j : Nat} (h : Bd σ 1) : Bd (uFinB σ 1 (nuN σ 1) (ncN σ 1) (ntN σ 1) j).1 1 := h.o (by rw [uFinB_o (by simp) (by simp) (by simp) (by simp) (by simp) (by simp)]) (by rw [uFinB_o (by simp) (by simp) (by simp) (by simp) (by simp) (by simp)]) (by rw [uFinB_o (by simp) (by simp) (by simp) (by simp) (by simp) (by simp)])
theorem uFinB_eT {σ : XS} {n p j nu nc nt : Nat} : eT (uFinB σ 1 nu nc nt j).1 n p = eT σ n p := by unfold eT; rw [uFinB_o (by simp) (by simp) (by simp) (by simp) (by simp) (by simp)]
theorem rEnd2_ok {σ : XS} {n p j : Nat} (hA : At σ n p) (hB : Bd σ 1) : rOk n (rEnd2 σ n p j) := by
  unfold rEnd2
  by_cases h : kT σ n p = 3
  · rw [if_pos h]
    by_cases h2 : σ.1 (.inl (1, 9)) j = 2 ∨ σ.1 (.inl (1, 9)) j = 3
    · rw [if_pos h2]; exact rOk.no
    · rw [if_neg h2]
      have h3 := rOk.yes (n := n) (p := p) (uFinB_At (j := j) hA) (uFinB_Bd (j := j) hB)
      rw [uFinB_eT] at h3
      exact h3
  · rw [if_neg h]; exact rOk.no
theorem rEnd1_ok {σ : XS} {n p : Nat} (hA : At σ n p) (hB : Bd σ 1) : rOk n (rEnd1 σ n p) := by
  unfold rEnd1
  by_cases h : (rEndN σ n p).1 = -1
  · rw [if_pos h]; exact rOk.no
  · rw [if_neg h]; exact rEnd2_ok hA.a hB.fA
theorem rEnd_ok {σ : XS} {n p : Nat} (hA : At σ n p) (hB : Bd σ 1) : rOk n (rEnd σ n p) := rEnd1_ok hA.a hB.fA
theorem rWait1_ok {σ : XS} {n p : Nat} (hA : At σ n p) (hB : Bd σ 1) : rOk n (rWait1 σ n p) := by
  unfold rWait1
  by_cases h : (rWaitN σ n p).1 = -1
  · rw [if_pos h]; exact rOk.no
  · rw [if_neg h]; exact rSem_ok hA.a.clock (Bd.clock hB.fA) eT_clock
theorem rWait_ok {σ : XS} {n p : Nat} (hA : At σ n p) (hB : Bd σ 1) : rOk n (rWait σ n p) := rWait1_ok hA.a hB.fA
theorem rMood1_ok {σ : XS} {n p : Nat} (hA : At σ n p) (hB : Bd σ 1) : rOk n (rMood1 σ n p) := by
  unfold rMood1
  by_cases h : (rKnown σ n p (nuN σ 1) (-1)).1 = -1
  · rw [if_pos h]; exact rOk.no
  · rw [if_neg h]
    by_cases h2 : (rNum (fA σ n p) n (eT σ n p) 0 9).1 = -1
    · rw [if_pos h2]; exact rOk.no
    · rw [if_neg h2]; exact rSem_ok hA.a.a.mood (Bd.mood hB.fA.fA) eT_mood
theorem rMood_ok {σ : XS} {n p : Nat} (hA : At σ n p) (hB : Bd σ 1) : rOk n (rMood σ n p) := rMood1_ok hA.a hB.fA
theorem rCmd_ok {σ : XS} {n p : Nat} (hA : At σ n p) (hB : Bd σ 1) : rOk n (rCmd σ n p) := by
  unfold rCmd
  by_cases h3 : rIsW σ n p 3 = 0
  · rw [if_pos h3]
    by_cases h1 : rIsW σ n p 1 = 0
    · rw [if_pos h1]
      by_cases h4 : rIsW σ n p 4 = 0
      · rw [if_pos h4]
        by_cases h5 : rIsW σ n p 5 = 0
        · rw [if_pos h5]
          by_cases h6 : rIsW σ n p 6 = 0
          · rw [if_pos h6]; exact rOk.no
          · rw [if_neg h6]; exact rMood_ok hA hB
        · rw [if_neg h5]; exact rWait_ok hA hB
      · rw [if_neg h4]; exact rEnd_ok hA hB
    · rw [if_neg h1]; exact rTrk_ok hA hB
  · rw [if_neg h3]; exact rCall_ok hA hB
section XP17
variable {p : Program} {l : Launch} {e : Env} {R : Room} {s : State} {m : MethodId} {args : Array Value} {below : List Frame} {meth : Method} {c : Code} {P : XP} {A : Nat → Prop} {nL cells slots : Nat} {Q : State → Prop} {cc : ByteArray} {ret : Option FieldType} {σ : XS} {pc : Nat} {lv : List (Nat × Value)} {st : List Value}
set_option maxRecDepth 100000 in
set_option maxHeartbeats 4000000 in
theorem E_X4_readCommands {Post : Option Value → XS → Prop} {mc ms : Nat} (C : XC p s m args meth c P A 3 RX4 cX4_readCommands (some .int)) {n k w : Nat} (kx : ∀ (τ1 : XS) (q1 : Nat), At τ1 n q1 → Bd τ1 1 → (Post (some (.int (rCmds n k τ1 q1 (w + 1)).1)) (rCmds n k τ1 q1 (w + 1)).2) → XW p l e rm_X4_readCommands s m args below meth c P A 3 0 0 (MQ below (XQ P A Post) args s mc ms A) τ1 2 [(0, .ref (P.2.2.1 (.inr 1))), (1, .int (nI (w + 1)))] []) {r : RR} (hr : rOk n r) (hp : Post (some (.int (if r.1 = 0 then (-1, r.2.1) else rCmds n k r.2.1 r.2.2 (w + 1)).1)) (if r.1 = 0 then (-1, r.2.1) else rCmds n k r.2.1 r.2.2 (w + 1)).2) : XW p l e rm_X4_readCommands s m args below meth c P A 3 0 0 (MQ below (XQ P A Post) args s mc ms A) r.2.1 124 [(0, .ref (P.2.2.1 (.inr 1))), (1, .int (nI w)), (2, .int r.1)] [] := by
  refine X_iload_n (pc := 124) C 2 dX4_readCommands_124 rfl rfl ?_
  refine X_if_ne (pc := 125) C 130 dX4_readCommands_125 (by decide) (fun h125 => ?_) (fun h125 => ?_)
  · skip
    first | refine X_iincN (pc := 130) (lv1 := [(0, _), (1, _), (2, _)]) C dX4_readCommands_130 rfl (by decide) (by decide) rfl ?_ | refine X_iinc (pc := 130) (kk := 1) (lv1 := [(0, _), (1, _), (2, _)]) C dX4_readCommands_130 rfl (by decide) (by decide) rfl ?_
    refine X_goto (pc := 133) C 2 dX4_readCommands_133 (by decide) ?_
    refine XW.less [0, 1] rfl ?_
    exact kx _ _ (hr.2 h125).1 (hr.2 h125).2 (by rw [if_neg h125] at hp; exact hp)
  · skip
    refine X_iconst (pc := 128) (v := (-1)) C dX4_readCommands_128 (by decide) ?_
    exact X_iret (pc := 129) C (Nat.zero_le _) (Nat.zero_le _) dX4_readCommands_129 (by rw [if_pos h125] at hp; exact hp)

set_option maxRecDepth 100000 in
set_option maxHeartbeats 4000000 in
theorem L_X4_readCommands {Post : Option Value → XS → Prop} {mc ms : Nat} (C : XC p s m args meth c P A 3 RX4 cX4_readCommands (some .int)) (h0 : xI0 P) (hb1 : xIn P 1) {n : Nat} : ∀ (k w : Nat) (τ : XS) (q : Nat), w + k = 700 → At τ n q → Bd τ 1 → Post (some (.int (rCmds n k τ q w).1)) (rCmds n k τ q w).2 → XW p l e rm_X4_readCommands s m args below meth c P A 3 0 0 (MQ below (XQ P A Post) args s mc ms A) τ 2 [(0, .ref (P.2.2.1 (.inr 1))), (1, .int (nI w))] [] := by
  intro k
  induction k with
  | zero =>
    intro w τ q hc hA hB hp
    obtain rfl : w = 700 := by omega
    refine X_aload_n (pc := 2) C 0 dX4_readCommands_2 rfl rfl ?_
    refine G_X4_12 (pc := 3) C (by assumption) dX4_readCommands_3 ?_
    refine G_X4_99 (pc := 6) C (by assumption) dX4_readCommands_6 ?_
    rw [hA.2.2.2.2.1]
    refine X_if_eq (pc := 9) C 136 dX4_readCommands_9 (by decide) (fun h9 => ?_) (fun h9 => ?_)
    · skip
      refine X_iload_n (pc := 136) C 1 dX4_readCommands_136 rfl rfl ?_
      exact X_iret (pc := 137) C (Nat.zero_le _) (Nat.zero_le _) dX4_readCommands_137 (by rw [rCmds] at hp; exact hp)
    · skip
      refine X_iload_n (pc := 12) C 1 dX4_readCommands_12 rfl rfl ?_
      refine X_sipush (pc := 13) (v := 700) C dX4_readCommands_13 (by decide) ?_
      refine X_icmp_ge (pc := 16) C 136 dX4_readCommands_16 (by decide) (fun h16 => ?_) (fun h16 => ?_)
      · skip
        refine X_iload_n (pc := 136) C 1 dX4_readCommands_136 rfl rfl ?_
        exact X_iret (pc := 137) C (Nat.zero_le _) (Nat.zero_le _) dX4_readCommands_137 (by rw [rCmds] at hp; exact hp)
      · exact absurd (Int32.le_refl _) h16
  | succ k ih =>
    intro w τ q hc hA hB hp
    rw [rCmds] at hp
    refine X_aload_n (pc := 2) C 0 dX4_readCommands_2 rfl rfl ?_
    refine G_X4_12 (pc := 3) C (by assumption) dX4_readCommands_3 ?_
    refine G_X4_99 (pc := 6) C (by assumption) dX4_readCommands_6 ?_
    rw [hA.2.2.2.2.1]
    refine X_if_eq (pc := 9) C 136 dX4_readCommands_9 (by decide) (fun h9 => ?_) (fun h9 => ?_)
    · skip
      refine X_iload_n (pc := 136) C 1 dX4_readCommands_136 rfl rfl ?_
      exact X_iret (pc := 137) C (Nat.zero_le _) (Nat.zero_le _) dX4_readCommands_137 (by rw [if_pos h9] at hp; exact hp)
    · skip
      refine X_iload_n (pc := 12) C 1 dX4_readCommands_12 rfl rfl ?_
      refine X_sipush (pc := 13) (v := 700) C dX4_readCommands_13 (by decide) ?_
      refine X_icmp_ge (pc := 16) C 136 dX4_readCommands_16 (by decide) (fun h16 => ?_) (fun h16 => ?_)
      · exact absurd (nle (a := 700) (b := w) h16) (by omega)
      · skip
        refine X_aload_n (pc := 19) C 0 dX4_readCommands_19 rfl rfl ?_
        refine G_X4_12 (pc := 20) C (by assumption) dX4_readCommands_20 ?_
        refine X_ldcS (pc := 23) (q := 3) C (List.mem_of_getElem? (i := 3) rfl) dX4_readCommands_23 ?_
        refine X_fV (i := .inr 2) (ci := 3) (n := 1) (pc := 25) C [.ref _] (c_X3_isWord l P τ h0 (kT τ n q) (sT τ n q) (eT τ n q) hA.2.2.2.2.1 hA.2.2.2.2.2.1 hA.2.2.2.1 hA.se.1 hA.se.2 3 (by decide)) m_c_X3_isWord m_m_X4_44 m_i_X3_isWord m_s_X3_isWord m_n_X3 ⟨by decide +kernel, by decide +kernel, by decide +kernel⟩ ⟨Nat.le_of_ble_eq_true rfl, Nat.le_of_ble_eq_true rfl⟩ ⟨rfl, rfl⟩ ⟨Nat.zero_le _, Nat.zero_le _⟩ (h0 2 (by decide)) rfl rfl rfl rfl (Nat.le_of_ble_eq_true rfl) rfl dX4_readCommands_25 ?_
        refine X_if_eq (pc := 28) C 39 dX4_readCommands_28 (by decide) (fun h28 => ?_) (fun h28 => ?_)
        · change rIsW τ n q 3 = 0 at h28
          refine X_aload_n (pc := 39) C 0 dX4_readCommands_39 rfl rfl ?_
          refine G_X4_12 (pc := 40) C (by assumption) dX4_readCommands_40 ?_
          refine X_ldcS (pc := 43) (q := 1) C (List.mem_of_getElem? (i := 1) rfl) dX4_readCommands_43 ?_
          refine X_fV (i := .inr 2) (ci := 3) (n := 1) (pc := 45) C [.ref _] (c_X3_isWord l P τ h0 (kT τ n q) (sT τ n q) (eT τ n q) hA.2.2.2.2.1 hA.2.2.2.2.2.1 hA.2.2.2.1 hA.se.1 hA.se.2 1 (by decide)) m_c_X3_isWord m_m_X4_44 m_i_X3_isWord m_s_X3_isWord m_n_X3 ⟨by decide +kernel, by decide +kernel, by decide +kernel⟩ ⟨Nat.le_of_ble_eq_true rfl, Nat.le_of_ble_eq_true rfl⟩ ⟨rfl, rfl⟩ ⟨Nat.zero_le _, Nat.zero_le _⟩ (h0 2 (by decide)) rfl rfl rfl rfl (Nat.le_of_ble_eq_true rfl) rfl dX4_readCommands_45 ?_
          refine X_if_eq (pc := 48) C 59 dX4_readCommands_48 (by decide) (fun h48 => ?_) (fun h48 => ?_)
          · change rIsW τ n q 1 = 0 at h48
            refine X_aload_n (pc := 59) C 0 dX4_readCommands_59 rfl rfl ?_
            refine G_X4_12 (pc := 60) C (by assumption) dX4_readCommands_60 ?_
            refine X_ldcS (pc := 63) (q := 4) C (List.mem_of_getElem? (i := 4) rfl) dX4_readCommands_63 ?_
            refine X_fV (i := .inr 2) (ci := 3) (n := 1) (pc := 65) C [.ref _] (c_X3_isWord l P τ h0 (kT τ n q) (sT τ n q) (eT τ n q) hA.2.2.2.2.1 hA.2.2.2.2.2.1 hA.2.2.2.1 hA.se.1 hA.se.2 4 (by decide)) m_c_X3_isWord m_m_X4_44 m_i_X3_isWord m_s_X3_isWord m_n_X3 ⟨by decide +kernel, by decide +kernel, by decide +kernel⟩ ⟨Nat.le_of_ble_eq_true rfl, Nat.le_of_ble_eq_true rfl⟩ ⟨rfl, rfl⟩ ⟨Nat.zero_le _, Nat.zero_le _⟩ (h0 2 (by decide)) rfl rfl rfl rfl (Nat.le_of_ble_eq_true rfl) rfl dX4_readCommands_65 ?_
            refine X_if_eq (pc := 68) C 79 dX4_readCommands_68 (by decide) (fun h68 => ?_) (fun h68 => ?_)
            · change rIsW τ n q 4 = 0 at h68
              refine X_aload_n (pc := 79) C 0 dX4_readCommands_79 rfl rfl ?_
              refine G_X4_12 (pc := 80) C (by assumption) dX4_readCommands_80 ?_
              refine X_ldcS (pc := 83) (q := 5) C (List.mem_of_getElem? (i := 5) rfl) dX4_readCommands_83 ?_
              refine X_fV (i := .inr 2) (ci := 3) (n := 1) (pc := 85) C [.ref _] (c_X3_isWord l P τ h0 (kT τ n q) (sT τ n q) (eT τ n q) hA.2.2.2.2.1 hA.2.2.2.2.2.1 hA.2.2.2.1 hA.se.1 hA.se.2 5 (by decide)) m_c_X3_isWord m_m_X4_44 m_i_X3_isWord m_s_X3_isWord m_n_X3 ⟨by decide +kernel, by decide +kernel, by decide +kernel⟩ ⟨Nat.le_of_ble_eq_true rfl, Nat.le_of_ble_eq_true rfl⟩ ⟨rfl, rfl⟩ ⟨Nat.zero_le _, Nat.zero_le _⟩ (h0 2 (by decide)) rfl rfl rfl rfl (Nat.le_of_ble_eq_true rfl) rfl dX4_readCommands_85 ?_
              refine X_if_eq (pc := 88) C 99 dX4_readCommands_88 (by decide) (fun h88 => ?_) (fun h88 => ?_)
              · change rIsW τ n q 5 = 0 at h88
                refine X_aload_n (pc := 99) C 0 dX4_readCommands_99 rfl rfl ?_
                refine G_X4_12 (pc := 100) C (by assumption) dX4_readCommands_100 ?_
                refine X_ldcS (pc := 103) (q := 6) C (List.mem_of_getElem? (i := 6) rfl) dX4_readCommands_103 ?_
                refine X_fV (i := .inr 2) (ci := 3) (n := 1) (pc := 105) C [.ref _] (c_X3_isWord l P τ h0 (kT τ n q) (sT τ n q) (eT τ n q) hA.2.2.2.2.1 hA.2.2.2.2.2.1 hA.2.2.2.1 hA.se.1 hA.se.2 6 (by decide)) m_c_X3_isWord m_m_X4_44 m_i_X3_isWord m_s_X3_isWord m_n_X3 ⟨by decide +kernel, by decide +kernel, by decide +kernel⟩ ⟨Nat.le_of_ble_eq_true rfl, Nat.le_of_ble_eq_true rfl⟩ ⟨rfl, rfl⟩ ⟨Nat.zero_le _, Nat.zero_le _⟩ (h0 2 (by decide)) rfl rfl rfl rfl (Nat.le_of_ble_eq_true rfl) rfl dX4_readCommands_105 ?_
                refine X_if_eq (pc := 108) C 118 dX4_readCommands_108 (by decide) (fun h108 => ?_) (fun h108 => ?_)
                · change rIsW τ n q 6 = 0 at h108
                  refine X_aload_n (pc := 118) C 0 dX4_readCommands_118 rfl rfl ?_
                  refine X_iconst (pc := 119) (v := 1) C dX4_readCommands_119 (by decide) ?_
                  refine K_X4_48 (pc := 120) C (by assumption) (c_X4_fail l P τ h0 n q hA 1) ⟨Nat.le_of_ble_eq_true rfl, Nat.le_of_ble_eq_true rfl⟩ ⟨rfl, rfl⟩ ⟨Nat.zero_le _, Nat.zero_le _⟩ (Nat.le_of_ble_eq_true rfl) dX4_readCommands_120 ?_
                  refine X_istore_n (pc := 123) (lv1 := [(0, _), (1, _), (2, _)]) C 2 dX4_readCommands_123 rfl (by decide) rfl ?_
                  exact E_X4_readCommands C (r := (0, fF τ n q 1, q)) (fun τ1 q1 a1 a2 a3 => ih (w + 1) τ1 q1 (by omega) a1 a2 a3) rOk.no (by rw [if_neg h9, show rCmd τ n q = (0, fF τ n q 1, q) from by rw [rCmd, if_pos h28, if_pos h48, if_pos h68, if_pos h88, if_pos h108]] at hp; exact hp)
                · change ¬ rIsW τ n q 6 = 0 at h108
                  refine X_aload_n (pc := 111) C 0 dX4_readCommands_111 rfl rfl ?_
                  refine K_X4_122 (pc := 112) C (by assumption) (c_X4_readMood l P τ h0 hb1 n q hA hB) ⟨Nat.le_of_ble_eq_true rfl, Nat.le_of_ble_eq_true rfl⟩ ⟨rfl, rfl⟩ ⟨Nat.zero_le _, Nat.zero_le _⟩ (Nat.le_of_ble_eq_true rfl) dX4_readCommands_112 ?_
                  refine X_goto (pc := 115) C 123 dX4_readCommands_115 (by decide) ?_
                  refine X_istore_n (pc := 123) (lv1 := [(0, _), (1, _), (2, _)]) C 2 dX4_readCommands_123 rfl (by decide) rfl ?_
                  exact E_X4_readCommands C (r := rMood τ n q) (fun τ1 q1 a1 a2 a3 => ih (w + 1) τ1 q1 (by omega) a1 a2 a3) (rMood_ok hA hB) (by rw [if_neg h9, show rCmd τ n q = rMood τ n q from by rw [rCmd, if_pos h28, if_pos h48, if_pos h68, if_pos h88, if_neg h108]] at hp; exact hp)
              · change ¬ rIsW τ n q 5 = 0 at h88
                refine X_aload_n (pc := 91) C 0 dX4_readCommands_91 rfl rfl ?_
                refine K_X4_117 (pc := 92) C (by assumption) (c_X4_readWait l P τ h0 hb1 n q hA hB) ⟨Nat.le_of_ble_eq_true rfl, Nat.le_of_ble_eq_true rfl⟩ ⟨rfl, rfl⟩ ⟨Nat.zero_le _, Nat.zero_le _⟩ (Nat.le_of_ble_eq_true rfl) dX4_readCommands_92 ?_
                refine X_istore_n (pc := 95) (lv1 := [(0, _), (1, _), (2, _)]) C 2 dX4_readCommands_95 rfl (by decide) rfl ?_
                refine X_goto (pc := 96) C 124 dX4_readCommands_96 (by decide) ?_
                exact E_X4_readCommands C (r := rWait τ n q) (fun τ1 q1 a1 a2 a3 => ih (w + 1) τ1 q1 (by omega) a1 a2 a3) (rWait_ok hA hB) (by rw [if_neg h9, show rCmd τ n q = rWait τ n q from by rw [rCmd, if_pos h28, if_pos h48, if_pos h68, if_neg h88]] at hp; exact hp)
            · change ¬ rIsW τ n q 4 = 0 at h68
              refine X_aload_n (pc := 71) C 0 dX4_readCommands_71 rfl rfl ?_
              refine K_X4_112 (pc := 72) C (by assumption) (c_X4_readEnd l P τ h0 hb1 n q hA hB) ⟨Nat.le_of_ble_eq_true rfl, Nat.le_of_ble_eq_true rfl⟩ ⟨rfl, rfl⟩ ⟨Nat.zero_le _, Nat.zero_le _⟩ (Nat.le_of_ble_eq_true rfl) dX4_readCommands_72 ?_
              refine X_istore_n (pc := 75) (lv1 := [(0, _), (1, _), (2, _)]) C 2 dX4_readCommands_75 rfl (by decide) rfl ?_
              refine X_goto (pc := 76) C 124 dX4_readCommands_76 (by decide) ?_
              exact E_X4_readCommands C (r := rEnd τ n q) (fun τ1 q1 a1 a2 a3 => ih (w + 1) τ1 q1 (by omega) a1 a2 a3) (rEnd_ok hA hB) (by rw [if_neg h9, show rCmd τ n q = rEnd τ n q from by rw [rCmd, if_pos h28, if_pos h48, if_neg h68]] at hp; exact hp)
          · change ¬ rIsW τ n q 1 = 0 at h48
            refine X_aload_n (pc := 51) C 0 dX4_readCommands_51 rfl rfl ?_
            refine K_X4_107 (pc := 52) C (by assumption) (c_X4_readTrunkCall l P τ h0 hb1 n q hA hB) ⟨Nat.le_of_ble_eq_true rfl, Nat.le_of_ble_eq_true rfl⟩ ⟨rfl, rfl⟩ ⟨Nat.zero_le _, Nat.zero_le _⟩ (Nat.le_of_ble_eq_true rfl) dX4_readCommands_52 ?_
            refine X_istore_n (pc := 55) (lv1 := [(0, _), (1, _), (2, _)]) C 2 dX4_readCommands_55 rfl (by decide) rfl ?_
            refine X_goto (pc := 56) C 124 dX4_readCommands_56 (by decide) ?_
            exact E_X4_readCommands C (r := rTrk τ n q) (fun τ1 q1 a1 a2 a3 => ih (w + 1) τ1 q1 (by omega) a1 a2 a3) (rTrk_ok hA hB) (by rw [if_neg h9, show rCmd τ n q = rTrk τ n q from by rw [rCmd, if_pos h28, if_neg h48]] at hp; exact hp)
        · change ¬ rIsW τ n q 3 = 0 at h28
          refine X_aload_n (pc := 31) C 0 dX4_readCommands_31 rfl rfl ?_
          refine K_X4_104 (pc := 32) C (by assumption) (c_X4_readCall l P τ h0 hb1 n q hA hB) ⟨Nat.le_of_ble_eq_true rfl, Nat.le_of_ble_eq_true rfl⟩ ⟨rfl, rfl⟩ ⟨Nat.zero_le _, Nat.zero_le _⟩ (Nat.le_of_ble_eq_true rfl) dX4_readCommands_32 ?_
          refine X_istore_n (pc := 35) (lv1 := [(0, _), (1, _), (2, _)]) C 2 dX4_readCommands_35 rfl (by decide) rfl ?_
          refine X_goto (pc := 36) C 124 dX4_readCommands_36 (by decide) ?_
          exact E_X4_readCommands C (r := rCall τ n q) (fun τ1 q1 a1 a2 a3 => ih (w + 1) τ1 q1 (by omega) a1 a2 a3) (rCall_ok hA hB) (by rw [if_neg h9, show rCmd τ n q = rCall τ n q from by rw [rCmd, if_neg h28]] at hp; exact hp)

set_option maxRecDepth 100000 in
set_option maxHeartbeats 4000000 in
theorem c_X4_readCommands (l : Launch) (P : XP) (σ : XS) (h0 : xI0 P) (hb1 : xIn P 1) (n p0 : Nat) (hA : At σ n p0) (hB : Bd σ 1) : XF l yX4_readCommands cX4_readCommands 3 (some .int) rm_X4_readCommands P [.ref (P.2.2.1 (.inr 1))] σ (some (.int (rCmds n 700 σ p0 0).1)) ((rCmds n 700 σ p0 0).2) := by
  refine XM.of (by decide +kernel) (Nat.le_of_ble_eq_true rfl) (fun p e s m args below meth c A C => ?_)
  replace C : XC p s m args meth c P A 3 RX4 cX4_readCommands (some .int) := C
  refine XW.eq (lv' := [(0, _)]) rfl rfl rfl ?_
  refine X_iconst (pc := 0) (v := 0) C dX4_readCommands_0 (by decide) ?_
  refine X_istore_n (pc := 1) (lv1 := [(0, _), (1, _)]) C 1 dX4_readCommands_1 rfl (by decide) rfl ?_
  exact L_X4_readCommands C h0 hb1 700 0 σ p0 rfl hA hB ⟨rfl, rfl⟩

end XP17

/-! READER: setups and scripts, over board 1 -/
def nuN (σ : XS) (b : Nat) : Nat := (σ.1 (.inl (b, 1)) 6).toNatClampNeg
def ncN (σ : XS) (b : Nat) : Nat := (σ.1 (.inl (b, 8)) 10).toNatClampNeg
def ntN (σ : XS) (b : Nat) : Nat := (σ.1 (.inl (b, 0)) 6).toNatClampNeg
/-- board b's counts are within their bounds -/
def Bd (σ : XS) (b : Nat) : Prop := σ.1 (.inl (b, 1)) 6 = nI (nuN σ b) ∧ nuN σ b ≤ 15 ∧ σ.1 (.inl (b, 8)) 10 = nI (ncN σ b) ∧ ncN σ b ≤ 40 ∧ σ.1 (.inl (b, 0)) 6 = nI (ntN σ b) ∧ ntN σ b ≤ 4
theorem Bd.mk {σ : XS} {b nu nc nt : Nat} (h1 : σ.1 (.inl (b, 1)) 6 = nI nu) (h2 : nu ≤ 15) (h3 : σ.1 (.inl (b, 8)) 10 = nI nc) (h4 : nc ≤ 40) (h5 : σ.1 (.inl (b, 0)) 6 = nI nt) (h6 : nt ≤ 4) : Bd σ b := by
  have e1 : nuN σ b = nu := by rw [nuN, h1, nI_clamp (by omega)]
  have e2 : ncN σ b = nc := by rw [ncN, h3, nI_clamp (by omega)]
  have e3 : ntN σ b = nt := by rw [ntN, h5, nI_clamp (by omega)]
  unfold Bd
  rw [e1, e2, e3]
  exact ⟨h1, h2, h3, h4, h5, h6⟩
theorem Bd.o {σ τ : XS} {b : Nat} (h : Bd σ b) (h1 : τ.1 (.inl (b, 1)) 6 = σ.1 (.inl (b, 1)) 6) (h2 : τ.1 (.inl (b, 8)) 10 = σ.1 (.inl (b, 8)) 10) (h3 : τ.1 (.inl (b, 0)) 6 = σ.1 (.inl (b, 0)) 6) : Bd τ b := by
  unfold Bd nuN ncN ntN at *
  rw [h1, h2, h3]
  exact h
theorem Bd.fA {σ : XS} {b n p : Nat} (h : Bd σ b) : Bd (fA σ n p) b := h.o (by rw [fA_o _ _ _ (by simp)]) (by rw [fA_o _ _ _ (by simp)]) (by rw [fA_o _ _ _ (by simp)])
theorem Bd.fF {σ : XS} {b n p : Nat} {k : Int32} (h : Bd σ b) : Bd (fF σ n p k) b := h.o (by rw [fF_o _ _ _ _ (by simp)]) (by rw [fF_o _ _ _ _ (by simp)]) (by rw [fF_o _ _ _ _ (by simp)])
theorem At.fF {σ : XS} {n p : Nat} {k : Int32} (h : At σ n p) : At (fF σ n p k) n p := h.o (fF_o _ _ _ _ (by simp)) (fF_o _ _ _ _ (by simp))
/-! the counts of board b through its changes -/
theorem uCall_nu {σ : XS} {b n : Nat} {ca ot tr ur us : Int32} : (uCall σ b n ca ot tr ur us).1 (.inl (b, 1)) = σ.1 (.inl (b, 1)) := by simp [uCall, xu_ne]
theorem uCall_nt {σ : XS} {b n : Nat} {ca ot tr ur us : Int32} : (uCall σ b n ca ot tr ur us).1 (.inl (b, 0)) = σ.1 (.inl (b, 0)) := by simp [uCall, xu_ne]
theorem uReq_in {σ : XS} {b nu nc : Nat} {ca ot tr ur : Int32} {k : Nat} : (uReq σ b nu nc ca ot tr ur).1 (.inr k) = σ.1 (.inr k) := by
  unfold uReq
  split
  · rw [uStart_o _ _ _ _ (by simp) (by simp) (by simp) (by simp)]
    simp [uReq0, uCall, xu_ne]
  · simp [uReq0, uCall, xu_ne]
theorem uReq_nu {σ : XS} {b nu nc : Nat} {ca ot tr ur : Int32} : (uReq σ b nu nc ca ot tr ur).1 (.inl (b, 1)) = σ.1 (.inl (b, 1)) := by
  unfold uReq
  split
  · rw [uStart_o _ _ _ _ (by simp) (by simp) (by simp) (by simp)]
    exact uCall_nu
  · exact uCall_nu
theorem uReq_nt {σ : XS} {b nu nc : Nat} {ca ot tr ur : Int32} : (uReq σ b nu nc ca ot tr ur).1 (.inl (b, 0)) = σ.1 (.inl (b, 0)) := by
  unfold uReq
  split
  · rw [uStart_o _ _ _ _ (by simp) (by simp) (by simp) (by simp)]
    exact uCall_nt
  · exact uCall_nt
theorem uReq_nc {σ : XS} {b nu nc : Nat} {ca ot tr ur : Int32} : (uReq σ b nu nc ca ot tr ur).1 (.inl (b, 8)) 10 = nI (nc + 1) := by
  unfold uReq
  split
  · rw [uStart_o _ _ _ _ (by simp) (by simp) (by simp) (by simp)]
    exact uReq0_cc
  · exact uReq0_cc
theorem uFinB_o {σ : XS} {b nu nc nt j : Nat} {i : XI} (h6 : i ≠ .inl (b, 6)) (h7 : i ≠ .inl (b, 7)) (h9 : i ≠ .inl (b, 9)) (h16 : i ≠ .inl (b, 16)) (h17 : i ≠ .inl (b, 17)) (h18 : i ≠ .inl (b, 18)) : (uFinB σ b nu nc nt j).1.1 i = σ.1 i := by
  unfold uFinB uFinA
  rw [uWait_o _ _ _ _ _ h7 h9 h16 h18, uWait_o _ _ _ _ _ h7 h9 h16 h18, uFin_o _ _ _ _ _ h6 h9 h17]
/-- the answers of the reading methods: the flag, the world, the place of the token that is looked at then -/
abbrev RR : Type := Int32 × XS × Nat
def rUrg (σ : XS) (n p : Nat) : XS × Nat := if rIsW σ n p 7 = 0 then (σ, p) else (fA σ n p, eT σ n p)
def rReq1 (σ : XS) (n p : Nat) (ca ot tr ur : Int32) : RR :=
  if kT σ n p = 3 then (if ncN σ 1 < 40 then (1, fA (uReq σ 1 (nuN σ 1) (ncN σ 1) ca ot tr ur) n p, eT σ n p) else (0, fF σ n p 6, p)) else (0, fF σ n p 1, p)
def rReq (σ : XS) (n p : Nat) (ca ot tr : Int32) : RR := rReq1 (rUrg σ n p).1 n (rUrg σ n p).2 ca ot tr (rIsW σ n p 7)
theorem rUrg_At {σ : XS} {n p : Nat} (h : At σ n p) : At (rUrg σ n p).1 n (rUrg σ n p).2 := by
  unfold rUrg
  split
  · exact h
  · exact h.a
theorem rUrg_Bd {σ : XS} {n p : Nat} (h : Bd σ 1) : Bd (rUrg σ n p).1 1 := by
  unfold rUrg
  split
  · exact h
  · exact h.fA
theorem rReq1_01 (σ : XS) (n p : Nat) (ca ot tr ur : Int32) : (rReq1 σ n p ca ot tr ur).1 = 0 ∨ (rReq1 σ n p ca ot tr ur).1 = 1 := by
  unfold rReq1
  split
  · split
    · exact Or.inr rfl
    · exact Or.inl rfl
  · exact Or.inl rfl
theorem rKnown_y {σ : XS} {n p nu : Nat} {x : Int32} (h : ¬ (rKnown σ n p nu x).1 = -1) : (rKnown σ n p nu x).2 = fA σ n p ∧ (rKnown σ n p nu x).1 = rFind σ n p nu ∧ ¬ rFind σ n p nu = -1 ∧ rIsN σ n p ∧ ¬ rFind σ n p nu = x := by
  unfold rKnown at h ⊢
  by_cases h1 : rIsN σ n p
  · rw [if_pos h1] at h ⊢
    by_cases h2 : rFind σ n p nu = -1
    · rw [if_pos h2] at h; exact absurd rfl h
    · rw [if_neg h2] at h ⊢
      by_cases h3 : rFind σ n p nu = x
      · rw [if_pos h3] at h; exact absurd rfl h
      · rw [if_neg h3]; exact ⟨rfl, rfl, h2, h1, h3⟩
  · rw [if_neg h1] at h; exact absurd rfl h
theorem rKnown_j {σ : XS} {n p nu : Nat} {x : Int32} (h : ¬ (rKnown σ n p nu x).1 = -1) : ∃ j, j < nu ∧ (rKnown σ n p nu x).1 = nI j := by
  obtain ⟨-, h2, h3, -⟩ := rKnown_y h
  obtain ⟨j, -, h5, -, h6⟩ := cFirst_in _ _ _ h3
  exact ⟨j, by omega, h2.trans h6⟩
theorem rNum_y {σ : XS} {n p : Nat} {lo hi : Int32} (h : ¬ (rNum σ n p lo hi).1 = -1) : (rNum σ n p lo hi).2 = fA σ n p ∧ ¬ (rNum σ n p lo hi).1 < lo ∧ (rNum σ n p lo hi).1 ≤ hi := by
  unfold rNum at h ⊢
  by_cases h1 : kT σ n p = 2
  · rw [if_pos h1] at h ⊢
    by_cases h2 : vT σ n p < lo
    · rw [if_pos h2] at h; exact absurd rfl h
    · rw [if_neg h2] at h ⊢
      by_cases h3 : vT σ n p ≤ hi
      · rw [if_pos h3]; exact ⟨rfl, h2, h3⟩
      · rw [if_neg h3] at h; exact absurd rfl h
  · rw [if_neg h1] at h; exact absurd rfl h
theorem rSemi_y {σ : XS} {n p : Nat} (h : ¬ (rSemi σ n p).1 = 0) : kT σ n p = 3 ∧ (rSemi σ n p).2 = σ := by
  unfold rSemi at h ⊢
  split
  · rename_i h1; exact ⟨h1, rfl⟩
  · rename_i h1; rw [if_neg h1] at h; exact absurd rfl h
theorem rSemi_n {σ : XS} {n p : Nat} (h : (rSemi σ n p).1 = 0) : ¬ kT σ n p = 3 ∧ (rSemi σ n p).2 = fF σ n p 1 := by
  unfold rSemi at h ⊢
  split
  · rename_i h1; rw [if_pos h1] at h; exact absurd (show (1 : Int32) = 0 from h) (by decide)
  · rename_i h1; exact ⟨h1, rfl⟩
/-- "call" has been read -/
def rCall1 (σ : XS) (n p : Nat) : RR :=
  if (rKnown σ n p (nuN σ 1) (-1)).1 = -1 then (0, (rKnown σ n p (nuN σ 1) (-1)).2, p)
  else if (rKnown (fA σ n p) n (eT σ n p) (nuN σ 1) (rKnown σ n p (nuN σ 1) (-1)).1).1 = -1 then (0, (rKnown (fA σ n p) n (eT σ n p) (nuN σ 1) (rKnown σ n p (nuN σ 1) (-1)).1).2, eT σ n p)
  else rReq (fA (fA σ n p) n (eT σ n p)) n (eT (fA σ n p) n (eT σ n p)) (rKnown σ n p (nuN σ 1) (-1)).1 (rKnown (fA σ n p) n (eT σ n p) (nuN σ 1) (rKnown σ n p (nuN σ 1) (-1)).1).1 (-1)
def rCall (σ : XS) (n p : Nat) : RR := rCall1 (fA σ n p) n (eT σ n p)
def rTrk1 (σ : XS) (n p : Nat) : RR :=
  if (rKnown σ n p (nuN σ 1) (-1)).1 = -1 then (0, (rKnown σ n p (nuN σ 1) (-1)).2, p)
  else if (rNum (fA σ n p) n (eT σ n p) 0 (σ.1 (.inl (1, 0)) 6 - 1)).1 = -1 then (0, (rNum (fA σ n p) n (eT σ n p) 0 (σ.1 (.inl (1, 0)) 6 - 1)).2, eT σ n p)
  else rReq (fA (fA σ n p) n (eT σ n p)) n (eT (fA σ n p) n (eT σ n p)) (rKnown σ n p (nuN σ 1) (-1)).1 (-1) (rNum (fA σ n p) n (eT σ n p) 0 (σ.1 (.inl (1, 0)) 6 - 1)).1
def rTrk (σ : XS) (n p : Nat) : RR := rTrk1 (fA σ n p) n (eT σ n p)
section XP16
variable {p : Program} {l : Launch} {e : Env} {R : Room} {s : State} {m : MethodId} {args : Array Value} {below : List Frame} {meth : Method} {c : Code} {P : XP} {A : Nat → Prop} {nL cells slots : Nat} {Q : State → Prop} {cc : ByteArray} {ret : Option FieldType} {σ : XS} {pc : Nat} {lv : List (Nat × Value)} {st : List Value}
theorem nar01 {x : Int32} (h : x = 0 ∨ x = 1) : vp_nar .boolean x = x := by rcases h with rfl | rfl <;> decide
theorem eT_req {σ : XS} {n p nu nc : Nat} {ca ot tr ur : Int32} : eT (uReq σ 1 nu nc ca ot tr ur) n p = eT σ n p := by unfold eT; rw [uReq_in]
theorem At.req {σ : XS} {n p nu nc : Nat} {ca ot tr ur : Int32} (h : At σ n p) : At (uReq σ 1 nu nc ca ot tr ur) n p := h.o uReq_in uReq_in
set_option maxRecDepth 100000 in
set_option maxHeartbeats 4000000 in
theorem T_X4_readRequest {Post : Option Value → XS → Prop} {mc ms : Nat} (C : XC p s m args meth c P A 5 RX4 cX4_readRequest (some .boolean)) {τ : XS} (h0 : xI0 P) (hb1 : xIn P 1) {n q : Nat} {ca ot tr ur : Int32} (hA : At τ n q) (hB : Bd τ 1) (hur : ur = 0 ∨ ur = 1) (hp : Post (some (.int (rReq1 τ n q ca ot tr ur).1)) (rReq1 τ n q ca ot tr ur).2.1) : XW p l e rm_X4_readRequest s m args below meth c P A 5 0 0 (MQ below (XQ P A Post) args s mc ms A) τ 23 [(0, .ref (P.2.2.1 (.inr 1))), (1, .int ca), (2, .int ot), (3, .int tr), (4, .int ur)] [] := by
  have hA2 : At (uReq τ 1 (nuN τ 1) (ncN τ 1) ca ot tr ur) n q := hA.req
  refine X_aload_n (pc := 23) C 0 dX4_readRequest_23 rfl rfl ?_
  refine K_X4_59 (pc := 24) C (by assumption) (c_X4_isAtSemicolon l P τ h0 n q hA) ⟨Nat.le_of_ble_eq_true rfl, Nat.le_of_ble_eq_true rfl⟩ ⟨rfl, rfl⟩ ⟨Nat.zero_le _, Nat.zero_le _⟩ (Nat.le_of_ble_eq_true rfl) dX4_readRequest_24 ?_
  refine X_if_ne (pc := 27) C 32 dX4_readRequest_27 (by decide) (fun h27 => ?_) (fun h27 => ?_)
  · have g27 := rSemi_y h27
    rw [g27.2]
    refine X_aload_n (pc := 32) C 0 dX4_readRequest_32 rfl rfl ?_
    refine G_X4_21 (pc := 33) C (by assumption) dX4_readRequest_33 ?_
    refine G_X4_137 (pc := 36) C (by assumption) dX4_readRequest_36 ?_
    refine G_X4_141 (pc := 39) C (by assumption) dX4_readRequest_39 ?_
    rw [hB.2.2.1]
    refine X_bipush (pc := 42) (v := 40) C dX4_readRequest_42 (by decide) ?_
    refine X_icmp_lt (pc := 44) C 54 dX4_readRequest_44 (by decide) (fun h44 => ?_) (fun h44 => ?_)
    · have g44 := nlt (a := ncN τ 1) (b := 40) h44 (by have := hB.2.2.2.1; omega)
      refine X_aload_n (pc := 54) C 0 dX4_readRequest_54 rfl rfl ?_
      refine G_X4_21 (pc := 55) C (by assumption) dX4_readRequest_55 ?_
      refine X_iload_n (pc := 58) C 1 dX4_readRequest_58 rfl rfl ?_
      refine X_iload_n (pc := 59) C 2 dX4_readRequest_59 rfl rfl ?_
      refine X_iload_n (pc := 60) C 3 dX4_readRequest_60 rfl rfl ?_
      refine X_iload (pc := 61) C dX4_readRequest_61 rfl ?_
      refine K_X4_146 (pc := 63) C (by assumption) (by have h := c_X0_request l P τ 1 (nuN τ 1) (ncN τ 1) hb1 hB.2.1 hB.1 hB.2.2.2.1 hB.2.2.1 g44 ca ot tr ur (nar01 hur); exact h) ⟨Nat.le_of_ble_eq_true rfl, Nat.le_of_ble_eq_true rfl⟩ ⟨rfl, rfl⟩ ⟨Nat.zero_le _, Nat.zero_le _⟩ (Nat.le_of_ble_eq_true rfl) dX4_readRequest_63 ?_
      refine X_pop (pc := 66) C dX4_readRequest_66 rfl ?_
      refine X_aload_n (pc := 67) C 0 dX4_readRequest_67 rfl rfl ?_
      refine G_X4_12 (pc := 68) C (by assumption) dX4_readRequest_68 ?_
      refine K_X4_52 (pc := 71) C (by assumption) (c_X3_advance l P (uReq τ 1 (nuN τ 1) (ncN τ 1) ca ot tr ur) h0 n hA2.1 hA2.2.2.1 (eT (uReq τ 1 (nuN τ 1) (ncN τ 1) ca ot tr ur) n q) (tkE_in _ hA2.2.1).2 hA2.2.2.2.1 hA2.2.2.2.2.2.2.2) ⟨Nat.le_of_ble_eq_true rfl, Nat.le_of_ble_eq_true rfl⟩ ⟨rfl, rfl⟩ ⟨Nat.zero_le _, Nat.zero_le _⟩ (Nat.le_of_ble_eq_true rfl) dX4_readRequest_71 ?_
      refine X_iconst (pc := 74) (v := 1) C dX4_readRequest_74 (by decide) ?_
      exact X_zret (pc := 75) C (Nat.zero_le _) (Nat.zero_le _) (rfl) dX4_readRequest_75 (by rw [rReq1, if_pos g27.1, if_pos g44] at hp; unfold fA at hp; exact hp)
    · have g44 := nnlt (a := ncN τ 1) (b := 40) h44 (by have := hB.2.2.2.1; omega)
      refine X_aload_n (pc := 47) C 0 dX4_readRequest_47 rfl rfl ?_
      refine X_bipush (pc := 48) (v := 6) C dX4_readRequest_48 (by decide) ?_
      refine K_X4_48 (pc := 50) C (by assumption) (c_X4_fail l P τ h0 n q hA 6) ⟨Nat.le_of_ble_eq_true rfl, Nat.le_of_ble_eq_true rfl⟩ ⟨rfl, rfl⟩ ⟨Nat.zero_le _, Nat.zero_le _⟩ (Nat.le_of_ble_eq_true rfl) dX4_readRequest_50 ?_
      exact X_zret (pc := 53) C (Nat.zero_le _) (Nat.zero_le _) (rfl) dX4_readRequest_53 (by rw [rReq1, if_pos g27.1, if_neg (by omega)] at hp; exact hp)
  · have g27 := rSemi_n h27
    rw [g27.2]
    refine X_iconst (pc := 30) (v := 0) C dX4_readRequest_30 (by decide) ?_
    exact X_zret (pc := 31) C (Nat.zero_le _) (Nat.zero_le _) (rfl) dX4_readRequest_31 (by rw [rReq1, if_neg g27.1] at hp; exact hp)

set_option maxRecDepth 100000 in
set_option maxHeartbeats 4000000 in
theorem c_X4_readRequest (l : Launch) (P : XP) (σ : XS) (h0 : xI0 P) (hb1 : xIn P 1) (n p0 : Nat) (hA : At σ n p0) (hB : Bd σ 1) (ca ot tr : Int32) : XF l yX4_readRequest cX4_readRequest 5 (some .boolean) rm_X4_readRequest P [.ref (P.2.2.1 (.inr 1)), .int ca, .int ot, .int tr] σ (some (.int (rReq σ n p0 ca ot tr).1)) ((rReq σ n p0 ca ot tr).2.1) := by
  refine XM.of (by decide +kernel) (Nat.le_of_ble_eq_true rfl) (fun p e s m args below meth c A C => ?_)
  replace C : XC p s m args meth c P A 5 RX4 cX4_readRequest (some .boolean) := C
  refine XW.eq (lv' := [(0, _), (1, _), (2, _), (3, _)]) rfl rfl rfl ?_
  refine X_aload_n (pc := 0) C 0 dX4_readRequest_0 rfl rfl ?_
  refine G_X4_12 (pc := 1) C (by assumption) dX4_readRequest_1 ?_
  refine X_ldcS (pc := 4) (q := 7) C (List.mem_of_getElem? (i := 7) rfl) dX4_readRequest_4 ?_
  refine X_fV (i := .inr 2) (ci := 3) (n := 1) (pc := 6) C [.ref _] (c_X3_isWord l P σ h0 (kT σ n p0) (sT σ n p0) (eT σ n p0) hA.2.2.2.2.1 hA.2.2.2.2.2.1 hA.2.2.2.1 hA.se.1 hA.se.2 7 (by decide)) m_c_X3_isWord m_m_X4_44 m_i_X3_isWord m_s_X3_isWord m_n_X3 ⟨by decide +kernel, by decide +kernel, by decide +kernel⟩ ⟨Nat.le_of_ble_eq_true rfl, Nat.le_of_ble_eq_true rfl⟩ ⟨rfl, rfl⟩ ⟨Nat.zero_le _, Nat.zero_le _⟩ (h0 2 (by decide)) rfl rfl rfl rfl (Nat.le_of_ble_eq_true rfl) rfl dX4_readRequest_6 ?_
  refine X_istore (pc := 9) (lv1 := [(0, _), (1, _), (2, _), (3, _), (4, _)]) C dX4_readRequest_9 (by decide) rfl ?_
  refine X_iload (pc := 11) C dX4_readRequest_11 rfl ?_
  refine X_if_eq (pc := 13) C 23 dX4_readRequest_13 (by decide) (fun h13 => ?_) (fun h13 => ?_)
  · have g13 : rUrg σ n p0 = (σ, p0) := if_pos h13
    first
      | exact T_X4_readRequest C h0 hb1 (q := p0) hA hB (rIsW_01 σ n p0 7) (by unfold rReq; rw [g13]; exact ⟨rfl, rfl⟩)
      | exact T_X4_readRequest C (τ := fA σ n p0) h0 hb1 (q := eT σ n p0) hA.a hB.fA (rIsW_01 σ n p0 7) (by unfold rReq; rw [g13]; exact ⟨rfl, rfl⟩)
  · have g13 : rUrg σ n p0 = (fA σ n p0, eT σ n p0) := if_neg h13
    refine X_aload_n (pc := 16) C 0 dX4_readRequest_16 rfl rfl ?_
    refine G_X4_12 (pc := 17) C (by assumption) dX4_readRequest_17 ?_
    refine K_X4_52 (pc := 20) C (by assumption) (c_X3_advance l P σ h0 n hA.1 hA.2.2.1 (eT σ n p0) (tkE_in _ hA.2.1).2 hA.2.2.2.1 hA.2.2.2.2.2.2.2) ⟨Nat.le_of_ble_eq_true rfl, Nat.le_of_ble_eq_true rfl⟩ ⟨rfl, rfl⟩ ⟨Nat.zero_le _, Nat.zero_le _⟩ (Nat.le_of_ble_eq_true rfl) dX4_readRequest_20 ?_
    first
      | exact T_X4_readRequest C h0 hb1 (q := p0) hA hB (rIsW_01 σ n p0 7) (by unfold rReq; rw [g13]; exact ⟨rfl, rfl⟩)
      | exact T_X4_readRequest C (τ := fA σ n p0) h0 hb1 (q := eT σ n p0) hA.a hB.fA (rIsW_01 σ n p0 7) (by unfold rReq; rw [g13]; exact ⟨rfl, rfl⟩)

theorem nuN_fA {σ : XS} {n p : Nat} : nuN (fA σ n p) 1 = nuN σ 1 := by unfold nuN; rw [fA_o _ _ _ (by simp)]
theorem rReq_01 (σ : XS) (n p : Nat) (ca ot tr : Int32) : (rReq σ n p ca ot tr).1 = 0 ∨ (rReq σ n p ca ot tr).1 = 1 := rReq1_01 _ _ _ _ _ _ _
set_option maxRecDepth 100000 in
set_option maxHeartbeats 4000000 in
theorem T_X4_readCall {Post : Option Value → XS → Prop} {mc ms : Nat} (C : XC p s m args meth c P A 3 RX4 cX4_readCall (some .boolean)) {τ : XS} (h0 : xI0 P) (hb1 : xIn P 1) {n q : Nat} (hA : At τ n q) (hB : Bd τ 1) (hp : Post (some (.int (rCall1 τ n q).1)) (rCall1 τ n q).2.1) : XW p l e rm_X4_readCall s m args below meth c P A 3 0 0 (MQ below (XQ P A Post) args s mc ms A) τ 7 [(0, .ref (P.2.2.1 (.inr 1)))] [] := by
  refine X_aload_n (pc := 7) C 0 dX4_readCall_7 rfl rfl ?_
  refine X_iconst (pc := 8) (v := (-1)) C dX4_readCall_8 (by decide) ?_
  refine K_X4_125 (pc := 9) C (by assumption) (c_X4_readKnownName l P τ h0 n q hA hb1 (nuN τ 1) hB.2.1 hB.1 (-1)) ⟨Nat.le_of_ble_eq_true rfl, Nat.le_of_ble_eq_true rfl⟩ ⟨rfl, rfl⟩ ⟨Nat.zero_le _, Nat.zero_le _⟩ (Nat.le_of_ble_eq_true rfl) dX4_readCall_9 ?_
  refine X_istore_n (pc := 12) (lv1 := [(0, _), (1, _)]) C 1 dX4_readCall_12 rfl (by decide) rfl ?_
  refine X_iload_n (pc := 13) C 1 dX4_readCall_13 rfl rfl ?_
  refine X_iconst (pc := 14) (v := (-1)) C dX4_readCall_14 (by decide) ?_
  refine X_icmp_ne (pc := 15) C 20 dX4_readCall_15 (by decide) (fun h15 => ?_) (fun h15 => ?_)
  · refine XW.eq (rKnown_y h15).1 rfl rfl ?_
    refine X_aload_n (pc := 20) C 0 dX4_readCall_20 rfl rfl ?_
    refine X_iload_n (pc := 21) C 1 dX4_readCall_21 rfl rfl ?_
    refine K_X4_125 (pc := 22) C (by assumption) (c_X4_readKnownName l P (fA τ n q) h0 n (eT τ n q) hA.a hb1 (nuN τ 1) hB.2.1 (by rw [fA_o _ _ _ (by simp)]; exact hB.1) ((rKnown τ n q (nuN τ 1) (-1)).1)) ⟨Nat.le_of_ble_eq_true rfl, Nat.le_of_ble_eq_true rfl⟩ ⟨rfl, rfl⟩ ⟨Nat.zero_le _, Nat.zero_le _⟩ (Nat.le_of_ble_eq_true rfl) dX4_readCall_22 ?_
    refine X_istore_n (pc := 25) (lv1 := [(0, _), (1, _), (2, _)]) C 2 dX4_readCall_25 rfl (by decide) rfl ?_
    refine X_iload_n (pc := 26) C 2 dX4_readCall_26 rfl rfl ?_
    refine X_iconst (pc := 27) (v := (-1)) C dX4_readCall_27 (by decide) ?_
    refine X_icmp_eq (pc := 28) C 45 dX4_readCall_28 (by decide) (fun h28 => ?_) (fun h28 => ?_)
    · skip
      refine X_iconst (pc := 45) (v := 0) C dX4_readCall_45 (by decide) ?_
      exact X_zret (pc := 46) C (Nat.zero_le _) (Nat.zero_le _) (rfl) dX4_readCall_46 (by rw [rCall1, if_neg h15, if_pos h28] at hp; exact hp)
    · refine XW.eq (rKnown_y h28).1 rfl rfl ?_
      refine X_aload_n (pc := 31) C 0 dX4_readCall_31 rfl rfl ?_
      refine X_iload_n (pc := 32) C 1 dX4_readCall_32 rfl rfl ?_
      refine X_iload_n (pc := 33) C 2 dX4_readCall_33 rfl rfl ?_
      refine X_iconst (pc := 34) (v := (-1)) C dX4_readCall_34 (by decide) ?_
      refine K_X4_128 (pc := 35) C (by assumption) (c_X4_readRequest l P (fA (fA τ n q) n (eT τ n q)) h0 hb1 n (eT (fA τ n q) n (eT τ n q)) hA.a.a hB.fA.fA (rKnown τ n q (nuN τ 1) (-1)).1 (rKnown (fA τ n q) n (eT τ n q) (nuN τ 1) (rKnown τ n q (nuN τ 1) (-1)).1).1 (-1)) ⟨Nat.le_of_ble_eq_true rfl, Nat.le_of_ble_eq_true rfl⟩ ⟨rfl, rfl⟩ ⟨Nat.zero_le _, Nat.zero_le _⟩ (Nat.le_of_ble_eq_true rfl) dX4_readCall_35 ?_
      refine X_if_eq (pc := 38) C 45 dX4_readCall_38 (by decide) (fun h38 => ?_) (fun h38 => ?_)
      · skip
        refine X_iconst (pc := 45) (v := 0) C dX4_readCall_45 (by decide) ?_
        exact X_zret (pc := 46) C (Nat.zero_le _) (Nat.zero_le _) (rfl) dX4_readCall_46 (by rw [rCall1, if_neg h15, if_neg h28] at hp; rw [h38] at hp; exact hp)
      · skip
        refine X_iconst (pc := 41) (v := 1) C dX4_readCall_41 (by decide) ?_
        refine X_goto (pc := 42) C 46 dX4_readCall_42 (by decide) ?_
        exact X_zret (pc := 46) C (Nat.zero_le _) (Nat.zero_le _) (rfl) dX4_readCall_46 (by rw [rCall1, if_neg h15, if_neg h28] at hp; rw [(rReq_01 _ _ _ _ _ _).resolve_left h38] at hp; exact hp)
  · skip
    refine X_iconst (pc := 18) (v := 0) C dX4_readCall_18 (by decide) ?_
    exact X_zret (pc := 19) C (Nat.zero_le _) (Nat.zero_le _) (rfl) dX4_readCall_19 (by rw [rCall1, if_pos h15] at hp; exact hp)

set_option maxRecDepth 100000 in
set_option maxHeartbeats 4000000 in
theorem c_X4_readCall (l : Launch) (P : XP) (σ : XS) (h0 : xI0 P) (hb1 : xIn P 1) (n p0 : Nat) (hA : At σ n p0) (hB : Bd σ 1) : XF l yX4_readCall cX4_readCall 3 (some .boolean) rm_X4_readCall P [.ref (P.2.2.1 (.inr 1))] σ (some (.int (rCall σ n p0).1)) ((rCall σ n p0).2.1) := by
  refine XM.of (by decide +kernel) (Nat.le_of_ble_eq_true rfl) (fun p e s m args below meth c A C => ?_)
  replace C : XC p s m args meth c P A 3 RX4 cX4_readCall (some .boolean) := C
  refine XW.eq (lv' := [(0, _)]) rfl rfl rfl ?_
  refine X_aload_n (pc := 0) C 0 dX4_readCall_0 rfl rfl ?_
  refine G_X4_12 (pc := 1) C (by assumption) dX4_readCall_1 ?_
  refine K_X4_52 (pc := 4) C (by assumption) (c_X3_advance l P σ h0 n hA.1 hA.2.2.1 (eT σ n p0) (tkE_in _ hA.2.1).2 hA.2.2.2.1 hA.2.2.2.2.2.2.2) ⟨Nat.le_of_ble_eq_true rfl, Nat.le_of_ble_eq_true rfl⟩ ⟨rfl, rfl⟩ ⟨Nat.zero_le _, Nat.zero_le _⟩ (Nat.le_of_ble_eq_true rfl) dX4_readCall_4 ?_
  exact T_X4_readCall C (τ := fA σ n p0) (q := eT σ n p0) h0 hb1 hA.a hB.fA ⟨rfl, rfl⟩

set_option maxRecDepth 100000 in
set_option maxHeartbeats 4000000 in
theorem T_X4_readTrunkCall {Post : Option Value → XS → Prop} {mc ms : Nat} (C : XC p s m args meth c P A 3 RX4 cX4_readTrunkCall (some .boolean)) {τ : XS} (h0 : xI0 P) (hb1 : xIn P 1) {n q : Nat} (hA : At τ n q) (hB : Bd τ 1) (hp : Post (some (.int (rTrk1 τ n q).1)) (rTrk1 τ n q).2.1) : XW p l e rm_X4_readTrunkCall s m args below meth c P A 3 0 0 (MQ below (XQ P A Post) args s mc ms A) τ 7 [(0, .ref (P.2.2.1 (.inr 1)))] [] := by
  refine X_aload_n (pc := 7) C 0 dX4_readTrunkCall_7 rfl rfl ?_
  refine X_iconst (pc := 8) (v := (-1)) C dX4_readTrunkCall_8 (by decide) ?_
  refine K_X4_125 (pc := 9) C (by assumption) (c_X4_readKnownName l P τ h0 n q hA hb1 (nuN τ 1) hB.2.1 hB.1 (-1)) ⟨Nat.le_of_ble_eq_true rfl, Nat.le_of_ble_eq_true rfl⟩ ⟨rfl, rfl⟩ ⟨Nat.zero_le _, Nat.zero_le _⟩ (Nat.le_of_ble_eq_true rfl) dX4_readTrunkCall_9 ?_
  refine X_istore_n (pc := 12) (lv1 := [(0, _), (1, _)]) C 1 dX4_readTrunkCall_12 rfl (by decide) rfl ?_
  refine X_iload_n (pc := 13) C 1 dX4_readTrunkCall_13 rfl rfl ?_
  refine X_iconst (pc := 14) (v := (-1)) C dX4_readTrunkCall_14 (by decide) ?_
  refine X_icmp_ne (pc := 15) C 20 dX4_readTrunkCall_15 (by decide) (fun h15 => ?_) (fun h15 => ?_)
  · refine XW.eq (rKnown_y h15).1 rfl rfl ?_
    refine X_aload_n (pc := 20) C 0 dX4_readTrunkCall_20 rfl rfl ?_
    refine X_iconst (pc := 21) (v := 0) C dX4_readTrunkCall_21 (by decide) ?_
    refine X_aload_n (pc := 22) C 0 dX4_readTrunkCall_22 rfl rfl ?_
    refine G_X4_21 (pc := 23) C (by assumption) dX4_readTrunkCall_23 ?_
    refine G_X4_132 (pc := 26) C (by assumption) dX4_readTrunkCall_26 ?_
    rw [show (fA τ n q).1 (.inl (1, 0)) 6 = τ.1 (.inl (1, 0)) 6 from by rw [fA_o _ _ _ (by simp)]]
    refine X_iconst (pc := 29) (v := 1) C dX4_readTrunkCall_29 (by decide) ?_
    refine X_isub (pc := 30) C dX4_readTrunkCall_30 ?_
    refine K_X4_55 (pc := 31) C (by assumption) (c_X4_readNumber l P (fA τ n q) h0 n (eT τ n q) hA.a (0) (τ.1 (.inl (1, 0)) 6 - 1)) ⟨Nat.le_of_ble_eq_true rfl, Nat.le_of_ble_eq_true rfl⟩ ⟨rfl, rfl⟩ ⟨Nat.zero_le _, Nat.zero_le _⟩ (Nat.le_of_ble_eq_true rfl) dX4_readTrunkCall_31 ?_
    refine X_istore_n (pc := 34) (lv1 := [(0, _), (1, _), (2, _)]) C 2 dX4_readTrunkCall_34 rfl (by decide) rfl ?_
    refine X_iload_n (pc := 35) C 2 dX4_readTrunkCall_35 rfl rfl ?_
    refine X_iconst (pc := 36) (v := (-1)) C dX4_readTrunkCall_36 (by decide) ?_
    refine X_icmp_eq (pc := 37) C 54 dX4_readTrunkCall_37 (by decide) (fun h37 => ?_) (fun h37 => ?_)
    · skip
      refine X_iconst (pc := 54) (v := 0) C dX4_readTrunkCall_54 (by decide) ?_
      exact X_zret (pc := 55) C (Nat.zero_le _) (Nat.zero_le _) (rfl) dX4_readTrunkCall_55 (by rw [rTrk1, if_neg h15, if_pos h37] at hp; exact hp)
    · refine XW.eq (rNum_y h37).1 rfl rfl ?_
      refine X_aload_n (pc := 40) C 0 dX4_readTrunkCall_40 rfl rfl ?_
      refine X_iload_n (pc := 41) C 1 dX4_readTrunkCall_41 rfl rfl ?_
      refine X_iconst (pc := 42) (v := (-1)) C dX4_readTrunkCall_42 (by decide) ?_
      refine X_iload_n (pc := 43) C 2 dX4_readTrunkCall_43 rfl rfl ?_
      refine K_X4_128 (pc := 44) C (by assumption) (c_X4_readRequest l P (fA (fA τ n q) n (eT τ n q)) h0 hb1 n (eT (fA τ n q) n (eT τ n q)) hA.a.a hB.fA.fA (rKnown τ n q (nuN τ 1) (-1)).1 (-1) (rNum (fA τ n q) n (eT τ n q) 0 (τ.1 (.inl (1, 0)) 6 - 1)).1) ⟨Nat.le_of_ble_eq_true rfl, Nat.le_of_ble_eq_true rfl⟩ ⟨rfl, rfl⟩ ⟨Nat.zero_le _, Nat.zero_le _⟩ (Nat.le_of_ble_eq_true rfl) dX4_readTrunkCall_44 ?_
      refine X_if_eq (pc := 47) C 54 dX4_readTrunkCall_47 (by decide) (fun h47 => ?_) (fun h47 => ?_)
      · skip
        refine X_iconst (pc := 54) (v := 0) C dX4_readTrunkCall_54 (by decide) ?_
        exact X_zret (pc := 55) C (Nat.zero_le _) (Nat.zero_le _) (rfl) dX4_readTrunkCall_55 (by rw [rTrk1, if_neg h15, if_neg h37] at hp; rw [h47] at hp; exact hp)
      · skip
        refine X_iconst (pc := 50) (v := 1) C dX4_readTrunkCall_50 (by decide) ?_
        refine X_goto (pc := 51) C 55 dX4_readTrunkCall_51 (by decide) ?_
        exact X_zret (pc := 55) C (Nat.zero_le _) (Nat.zero_le _) (rfl) dX4_readTrunkCall_55 (by rw [rTrk1, if_neg h15, if_neg h37] at hp; rw [(rReq_01 _ _ _ _ _ _).resolve_left h47] at hp; exact hp)
  · skip
    refine X_iconst (pc := 18) (v := 0) C dX4_readTrunkCall_18 (by decide) ?_
    exact X_zret (pc := 19) C (Nat.zero_le _) (Nat.zero_le _) (rfl) dX4_readTrunkCall_19 (by rw [rTrk1, if_pos h15] at hp; exact hp)

set_option maxRecDepth 100000 in
set_option maxHeartbeats 4000000 in
theorem c_X4_readTrunkCall (l : Launch) (P : XP) (σ : XS) (h0 : xI0 P) (hb1 : xIn P 1) (n p0 : Nat) (hA : At σ n p0) (hB : Bd σ 1) : XF l yX4_readTrunkCall cX4_readTrunkCall 3 (some .boolean) rm_X4_readTrunkCall P [.ref (P.2.2.1 (.inr 1))] σ (some (.int (rTrk σ n p0).1)) ((rTrk σ n p0).2.1) := by
  refine XM.of (by decide +kernel) (Nat.le_of_ble_eq_true rfl) (fun p e s m args below meth c A C => ?_)
  replace C : XC p s m args meth c P A 3 RX4 cX4_readTrunkCall (some .boolean) := C
  refine XW.eq (lv' := [(0, _)]) rfl rfl rfl ?_
  refine X_aload_n (pc := 0) C 0 dX4_readTrunkCall_0 rfl rfl ?_
  refine G_X4_12 (pc := 1) C (by assumption) dX4_readTrunkCall_1 ?_
  refine K_X4_52 (pc := 4) C (by assumption) (c_X3_advance l P σ h0 n hA.1 hA.2.2.1 (eT σ n p0) (tkE_in _ hA.2.1).2 hA.2.2.2.1 hA.2.2.2.2.2.2.2) ⟨Nat.le_of_ble_eq_true rfl, Nat.le_of_ble_eq_true rfl⟩ ⟨rfl, rfl⟩ ⟨Nat.zero_le _, Nat.zero_le _⟩ (Nat.le_of_ble_eq_true rfl) dX4_readTrunkCall_4 ?_
  exact T_X4_readTrunkCall C (τ := fA σ n p0) (q := eT σ n p0) h0 hb1 hA.a hB.fA ⟨rfl, rfl⟩

/-- the semicolon of a command, which makes τ of the world -/
def rSem (σ : XS) (n p : Nat) (τ : XS) : RR := if kT σ n p = 3 then (1, fA τ n p, eT σ n p) else (0, fF σ n p 1, p)
def rEndN (σ : XS) (n p : Nat) : Int32 × XS := rNum σ n p 0 (σ.1 (.inl (1, 8)) 10 - 1)
def rEnd2 (σ : XS) (n p j : Nat) : RR := if kT σ n p = 3 then (if σ.1 (.inl (1, 9)) j = 2 ∨ σ.1 (.inl (1, 9)) j = 3 then (0, fF σ n p 7, p) else (1, fA (uFinB σ 1 (nuN σ 1) (ncN σ 1) (ntN σ 1) j).1 n p, eT σ n p)) else (0, fF σ n p 1, p)
def rEnd1 (σ : XS) (n p : Nat) : RR := if (rEndN σ n p).1 = -1 then (0, (rEndN σ n p).2, p) else rEnd2 (fA σ n p) n (eT σ n p) (rEndN σ n p).1.toNatClampNeg
def rEnd (σ : XS) (n p : Nat) : RR := rEnd1 (fA σ n p) n (eT σ n p)
theorem rEndN_j {σ : XS} {n p : Nat} (hB : Bd σ 1) (h : ¬ (rEndN σ n p).1 = -1) : ∃ j, j < 40 ∧ j < ncN σ 1 ∧ (rEndN σ n p).1 = nI j := by
  obtain ⟨-, h2, h3⟩ := rNum_y h
  have hn := hB.2.2.2.1
  change ¬ (rEndN σ n p).1 < 0 at h2
  change (rEndN σ n p).1 ≤ σ.1 (.inl (1, 8)) 10 - 1 at h3
  rw [hB.2.2.1] at h3
  generalize (rEndN σ n p).1 = v at h2 h3 ⊢
  have h4 : ¬ v.toInt < 0 := fun q => h2 (Int32.lt_iff_toInt_lt.mpr (by simpa using q))
  have h5 := Int32.le_iff_toInt_le.mp h3
  rw [show (1 : Int32) = nI 1 from rfl, pk_sub_toInt (by omega) (by omega)] at h5
  have h6 : xok v (ncN σ 1) := ⟨by omega, by omega⟩
  obtain ⟨j, hj, e⟩ := xok_of h6
  exact ⟨j, by omega, hj, e⟩
set_option maxRecDepth 100000 in
set_option maxHeartbeats 4000000 in
theorem T_X4_readEnd {Post : Option Value → XS → Prop} {mc ms : Nat} (C : XC p s m args meth c P A 2 RX4 cX4_readEnd (some .boolean)) {τ : XS} (h0 : xI0 P) (hb1 : xIn P 1) {n q : Nat} (hA : At τ n q) (hB : Bd τ 1) (hp : Post (some (.int (rEnd1 τ n q).1)) (rEnd1 τ n q).2.1) : XW p l e rm_X4_readEnd s m args below meth c P A 2 0 0 (MQ below (XQ P A Post) args s mc ms A) τ 7 [(0, .ref (P.2.2.1 (.inr 1)))] [] := by
  refine X_aload_n (pc := 7) C 0 dX4_readEnd_7 rfl rfl ?_
  refine X_iconst (pc := 8) (v := 0) C dX4_readEnd_8 (by decide) ?_
  refine X_aload_n (pc := 9) C 0 dX4_readEnd_9 rfl rfl ?_
  refine G_X4_21 (pc := 10) C (by assumption) dX4_readEnd_10 ?_
  refine G_X4_137 (pc := 13) C (by assumption) dX4_readEnd_13 ?_
  refine G_X4_141 (pc := 16) C (by assumption) dX4_readEnd_16 ?_
  refine X_iconst (pc := 19) (v := 1) C dX4_readEnd_19 (by decide) ?_
  refine X_isub (pc := 20) C dX4_readEnd_20 ?_
  refine K_X4_55 (pc := 21) C (by assumption) (c_X4_readNumber l P τ h0 n q hA (0) (τ.1 (.inl (1, 8)) 10 - 1)) ⟨Nat.le_of_ble_eq_true rfl, Nat.le_of_ble_eq_true rfl⟩ ⟨rfl, rfl⟩ ⟨Nat.zero_le _, Nat.zero_le _⟩ (Nat.le_of_ble_eq_true rfl) dX4_readEnd_21 ?_
  refine X_istore_n (pc := 24) (lv1 := [(0, _), (1, _)]) C 1 dX4_readEnd_24 rfl (by decide) rfl ?_
  refine X_iload_n (pc := 25) C 1 dX4_readEnd_25 rfl rfl ?_
  refine X_iconst (pc := 26) (v := (-1)) C dX4_readEnd_26 (by decide) ?_
  refine X_icmp_eq (pc := 27) C 37 dX4_readEnd_27 (by decide) (fun h27 => ?_) (fun h27 => ?_)
  · skip
    refine X_iconst (pc := 37) (v := 0) C dX4_readEnd_37 (by decide) ?_
    exact X_zret (pc := 38) C (Nat.zero_le _) (Nat.zero_le _) (rfl) dX4_readEnd_38 (by rw [rEnd1, if_pos (show (rEndN τ n q).1 = -1 from h27)] at hp; exact hp)
  · refine XW.eq (rNum_y h27).1 rfl rfl ?_
    obtain ⟨j, hj, hj2, ej⟩ := rEndN_j hB h27
    refine X_aload_n (pc := 30) C 0 dX4_readEnd_30 rfl rfl ?_
    refine K_X4_59 (pc := 31) C (by assumption) (c_X4_isAtSemicolon l P (fA τ n q) h0 n (eT τ n q) hA.a) ⟨Nat.le_of_ble_eq_true rfl, Nat.le_of_ble_eq_true rfl⟩ ⟨rfl, rfl⟩ ⟨Nat.zero_le _, Nat.zero_le _⟩ (Nat.le_of_ble_eq_true rfl) dX4_readEnd_31 ?_
    refine X_if_ne (pc := 34) C 39 dX4_readEnd_34 (by decide) (fun h34 => ?_) (fun h34 => ?_)
    · have g34 := rSemi_y h34
      rw [g34.2]
      refine X_aload_n (pc := 39) C 0 dX4_readEnd_39 rfl rfl ?_
      refine G_X4_21 (pc := 40) C (by assumption) dX4_readEnd_40 ?_
      refine G_X4_137 (pc := 43) C (by assumption) dX4_readEnd_43 ?_
      refine X_iload_n (pc := 46) C 1 dX4_readEnd_46 rfl rfl ?_
      rw [show (rNum τ n q 0 (τ.1 (.inl (1, 8)) 10 - 1)).1 = nI j from ej]
      refine K_X4_150 (pc := 47) C (by assumption) (c_X1_isOver l P (fA τ n q) 1 j hb1 hj) ⟨Nat.le_of_ble_eq_true rfl, Nat.le_of_ble_eq_true rfl⟩ ⟨rfl, rfl⟩ ⟨Nat.zero_le _, Nat.zero_le _⟩ (Nat.le_of_ble_eq_true rfl) dX4_readEnd_47 ?_
      refine X_if_eq (pc := 50) C 60 dX4_readEnd_50 (by decide) (fun h50 => ?_) (fun h50 => ?_)
      · have g50 := bz0 h50
        have hF : At (uFinB (fA τ n q) 1 (nuN (fA τ n q) 1) (ncN (fA τ n q) 1) (ntN (fA τ n q) 1) j).1 n (eT τ n q) := hA.a.o (uFinB_o (by simp) (by simp) (by simp) (by simp) (by simp) (by simp)) (uFinB_o (by simp) (by simp) (by simp) (by simp) (by simp) (by simp))
        refine X_aload_n (pc := 60) C 0 dX4_readEnd_60 rfl rfl ?_
        refine G_X4_21 (pc := 61) C (by assumption) dX4_readEnd_61 ?_
        refine X_iload_n (pc := 64) C 1 dX4_readEnd_64 rfl rfl ?_
        refine K_X4_153 (pc := 65) C (by assumption) (by have h := c_X0_finish l P (fA τ n q) 1 (nuN (fA τ n q) 1) (ncN (fA τ n q) 1) (ntN (fA τ n q) 1) hb1 hB.fA.2.1 hB.fA.1 hB.fA.2.2.2.1 hB.fA.2.2.1 hB.fA.2.2.2.2.2 hB.fA.2.2.2.2.1 j hj; exact h) ⟨Nat.le_of_ble_eq_true rfl, Nat.le_of_ble_eq_true rfl⟩ ⟨rfl, rfl⟩ ⟨Nat.zero_le _, Nat.zero_le _⟩ (Nat.le_of_ble_eq_true rfl) dX4_readEnd_65 ?_
        refine X_pop (pc := 68) C dX4_readEnd_68 rfl ?_
        refine X_aload_n (pc := 69) C 0 dX4_readEnd_69 rfl rfl ?_
        refine G_X4_12 (pc := 70) C (by assumption) dX4_readEnd_70 ?_
        refine K_X4_52 (pc := 73) C (by assumption) (c_X3_advance l P (uFinB (fA τ n q) 1 (nuN (fA τ n q) 1) (ncN (fA τ n q) 1) (ntN (fA τ n q) 1) j).1 h0 n hF.1 hF.2.2.1 (eT (uFinB (fA τ n q) 1 (nuN (fA τ n q) 1) (ncN (fA τ n q) 1) (ntN (fA τ n q) 1) j).1 n (eT τ n q)) (tkE_in _ hF.2.1).2 hF.2.2.2.1 hF.2.2.2.2.2.2.2) ⟨Nat.le_of_ble_eq_true rfl, Nat.le_of_ble_eq_true rfl⟩ ⟨rfl, rfl⟩ ⟨Nat.zero_le _, Nat.zero_le _⟩ (Nat.le_of_ble_eq_true rfl) dX4_readEnd_73 ?_
        refine X_iconst (pc := 76) (v := 1) C dX4_readEnd_76 (by decide) ?_
        exact X_zret (pc := 77) C (Nat.zero_le _) (Nat.zero_le _) (rfl) dX4_readEnd_77 (by rw [rEnd1, if_neg (show ¬ (rEndN τ n q).1 = -1 from h27), ej, nI_clamp (n31 (by omega)), rEnd2, if_pos g34.1, if_neg g50] at hp; exact hp)
      · have g50 := bz1 h50
        refine X_aload_n (pc := 53) C 0 dX4_readEnd_53 rfl rfl ?_
        refine X_bipush (pc := 54) (v := 7) C dX4_readEnd_54 (by decide) ?_
        refine K_X4_48 (pc := 56) C (by assumption) (c_X4_fail l P (fA τ n q) h0 n (eT τ n q) hA.a 7) ⟨Nat.le_of_ble_eq_true rfl, Nat.le_of_ble_eq_true rfl⟩ ⟨rfl, rfl⟩ ⟨Nat.zero_le _, Nat.zero_le _⟩ (Nat.le_of_ble_eq_true rfl) dX4_readEnd_56 ?_
        exact X_zret (pc := 59) C (Nat.zero_le _) (Nat.zero_le _) (rfl) dX4_readEnd_59 (by rw [rEnd1, if_neg (show ¬ (rEndN τ n q).1 = -1 from h27), ej, nI_clamp (n31 (by omega)), rEnd2, if_pos g34.1, if_pos g50] at hp; exact hp)
    · have g34 := rSemi_n h34
      rw [g34.2]
      refine X_iconst (pc := 37) (v := 0) C dX4_readEnd_37 (by decide) ?_
      exact X_zret (pc := 38) C (Nat.zero_le _) (Nat.zero_le _) (rfl) dX4_readEnd_38 (by rw [rEnd1, if_neg (show ¬ (rEndN τ n q).1 = -1 from h27), ej, nI_clamp (n31 (by omega)), rEnd2, if_neg g34.1] at hp; exact hp)

set_option maxRecDepth 100000 in
set_option maxHeartbeats 4000000 in
theorem c_X4_readEnd (l : Launch) (P : XP) (σ : XS) (h0 : xI0 P) (hb1 : xIn P 1) (n p0 : Nat) (hA : At σ n p0) (hB : Bd σ 1) : XF l yX4_readEnd cX4_readEnd 2 (some .boolean) rm_X4_readEnd P [.ref (P.2.2.1 (.inr 1))] σ (some (.int (rEnd σ n p0).1)) ((rEnd σ n p0).2.1) := by
  refine XM.of (by decide +kernel) (Nat.le_of_ble_eq_true rfl) (fun p e s m args below meth c A C => ?_)
  replace C : XC p s m args meth c P A 2 RX4 cX4_readEnd (some .boolean) := C
  refine XW.eq (lv' := [(0, _)]) rfl rfl rfl ?_
  refine X_aload_n (pc := 0) C 0 dX4_readEnd_0 rfl rfl ?_
  refine G_X4_12 (pc := 1) C (by assumption) dX4_readEnd_1 ?_
  refine K_X4_52 (pc := 4) C (by assumption) (c_X3_advance l P σ h0 n hA.1 hA.2.2.1 (eT σ n p0) (tkE_in _ hA.2.1).2 hA.2.2.2.1 hA.2.2.2.2.2.2.2) ⟨Nat.le_of_ble_eq_true rfl, Nat.le_of_ble_eq_true rfl⟩ ⟨rfl, rfl⟩ ⟨Nat.zero_le _, Nat.zero_le _⟩ (Nat.le_of_ble_eq_true rfl) dX4_readEnd_4 ?_
  exact T_X4_readEnd C (τ := fA σ n p0) (q := eT σ n p0) h0 hb1 hA.a hB.fA ⟨rfl, rfl⟩

def rWaitN (σ : XS) (n p : Nat) : Int32 × XS := rNum σ n p 1 (xmin 9999 (999999 - σ.1 (.inl (1, 0)) 3))
def uClock (σ : XS) (b : Nat) (v : Int32) : XS := xu σ (.inl (b, 0)) 3 (σ.1 (.inl (b, 0)) 3 + v)
def rWait1 (σ : XS) (n p : Nat) : RR := if (rWaitN σ n p).1 = -1 then (0, (rWaitN σ n p).2, p) else rSem (fA σ n p) n (eT σ n p) (uClock (fA σ n p) 1 (rWaitN σ n p).1)
def rWait (σ : XS) (n p : Nat) : RR := rWait1 (fA σ n p) n (eT σ n p)
set_option maxRecDepth 100000 in
set_option maxHeartbeats 4000000 in
theorem T_X4_readWait {Post : Option Value → XS → Prop} {mc ms : Nat} (C : XC p s m args meth c P A 2 RX4 cX4_readWait (some .boolean)) {τ : XS} (h0 : xI0 P) (hb1 : xIn P 1) {n q : Nat} (hA : At τ n q) (hB : Bd τ 1) (hp : Post (some (.int (rWait1 τ n q).1)) (rWait1 τ n q).2.1) : XW p l e rm_X4_readWait s m args below meth c P A 2 0 0 (MQ below (XQ P A Post) args s mc ms A) τ 7 [(0, .ref (P.2.2.1 (.inr 1)))] [] := by
  refine X_aload_n (pc := 7) C 0 dX4_readWait_7 rfl rfl ?_
  refine X_iconst (pc := 8) (v := 1) C dX4_readWait_8 (by decide) ?_
  refine X_sipush (pc := 9) (v := 9999) C dX4_readWait_9 (by decide) ?_
  refine X_ldc (pc := 12) C m_k_X4_156 dX4_readWait_12 ?_
  refine X_aload_n (pc := 14) C 0 dX4_readWait_14 rfl rfl ?_
  refine G_X4_21 (pc := 15) C (by assumption) dX4_readWait_15 ?_
  refine G_X4_157 (pc := 18) C (by assumption) dX4_readWait_18 ?_
  refine X_isub (pc := 21) C dX4_readWait_21 ?_
  refine X_mmin (pc := 22) C m_m_X4_160 (Nat.le_of_ble_eq_true rfl) (Nat.le_of_ble_eq_true rfl) ⟨Nat.zero_le _, Nat.zero_le _⟩ dX4_readWait_22 ?_
  refine K_X4_55 (pc := 25) C (by assumption) (c_X4_readNumber l P τ h0 n q hA (1) (xmin 9999 (999999 - τ.1 (.inl (1, 0)) 3))) ⟨Nat.le_of_ble_eq_true rfl, Nat.le_of_ble_eq_true rfl⟩ ⟨rfl, rfl⟩ ⟨Nat.zero_le _, Nat.zero_le _⟩ (Nat.le_of_ble_eq_true rfl) dX4_readWait_25 ?_
  refine X_istore_n (pc := 28) (lv1 := [(0, _), (1, _)]) C 1 dX4_readWait_28 rfl (by decide) rfl ?_
  refine X_iload_n (pc := 29) C 1 dX4_readWait_29 rfl rfl ?_
  refine X_iconst (pc := 30) (v := (-1)) C dX4_readWait_30 (by decide) ?_
  refine X_icmp_eq (pc := 31) C 41 dX4_readWait_31 (by decide) (fun h31 => ?_) (fun h31 => ?_)
  · skip
    refine X_iconst (pc := 41) (v := 0) C dX4_readWait_41 (by decide) ?_
    exact X_zret (pc := 42) C (Nat.zero_le _) (Nat.zero_le _) (rfl) dX4_readWait_42 (by rw [rWait1, if_pos (show (rWaitN τ n q).1 = -1 from h31)] at hp; exact hp)
  · refine XW.eq (rNum_y h31).1 rfl rfl ?_
    have hF : At (uClock (fA τ n q) 1 (rWaitN τ n q).1) n (eT τ n q) := hA.a.o (xu_ne _ _ _ (by simp)) (xu_ne _ _ _ (by simp))
    refine X_aload_n (pc := 34) C 0 dX4_readWait_34 rfl rfl ?_
    refine K_X4_59 (pc := 35) C (by assumption) (c_X4_isAtSemicolon l P (fA τ n q) h0 n (eT τ n q) hA.a) ⟨Nat.le_of_ble_eq_true rfl, Nat.le_of_ble_eq_true rfl⟩ ⟨rfl, rfl⟩ ⟨Nat.zero_le _, Nat.zero_le _⟩ (Nat.le_of_ble_eq_true rfl) dX4_readWait_35 ?_
    refine X_if_ne (pc := 38) C 43 dX4_readWait_38 (by decide) (fun h38 => ?_) (fun h38 => ?_)
    · have g38 := rSemi_y h38
      rw [g38.2]
      refine X_aload_n (pc := 43) C 0 dX4_readWait_43 rfl rfl ?_
      refine G_X4_21 (pc := 44) C (by assumption) dX4_readWait_44 ?_
      refine X_dup (pc := 47) C dX4_readWait_47 rfl ?_
      refine G_X4_157 (pc := 48) C (by assumption) dX4_readWait_48 ?_
      refine X_iload_n (pc := 51) C 1 dX4_readWait_51 rfl rfl ?_
      refine X_iadd (pc := 52) C dX4_readWait_52 ?_
      refine U_X4_157 (pc := 53) C (by assumption) dX4_readWait_53 ?_
      refine X_aload_n (pc := 56) C 0 dX4_readWait_56 rfl rfl ?_
      refine G_X4_12 (pc := 57) C (by assumption) dX4_readWait_57 ?_
      refine K_X4_52 (pc := 60) C (by assumption) (c_X3_advance l P (uClock (fA τ n q) 1 (rWaitN τ n q).1) h0 n hF.1 hF.2.2.1 (eT (uClock (fA τ n q) 1 (rWaitN τ n q).1) n (eT τ n q)) (tkE_in _ hF.2.1).2 hF.2.2.2.1 hF.2.2.2.2.2.2.2) ⟨Nat.le_of_ble_eq_true rfl, Nat.le_of_ble_eq_true rfl⟩ ⟨rfl, rfl⟩ ⟨Nat.zero_le _, Nat.zero_le _⟩ (Nat.le_of_ble_eq_true rfl) dX4_readWait_60 ?_
      refine X_iconst (pc := 63) (v := 1) C dX4_readWait_63 (by decide) ?_
      exact X_zret (pc := 64) C (Nat.zero_le _) (Nat.zero_le _) (rfl) dX4_readWait_64 (by rw [rWait1, if_neg (show ¬ (rWaitN τ n q).1 = -1 from h31), rSem, if_pos g38.1] at hp; exact hp)
    · have g38 := rSemi_n h38
      rw [g38.2]
      refine X_iconst (pc := 41) (v := 0) C dX4_readWait_41 (by decide) ?_
      exact X_zret (pc := 42) C (Nat.zero_le _) (Nat.zero_le _) (rfl) dX4_readWait_42 (by rw [rWait1, if_neg (show ¬ (rWaitN τ n q).1 = -1 from h31), rSem, if_neg g38.1] at hp; exact hp)

set_option maxRecDepth 100000 in
set_option maxHeartbeats 4000000 in
theorem c_X4_readWait (l : Launch) (P : XP) (σ : XS) (h0 : xI0 P) (hb1 : xIn P 1) (n p0 : Nat) (hA : At σ n p0) (hB : Bd σ 1) : XF l yX4_readWait cX4_readWait 2 (some .boolean) rm_X4_readWait P [.ref (P.2.2.1 (.inr 1))] σ (some (.int (rWait σ n p0).1)) ((rWait σ n p0).2.1) := by
  refine XM.of (by decide +kernel) (Nat.le_of_ble_eq_true rfl) (fun p e s m args below meth c A C => ?_)
  replace C : XC p s m args meth c P A 2 RX4 cX4_readWait (some .boolean) := C
  refine XW.eq (lv' := [(0, _)]) rfl rfl rfl ?_
  refine X_aload_n (pc := 0) C 0 dX4_readWait_0 rfl rfl ?_
  refine G_X4_12 (pc := 1) C (by assumption) dX4_readWait_1 ?_
  refine K_X4_52 (pc := 4) C (by assumption) (c_X3_advance l P σ h0 n hA.1 hA.2.2.1 (eT σ n p0) (tkE_in _ hA.2.1).2 hA.2.2.2.1 hA.2.2.2.2.2.2.2) ⟨Nat.le_of_ble_eq_true rfl, Nat.le_of_ble_eq_true rfl⟩ ⟨rfl, rfl⟩ ⟨Nat.zero_le _, Nat.zero_le _⟩ (Nat.le_of_ble_eq_true rfl) dX4_readWait_4 ?_
  exact T_X4_readWait C (τ := fA σ n p0) (q := eT σ n p0) h0 hb1 hA.a hB.fA ⟨rfl, rfl⟩

def rMood1 (σ : XS) (n p : Nat) : RR :=
  if (rKnown σ n p (nuN σ 1) (-1)).1 = -1 then (0, (rKnown σ n p (nuN σ 1) (-1)).2, p)
  else if (rNum (fA σ n p) n (eT σ n p) 0 9).1 = -1 then (0, (rNum (fA σ n p) n (eT σ n p) 0 9).2, eT σ n p)
  else rSem (fA (fA σ n p) n (eT σ n p)) n (eT (fA σ n p) n (eT σ n p)) (xu (fA (fA σ n p) n (eT σ n p)) (.inl (1, 5)) (rKnown σ n p (nuN σ 1) (-1)).1.toNatClampNeg (rNum (fA σ n p) n (eT σ n p) 0 9).1)
def rMood (σ : XS) (n p : Nat) : RR := rMood1 (fA σ n p) n (eT σ n p)
set_option maxRecDepth 100000 in
set_option maxHeartbeats 4000000 in
theorem T_X4_readMood {Post : Option Value → XS → Prop} {mc ms : Nat} (C : XC p s m args meth c P A 3 RX4 cX4_readMood (some .boolean)) {τ : XS} (h0 : xI0 P) (hb1 : xIn P 1) {n q : Nat} (hA : At τ n q) (hB : Bd τ 1) (hp : Post (some (.int (rMood1 τ n q).1)) (rMood1 τ n q).2.1) : XW p l e rm_X4_readMood s m args below meth c P A 3 0 0 (MQ below (XQ P A Post) args s mc ms A) τ 7 [(0, .ref (P.2.2.1 (.inr 1)))] [] := by
  refine X_aload_n (pc := 7) C 0 dX4_readMood_7 rfl rfl ?_
  refine X_iconst (pc := 8) (v := (-1)) C dX4_readMood_8 (by decide) ?_
  refine K_X4_125 (pc := 9) C (by assumption) (c_X4_readKnownName l P τ h0 n q hA hb1 (nuN τ 1) hB.2.1 hB.1 (-1)) ⟨Nat.le_of_ble_eq_true rfl, Nat.le_of_ble_eq_true rfl⟩ ⟨rfl, rfl⟩ ⟨Nat.zero_le _, Nat.zero_le _⟩ (Nat.le_of_ble_eq_true rfl) dX4_readMood_9 ?_
  refine X_istore_n (pc := 12) (lv1 := [(0, _), (1, _)]) C 1 dX4_readMood_12 rfl (by decide) rfl ?_
  refine X_iload_n (pc := 13) C 1 dX4_readMood_13 rfl rfl ?_
  refine X_iconst (pc := 14) (v := (-1)) C dX4_readMood_14 (by decide) ?_
  refine X_icmp_ne (pc := 15) C 20 dX4_readMood_15 (by decide) (fun h15 => ?_) (fun h15 => ?_)
  · refine XW.eq (rKnown_y h15).1 rfl rfl ?_
    obtain ⟨j, hj, ej⟩ := rKnown_j h15
    have hj5 := hB.2.1
    refine X_aload_n (pc := 20) C 0 dX4_readMood_20 rfl rfl ?_
    refine X_iconst (pc := 21) (v := 0) C dX4_readMood_21 (by decide) ?_
    refine X_bipush (pc := 22) (v := 9) C dX4_readMood_22 (by decide) ?_
    refine K_X4_55 (pc := 24) C (by assumption) (c_X4_readNumber l P (fA τ n q) h0 n (eT τ n q) hA.a (0) (9)) ⟨Nat.le_of_ble_eq_true rfl, Nat.le_of_ble_eq_true rfl⟩ ⟨rfl, rfl⟩ ⟨Nat.zero_le _, Nat.zero_le _⟩ (Nat.le_of_ble_eq_true rfl) dX4_readMood_24 ?_
    refine X_istore_n (pc := 27) (lv1 := [(0, _), (1, _), (2, _)]) C 2 dX4_readMood_27 rfl (by decide) rfl ?_
    refine X_iload_n (pc := 28) C 2 dX4_readMood_28 rfl rfl ?_
    refine X_iconst (pc := 29) (v := (-1)) C dX4_readMood_29 (by decide) ?_
    refine X_icmp_eq (pc := 30) C 40 dX4_readMood_30 (by decide) (fun h30 => ?_) (fun h30 => ?_)
    · skip
      refine X_iconst (pc := 40) (v := 0) C dX4_readMood_40 (by decide) ?_
      exact X_zret (pc := 41) C (Nat.zero_le _) (Nat.zero_le _) (rfl) dX4_readMood_41 (by rw [rMood1, if_neg h15, if_pos h30] at hp; exact hp)
    · refine XW.eq (rNum_y h30).1 rfl rfl ?_
      have hF : At (xu (fA (fA τ n q) n (eT τ n q)) (.inl (1, 5)) j (rNum (fA τ n q) n (eT τ n q) 0 9).1) n (eT (fA τ n q) n (eT τ n q)) := hA.a.a.o (xu_ne _ _ _ (by simp)) (xu_ne _ _ _ (by simp))
      refine X_aload_n (pc := 33) C 0 dX4_readMood_33 rfl rfl ?_
      refine K_X4_59 (pc := 34) C (by assumption) (c_X4_isAtSemicolon l P (fA (fA τ n q) n (eT τ n q)) h0 n (eT (fA τ n q) n (eT τ n q)) hA.a.a) ⟨Nat.le_of_ble_eq_true rfl, Nat.le_of_ble_eq_true rfl⟩ ⟨rfl, rfl⟩ ⟨Nat.zero_le _, Nat.zero_le _⟩ (Nat.le_of_ble_eq_true rfl) dX4_readMood_34 ?_
      refine X_if_ne (pc := 37) C 42 dX4_readMood_37 (by decide) (fun h37 => ?_) (fun h37 => ?_)
      · have g37 := rSemi_y h37
        rw [g37.2]
        refine X_aload_n (pc := 42) C 0 dX4_readMood_42 rfl rfl ?_
        refine G_X4_21 (pc := 43) C (by assumption) dX4_readMood_43 ?_
        refine G_X4_89 (pc := 46) C (by assumption) dX4_readMood_46 ?_
        refine G_X4_165 (pc := 49) C (by assumption) dX4_readMood_49 ?_
        refine X_iload_n (pc := 52) C 1 dX4_readMood_52 rfl rfl ?_
        rw [ej]
        refine X_iload_n (pc := 53) C 2 dX4_readMood_53 rfl rfl ?_
        refine X_iastN (pc := 54) C (by first | exact h0 _ (by decide) | exact hb1 _ (by decide)) rfl (by omega) (by decide) dX4_readMood_54 ?_
        refine X_aload_n (pc := 55) C 0 dX4_readMood_55 rfl rfl ?_
        refine G_X4_12 (pc := 56) C (by assumption) dX4_readMood_56 ?_
        refine K_X4_52 (pc := 59) C (by assumption) (c_X3_advance l P (xu (fA (fA τ n q) n (eT τ n q)) (.inl (1, 5)) j (rNum (fA τ n q) n (eT τ n q) 0 9).1) h0 n hF.1 hF.2.2.1 (eT (xu (fA (fA τ n q) n (eT τ n q)) (.inl (1, 5)) j (rNum (fA τ n q) n (eT τ n q) 0 9).1) n (eT (fA τ n q) n (eT τ n q))) (tkE_in _ hF.2.1).2 hF.2.2.2.1 hF.2.2.2.2.2.2.2) ⟨Nat.le_of_ble_eq_true rfl, Nat.le_of_ble_eq_true rfl⟩ ⟨rfl, rfl⟩ ⟨Nat.zero_le _, Nat.zero_le _⟩ (Nat.le_of_ble_eq_true rfl) dX4_readMood_59 ?_
        refine X_iconst (pc := 62) (v := 1) C dX4_readMood_62 (by decide) ?_
        exact X_zret (pc := 63) C (Nat.zero_le _) (Nat.zero_le _) (rfl) dX4_readMood_63 (by rw [rMood1, if_neg h15, if_neg h30, ej, nI_clamp (n31 (by omega)), rSem, if_pos g37.1] at hp; exact hp)
      · have g37 := rSemi_n h37
        rw [g37.2]
        refine X_iconst (pc := 40) (v := 0) C dX4_readMood_40 (by decide) ?_
        exact X_zret (pc := 41) C (Nat.zero_le _) (Nat.zero_le _) (rfl) dX4_readMood_41 (by rw [rMood1, if_neg h15, if_neg h30, rSem, if_neg g37.1] at hp; exact hp)
  · skip
    refine X_iconst (pc := 18) (v := 0) C dX4_readMood_18 (by decide) ?_
    exact X_zret (pc := 19) C (Nat.zero_le _) (Nat.zero_le _) (rfl) dX4_readMood_19 (by rw [rMood1, if_pos h15] at hp; exact hp)

set_option maxRecDepth 100000 in
set_option maxHeartbeats 4000000 in
theorem c_X4_readMood (l : Launch) (P : XP) (σ : XS) (h0 : xI0 P) (hb1 : xIn P 1) (n p0 : Nat) (hA : At σ n p0) (hB : Bd σ 1) : XF l yX4_readMood cX4_readMood 3 (some .boolean) rm_X4_readMood P [.ref (P.2.2.1 (.inr 1))] σ (some (.int (rMood σ n p0).1)) ((rMood σ n p0).2.1) := by
  refine XM.of (by decide +kernel) (Nat.le_of_ble_eq_true rfl) (fun p e s m args below meth c A C => ?_)
  replace C : XC p s m args meth c P A 3 RX4 cX4_readMood (some .boolean) := C
  refine XW.eq (lv' := [(0, _)]) rfl rfl rfl ?_
  refine X_aload_n (pc := 0) C 0 dX4_readMood_0 rfl rfl ?_
  refine G_X4_12 (pc := 1) C (by assumption) dX4_readMood_1 ?_
  refine K_X4_52 (pc := 4) C (by assumption) (c_X3_advance l P σ h0 n hA.1 hA.2.2.1 (eT σ n p0) (tkE_in _ hA.2.1).2 hA.2.2.2.1 hA.2.2.2.2.2.2.2) ⟨Nat.le_of_ble_eq_true rfl, Nat.le_of_ble_eq_true rfl⟩ ⟨rfl, rfl⟩ ⟨Nat.zero_le _, Nat.zero_le _⟩ (Nat.le_of_ble_eq_true rfl) dX4_readMood_4 ?_
  exact T_X4_readMood C (τ := fA σ n p0) (q := eT σ n p0) h0 hb1 hA.a hB.fA ⟨rfl, rfl⟩

end XP16

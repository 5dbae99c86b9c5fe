/-! READER: setups and scripts, over board 1 -/
def nuN (σ : XS) (b : Nat) : Nat := (σ.1 (.inl (b, 1)) 6).toNatClampNeg
def ncN (σ : XS) (b : Nat) : Nat := (σ.1 (.inl (b, 8)) 10).toNatClampNeg
def ntN (σ : XS) (b : Nat) : Nat := (σ.1 (.inl (b, 0)) 6).toNatClampNeg
/-- board b's counts are within their bounds -/
def Bd (σ : XS) (b : Nat) : Prop := σ.1 (.inl (b, 1)) 6 = nI (nuN σ b) ∧ nuN σ b ≤ 15 ∧ σ.1 (.inl (b, 8)) 10 = nI (ncN σ b) ∧ ncN σ b ≤ 40 ∧ σ.1 (.inl (b, 0)) 6 = nI (ntN σ b) ∧ ntN σ b ≤ 4
theorem Bd.mk {σ : XS} {b nu nc nt : Nat} (h1 : σ.1 (.inl (b, 1)) 6 = nI nu) (h2 : nu ≤ 15) (h3 : σ.1 (.inl (b, 8)) 10 = nI nc) (h4 : nc ≤ 40) (h5 : σ.1 (.inl (b, 0)) 6 = nI nt) (h6 : nt ≤ 4) : Bd σ b := by
  have e1 : nuN σ b = nu := by rw [nuN, h1, nI_clamp (by omega)]
  have e2 : ncN σ b = nc := by rw [ncN, h3, nI_clamp (by omega)]
  have e3 : ntN σ b = nt := by rw [ntN, h5, nI_clamp (by omega)]
  unfold Bd
  rw [e1, e2, e3]
  exact ⟨h1, h2, h3, h4, h5, h6⟩
theorem Bd.o {σ τ : XS} {b : Nat} (h : Bd σ b) (h1 : τ.1 (.inl (b, 1)) 6 = σ.1 (.inl (b, 1)) 6) (h2 : τ.1 (.inl (b, 8)) 10 = σ.1 (.inl (b, 8)) 10) (h3 : τ.1 (.inl (b, 0)) 6 = σ.1 (.inl (b, 0)) 6) : Bd τ b := by
  unfold Bd nuN ncN ntN at *
  rw [h1, h2, h3]
  exact h
theorem Bd.fA {σ : XS} {b n p : Nat} (h : Bd σ b) : Bd (fA σ n p) b := h.o (by rw [fA_o _ _ _ (by simp)]) (by rw [fA_o _ _ _ (by simp)]) (by rw [fA_o _ _ _ (by simp)])
theorem Bd.fF {σ : XS} {b n p : Nat} {k : Int32} (h : Bd σ b) : Bd (fF σ n p k) b := h.o (by rw [fF_o _ _ _ _ (by simp)]) (by rw [fF_o _ _ _ _ (by simp)]) (by rw [fF_o _ _ _ _ (by simp)])
theorem At.fF {σ : XS} {n p : Nat} {k : Int32} (h : At σ n p) : At (fF σ n p k) n p := h.o (fF_o _ _ _ _ (by simp)) (fF_o _ _ _ _ (by simp))
/-! the counts of board b through its changes -/
theorem uCall_nu {σ : XS} {b n : Nat} {ca ot tr ur us : Int32} : (uCall σ b n ca ot tr ur us).1 (.inl (b, 1)) = σ.1 (.inl (b, 1)) := by simp [uCall, xu_ne]
theorem uCall_nt {σ : XS} {b n : Nat} {ca ot tr ur us : Int32} : (uCall σ b n ca ot tr ur us).1 (.inl (b, 0)) = σ.1 (.inl (b, 0)) := by simp [uCall, xu_ne]
theorem uReq_in {σ : XS} {b nu nc : Nat} {ca ot tr ur : Int32} {k : Nat} : (uReq σ b nu nc ca ot tr ur).1 (.inr k) = σ.1 (.inr k) := by
  unfold uReq
  split
  · rw [uStart_o _ _ _ _ (by simp) (by simp) (by simp) (by simp)]
    simp [uReq0, uCall, xu_ne]
  · simp [uReq0, uCall, xu_ne]
theorem uReq_nu {σ : XS} {b nu nc : Nat} {ca ot tr ur : Int32} : (uReq σ b nu nc ca ot tr ur).1 (.inl (b, 1)) = σ.1 (.inl (b, 1)) := by
  unfold uReq
  split
  · rw [uStart_o _ _ _ _ (by simp) (by simp) (by simp) (by simp)]
    exact uCall_nu
  · exact uCall_nu
theorem uReq_nt {σ : XS} {b nu nc : Nat} {ca ot tr ur : Int32} : (uReq σ b nu nc ca ot tr ur).1 (.inl (b, 0)) = σ.1 (.inl (b, 0)) := by
  unfold uReq
  split
  · rw [uStart_o _ _ _ _ (by simp) (by simp) (by simp) (by simp)]
    exact uCall_nt
  · exact uCall_nt
theorem uReq_nc {σ : XS} {b nu nc : Nat} {ca ot tr ur : Int32} : (uReq σ b nu nc ca ot tr ur).1 (.inl (b, 8)) 10 = nI (nc + 1) := by
  unfold uReq
  split
  · rw [uStart_o _ _ _ _ (by simp) (by simp) (by simp) (by simp)]
    exact uReq0_cc
  · exact uReq0_cc
theorem uFinB_o {σ : XS} {b nu nc nt j : Nat} {i : XI} (h6 : i ≠ .inl (b, 6)) (h7 : i ≠ .inl (b, 7)) (h9 : i ≠ .inl (b, 9)) (h16 : i ≠ .inl (b, 16)) (h17 : i ≠ .inl (b, 17)) (h18 : i ≠ .inl (b, 18)) : (uFinB σ b nu nc nt j).1.1 i = σ.1 i := by
  unfold uFinB uFinA
  rw [uWait_o _ _ _ _ _ h7 h9 h16 h18, uWait_o _ _ _ _ _ h7 h9 h16 h18, uFin_o _ _ _ _ _ h6 h9 h17]
/-- the answers of the reading methods: the flag, the world, the place of the token that is looked at then -/
abbrev RR : Type := Int32 × XS × Nat
def rUrg (σ : XS) (n p : Nat) : XS × Nat := if rIsW σ n p 7 = 0 then (σ, p) else (fA σ n p, eT σ n p)
def rReq1 (σ : XS) (n p : Nat) (ca ot tr ur : Int32) : RR :=
  if kT σ n p = 3 then (if ncN σ 1 < 40 then (1, fA (uReq σ 1 (nuN σ 1) (ncN σ 1) ca ot tr ur) n p, eT σ n p) else (0, fF σ n p 6, p)) else (0, fF σ n p 1, p)
def rReq (σ : XS) (n p : Nat) (ca ot tr : Int32) : RR := rReq1 (rUrg σ n p).1 n (rUrg σ n p).2 ca ot tr (rIsW σ n p 7)
theorem rUrg_At {σ : XS} {n p : Nat} (h : At σ n p) : At (rUrg σ n p).1 n (rUrg σ n p).2 := by
  unfold rUrg
  split
  · exact h
  · exact h.a
theorem rUrg_Bd {σ : XS} {n p : Nat} (h : Bd σ 1) : Bd (rUrg σ n p).1 1 := by
  unfold rUrg
  split
  · exact h
  · exact h.fA
theorem rReq1_01 (σ : XS) (n p : Nat) (ca ot tr ur : Int32) : (rReq1 σ n p ca ot tr ur).1 = 0 ∨ (rReq1 σ n p ca ot tr ur).1 = 1 := by
  unfold rReq1
  split
  · split
    · exact Or.inr rfl
    · exact Or.inl rfl
  · exact Or.inl rfl
theorem rKnown_y {σ : XS} {n p nu : Nat} {x : Int32} (h : ¬ (rKnown σ n p nu x).1 = -1) : (rKnown σ n p nu x).2 = fA σ n p ∧ (rKnown σ n p nu x).1 = rFind σ n p nu ∧ ¬ rFind σ n p nu = -1 ∧ rIsN σ n p ∧ ¬ rFind σ n p nu = x := by
  unfold rKnown at h ⊢
  by_cases h1 : rIsN σ n p
  · rw [if_pos h1] at h ⊢
    by_cases h2 : rFind σ n p nu = -1
    · rw [if_pos h2] at h; exact absurd rfl h
    · rw [if_neg h2] at h ⊢
      by_cases h3 : rFind σ n p nu = x
      · rw [if_pos h3] at h; exact absurd rfl h
      · rw [if_neg h3]; exact ⟨rfl, rfl, h2, h1, h3⟩
  · rw [if_neg h1] at h; exact absurd rfl h
theorem rKnown_j {σ : XS} {n p nu : Nat} {x : Int32} (h : ¬ (rKnown σ n p nu x).1 = -1) : ∃ j, j < nu ∧ (rKnown σ n p nu x).1 = nI j := by
  obtain ⟨-, h2, h3, -⟩ := rKnown_y h
  obtain ⟨j, -, h5, -, h6⟩ := cFirst_in _ _ _ h3
  exact ⟨j, by omega, h2.trans h6⟩
theorem rNum_y {σ : XS} {n p : Nat} {lo hi : Int32} (h : ¬ (rNum σ n p lo hi).1 = -1) : (rNum σ n p lo hi).2 = fA σ n p ∧ ¬ (rNum σ n p lo hi).1 < lo ∧ (rNum σ n p lo hi).1 ≤ hi := by
  unfold rNum at h ⊢
  by_cases h1 : kT σ n p = 2
  · rw [if_pos h1] at h ⊢
    by_cases h2 : vT σ n p < lo
    · rw [if_pos h2] at h; exact absurd rfl h
    · rw [if_neg h2] at h ⊢
      by_cases h3 : vT σ n p ≤ hi
      · rw [if_pos h3]; exact ⟨rfl, h2, h3⟩
      · rw [if_neg h3] at h; exact absurd rfl h
  · rw [if_neg h1] at h; exact absurd rfl h
theorem rSemi_y {σ : XS} {n p : Nat} (h : ¬ (rSemi σ n p).1 = 0) : kT σ n p = 3 ∧ (rSemi σ n p).2 = σ := by
  unfold rSemi at h ⊢
  split
  · rename_i h1; exact ⟨h1, rfl⟩
  · rename_i h1; rw [if_neg h1] at h; exact absurd rfl h
theorem rSemi_n {σ : XS} {n p : Nat} (h : (rSemi σ n p).1 = 0) : ¬ kT σ n p = 3 ∧ (rSemi σ n p).2 = fF σ n p 1 := by
  unfold rSemi at h ⊢
  split
  · rename_i h1; rw [if_pos h1] at h; exact absurd (show (1 : Int32) = 0 from h) (by decide)
  · rename_i h1; exact ⟨h1, rfl⟩
/-- "call" has been read -/
def rCall1 (σ : XS) (n p : Nat) : RR :=
  if (rKnown σ n p (nuN σ 1) (-1)).1 = -1 then (0, (rKnown σ n p (nuN σ 1) (-1)).2, p)
  else if (rKnown (fA σ n p) n (eT σ n p) (nuN σ 1) (rKnown σ n p (nuN σ 1) (-1)).1).1 = -1 then (0, (rKnown (fA σ n p) n (eT σ n p) (nuN σ 1) (rKnown σ n p (nuN σ 1) (-1)).1).2, eT σ n p)
  else rReq (fA (fA σ n p) n (eT σ n p)) n (eT (fA σ n p) n (eT σ n p)) (rKnown σ n p (nuN σ 1) (-1)).1 (rKnown (fA σ n p) n (eT σ n p) (nuN σ 1) (rKnown σ n p (nuN σ 1) (-1)).1).1 (-1)
def rCall (σ : XS) (n p : Nat) : RR := rCall1 (fA σ n p) n (eT σ n p)
def rTrk1 (σ : XS) (n p : Nat) : RR :=
  if (rKnown σ n p (nuN σ 1) (-1)).1 = -1 then (0, (rKnown σ n p (nuN σ 1) (-1)).2, p)
  else if (rNum (fA σ n p) n (eT σ n p) 0 (σ.1 (.inl (1, 0)) 6 - 1)).1 = -1 then (0, (rNum (fA σ n p) n (eT σ n p) 0 (σ.1 (.inl (1, 0)) 6 - 1)).2, eT σ n p)
  else rReq (fA (fA σ n p) n (eT σ n p)) n (eT (fA σ n p) n (eT σ n p)) (rKnown σ n p (nuN σ 1) (-1)).1 (-1) (rNum (fA σ n p) n (eT σ n p) 0 (σ.1 (.inl (1, 0)) 6 - 1)).1
def rTrk (σ : XS) (n p : Nat) : RR := rTrk1 (fA σ n p) n (eT σ n p)
section XP16
variable {p : Program} {l : Launch} {e : Env} {R : Room} {s : State} {m : MethodId} {args : Array Value} {below : List Frame} {meth : Method} {c : Code} {P : XP} {A : Nat → Prop} {nL cells slots : Nat} {Q : State → Prop} {cc : ByteArray} {ret : Option FieldType} {σ : XS} {pc : Nat} {lv : List (Nat × Value)} {st : List Value}
theorem nar01 {x : Int32} (h : x = 0 ∨ x = 1) : vp_nar .boolean x = x := by rcases h with rfl | rfl <;> decide
theorem eT_req {σ : XS} {n p nu nc : Nat} {ca ot tr ur : Int32} : eT (uReq σ 1 nu nc ca ot tr ur) n p = eT σ n p := by unfold eT; rw [uReq_in]
theorem At.req {σ : XS} {n p nu nc : Nat} {ca ot tr ur : Int32} (h : At σ n p) : At (uReq σ 1 nu nc ca ot tr ur) n p := h.o uReq_in uReq_in
set_option maxRecDepth 100000 in
set_option maxHeartbeats 4000000 in
theorem T_X4_readRequest {Post : Option Value → XS → Prop} {mc ms : Nat} (C : XC p s m args meth c P A 5 RX4 cX4_readRequest (some .boolean)) {τ : XS} (h0 : xI0 P) (hb1 : xIn P 1) {n q : Nat} {ca ot tr ur : Int32} (hA : At τ n q) (hB : Bd τ 1) (hur : ur = 0 ∨ ur = 1) (hp : Post (some (.int (rReq1 τ n q ca ot tr ur).1)) (rReq1 τ n q ca ot tr ur).2.1) : XW p l e rm_X4_readRequest s m args below meth c P A 5 0 0 (MQ below (XQ P A Post) args s mc ms A) τ 23 [(0, .ref (P.2.2.1 (.inr 1))), (1, .int ca), (2, .int ot), (3, .int tr), (4, .int ur)] [] := by
  have hA2 : At (uReq τ 1 (nuN τ 1) (ncN τ 1) ca ot tr ur) n q := hA.req
  refine X_aload_n (pc := 23) C 0 dX4_readRequest_23 rfl rfl ?_
  refine K_X4_59 (pc := 24) C (by assumption) (c_X4_isAtSemicolon l P τ h0 n q hA) ⟨Nat.le_of_ble_eq_true rfl, Nat.le_of_ble_eq_true rfl⟩ ⟨rfl, rfl⟩ ⟨Nat.zero_le _, Nat.zero_le _⟩ (Nat.le_of_ble_eq_true rfl) dX4_readRequest_24 ?_
  refine X_if_ne (pc := 27) C 32 dX4_readRequest_27 (by decide) (fun h27 => ?_) (fun h27 => ?_)
  · have g27 := rSemi_y h27
    rw [g27.2]
    refine X_aload_n (pc := 32) C 0 dX4_readRequest_32 rfl rfl ?_
    refine G_X4_21 (pc := 33) C (by assumption) dX4_readRequest_33 ?_
    refine G_X4_137 (pc := 36) C (by assumption) dX4_readRequest_36 ?_
    refine G_X4_141 (pc := 39) C (by assumption) dX4_readRequest_39 ?_
    rw [hB.2.2.1]
    refine X_bipush (pc := 42) (v := 40) C dX4_readRequest_42 (by decide) ?_
    refine X_icmp_lt (pc := 44) C 54 dX4_readRequest_44 (by decide) (fun h44 => ?_) (fun h44 => ?_)
    · have g44 := nlt (a := ncN τ 1) (b := 40) h44 (by have := hB.2.2.2.1; omega)
      refine X_aload_n (pc := 54) C 0 dX4_readRequest_54 rfl rfl ?_
      refine G_X4_21 (pc := 55) C (by assumption) dX4_readRequest_55 ?_
      refine X_iload_n (pc := 58) C 1 dX4_readRequest_58 rfl rfl ?_
      refine X_iload_n (pc := 59) C 2 dX4_readRequest_59 rfl rfl ?_
      refine X_iload_n (pc := 60) C 3 dX4_readRequest_60 rfl rfl ?_
      refine X_iload (pc := 61) C dX4_readRequest_61 rfl ?_
      refine K_X4_146 (pc := 63) C (by assumption) (by have h := c_X0_request l P τ 1 (nuN τ 1) (ncN τ 1) hb1 hB.2.1 hB.1 hB.2.2.2.1 hB.2.2.1 g44 ca ot tr ur (nar01 hur); exact h) ⟨Nat.le_of_ble_eq_true rfl, Nat.le_of_ble_eq_true rfl⟩ ⟨rfl, rfl⟩ ⟨Nat.zero_le _, Nat.zero_le _⟩ (Nat.le_of_ble_eq_true rfl) dX4_readRequest_63 ?_
      refine X_pop (pc := 66) C dX4_readRequest_66 rfl ?_
      refine X_aload_n (pc := 67) C 0 dX4_readRequest_67 rfl rfl ?_
      refine G_X4_12 (pc := 68) C (by assumption) dX4_readRequest_68 ?_
      refine K_X4_52 (pc := 71) C (by assumption) (c_X3_advance l P (uReq τ 1 (nuN τ 1) (ncN τ 1) ca ot tr ur) h0 n hA2.1 hA2.2.2.1 (eT (uReq τ 1 (nuN τ 1) (ncN τ 1) ca ot tr ur) n q) (tkE_in _ hA2.2.1).2 hA2.2.2.2.1 hA2.2.2.2.2.2.2.2) ⟨Nat.le_of_ble_eq_true rfl, Nat.le_of_ble_eq_true rfl⟩ ⟨rfl, rfl⟩ ⟨Nat.zero_le _, Nat.zero_le _⟩ (Nat.le_of_ble_eq_true rfl) dX4_readRequest_71 ?_
      refine X_iconst (pc := 74) (v := 1) C dX4_readRequest_74 (by decide) ?_
      exact X_zret (pc := 75) C (Nat.zero_le _) (Nat.zero_le _) (rfl) dX4_readRequest_75 (by rw [rReq1, if_pos g27.1, if_pos g44] at hp; unfold fA at hp; exact hp)
    · have g44 := nnlt (a := ncN τ 1) (b := 40) h44 (by have := hB.2.2.2.1; omega)
      refine X_aload_n (pc := 47) C 0 dX4_readRequest_47 rfl rfl ?_
      refine X_bipush (pc := 48) (v := 6) C dX4_readRequest_48 (by decide) ?_
      refine K_X4_48 (pc := 50) C (by assumption) (c_X4_fail l P τ h0 n q hA 6) ⟨Nat.le_of_ble_eq_true rfl, Nat.le_of_ble_eq_true rfl⟩ ⟨rfl, rfl⟩ ⟨Nat.zero_le _, Nat.zero_le _⟩ (Nat.le_of_ble_eq_true rfl) dX4_readRequest_50 ?_
      exact X_zret (pc := 53) C (Nat.zero_le _) (Nat.zero_le _) (rfl) dX4_readRequest_53 (by rw [rReq1, if_pos g27.1, if_neg (by omega)] at hp; exact hp)
  · have g27 := rSemi_n h27
    rw [g27.2]
    refine X_iconst (pc := 30) (v := 0) C dX4_readRequest_30 (by decide) ?_
    exact X_zret (pc := 31) C (Nat.zero_le _) (Nat.zero_le _) (rfl) dX4_readRequest_31 (by rw [rReq1, if_neg g27.1] at hp; exact hp)

set_option maxRecDepth 100000 in
set_option maxHeartbeats 4000000 in
theorem c_X4_readRequest (l : Launch) (P : XP) (σ : XS) (h0 : xI0 P) (hb1 : xIn P 1) (n p0 : Nat) (hA : At σ n p0) (hB : Bd σ 1) (ca ot tr : Int32) : XF l yX4_readRequest cX4_readRequest 5 (some .boolean) rm_X4_readRequest P [.ref (P.2.2.1 (.inr 1)), .int ca, .int ot, .int tr] σ (some (.int (rReq σ n p0 ca ot tr).1)) ((rReq σ n p0 ca ot tr).2.1) := by
  refine XM.of (by decide +kernel) (Nat.le_of_ble_eq_true rfl) (fun p e s m args below meth c A C => ?_)
  replace C : XC p s m args meth c P A 5 RX4 cX4_readRequest (some .boolean) := C
  refine XW.eq (lv' := [(0, _), (1, _), (2, _), (3, _)]) rfl rfl rfl ?_
  refine X_aload_n (pc := 0) C 0 dX4_readRequest_0 rfl rfl ?_
  refine G_X4_12 (pc := 1) C (by assumption) dX4_readRequest_1 ?_
  refine X_ldcS (pc := 4) (q := 7) C (List.mem_of_getElem? (i := 7) rfl) dX4_readRequest_4 ?_
  refine X_fV (i := .inr 2) (ci := 3) (n := 1) (pc := 6) C [.ref _] (c_X3_isWord l P σ h0 (kT σ n p0) (sT σ n p0) (eT σ n p0) hA.2.2.2.2.1 hA.2.2.2.2.2.1 hA.2.2.2.1 hA.se.1 hA.se.2 7 (by decide)) m_c_X3_isWord m_m_X4_44 m_i_X3_isWord m_s_X3_isWord m_n_X3 ⟨by decide +kernel, by decide +kernel, by decide +kernel⟩ ⟨Nat.le_of_ble_eq_true rfl, Nat.le_of_ble_eq_true rfl⟩ ⟨rfl, rfl⟩ ⟨Nat.zero_le _, Nat.zero_le _⟩ (h0 2 (by decide)) rfl rfl rfl rfl (Nat.le_of_ble_eq_true rfl) rfl dX4_readRequest_6 ?_
  refine X_istore (pc := 9) (lv1 := [(0, _), (1, _), (2, _), (3, _), (4, _)]) C dX4_readRequest_9 (by decide) rfl ?_
  refine X_iload (pc := 11) C dX4_readRequest_11 rfl ?_
  refine X_if_eq (pc := 13) C 23 dX4_readRequest_13 (by decide) (fun h13 => ?_) (fun h13 => ?_)
  · have g13 : rUrg σ n p0 = (σ, p0) := if_pos h13
    first
      | exact T_X4_readRequest C h0 hb1 (q := p0) hA hB (rIsW_01 σ n p0 7) (by unfold rReq; rw [g13]; exact ⟨rfl, rfl⟩)
      | exact T_X4_readRequest C (τ := fA σ n p0) h0 hb1 (q := eT σ n p0) hA.a hB.fA (rIsW_01 σ n p0 7) (by unfold rReq; rw [g13]; exact ⟨rfl, rfl⟩)
  · have g13 : rUrg σ n p0 = (fA σ n p0, eT σ n p0) := if_neg h13
    refine X_aload_n (pc := 16) C 0 dX4_readRequest_16 rfl rfl ?_
    refine G_X4_12 (pc := 17) C (by assumption) dX4_readRequest_17 ?_
    refine K_X4_52 (pc := 20) C (by assumption) (c_X3_advance l P σ h0 n hA.1 hA.2.2.1 (eT σ n p0) (tkE_in _ hA.2.1).2 hA.2.2.2.1 hA.2.2.2.2.2.2.2) ⟨Nat.le_of_ble_eq_true rfl, Nat.le_of_ble_eq_true rfl⟩ ⟨rfl, rfl⟩ ⟨Nat.zero_le _, Nat.zero_le _⟩ (Nat.le_of_ble_eq_true rfl) dX4_readRequest_20 ?_
    first
      | exact T_X4_readRequest C h0 hb1 (q := p0) hA hB (rIsW_01 σ n p0 7) (by unfold rReq; rw [g13]; exact ⟨rfl, rfl⟩)
      | exact T_X4_readRequest C (τ := fA σ n p0) h0 hb1 (q := eT σ n p0) hA.a hB.fA (rIsW_01 σ n p0 7) (by unfold rReq; rw [g13]; exact ⟨rfl, rfl⟩)

theorem nuN_fA {σ : XS} {n p : Nat} : nuN (fA σ n p) 1 = nuN σ 1 := by unfold nuN; rw [fA_o _ _ _ (by simp)]
theorem rReq_01 (σ : XS) (n p : Nat) (ca ot tr : Int32) : (rReq σ n p ca ot tr).1 = 0 ∨ (rReq σ n p ca ot tr).1 = 1 := rReq1_01 _ _ _ _ _ _ _
set_option maxRecDepth 100000 in
set_option maxHeartbeats 4000000 in
theorem T_X4_readCall {Post : Option Value → XS → Prop} {mc ms : Nat} (C : XC p s m args meth c P A 3 RX4 cX4_readCall (some .boolean)) {τ : XS} (h0 : xI0 P) (hb1 : xIn P 1) {n q : Nat} (hA : At τ n q) (hB : Bd τ 1) (hp : Post (some (.int (rCall1 τ n q).1)) (rCall1 τ n q).2.1) : XW p l e rm_X4_readCall s m args below meth c P A 3 0 0 (MQ below (XQ P A Post) args s mc ms A) τ 7 [(0, .ref (P.2.2.1 (.inr 1)))] [] := by
  refine X_aload_n (pc := 7) C 0 dX4_readCall_7 rfl rfl ?_
  refine X_iconst (pc := 8) (v := (-1)) C dX4_readCall_8 (by decide) ?_
  refine K_X4_125 (pc := 9) C (by assumption) (c_X4_readKnownName l P τ h0 n q hA hb1 (nuN τ 1) hB.2.1 hB.1 (-1)) ⟨Nat.le_of_ble_eq_true rfl, Nat.le_of_ble_eq_true rfl⟩ ⟨rfl, rfl⟩ ⟨Nat.zero_le _, Nat.zero_le _⟩ (Nat.le_of_ble_eq_true rfl) dX4_readCall_9 ?_
  refine X_istore_n (pc := 12) (lv1 := [(0, _), (1, _)]) C 1 dX4_readCall_12 rfl (by decide) rfl ?_
  refine X_iload_n (pc := 13) C 1 dX4_readCall_13 rfl rfl ?_
  refine X_iconst (pc := 14) (v := (-1)) C dX4_readCall_14 (by decide) ?_
  refine X_icmp_ne (pc := 15) C 20 dX4_readCall_15 (by decide) (fun h15 => ?_) (fun h15 => ?_)
  · refine XW.eq (rKnown_y h15).1 rfl rfl ?_
    refine X_aload_n (pc := 20) C 0 dX4_readCall_20 rfl rfl ?_
    refine X_iload_n (pc := 21) C 1 dX4_readCall_21 rfl rfl ?_
    refine K_X4_125 (pc := 22) C (by assumption) (c_X4_readKnownName l P (fA τ n q) h0 n (eT τ n q) hA.a hb1 (nuN τ 1) hB.2.1 (by rw [fA_o _ _ _ (by simp)]; exact hB.1) ((rKnown τ n q (nuN τ 1) (-1)).1)) ⟨Nat.le_of_ble_eq_true rfl, Nat.le_of_ble_eq_true rfl⟩ ⟨rfl, rfl⟩ ⟨Nat.zero_le _, Nat.zero_le _⟩ (Nat.le_of_ble_eq_true rfl) dX4_readCall_22 ?_
    refine X_istore_n (pc := 25) (lv1 := [(0, _), (1, _), (2, _)]) C 2 dX4_readCall_25 rfl (by decide) rfl ?_
    refine X_iload_n (pc := 26) C 2 dX4_readCall_26 rfl rfl ?_
    refine X_iconst (pc := 27) (v := (-1)) C dX4_readCall_27 (by decide) ?_
    refine X_icmp_eq (pc := 28) C 45 dX4_readCall_28 (by decide) (fun h28 => ?_) (fun h28 => ?_)
    · skip
      refine X_iconst (pc := 45) (v := 0) C dX4_readCall_45 (by decide) ?_
      exact X_zret (pc := 46) C (Nat.zero_le _) (Nat.zero_le _) (rfl) dX4_readCall_46 (by rw [rCall1, if_neg h15, if_pos h28] at hp; exact hp)
    · refine XW.eq (rKnown_y h28).1 rfl rfl ?_
      refine X_aload_n (pc := 31) C 0 dX4_readCall_31 rfl rfl ?_
      refine X_iload_n (pc := 32) C 1 dX4_readCall_32 rfl rfl ?_
      refine X_iload_n (pc := 33) C 2 dX4_readCall_33 rfl rfl ?_
      refine X_iconst (pc := 34) (v := (-1)) C dX4_readCall_34 (by decide) ?_
      refine K_X4_128 (pc := 35) C (by assumption) (c_X4_readRequest l P (fA (fA τ n q) n (eT τ n q)) h0 hb1 n (eT (fA τ n q) n (eT τ n q)) hA.a.a hB.fA.fA (rKnown τ n q (nuN τ 1) (-1)).1 (rKnown (fA τ n q) n (eT τ n q) (nuN τ 1) (rKnown τ n q (nuN τ 1) (-1)).1).1 (-1)) ⟨Nat.le_of_ble_eq_true rfl, Nat.le_of_ble_eq_true rfl⟩ ⟨rfl, rfl⟩ ⟨Nat.zero_le _, Nat.zero_le _⟩ (Nat.le_of_ble_eq_true rfl) dX4_readCall_35 ?_
      refine X_if_eq (pc := 38) C 45 dX4_readCall_38 (by decide) (fun h38 => ?_) (fun h38 => ?_)
      · skip
        refine X_iconst (pc := 45) (v := 0) C dX4_readCall_45 (by decide) ?_
        exact X_zret (pc := 46) C (Nat.zero_le _) (Nat.zero_le _) (rfl) dX4_readCall_46 (by rw [rCall1, if_neg h15, if_neg h28] at hp; rw [h38] at hp; exact hp)
      · skip
        refine X_iconst (pc := 41) (v := 1) C dX4_readCall_41 (by decide) ?_
        refine X_goto (pc := 42) C 46 dX4_readCall_42 (by decide) ?_
        exact X_zret (pc := 46) C (Nat.zero_le _) (Nat.zero_le _) (rfl) dX4_readCall_46 (by rw [rCall1, if_neg h15, if_neg h28] at hp; rw [(rReq_01 _ _ _ _ _ _).resolve_left h38] at hp; exact hp)
  · skip
    refine X_iconst (pc := 18) (v := 0) C dX4_readCall_18 (by decide) ?_
    exact X_zret (pc := 19) C (Nat.zero_le _) (Nat.zero_le _) (rfl) dX4_readCall_19 (by rw [rCall1, if_pos h15] at hp; exact hp)

set_option maxRecDepth 100000 in
set_option maxHeartbeats 4000000 in
theorem c_X4_readCall (l : Launch) (P : XP) (σ : XS) (h0 : xI0 P) (hb1 : xIn P 1) (n p0 : Nat) (hA : At σ n p0) (hB : Bd σ 1) : XF l yX4_readCall cX4_readCall 3 (some .boolean) rm_X4_readCall P [.ref (P.2.2.1 (.inr 1))] σ (some (.int (rCall σ n p0).1)) ((rCall σ n p0).2.1) := by
  refine XM.of (by decide +kernel) (Nat.le_of_ble_eq_true rfl) (fun p e s m args below meth c A C => ?_)
  replace C : XC p s m args meth c P A 3 RX4 cX4_readCall (some .boolean) := C
  refine XW.eq (lv' := [(0, _)]) rfl rfl rfl ?_
  refine X_aload_n (pc := 0) C 0 dX4_readCall_0 rfl rfl ?_
  refine G_X4_12 (pc := 1) C (by assumption) dX4_readCall_1 ?_
  refine K_X4_52 (pc := 4) C (by assumption) (c_X3_advance l P σ h0 n hA.1 hA.2.2.1 (eT σ n p0) (tkE_in _ hA.2.1).2 hA.2.2.2.1 hA.2.2.2.2.2.2.2) ⟨Nat.le_of_ble_eq_true rfl, Nat.le_of_ble_eq_true rfl⟩ ⟨rfl, rfl⟩ ⟨Nat.zero_le _, Nat.zero_le _⟩ (Nat.le_of_ble_eq_true rfl) dX4_readCall_4 ?_
  exact T_X4_readCall C (τ := fA σ n p0) (q := eT σ n p0) h0 hb1 hA.a hB.fA ⟨rfl, rfl⟩

end XP16

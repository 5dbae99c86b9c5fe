/-! READER: the statements of a setup -/
def rSubD (σ : XS) (n p nu : Nat) (nm : Int64) (li co : Int32) : RR := if (rNum σ n p 0 9).1 = -1 then (0, (rNum σ n p 0 9).2, p) else rSem (fA σ n p) n (eT σ n p) (uSub (fA σ n p) 1 nu nm li co (rNum σ n p 0 9).1)
noncomputable def rSubC (σ : XS) (n p nu : Nat) (nm : Int64) (li : Int32) : RR := if (rCode σ n p nu li).1 = -1 then (0, (rCode σ n p nu li).2, p) else rSubD (fA σ n p) n (eT σ n p) nu nm li (rCode σ n p nu li).1
def rLine (σ : XS) (n p : Nat) : Int32 × XS := rNum σ n p 0 (σ.1 (.inl (1, 0)) 4 - 1)
noncomputable def rSubB (σ : XS) (n p nu : Nat) (nm : Int64) : RR := if (rLine σ n p).1 = -1 then (0, (rLine σ n p).2, p) else rSubC (fA σ n p) n (eT σ n p) nu nm (rLine σ n p).1
noncomputable def rSubA (σ : XS) (n p nu : Nat) : RR := if (rNew σ n p nu).1 = 0 then (0, (rNew σ n p nu).2, p) else rSubB (fA σ n p) n (eT σ n p) nu (rNew σ n p nu).1
noncomputable def rSub (σ : XS) (n p nu : Nat) : RR := rSubA (fA σ n p) n (eT σ n p) nu
noncomputable def rSubs (n : Nat) : Nat → XS → Nat → Nat → RR
  | 0, σ, p, _ => (1, σ, p)
  | k + 1, σ, p, i => if rIsW σ n p 2 = 0 then (1, σ, p) else if i = 15 then (0, fF σ n p 6, p) else if (rSub σ n p i).1 = 0 then (0, (rSub σ n p i).2.1, (rSub σ n p i).2.2) else rSubs n k (rSub σ n p i).2.1 (rSub σ n p i).2.2 (i + 1)
noncomputable def rUsers (σ : XS) (n p : Nat) : RR := if rIsW σ n p 2 = 0 then (0, fF σ n p 1, p) else rSubs n 16 σ p 0
def rTol1 (σ : XS) (n p nt : Nat) : RR := if (rNum σ n p 1 99).1 = -1 then (0, (rNum σ n p 1 99).2, p) else rSem (fA σ n p) n (eT σ n p) (uTrunk (fA σ n p) 1 nt (rNum σ n p 1 99).1)
def rTol (σ : XS) (n p nt : Nat) : RR := rTol1 (fA σ n p) n (eT σ n p) nt
def rTols (n : Nat) : Nat → XS → Nat → Nat → RR
  | 0, σ, p, _ => (1, σ, p)
  | k + 1, σ, p, i => if rIsW σ n p 1 = 0 then (1, σ, p) else if i = 4 then (0, fF σ n p 6, p) else if (rTol σ n p i).1 = 0 then (0, (rTol σ n p i).2.1, (rTol σ n p i).2.2) else rTols n k (rTol σ n p i).2.1 (rTol σ n p i).2.2 (i + 1)
def rBrd2 (σ : XS) (n p : Nat) (li : Int32) : RR := if (rNum σ n p 1 6).1 = -1 then (0, (rNum σ n p 1 6).2, p) else rSem (fA σ n p) n (eT σ n p) (uReset (fA σ n p) 1 li (rNum σ n p 1 6).1)
def rBrd1 (σ : XS) (n p : Nat) : RR := if (rNum σ n p 1 6).1 = -1 then (0, (rNum σ n p 1 6).2, p) else rBrd2 (fA σ n p) n (eT σ n p) (rNum σ n p 1 6).1
def rBrd (σ : XS) (n p : Nat) : RR := if rIsW σ n p 0 = 0 then (0, fF σ n p 1, p) else rBrd1 (fA σ n p) n (eT σ n p)
theorem rNew_y {σ : XS} {n p nu : Nat} (h : ¬ (rNew σ n p nu).1 = 0) : (rNew σ n p nu).2 = fA σ n p ∧ rIsN σ n p ∧ rFind σ n p nu = -1 ∧ (rNew σ n p nu).1 = rNm σ n p := by
  unfold rNew at h ⊢
  by_cases h1 : rIsN σ n p
  · rw [if_pos h1] at h ⊢
    by_cases h2 : rFind σ n p nu = -1
    · rw [if_pos h2]; exact ⟨rfl, h1, h2, rfl⟩
    · rw [if_neg h2] at h; exact absurd rfl h
  · rw [if_neg h1] at h; exact absurd rfl h
theorem rCode_y {σ : XS} {n p nu : Nat} {li : Int32} (h : ¬ (rCode σ n p nu li).1 = -1) : (rCode σ n p nu li).2 = fA σ n p ∧ (rCode σ n p nu li).1 = rCd σ n p ∧ ¬ rCd σ n p = -1 ∧ rAmb σ nu li (rCd σ n p) = 0 := by
  unfold rCode at h ⊢
  by_cases h1 : rCd σ n p = -1
  · rw [if_pos h1] at h; exact absurd rfl h
  · rw [if_neg h1] at h ⊢
    by_cases h2 : rAmb σ nu li (rCd σ n p) = 0
    · rw [if_pos h2]; exact ⟨rfl, rfl, h1, h2⟩
    · rw [if_neg h2] at h; exact absurd rfl h
theorem nuN_of {σ : XS} {b k : Nat} (h : σ.1 (.inl (b, 1)) 6 = nI k) (hk : k ≤ 1000000) : nuN σ b = k := by unfold nuN; rw [h, nI_clamp (n31 hk)]
theorem ncN_of {σ : XS} {b k : Nat} (h : σ.1 (.inl (b, 8)) 10 = nI k) (hk : k ≤ 1000000) : ncN σ b = k := by unfold ncN; rw [h, nI_clamp (n31 hk)]
theorem ntN_of {σ : XS} {b k : Nat} (h : σ.1 (.inl (b, 0)) 6 = nI k) (hk : k ≤ 1000000) : ntN σ b = k := by unfold ntN; rw [h, nI_clamp (n31 hk)]
theorem uSub_in {σ : XS} {b n k : Nat} {nm : Int64} {li co cu : Int32} : (uSub σ b n nm li co cu).1 (.inr k) = σ.1 (.inr k) := by simp [uSub, xu_ne, xL]
theorem uReset_in {σ : XS} {b k : Nat} {li co : Int32} : (uReset σ b li co).1 (.inr k) = σ.1 (.inr k) := by simp [uReset, xu_ne]
theorem uTrunk_in {σ : XS} {b k n : Nat} {to : Int32} : (uTrunk σ b n to).1 (.inr k) = σ.1 (.inr k) := by simp [uTrunk, xu_ne]
theorem At.sub {σ : XS} {n p k : Nat} {nm : Int64} {li co cu : Int32} (h : At σ n p) : At (uSub σ 1 k nm li co cu) n p := h.o uSub_in uSub_in
theorem At.reset {σ : XS} {n p : Nat} {li co : Int32} (h : At σ n p) : At (uReset σ 1 li co) n p := h.o uReset_in uReset_in
theorem At.trunk {σ : XS} {n p k : Nat} {to : Int32} (h : At σ n p) : At (uTrunk σ 1 k to) n p := h.o uTrunk_in uTrunk_in
theorem eT_sub {σ : XS} {n p k : Nat} {nm : Int64} {li co cu : Int32} : eT (uSub σ 1 k nm li co cu) n p = eT σ n p := by unfold eT; rw [uSub_in]
theorem eT_reset {σ : XS} {n p : Nat} {li co : Int32} : eT (uReset σ 1 li co) n p = eT σ n p := by unfold eT; rw [uReset_in]
theorem eT_trunk {σ : XS} {n p k : Nat} {to : Int32} : eT (uTrunk σ 1 k to) n p = eT σ n p := by unfold eT; rw [uTrunk_in]
theorem Bd.sub {σ : XS} {k : Nat} {nm : Int64} {li co cu : Int32} (h : Bd σ 1) (hk : k < 15) : Bd (uSub σ 1 k nm li co cu) 1 :=
  Bd.mk (nu := k + 1) (nc := ncN σ 1) (nt := ntN σ 1) (by simp [uSub, xu_ap]) (by omega) (by simp only [uSub, xu_ap, xL_i]; simp; exact h.2.2.1) h.2.2.2.1 (by simp only [uSub, xu_ap, xL_i]; simp; exact h.2.2.2.2.1) h.2.2.2.2.2
theorem Bd.reset {σ : XS} {li co : Int32} : Bd (uReset σ 1 li co) 1 :=
  Bd.mk (nu := 0) (nc := 0) (nt := 0) (by simp [uReset, xu_ap]; rfl) (by omega) (by simp [uReset, xu_ap]; rfl) (by omega) (by simp [uReset, xu_ap]; rfl) (by omega)
theorem Bd.trunk {σ : XS} {k : Nat} {to : Int32} (h : Bd σ 1) (hk : k < 4) : Bd (uTrunk σ 1 k to) 1 :=
  Bd.mk (nu := nuN σ 1) (nc := ncN σ 1) (nt := k + 1) (by simp [uTrunk, xu_ap]; exact h.1) h.2.1 (by simp [uTrunk, xu_ap]; exact h.2.2.1) h.2.2.2.1 (by simp [uTrunk, xu_ap]) (by omega)
/-- what a statement of the setup keeps -/
def rOkS (n : Nat) (u t : Nat) (r : RR) : Prop := (r.1 = 0 ∨ r.1 = 1) ∧ (¬ r.1 = 0 → At r.2.1 n r.2.2 ∧ Bd r.2.1 1 ∧ nuN r.2.1 1 = u ∧ ntN r.2.1 1 = t)
theorem rOkS.no {n p u t : Nat} {τ : XS} : rOkS n u t (0, τ, p) := ⟨Or.inl rfl, fun h => absurd rfl h⟩
theorem rSem_okS {σ τ : XS} {n p u t : Nat} (hA : At τ n p) (hB : Bd τ 1) (hu : nuN τ 1 = u) (ht : ntN τ 1 = t) (he : eT τ n p = eT σ n p) : rOkS n u t (rSem σ n p τ) := by
  unfold rSem
  by_cases h : kT σ n p = 3
  · rw [if_pos h, ← he]
    refine ⟨Or.inr rfl, fun _ => ⟨hA.a, hB.fA, ?_, ?_⟩⟩
    · unfold nuN at hu ⊢; rw [fA_o _ _ _ (by simp)]; exact hu
    · unfold ntN at ht ⊢; rw [fA_o _ _ _ (by simp)]; exact ht
  · rw [if_neg h]
    exact rOkS.no
theorem nuA {σ : XS} {n p u : Nat} (h : nuN σ 1 = u) : nuN (fA σ n p) 1 = u := by unfold nuN at h ⊢; rw [fA_o _ _ _ (by simp)]; exact h
theorem ntA {σ : XS} {n p t : Nat} (h : ntN σ 1 = t) : ntN (fA σ n p) 1 = t := by unfold ntN at h ⊢; rw [fA_o _ _ _ (by simp)]; exact h
theorem rSub_ok {σ : XS} {n p nu nt : Nat} (hA : At σ n p) (hB : Bd σ 1) (hn : nuN σ 1 = nu) (ht : ntN σ 1 = nt) (hk : nu < 15) : rOkS n (nu + 1) nt (rSub σ n p nu) := by
  unfold rSub rSubA
  split
  · exact rOkS.no
  · unfold rSubB
    split
    · exact rOkS.no
    · unfold rSubC
      split
      · exact rOkS.no
      · unfold rSubD
        split
        · exact rOkS.no
        · refine rSem_okS (At.sub hA.a.a.a.a.a) (Bd.sub hB.fA.fA.fA.fA.fA hk) (nuN_of (by simp [uSub, xu_ap]) (by omega)) ?_ eT_sub
          unfold ntN at ht ⊢
          simp only [uSub, xu_ap, xL_i]
          simp [fA_o]
          exact ht
theorem rTol_ok {σ : XS} {n p nu nt : Nat} (hA : At σ n p) (hB : Bd σ 1) (hn : nuN σ 1 = nu) (ht : ntN σ 1 = nt) (hk : nt < 4) : rOkS n nu (nt + 1) (rTol σ n p nt) := by
  unfold rTol rTol1
  split
  · exact rOkS.no
  · refine rSem_okS (At.trunk hA.a.a) (Bd.trunk hB.fA.fA hk) ?_ (ntN_of (by simp [uTrunk, xu_ap]) (by omega)) eT_trunk
    unfold nuN at hn ⊢
    simp only [uTrunk, xu_ap]
    simp [fA_o]
    exact hn
theorem rBrd_ok {σ : XS} {n p : Nat} (hA : At σ n p) : rOkS n 0 0 (rBrd σ n p) := by
  unfold rBrd
  split
  · exact rOkS.no
  · unfold rBrd1
    split
    · exact rOkS.no
    · unfold rBrd2
      split
      · exact rOkS.no
      · exact rSem_okS (At.reset hA.a.a.a) Bd.reset (nuN_of (by simp [uReset, xu_ap]; rfl) (by omega)) (ntN_of (by simp [uReset, xu_ap]; rfl) (by omega)) eT_reset
section XP18
variable {p : Program} {l : Launch} {e : Env} {R : Room} {s : State} {m : MethodId} {args : Array Value} {below : List Frame} {meth : Method} {c : Code} {P : XP} {A : Nat → Prop} {nL cells slots : Nat} {Q : State → Prop} {cc : ByteArray} {ret : Option FieldType} {σ : XS} {pc : Nat} {lv : List (Nat × Value)} {st : List Value}
set_option maxRecDepth 100000 in
set_option maxHeartbeats 4000000 in
theorem TD_X4_readSubscriber {Post : Option Value → XS → Prop} {mc ms : Nat} (C : XC p s m args meth c P A 6 RX4 cX4_readSubscriber (some .boolean)) {τ : XS} (h0 : xI0 P) (hb1 : xIn P 1) {n q : Nat} (hA : At τ n q) (hB : Bd τ 1) {nu : Nat} {nm : Int64} {li co : Int32} (hk : nu < 15) (hc : τ.1 (.inl (1, 1)) 6 = nI nu) (hp : Post (some (.int (rSubD τ n q nu nm li co).1)) (rSubD τ n q nu nm li co).2.1) : XW p l e rm_X4_readSubscriber s m args below meth c P A 6 0 0 (MQ below (XQ P A Post) args s mc ms A) τ 57 [(0, .ref (P.2.2.1 (.inr 1))), (1, .long nm), (3, .int li), (4, .int co)] [] := by
  refine X_aload_n (pc := 57) C 0 dX4_readSubscriber_57 rfl rfl ?_
  refine X_iconst (pc := 58) (v := 0) C dX4_readSubscriber_58 (by decide) ?_
  refine X_bipush (pc := 59) (v := 9) C dX4_readSubscriber_59 (by decide) ?_
  refine K_X4_55 (pc := 61) C (by assumption) (c_X4_readNumber l P τ h0 n q hA (0) (9)) ⟨Nat.le_of_ble_eq_true rfl, Nat.le_of_ble_eq_true rfl⟩ ⟨rfl, rfl⟩ ⟨Nat.zero_le _, Nat.zero_le _⟩ (Nat.le_of_ble_eq_true rfl) dX4_readSubscriber_61 ?_
  refine X_istore (pc := 64) (lv1 := [(0, _), (1, _), (3, _), (4, _), (5, _)]) C dX4_readSubscriber_64 (by decide) rfl ?_
  refine X_iload (pc := 66) C dX4_readSubscriber_66 rfl ?_
  refine X_iconst (pc := 68) (v := (-1)) C dX4_readSubscriber_68 (by decide) ?_
  refine X_icmp_eq (pc := 69) C 79 dX4_readSubscriber_69 (by decide) (fun h69 => ?_) (fun h69 => ?_)
  · skip
    refine X_iconst (pc := 79) (v := 0) C dX4_readSubscriber_79 (by decide) ?_
    exact X_zret (pc := 80) C (Nat.zero_le _) (Nat.zero_le _) (rfl) dX4_readSubscriber_80 (by rw [rSubD, if_pos h69] at hp; exact hp)
  · refine XW.eq (rNum_y h69).1 rfl rfl ?_
    have hF : At (uSub (fA τ n q) 1 nu nm li co (rNum τ n q 0 9).1) n (eT τ n q) := hA.a.sub
    have hc2 : (fA τ n q).1 (.inl (1, 1)) 6 = nI nu := by rw [fA_o _ _ _ (by simp)]; exact hc
    refine X_aload_n (pc := 72) C 0 dX4_readSubscriber_72 rfl rfl ?_
    refine K_X4_59 (pc := 73) C (by assumption) (c_X4_isAtSemicolon l P (fA τ n q) h0 n (eT τ n q) hA.a) ⟨Nat.le_of_ble_eq_true rfl, Nat.le_of_ble_eq_true rfl⟩ ⟨rfl, rfl⟩ ⟨Nat.zero_le _, Nat.zero_le _⟩ (Nat.le_of_ble_eq_true rfl) dX4_readSubscriber_73 ?_
    refine X_if_ne (pc := 76) C 81 dX4_readSubscriber_76 (by decide) (fun h76 => ?_) (fun h76 => ?_)
    · have g76 := rSemi_y h76
      rw [g76.2]
      refine X_aload_n (pc := 81) C 0 dX4_readSubscriber_81 rfl rfl ?_
      refine G_X4_21 (pc := 82) C (by assumption) dX4_readSubscriber_82 ?_
      refine G_X4_89 (pc := 85) C (by assumption) dX4_readSubscriber_85 ?_
      refine X_lload_n (pc := 88) C 1 dX4_readSubscriber_88 rfl rfl ?_
      refine X_iload_n (pc := 89) C 3 dX4_readSubscriber_89 rfl rfl ?_
      refine X_iload (pc := 90) C dX4_readSubscriber_90 rfl ?_
      refine X_iload (pc := 92) C dX4_readSubscriber_92 rfl ?_
      refine K_X4_93 (pc := 94) C (by assumption) (by have h := c_X5_add l P (fA τ n q) 1 nu hb1 (by omega) hc2 nm li co (rNum τ n q 0 9).1; rw [if_pos hk] at h; exact h) ⟨Nat.le_of_ble_eq_true rfl, Nat.le_of_ble_eq_true rfl⟩ ⟨rfl, rfl⟩ ⟨Nat.zero_le _, Nat.zero_le _⟩ (Nat.le_of_ble_eq_true rfl) dX4_readSubscriber_94 ?_
      refine X_aload_n (pc := 97) C 0 dX4_readSubscriber_97 rfl rfl ?_
      refine G_X4_12 (pc := 98) C (by assumption) dX4_readSubscriber_98 ?_
      refine K_X4_52 (pc := 101) C (by assumption) (c_X3_advance l P (uSub (fA τ n q) 1 nu nm li co (rNum τ n q 0 9).1) h0 n hF.1 hF.2.2.1 (eT (uSub (fA τ n q) 1 nu nm li co (rNum τ n q 0 9).1) n (eT τ n q)) (tkE_in _ hF.2.1).2 hF.2.2.2.1 hF.2.2.2.2.2.2.2) ⟨Nat.le_of_ble_eq_true rfl, Nat.le_of_ble_eq_true rfl⟩ ⟨rfl, rfl⟩ ⟨Nat.zero_le _, Nat.zero_le _⟩ (Nat.le_of_ble_eq_true rfl) dX4_readSubscriber_101 ?_
      refine X_iconst (pc := 104) (v := 1) C dX4_readSubscriber_104 (by decide) ?_
      exact X_zret (pc := 105) C (Nat.zero_le _) (Nat.zero_le _) (rfl) dX4_readSubscriber_105 (by rw [rSubD, if_neg h69, rSem, if_pos g76.1] at hp; exact hp)
    · have g76 := rSemi_n h76
      rw [g76.2]
      refine X_iconst (pc := 79) (v := 0) C dX4_readSubscriber_79 (by decide) ?_
      exact X_zret (pc := 80) C (Nat.zero_le _) (Nat.zero_le _) (rfl) dX4_readSubscriber_80 (by rw [rSubD, if_neg h69, rSem, if_neg g76.1] at hp; exact hp)

set_option maxRecDepth 100000 in
set_option maxHeartbeats 4000000 in
theorem TC_X4_readSubscriber {Post : Option Value → XS → Prop} {mc ms : Nat} (C : XC p s m args meth c P A 6 RX4 cX4_readSubscriber (some .boolean)) {τ : XS} (h0 : xI0 P) (hb1 : xIn P 1) {n q : Nat} (hA : At τ n q) (hB : Bd τ 1) {nu : Nat} {nm : Int64} {li : Int32} (hk : nu < 15) (hc : τ.1 (.inl (1, 1)) 6 = nI nu) (hp : Post (some (.int (rSubC τ n q nu nm li).1)) (rSubC τ n q nu nm li).2.1) : XW p l e rm_X4_readSubscriber s m args below meth c P A 6 0 0 (MQ below (XQ P A Post) args s mc ms A) τ 42 [(0, .ref (P.2.2.1 (.inr 1))), (1, .long nm), (3, .int li)] [] := by
  refine X_aload_n (pc := 42) C 0 dX4_readSubscriber_42 rfl rfl ?_
  refine X_iload_n (pc := 43) C 3 dX4_readSubscriber_43 rfl rfl ?_
  refine K_X4_85 (pc := 44) C (by assumption) (c_X4_readCode l P τ h0 n q hA hb1 nu (by omega) hc li) ⟨Nat.le_of_ble_eq_true rfl, Nat.le_of_ble_eq_true rfl⟩ ⟨rfl, rfl⟩ ⟨Nat.zero_le _, Nat.zero_le _⟩ (Nat.le_of_ble_eq_true rfl) dX4_readSubscriber_44 ?_
  refine X_istore (pc := 47) (lv1 := [(0, _), (1, _), (3, _), (4, _)]) C dX4_readSubscriber_47 (by decide) rfl ?_
  refine X_iload (pc := 49) C dX4_readSubscriber_49 rfl ?_
  refine X_iconst (pc := 51) (v := (-1)) C dX4_readSubscriber_51 (by decide) ?_
  refine X_icmp_ne (pc := 52) C 57 dX4_readSubscriber_52 (by decide) (fun h52 => ?_) (fun h52 => ?_)
  · refine XW.eq (rCode_y h52).1 rfl rfl ?_
    exact TD_X4_readSubscriber C h0 hb1 hA.a hB.fA hk (by rw [fA_o _ _ _ (by simp)]; exact hc) (by rw [rSubC, if_neg h52] at hp; exact hp)
  · skip
    refine X_iconst (pc := 55) (v := 0) C dX4_readSubscriber_55 (by decide) ?_
    exact X_zret (pc := 56) C (Nat.zero_le _) (Nat.zero_le _) (rfl) dX4_readSubscriber_56 (by rw [rSubC, if_pos h52] at hp; exact hp)

set_option maxRecDepth 100000 in
set_option maxHeartbeats 4000000 in
theorem TB_X4_readSubscriber {Post : Option Value → XS → Prop} {mc ms : Nat} (C : XC p s m args meth c P A 6 RX4 cX4_readSubscriber (some .boolean)) {τ : XS} (h0 : xI0 P) (hb1 : xIn P 1) {n q : Nat} (hA : At τ n q) (hB : Bd τ 1) {nu : Nat} {nm : Int64} (hk : nu < 15) (hc : τ.1 (.inl (1, 1)) 6 = nI nu) (hp : Post (some (.int (rSubB τ n q nu nm).1)) (rSubB τ n q nu nm).2.1) : XW p l e rm_X4_readSubscriber s m args below meth c P A 6 0 0 (MQ below (XQ P A Post) args s mc ms A) τ 20 [(0, .ref (P.2.2.1 (.inr 1))), (1, .long nm)] [] := by
  refine X_aload_n (pc := 20) C 0 dX4_readSubscriber_20 rfl rfl ?_
  refine X_iconst (pc := 21) (v := 0) C dX4_readSubscriber_21 (by decide) ?_
  refine X_aload_n (pc := 22) C 0 dX4_readSubscriber_22 rfl rfl ?_
  refine G_X4_21 (pc := 23) C (by assumption) dX4_readSubscriber_23 ?_
  refine G_X4_82 (pc := 26) C (by assumption) dX4_readSubscriber_26 ?_
  refine X_iconst (pc := 29) (v := 1) C dX4_readSubscriber_29 (by decide) ?_
  refine X_isub (pc := 30) C dX4_readSubscriber_30 ?_
  refine K_X4_55 (pc := 31) C (by assumption) (c_X4_readNumber l P τ h0 n q hA (0) (τ.1 (.inl (1, 0)) 4 - 1)) ⟨Nat.le_of_ble_eq_true rfl, Nat.le_of_ble_eq_true rfl⟩ ⟨rfl, rfl⟩ ⟨Nat.zero_le _, Nat.zero_le _⟩ (Nat.le_of_ble_eq_true rfl) dX4_readSubscriber_31 ?_
  refine X_istore_n (pc := 34) (lv1 := [(0, _), (1, _), (3, _)]) C 3 dX4_readSubscriber_34 rfl (by decide) rfl ?_
  refine X_iload_n (pc := 35) C 3 dX4_readSubscriber_35 rfl rfl ?_
  refine X_iconst (pc := 36) (v := (-1)) C dX4_readSubscriber_36 (by decide) ?_
  refine X_icmp_ne (pc := 37) C 42 dX4_readSubscriber_37 (by decide) (fun h37 => ?_) (fun h37 => ?_)
  · refine XW.eq (rNum_y h37).1 rfl rfl ?_
    exact TC_X4_readSubscriber C h0 hb1 hA.a hB.fA hk (by rw [fA_o _ _ _ (by simp)]; exact hc) (by rw [rSubB, if_neg (show ¬ (rLine τ n q).1 = -1 from h37)] at hp; exact hp)
  · skip
    refine X_iconst (pc := 40) (v := 0) C dX4_readSubscriber_40 (by decide) ?_
    exact X_zret (pc := 41) C (Nat.zero_le _) (Nat.zero_le _) (rfl) dX4_readSubscriber_41 (by rw [rSubB, if_pos (show (rLine τ n q).1 = -1 from h37)] at hp; exact hp)

set_option maxRecDepth 100000 in
set_option maxHeartbeats 4000000 in
theorem TA_X4_readSubscriber {Post : Option Value → XS → Prop} {mc ms : Nat} (C : XC p s m args meth c P A 6 RX4 cX4_readSubscriber (some .boolean)) {τ : XS} (h0 : xI0 P) (hb1 : xIn P 1) {n q : Nat} (hA : At τ n q) (hB : Bd τ 1) {nu : Nat} (hk : nu < 15) (hc : τ.1 (.inl (1, 1)) 6 = nI nu) (hp : Post (some (.int (rSubA τ n q nu).1)) (rSubA τ n q nu).2.1) : XW p l e rm_X4_readSubscriber s m args below meth c P A 6 0 0 (MQ below (XQ P A Post) args s mc ms A) τ 7 [(0, .ref (P.2.2.1 (.inr 1)))] [] := by
  refine X_aload_n (pc := 7) C 0 dX4_readSubscriber_7 rfl rfl ?_
  refine K_X4_78 (pc := 8) C (by assumption) (c_X4_readNewName l P τ h0 n q hA hb1 nu (by omega) hc) ⟨Nat.le_of_ble_eq_true rfl, Nat.le_of_ble_eq_true rfl⟩ ⟨rfl, rfl⟩ ⟨Nat.zero_le _, Nat.zero_le _⟩ (Nat.le_of_ble_eq_true rfl) dX4_readSubscriber_8 ?_
  refine X_lstore_n (pc := 11) (lv1 := [(0, _), (1, _)]) C 1 dX4_readSubscriber_11 rfl (by decide) rfl ?_
  refine X_lload_n (pc := 12) C 1 dX4_readSubscriber_12 rfl rfl ?_
  refine X_lconst (pc := 13) (v := 0) C dX4_readSubscriber_13 (by decide) ?_
  refine X_lcmp (pc := 14) C dX4_readSubscriber_14 ?_
  refine X_if_ne (pc := 15) C 20 dX4_readSubscriber_15 (by decide) (fun h15 => ?_) (fun h15 => ?_)
  · have g15 := lcmp1 h15
    refine XW.eq (rNew_y g15).1 rfl rfl ?_
    exact TB_X4_readSubscriber C h0 hb1 hA.a hB.fA hk (by rw [fA_o _ _ _ (by simp)]; exact hc) (by rw [rSubA, if_neg g15] at hp; exact hp)
  · have g15 := lcmp0 h15
    refine X_iconst (pc := 18) (v := 0) C dX4_readSubscriber_18 (by decide) ?_
    exact X_zret (pc := 19) C (Nat.zero_le _) (Nat.zero_le _) (rfl) dX4_readSubscriber_19 (by rw [rSubA, if_pos g15] at hp; exact hp)

set_option maxRecDepth 100000 in
set_option maxHeartbeats 4000000 in
theorem c_X4_readSubscriber (l : Launch) (P : XP) (σ : XS) (h0 : xI0 P) (hb1 : xIn P 1) (n p0 : Nat) (hA : At σ n p0) (hB : Bd σ 1) (nu : Nat) (hk : nu < 15) (hc : σ.1 (.inl (1, 1)) 6 = nI nu) : XF l yX4_readSubscriber cX4_readSubscriber 6 (some .boolean) rm_X4_readSubscriber P [.ref (P.2.2.1 (.inr 1))] σ (some (.int (rSub σ n p0 nu).1)) ((rSub σ n p0 nu).2.1) := by
  refine XM.of (by decide +kernel) (Nat.le_of_ble_eq_true rfl) (fun p e s m args below meth c A C => ?_)
  replace C : XC p s m args meth c P A 6 RX4 cX4_readSubscriber (some .boolean) := C
  refine XW.eq (lv' := [(0, _)]) rfl rfl rfl ?_
  refine X_aload_n (pc := 0) C 0 dX4_readSubscriber_0 rfl rfl ?_
  refine G_X4_12 (pc := 1) C (by assumption) dX4_readSubscriber_1 ?_
  refine K_X4_52 (pc := 4) C (by assumption) (c_X3_advance l P σ h0 n hA.1 hA.2.2.1 (eT σ n p0) (tkE_in _ hA.2.1).2 hA.2.2.2.1 hA.2.2.2.2.2.2.2) ⟨Nat.le_of_ble_eq_true rfl, Nat.le_of_ble_eq_true rfl⟩ ⟨rfl, rfl⟩ ⟨Nat.zero_le _, Nat.zero_le _⟩ (Nat.le_of_ble_eq_true rfl) dX4_readSubscriber_4 ?_
  exact TA_X4_readSubscriber C (τ := fA σ n p0) (q := eT σ n p0) h0 hb1 hA.a hB.fA hk (by rw [fA_o _ _ _ (by simp)]; exact hc) ⟨rfl, rfl⟩

set_option maxRecDepth 100000 in
set_option maxHeartbeats 4000000 in
theorem L_X4_readSubscribers {Post : Option Value → XS → Prop} {mc ms : Nat} (C : XC p s m args meth c P A 2 RX4 cX4_readSubscribers (some .boolean)) (h0 : xI0 P) (hb1 : xIn P 1) {n o : Nat} : ∀ (k i : Nat) (τ : XS) (q : Nat), i + k = 16 → At τ n q → Bd τ 1 → (nuN τ 1 = i ∧ ntN τ 1 = o) → Post (some (.int (rSubs n k τ q i).1)) (rSubs n k τ q i).2.1 → XW p l e rm_X4_readSubscribers s m args below meth c P A 2 0 0 (MQ below (XQ P A Post) args s mc ms A) τ 20 [(0, .ref (P.2.2.1 (.inr 1))), (1, .int (nI i))] [] := by
  intro k
  induction k with
  | zero =>
    intro i τ q hc hA hB hu hp
    obtain rfl : i = 16 := by omega
    refine X_iload_n (pc := 20) C 1 dX4_readSubscribers_20 rfl rfl ?_
    refine X_bipush (pc := 21) (v := 15) C dX4_readSubscribers_21 (by decide) ?_
    refine X_icmp_gt (pc := 23) C 66 dX4_readSubscribers_23 (by decide) (fun h23 => ?_) (fun h23 => ?_)
    · skip
      refine X_iconst (pc := 66) (v := 1) C dX4_readSubscribers_66 (by decide) ?_
      exact X_zret (pc := 67) C (Nat.zero_le _) (Nat.zero_le _) (rfl) dX4_readSubscribers_67 (by rw [rSubs] at hp; exact hp)
    · exact absurd (by decide) h23
  | succ k ih =>
    intro i τ q hc hA hB hu hp
    rw [rSubs] at hp
    refine X_iload_n (pc := 20) C 1 dX4_readSubscribers_20 rfl rfl ?_
    refine X_bipush (pc := 21) (v := 15) C dX4_readSubscribers_21 (by decide) ?_
    refine X_icmp_gt (pc := 23) C 66 dX4_readSubscribers_23 (by decide) (fun h23 => ?_) (fun h23 => ?_)
    · exact absurd (nlt (a := 15) (b := i) h23) (by omega)
    · skip
      refine X_aload_n (pc := 26) C 0 dX4_readSubscribers_26 rfl rfl ?_
      refine G_X4_12 (pc := 27) C (by assumption) dX4_readSubscribers_27 ?_
      refine X_ldcS (pc := 30) (q := 2) C (List.mem_of_getElem? (i := 2) rfl) dX4_readSubscribers_30 ?_
      refine X_fV (i := .inr 2) (ci := 3) (n := 1) (pc := 32) C [.ref _] (c_X3_isWord l P τ h0 (kT τ n q) (sT τ n q) (eT τ n q) hA.2.2.2.2.1 hA.2.2.2.2.2.1 hA.2.2.2.1 hA.se.1 hA.se.2 2 (by decide)) m_c_X3_isWord m_m_X4_44 m_i_X3_isWord m_s_X3_isWord m_n_X3 ⟨by decide +kernel, by decide +kernel, by decide +kernel⟩ ⟨Nat.le_of_ble_eq_true rfl, Nat.le_of_ble_eq_true rfl⟩ ⟨rfl, rfl⟩ ⟨Nat.zero_le _, Nat.zero_le _⟩ (h0 2 (by decide)) rfl rfl rfl rfl (Nat.le_of_ble_eq_true rfl) rfl dX4_readSubscribers_32 ?_
      refine X_if_eq (pc := 35) C 66 dX4_readSubscribers_35 (by decide) (fun h35 => ?_) (fun h35 => ?_)
      · change rIsW τ n q 2 = 0 at h35
        refine X_iconst (pc := 66) (v := 1) C dX4_readSubscribers_66 (by decide) ?_
        exact X_zret (pc := 67) C (Nat.zero_le _) (Nat.zero_le _) (rfl) dX4_readSubscribers_67 (by rw [if_pos h35] at hp; exact hp)
      · change ¬ rIsW τ n q 2 = 0 at h35
        refine X_iload_n (pc := 38) C 1 dX4_readSubscribers_38 rfl rfl ?_
        refine X_bipush (pc := 39) (v := 15) C dX4_readSubscribers_39 (by decide) ?_
        refine X_icmp_ne (pc := 41) C 51 dX4_readSubscribers_41 (by decide) (fun h41 => ?_) (fun h41 => ?_)
        · have g41 : ¬ i = 15 := fun z => h41 (by rw [z]; rfl)
          have hok := rSub_ok hA hB hu.1 hu.2 (show i < 15 by omega)
          refine X_aload_n (pc := 51) C 0 dX4_readSubscribers_51 rfl rfl ?_
          refine K_X4_75 (pc := 52) C (by assumption) (c_X4_readSubscriber l P τ h0 hb1 n q hA hB i (by omega) (by have h := hB.1; rw [hu.1] at h; exact h)) ⟨Nat.le_of_ble_eq_true rfl, Nat.le_of_ble_eq_true rfl⟩ ⟨rfl, rfl⟩ ⟨Nat.zero_le _, Nat.zero_le _⟩ (Nat.le_of_ble_eq_true rfl) dX4_readSubscribers_52 ?_
          refine X_if_ne (pc := 55) C 60 dX4_readSubscribers_55 (by decide) (fun h55 => ?_) (fun h55 => ?_)
          · skip
            refine X_iincN (pc := 60) (lv1 := [(0, _), (1, _)]) C dX4_readSubscribers_60 rfl (by decide) (by decide) rfl ?_
            refine X_goto (pc := 63) C 20 dX4_readSubscribers_63 (by decide) ?_
            exact ih (i + 1) _ _ (by omega) (hok.2 h55).1 (hok.2 h55).2.1 (hok.2 h55).2.2 (by rw [if_neg h35, if_neg g41, if_neg h55] at hp; exact hp)
          · skip
            refine X_iconst (pc := 58) (v := 0) C dX4_readSubscribers_58 (by decide) ?_
            exact X_zret (pc := 59) C (Nat.zero_le _) (Nat.zero_le _) (rfl) dX4_readSubscribers_59 (by rw [if_neg h35, if_neg g41, if_pos h55] at hp; exact hp)
        · have g41 : i = 15 := neq h41
          refine X_aload_n (pc := 44) C 0 dX4_readSubscribers_44 rfl rfl ?_
          refine X_bipush (pc := 45) (v := 6) C dX4_readSubscribers_45 (by decide) ?_
          refine K_X4_48 (pc := 47) C (by assumption) (c_X4_fail l P τ h0 n q hA 6) ⟨Nat.le_of_ble_eq_true rfl, Nat.le_of_ble_eq_true rfl⟩ ⟨rfl, rfl⟩ ⟨Nat.zero_le _, Nat.zero_le _⟩ (Nat.le_of_ble_eq_true rfl) dX4_readSubscribers_47 ?_
          exact X_zret (pc := 50) C (Nat.zero_le _) (Nat.zero_le _) (rfl) dX4_readSubscribers_50 (by rw [if_neg h35, if_pos g41] at hp; exact hp)

set_option maxRecDepth 100000 in
set_option maxHeartbeats 4000000 in
theorem c_X4_readSubscribers (l : Launch) (P : XP) (σ : XS) (h0 : xI0 P) (hb1 : xIn P 1) (n p0 : Nat) (hA : At σ n p0) (hB : Bd σ 1) (o : Nat) (hu : nuN σ 1 = 0 ∧ ntN σ 1 = o) : XF l yX4_readSubscribers cX4_readSubscribers 2 (some .boolean) rm_X4_readSubscribers P [.ref (P.2.2.1 (.inr 1))] σ (some (.int (rUsers σ n p0).1)) ((rUsers σ n p0).2.1) := by
  refine XM.of (by decide +kernel) (Nat.le_of_ble_eq_true rfl) (fun p e s m args below meth c A C => ?_)
  replace C : XC p s m args meth c P A 2 RX4 cX4_readSubscribers (some .boolean) := C
  refine XW.eq (lv' := [(0, _)]) rfl rfl rfl ?_
  refine X_aload_n (pc := 0) C 0 dX4_readSubscribers_0 rfl rfl ?_
  refine G_X4_12 (pc := 1) C (by assumption) dX4_readSubscribers_1 ?_
  refine X_ldcS (pc := 4) (q := 2) C (List.mem_of_getElem? (i := 2) rfl) dX4_readSubscribers_4 ?_
  refine X_fV (i := .inr 2) (ci := 3) (n := 1) (pc := 6) C [.ref _] (c_X3_isWord l P σ h0 (kT σ n p0) (sT σ n p0) (eT σ n p0) hA.2.2.2.2.1 hA.2.2.2.2.2.1 hA.2.2.2.1 hA.se.1 hA.se.2 2 (by decide)) m_c_X3_isWord m_m_X4_44 m_i_X3_isWord m_s_X3_isWord m_n_X3 ⟨by decide +kernel, by decide +kernel, by decide +kernel⟩ ⟨Nat.le_of_ble_eq_true rfl, Nat.le_of_ble_eq_true rfl⟩ ⟨rfl, rfl⟩ ⟨Nat.zero_le _, Nat.zero_le _⟩ (h0 2 (by decide)) rfl rfl rfl rfl (Nat.le_of_ble_eq_true rfl) rfl dX4_readSubscribers_6 ?_
  refine X_if_ne (pc := 9) C 18 dX4_readSubscribers_9 (by decide) (fun h9 => ?_) (fun h9 => ?_)
  · change ¬ rIsW σ n p0 2 = 0 at h9
    refine X_iconst (pc := 18) (v := 0) C dX4_readSubscribers_18 (by decide) ?_
    refine X_istore_n (pc := 19) (lv1 := [(0, _), (1, _)]) C 1 dX4_readSubscribers_19 rfl (by decide) rfl ?_
    exact L_X4_readSubscribers C h0 hb1 16 0 σ p0 rfl hA hB hu (by rw [rUsers, if_neg h9]; exact ⟨rfl, rfl⟩)
  · change rIsW σ n p0 2 = 0 at h9
    refine X_aload_n (pc := 12) C 0 dX4_readSubscribers_12 rfl rfl ?_
    refine X_iconst (pc := 13) (v := 1) C dX4_readSubscribers_13 (by decide) ?_
    refine K_X4_48 (pc := 14) C (by assumption) (c_X4_fail l P σ h0 n p0 hA 1) ⟨Nat.le_of_ble_eq_true rfl, Nat.le_of_ble_eq_true rfl⟩ ⟨rfl, rfl⟩ ⟨Nat.zero_le _, Nat.zero_le _⟩ (Nat.le_of_ble_eq_true rfl) dX4_readSubscribers_14 ?_
    exact X_zret (pc := 17) C (Nat.zero_le _) (Nat.zero_le _) (rfl) dX4_readSubscribers_17 (by rw [rUsers, if_pos h9]; exact ⟨rfl, rfl⟩)

set_option maxRecDepth 100000 in
set_option maxHeartbeats 4000000 in
theorem L_X4_readTrunks {Post : Option Value → XS → Prop} {mc ms : Nat} (C : XC p s m args meth c P A 3 RX4 cX4_readTrunks (some .boolean)) (h0 : xI0 P) (hb1 : xIn P 1) {n o : Nat} : ∀ (k i : Nat) (τ : XS) (q : Nat), i + k = 5 → At τ n q → Bd τ 1 → (nuN τ 1 = o ∧ ntN τ 1 = i) → Post (some (.int (rTols n k τ q i).1)) (rTols n k τ q i).2.1 → XW p l e rm_X4_readTrunks s m args below meth c P A 3 0 0 (MQ below (XQ P A Post) args s mc ms A) τ 2 [(0, .ref (P.2.2.1 (.inr 1))), (1, .int (nI i))] [] := by
  intro k
  induction k with
  | zero =>
    intro i τ q hc hA hB hu hp
    obtain rfl : i = 5 := by omega
    refine X_iload_n (pc := 2) C 1 dX4_readTrunks_2 rfl rfl ?_
    refine X_iconst (pc := 3) (v := 4) C dX4_readTrunks_3 (by decide) ?_
    refine X_icmp_gt (pc := 4) C 81 dX4_readTrunks_4 (by decide) (fun h4 => ?_) (fun h4 => ?_)
    · skip
      refine X_iconst (pc := 81) (v := 1) C dX4_readTrunks_81 (by decide) ?_
      exact X_zret (pc := 82) C (Nat.zero_le _) (Nat.zero_le _) (rfl) dX4_readTrunks_82 (by rw [rTols] at hp; exact hp)
    · exact absurd (by decide) h4
  | succ k ih =>
    intro i τ q hc hA hB hu hp
    rw [rTols] at hp
    refine X_iload_n (pc := 2) C 1 dX4_readTrunks_2 rfl rfl ?_
    refine X_iconst (pc := 3) (v := 4) C dX4_readTrunks_3 (by decide) ?_
    refine X_icmp_gt (pc := 4) C 81 dX4_readTrunks_4 (by decide) (fun h4 => ?_) (fun h4 => ?_)
    · exact absurd (nlt (a := 4) (b := i) h4) (by omega)
    · skip
      refine X_aload_n (pc := 7) C 0 dX4_readTrunks_7 rfl rfl ?_
      refine G_X4_12 (pc := 8) C (by assumption) dX4_readTrunks_8 ?_
      refine X_ldcS (pc := 11) (q := 1) C (List.mem_of_getElem? (i := 1) rfl) dX4_readTrunks_11 ?_
      refine X_fV (i := .inr 2) (ci := 3) (n := 1) (pc := 13) C [.ref _] (c_X3_isWord l P τ h0 (kT τ n q) (sT τ n q) (eT τ n q) hA.2.2.2.2.1 hA.2.2.2.2.2.1 hA.2.2.2.1 hA.se.1 hA.se.2 1 (by decide)) m_c_X3_isWord m_m_X4_44 m_i_X3_isWord m_s_X3_isWord m_n_X3 ⟨by decide +kernel, by decide +kernel, by decide +kernel⟩ ⟨Nat.le_of_ble_eq_true rfl, Nat.le_of_ble_eq_true rfl⟩ ⟨rfl, rfl⟩ ⟨Nat.zero_le _, Nat.zero_le _⟩ (h0 2 (by decide)) rfl rfl rfl rfl (Nat.le_of_ble_eq_true rfl) rfl dX4_readTrunks_13 ?_
      refine X_if_eq (pc := 16) C 81 dX4_readTrunks_16 (by decide) (fun h16 => ?_) (fun h16 => ?_)
      · change rIsW τ n q 1 = 0 at h16
        refine X_iconst (pc := 81) (v := 1) C dX4_readTrunks_81 (by decide) ?_
        exact X_zret (pc := 82) C (Nat.zero_le _) (Nat.zero_le _) (rfl) dX4_readTrunks_82 (by rw [if_pos h16] at hp; exact hp)
      · change ¬ rIsW τ n q 1 = 0 at h16
        refine X_iload_n (pc := 19) C 1 dX4_readTrunks_19 rfl rfl ?_
        refine X_iconst (pc := 20) (v := 4) C dX4_readTrunks_20 (by decide) ?_
        refine X_icmp_ne (pc := 21) C 31 dX4_readTrunks_21 (by decide) (fun h21 => ?_) (fun h21 => ?_)
        · have g21 : ¬ i = 4 := fun z => h21 (by rw [z]; rfl)
          have hok := rTol_ok hA hB hu.1 hu.2 (show i < 4 by omega)
          have hc4 : (fA (fA τ n q) n (eT τ n q)).1 (.inl (1, 0)) 6 = nI i := by rw [fA_o _ _ _ (by simp), fA_o _ _ _ (by simp)]; have h := hB.2.2.2.2.1; rw [hu.2] at h; exact h
          have hF : At (uTrunk (fA (fA τ n q) n (eT τ n q)) 1 i (rNum (fA τ n q) n (eT τ n q) 1 99).1) n (eT (fA τ n q) n (eT τ n q)) := hA.a.a.trunk
          refine X_aload_n (pc := 31) C 0 dX4_readTrunks_31 rfl rfl ?_
          refine G_X4_12 (pc := 32) C (by assumption) dX4_readTrunks_32 ?_
          refine K_X4_52 (pc := 35) C (by assumption) (c_X3_advance l P τ h0 n hA.1 hA.2.2.1 (eT τ n q) (tkE_in _ hA.2.1).2 hA.2.2.2.1 hA.2.2.2.2.2.2.2) ⟨Nat.le_of_ble_eq_true rfl, Nat.le_of_ble_eq_true rfl⟩ ⟨rfl, rfl⟩ ⟨Nat.zero_le _, Nat.zero_le _⟩ (Nat.le_of_ble_eq_true rfl) dX4_readTrunks_35 ?_
          refine X_aload_n (pc := 38) C 0 dX4_readTrunks_38 rfl rfl ?_
          refine X_iconst (pc := 39) (v := 1) C dX4_readTrunks_39 (by decide) ?_
          refine X_bipush (pc := 40) (v := 99) C dX4_readTrunks_40 (by decide) ?_
          refine K_X4_55 (pc := 42) C (by assumption) (c_X4_readNumber l P (fA τ n q) h0 n (eT τ n q) hA.a (1) (99)) ⟨Nat.le_of_ble_eq_true rfl, Nat.le_of_ble_eq_true rfl⟩ ⟨rfl, rfl⟩ ⟨Nat.zero_le _, Nat.zero_le _⟩ (Nat.le_of_ble_eq_true rfl) dX4_readTrunks_42 ?_
          refine X_istore_n (pc := 45) (lv1 := [(0, _), (1, _), (2, _)]) C 2 dX4_readTrunks_45 rfl (by decide) rfl ?_
          refine X_iload_n (pc := 46) C 2 dX4_readTrunks_46 rfl rfl ?_
          refine X_iconst (pc := 47) (v := (-1)) C dX4_readTrunks_47 (by decide) ?_
          refine X_icmp_eq (pc := 48) C 58 dX4_readTrunks_48 (by decide) (fun h48 => ?_) (fun h48 => ?_)
          · skip
            refine X_iconst (pc := 58) (v := 0) C dX4_readTrunks_58 (by decide) ?_
            exact X_zret (pc := 59) C (Nat.zero_le _) (Nat.zero_le _) (rfl) dX4_readTrunks_59 (by rw [if_neg h16, if_neg g21, if_pos (show (rTol τ n q i).1 = 0 from by rw [rTol, rTol1, if_pos h48]), rTol, rTol1, if_pos h48] at hp; exact hp)
          · refine XW.eq (rNum_y h48).1 rfl rfl ?_
            refine X_aload_n (pc := 51) C 0 dX4_readTrunks_51 rfl rfl ?_
            refine K_X4_59 (pc := 52) C (by assumption) (c_X4_isAtSemicolon l P (fA (fA τ n q) n (eT τ n q)) h0 n (eT (fA τ n q) n (eT τ n q)) hA.a.a) ⟨Nat.le_of_ble_eq_true rfl, Nat.le_of_ble_eq_true rfl⟩ ⟨rfl, rfl⟩ ⟨Nat.zero_le _, Nat.zero_le _⟩ (Nat.le_of_ble_eq_true rfl) dX4_readTrunks_52 ?_
            refine X_if_ne (pc := 55) C 60 dX4_readTrunks_55 (by decide) (fun h55 => ?_) (fun h55 => ?_)
            · have g55 := rSemi_y h55
              rw [g55.2]
              refine X_aload_n (pc := 60) C 0 dX4_readTrunks_60 rfl rfl ?_
              refine G_X4_21 (pc := 61) C (by assumption) dX4_readTrunks_61 ?_
              refine X_iload_n (pc := 64) C 2 dX4_readTrunks_64 rfl rfl ?_
              refine K_X4_69 (pc := 65) C (by assumption) (by have h := c_X0_addTrunk l P (fA (fA τ n q) n (eT τ n q)) 1 i hb1 (by omega) hc4 (rNum (fA τ n q) n (eT τ n q) 1 99).1; rw [if_pos (show i < 4 by omega)] at h; exact h) ⟨Nat.le_of_ble_eq_true rfl, Nat.le_of_ble_eq_true rfl⟩ ⟨rfl, rfl⟩ ⟨Nat.zero_le _, Nat.zero_le _⟩ (Nat.le_of_ble_eq_true rfl) dX4_readTrunks_65 ?_
              refine X_aload_n (pc := 68) C 0 dX4_readTrunks_68 rfl rfl ?_
              refine G_X4_12 (pc := 69) C (by assumption) dX4_readTrunks_69 ?_
              refine K_X4_52 (pc := 72) C (by assumption) (c_X3_advance l P (uTrunk (fA (fA τ n q) n (eT τ n q)) 1 i (rNum (fA τ n q) n (eT τ n q) 1 99).1) h0 n hF.1 hF.2.2.1 (eT (uTrunk (fA (fA τ n q) n (eT τ n q)) 1 i (rNum (fA τ n q) n (eT τ n q) 1 99).1) n (eT (fA τ n q) n (eT τ n q))) (tkE_in _ hF.2.1).2 hF.2.2.2.1 hF.2.2.2.2.2.2.2) ⟨Nat.le_of_ble_eq_true rfl, Nat.le_of_ble_eq_true rfl⟩ ⟨rfl, rfl⟩ ⟨Nat.zero_le _, Nat.zero_le _⟩ (Nat.le_of_ble_eq_true rfl) dX4_readTrunks_72 ?_
              refine X_iincN (pc := 75) (lv1 := [(0, _), (1, _), (2, _)]) C dX4_readTrunks_75 rfl (by decide) (by decide) rfl ?_
              refine X_goto (pc := 78) C 2 dX4_readTrunks_78 (by decide) ?_
              refine XW.less [0, 1] rfl ?_
              have e : rTol τ n q i = (1, fA (uTrunk (fA (fA τ n q) n (eT τ n q)) 1 i (rNum (fA τ n q) n (eT τ n q) 1 99).1) n (eT (fA τ n q) n (eT τ n q)), eT (uTrunk (fA (fA τ n q) n (eT τ n q)) 1 i (rNum (fA τ n q) n (eT τ n q) 1 99).1) n (eT (fA τ n q) n (eT τ n q))) := by rw [rTol, rTol1, if_neg h48, rSem, if_pos g55.1, eT_trunk]
              have n1 : ¬ (rTol τ n q i).1 = 0 := by rw [e]; show ¬ (1 : Int32) = 0; decide
              have hk := hok.2 n1
              rw [if_neg h16, if_neg g21, if_neg n1] at hp
              rw [e] at hk hp
              exact ih (i + 1) _ _ (by omega) hk.1 hk.2.1 hk.2.2 hp
            · have g55 := rSemi_n h55
              rw [g55.2]
              refine X_iconst (pc := 58) (v := 0) C dX4_readTrunks_58 (by decide) ?_
              exact X_zret (pc := 59) C (Nat.zero_le _) (Nat.zero_le _) (rfl) dX4_readTrunks_59 (by rw [if_neg h16, if_neg g21, if_pos (show (rTol τ n q i).1 = 0 from by rw [rTol, rTol1, if_neg h48, rSem, if_neg g55.1]), rTol, rTol1, if_neg h48, rSem, if_neg g55.1] at hp; exact hp)
        · have g21 : i = 4 := neq h21
          refine X_aload_n (pc := 24) C 0 dX4_readTrunks_24 rfl rfl ?_
          refine X_bipush (pc := 25) (v := 6) C dX4_readTrunks_25 (by decide) ?_
          refine K_X4_48 (pc := 27) C (by assumption) (c_X4_fail l P τ h0 n q hA 6) ⟨Nat.le_of_ble_eq_true rfl, Nat.le_of_ble_eq_true rfl⟩ ⟨rfl, rfl⟩ ⟨Nat.zero_le _, Nat.zero_le _⟩ (Nat.le_of_ble_eq_true rfl) dX4_readTrunks_27 ?_
          exact X_zret (pc := 30) C (Nat.zero_le _) (Nat.zero_le _) (rfl) dX4_readTrunks_30 (by rw [if_neg h16, if_pos g21] at hp; exact hp)

set_option maxRecDepth 100000 in
set_option maxHeartbeats 4000000 in
theorem c_X4_readTrunks (l : Launch) (P : XP) (σ : XS) (h0 : xI0 P) (hb1 : xIn P 1) (n p0 : Nat) (hA : At σ n p0) (hB : Bd σ 1) (o : Nat) (hu : nuN σ 1 = o ∧ ntN σ 1 = 0) : XF l yX4_readTrunks cX4_readTrunks 3 (some .boolean) rm_X4_readTrunks P [.ref (P.2.2.1 (.inr 1))] σ (some (.int (rTols n 5 σ p0 0).1)) ((rTols n 5 σ p0 0).2.1) := by
  refine XM.of (by decide +kernel) (Nat.le_of_ble_eq_true rfl) (fun p e s m args below meth c A C => ?_)
  replace C : XC p s m args meth c P A 3 RX4 cX4_readTrunks (some .boolean) := C
  refine XW.eq (lv' := [(0, _)]) rfl rfl rfl ?_
  refine X_iconst (pc := 0) (v := 0) C dX4_readTrunks_0 (by decide) ?_
  refine X_istore_n (pc := 1) (lv1 := [(0, _), (1, _)]) C 1 dX4_readTrunks_1 rfl (by decide) rfl ?_
  exact L_X4_readTrunks C h0 hb1 5 0 σ p0 rfl hA hB hu ⟨rfl, rfl⟩

set_option maxRecDepth 100000 in
set_option maxHeartbeats 4000000 in
theorem TA_X4_readBoard {Post : Option Value → XS → Prop} {mc ms : Nat} (C : XC p s m args meth c P A 3 RX4 cX4_readBoard (some .boolean)) {τ : XS} (h0 : xI0 P) (hb1 : xIn P 1) {n q : Nat} (hA : At τ n q) (hp : Post (some (.int (rBrd1 τ n q).1)) (rBrd1 τ n q).2.1) : XW p l e rm_X4_readBoard s m args below meth c P A 3 0 0 (MQ below (XQ P A Post) args s mc ms A) τ 25 [(0, .ref (P.2.2.1 (.inr 1)))] [] := by
  refine X_aload_n (pc := 25) C 0 dX4_readBoard_25 rfl rfl ?_
  refine X_iconst (pc := 26) (v := 1) C dX4_readBoard_26 (by decide) ?_
  refine X_bipush (pc := 27) (v := 6) C dX4_readBoard_27 (by decide) ?_
  refine K_X4_55 (pc := 29) C (by assumption) (c_X4_readNumber l P τ h0 n q hA (1) (6)) ⟨Nat.le_of_ble_eq_true rfl, Nat.le_of_ble_eq_true rfl⟩ ⟨rfl, rfl⟩ ⟨Nat.zero_le _, Nat.zero_le _⟩ (Nat.le_of_ble_eq_true rfl) dX4_readBoard_29 ?_
  refine X_istore_n (pc := 32) (lv1 := [(0, _), (1, _)]) C 1 dX4_readBoard_32 rfl (by decide) rfl ?_
  refine X_iload_n (pc := 33) C 1 dX4_readBoard_33 rfl rfl ?_
  refine X_iconst (pc := 34) (v := (-1)) C dX4_readBoard_34 (by decide) ?_
  refine X_icmp_ne (pc := 35) C 40 dX4_readBoard_35 (by decide) (fun h35 => ?_) (fun h35 => ?_)
  · refine XW.eq (rNum_y h35).1 rfl rfl ?_
    refine X_aload_n (pc := 40) C 0 dX4_readBoard_40 rfl rfl ?_
    refine X_iconst (pc := 41) (v := 1) C dX4_readBoard_41 (by decide) ?_
    refine X_bipush (pc := 42) (v := 6) C dX4_readBoard_42 (by decide) ?_
    refine K_X4_55 (pc := 44) C (by assumption) (c_X4_readNumber l P (fA τ n q) h0 n (eT τ n q) hA.a (1) (6)) ⟨Nat.le_of_ble_eq_true rfl, Nat.le_of_ble_eq_true rfl⟩ ⟨rfl, rfl⟩ ⟨Nat.zero_le _, Nat.zero_le _⟩ (Nat.le_of_ble_eq_true rfl) dX4_readBoard_44 ?_
    refine X_istore_n (pc := 47) (lv1 := [(0, _), (1, _), (2, _)]) C 2 dX4_readBoard_47 rfl (by decide) rfl ?_
    refine X_iload_n (pc := 48) C 2 dX4_readBoard_48 rfl rfl ?_
    refine X_iconst (pc := 49) (v := (-1)) C dX4_readBoard_49 (by decide) ?_
    refine X_icmp_eq (pc := 50) C 60 dX4_readBoard_50 (by decide) (fun h50 => ?_) (fun h50 => ?_)
    · skip
      refine X_iconst (pc := 60) (v := 0) C dX4_readBoard_60 (by decide) ?_
      exact X_zret (pc := 61) C (Nat.zero_le _) (Nat.zero_le _) (rfl) dX4_readBoard_61 (by rw [rBrd1, if_neg h35, rBrd2, if_pos h50] at hp; exact hp)
    · refine XW.eq (rNum_y h50).1 rfl rfl ?_
      have hF : At (uReset (fA (fA τ n q) n (eT τ n q)) 1 (rNum τ n q 1 6).1 (rNum (fA τ n q) n (eT τ n q) 1 6).1) n (eT (fA τ n q) n (eT τ n q)) := hA.a.a.reset
      refine X_aload_n (pc := 53) C 0 dX4_readBoard_53 rfl rfl ?_
      refine K_X4_59 (pc := 54) C (by assumption) (c_X4_isAtSemicolon l P (fA (fA τ n q) n (eT τ n q)) h0 n (eT (fA τ n q) n (eT τ n q)) hA.a.a) ⟨Nat.le_of_ble_eq_true rfl, Nat.le_of_ble_eq_true rfl⟩ ⟨rfl, rfl⟩ ⟨Nat.zero_le _, Nat.zero_le _⟩ (Nat.le_of_ble_eq_true rfl) dX4_readBoard_54 ?_
      refine X_if_ne (pc := 57) C 62 dX4_readBoard_57 (by decide) (fun h57 => ?_) (fun h57 => ?_)
      · have g57 := rSemi_y h57
        rw [g57.2]
        refine X_aload_n (pc := 62) C 0 dX4_readBoard_62 rfl rfl ?_
        refine G_X4_21 (pc := 63) C (by assumption) dX4_readBoard_63 ?_
        refine X_iload_n (pc := 66) C 1 dX4_readBoard_66 rfl rfl ?_
        refine X_iload_n (pc := 67) C 2 dX4_readBoard_67 rfl rfl ?_
        refine K_X4_63 (pc := 68) C (by assumption) (c_X0_reset l P (fA (fA τ n q) n (eT τ n q)) 1 hb1 (rNum τ n q 1 6).1 (rNum (fA τ n q) n (eT τ n q) 1 6).1) ⟨Nat.le_of_ble_eq_true rfl, Nat.le_of_ble_eq_true rfl⟩ ⟨rfl, rfl⟩ ⟨Nat.zero_le _, Nat.zero_le _⟩ (Nat.le_of_ble_eq_true rfl) dX4_readBoard_68 ?_
        refine X_aload_n (pc := 71) C 0 dX4_readBoard_71 rfl rfl ?_
        refine G_X4_12 (pc := 72) C (by assumption) dX4_readBoard_72 ?_
        refine K_X4_52 (pc := 75) C (by assumption) (c_X3_advance l P (uReset (fA (fA τ n q) n (eT τ n q)) 1 (rNum τ n q 1 6).1 (rNum (fA τ n q) n (eT τ n q) 1 6).1) h0 n hF.1 hF.2.2.1 (eT (uReset (fA (fA τ n q) n (eT τ n q)) 1 (rNum τ n q 1 6).1 (rNum (fA τ n q) n (eT τ n q) 1 6).1) n (eT (fA τ n q) n (eT τ n q))) (tkE_in _ hF.2.1).2 hF.2.2.2.1 hF.2.2.2.2.2.2.2) ⟨Nat.le_of_ble_eq_true rfl, Nat.le_of_ble_eq_true rfl⟩ ⟨rfl, rfl⟩ ⟨Nat.zero_le _, Nat.zero_le _⟩ (Nat.le_of_ble_eq_true rfl) dX4_readBoard_75 ?_
        refine X_iconst (pc := 78) (v := 1) C dX4_readBoard_78 (by decide) ?_
        exact X_zret (pc := 79) C (Nat.zero_le _) (Nat.zero_le _) (rfl) dX4_readBoard_79 (by rw [rBrd1, if_neg h35, rBrd2, if_neg h50, rSem, if_pos g57.1] at hp; exact hp)
      · have g57 := rSemi_n h57
        rw [g57.2]
        refine X_iconst (pc := 60) (v := 0) C dX4_readBoard_60 (by decide) ?_
        exact X_zret (pc := 61) C (Nat.zero_le _) (Nat.zero_le _) (rfl) dX4_readBoard_61 (by rw [rBrd1, if_neg h35, rBrd2, if_neg h50, rSem, if_neg g57.1] at hp; exact hp)
  · skip
    refine X_iconst (pc := 38) (v := 0) C dX4_readBoard_38 (by decide) ?_
    exact X_zret (pc := 39) C (Nat.zero_le _) (Nat.zero_le _) (rfl) dX4_readBoard_39 (by rw [rBrd1, if_pos h35] at hp; exact hp)

set_option maxRecDepth 100000 in
set_option maxHeartbeats 4000000 in
theorem c_X4_readBoard (l : Launch) (P : XP) (σ : XS) (h0 : xI0 P) (hb1 : xIn P 1) (n p0 : Nat) (hA : At σ n p0) : XF l yX4_readBoard cX4_readBoard 3 (some .boolean) rm_X4_readBoard P [.ref (P.2.2.1 (.inr 1))] σ (some (.int (rBrd σ n p0).1)) ((rBrd σ n p0).2.1) := by
  refine XM.of (by decide +kernel) (Nat.le_of_ble_eq_true rfl) (fun p e s m args below meth c A C => ?_)
  replace C : XC p s m args meth c P A 3 RX4 cX4_readBoard (some .boolean) := C
  refine XW.eq (lv' := [(0, _)]) rfl rfl rfl ?_
  refine X_aload_n (pc := 0) C 0 dX4_readBoard_0 rfl rfl ?_
  refine G_X4_12 (pc := 1) C (by assumption) dX4_readBoard_1 ?_
  refine X_ldcS (pc := 4) (q := 0) C (List.mem_of_getElem? (i := 0) rfl) dX4_readBoard_4 ?_
  refine X_fV (i := .inr 2) (ci := 3) (n := 1) (pc := 6) C [.ref _] (c_X3_isWord l P σ h0 (kT σ n p0) (sT σ n p0) (eT σ n p0) hA.2.2.2.2.1 hA.2.2.2.2.2.1 hA.2.2.2.1 hA.se.1 hA.se.2 0 (by decide)) m_c_X3_isWord m_m_X4_44 m_i_X3_isWord m_s_X3_isWord m_n_X3 ⟨by decide +kernel, by decide +kernel, by decide +kernel⟩ ⟨Nat.le_of_ble_eq_true rfl, Nat.le_of_ble_eq_true rfl⟩ ⟨rfl, rfl⟩ ⟨Nat.zero_le _, Nat.zero_le _⟩ (h0 2 (by decide)) rfl rfl rfl rfl (Nat.le_of_ble_eq_true rfl) rfl dX4_readBoard_6 ?_
  refine X_if_ne (pc := 9) C 18 dX4_readBoard_9 (by decide) (fun h9 => ?_) (fun h9 => ?_)
  · change ¬ rIsW σ n p0 0 = 0 at h9
    refine X_aload_n (pc := 18) C 0 dX4_readBoard_18 rfl rfl ?_
    refine G_X4_12 (pc := 19) C (by assumption) dX4_readBoard_19 ?_
    refine K_X4_52 (pc := 22) C (by assumption) (c_X3_advance l P σ h0 n hA.1 hA.2.2.1 (eT σ n p0) (tkE_in _ hA.2.1).2 hA.2.2.2.1 hA.2.2.2.2.2.2.2) ⟨Nat.le_of_ble_eq_true rfl, Nat.le_of_ble_eq_true rfl⟩ ⟨rfl, rfl⟩ ⟨Nat.zero_le _, Nat.zero_le _⟩ (Nat.le_of_ble_eq_true rfl) dX4_readBoard_22 ?_
    exact TA_X4_readBoard C h0 hb1 hA.a (by rw [rBrd, if_neg h9]; exact ⟨rfl, rfl⟩)
  · change rIsW σ n p0 0 = 0 at h9
    refine X_aload_n (pc := 12) C 0 dX4_readBoard_12 rfl rfl ?_
    refine X_iconst (pc := 13) (v := 1) C dX4_readBoard_13 (by decide) ?_
    refine K_X4_48 (pc := 14) C (by assumption) (c_X4_fail l P σ h0 n p0 hA 1) ⟨Nat.le_of_ble_eq_true rfl, Nat.le_of_ble_eq_true rfl⟩ ⟨rfl, rfl⟩ ⟨Nat.zero_le _, Nat.zero_le _⟩ (Nat.le_of_ble_eq_true rfl) dX4_readBoard_14 ?_
    exact X_zret (pc := 17) C (Nat.zero_le _) (Nat.zero_le _) (rfl) dX4_readBoard_17 (by rw [rBrd, if_pos h9]; exact ⟨rfl, rfl⟩)

end XP18

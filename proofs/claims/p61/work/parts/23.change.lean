/-! THE FACE: changes -/
/-- a requirement q, then the answer v and the world σ1; else what q throws, and nothing changes -/
abbrev XTG (l : Launch) (y : MethodName) (cc : ByteArray) (nL : Nat) (ret : Option FieldType) (rm : Room) (P : XP) (as : List Value) (σ : XS) (q : XO) (v : Option Value) (σ1 : XS) : Prop := XTM l y cc nL ret rm P as σ (fun v9 τ => q = .inl none ∧ v9 = v ∧ τ = σ1) (fun E τ => q = .inr E ∧ τ = σ)
theorem oth_n {r v : XO} (h : r = .inl none) : oth r v = v := by rw [h]; rfl
/-- the changes made before: the oldest's place, how many -/
def Hi (σ : XS) (o n : Nat) : Prop := σ.1 (.inr 4) 1 = nI o ∧ o < 8 ∧ σ.1 (.inr 4) 2 = nI n ∧ n ≤ 8
/-- the text's length, and no byte is -1 -/
def Tx (σ : XS) (n : Nat) : Prop := σ.1 (.inr 2) 1 = nI n ∧ n ≤ 700 ∧ ∀ i, i < n → ¬ σ.1 (.inr 3) i = -1
theorem uCopyB_1 {σ : XS} {b f k : Nat} : (uCopyB σ b f).1 (.inl (b, 1)) 6 = σ.1 (.inl (f, 1)) 6 ∧ (uCopyB σ b f).1 (.inl (b, 8)) 10 = σ.1 (.inl (f, 8)) 10 ∧ (k < 4 → (uCopyB σ b f).1 (.inl (b, 0)) (3 + k) = σ.1 (.inl (f, 0)) (3 + k)) := by
  refine ⟨?_, ?_, fun h => ?_⟩
  · simp [uCopyB, uCopyC, uCopyK, uCopyS, xu_ap, xA_ap, xL_i]
  · simp [uCopyB, uCopyC, uCopyK, uCopyS, xu_ap, xA_ap, xL_i]
  · obtain rfl | rfl | rfl | rfl : k = 0 ∨ k = 1 ∨ k = 2 ∨ k = 3 := by omega
    all_goals simp [uCopyB, uCopyC, uCopyK, uCopyS, xu_ap, xA_ap, xL_i]
theorem Bd.copy {σ : XS} {b f : Nat} (h : Bd σ f) : Bd (uCopyB σ b f) b := by
  have h1 := (uCopyB_1 (σ := σ) (b := b) (f := f) (k := 3))
  exact Bd.mk (nu := nuN σ f) (nc := ncN σ f) (nt := ntN σ f) (h1.1.trans h.1) h.2.1 (h1.2.1.trans h.2.2.1) h.2.2.2.1 ((h1.2.2 (by decide)).trans h.2.2.2.2.1) h.2.2.2.2.2
theorem nu_copy {σ : XS} {b f : Nat} : nuN (uCopyB σ b f) b = nuN σ f ∧ ncN (uCopyB σ b f) b = ncN σ f ∧ ntN (uCopyB σ b f) b = ntN σ f := by
  have h1 := (uCopyB_1 (σ := σ) (b := b) (f := f) (k := 3))
  unfold nuN ncN ntN
  rw [h1.1, h1.2.1, h1.2.2 (by decide)]
  exact ⟨rfl, rfl, rfl⟩
def uTake (σ : XS) (o n : Nat) : XS := uCopyB (uPush σ o n) 0 1
theorem xZ_push {σ : XS} {o n b : Nat} (h : xZ σ b) (hb : b < 2 ∨ 10 ≤ b) : xZ (uPush σ o n) b := xZ_o h (uPush_b hb).1 (uPush_b hb).1
def thn (r : RR) (f : XS → Nat → Int32 × XS) : Int32 × XS := if r.1 = 0 then (0, r.2.1) else f r.2.1 r.2.2
/-- load's four steps -/
noncomputable def rLoad (σ : XS) (n : Nat) : Int32 × XS :=
  thn (rBrd (uText σ n) n 0) fun s1 p1 => thn (rTols n 5 s1 p1 0) fun s2 p2 => thn (rUsers s2 n p2) fun s3 p3 => if (rCmds n 700 s3 p3 0).1 = -1 then (0, (rCmds n 700 s3 p3 0).2) else (1, (rCmds n 700 s3 p3 0).2)
def rPlay (σ : XS) (n : Nat) : Int32 × XS := rCmds n 700 (uText (uCopyB σ 1 0) n) 0 0
def uShort (σ : XS) : XS := xu σ (.inr 2) 1 0
theorem At_text {σ : XS} {n : Nat} (h : Tx σ n) : At (uText σ n) n 0 := At.adv h.2.1 (Nat.zero_le _) (by simp [uText0, xu_ap]; exact h.1) (fun i hi => by rw [uText0, xu_ne _ _ _ (by simp), xu_ne _ _ _ (by simp), xu_ne _ _ _ (by simp)]; exact h.2.2 i hi)
theorem rTols_ok {n u : Nat} : ∀ (k i : Nat) (σ : XS) (p : Nat), i + k = 5 → At σ n p → Bd σ 1 → nuN σ 1 = u → ntN σ 1 = i → ¬ (rTols n k σ p i).1 = 0 → At (rTols n k σ p i).2.1 n (rTols n k σ p i).2.2 ∧ Bd (rTols n k σ p i).2.1 1 ∧ nuN (rTols n k σ p i).2.1 1 = u
  | 0, i, σ, p, hk, hA, hB, hu, ht, h => ⟨hA, hB, hu⟩
  | k + 1, i, σ, p, hk, hA, hB, hu, ht, h => by
    rw [rTols] at h ⊢
    by_cases h1 : rIsW σ n p 1 = 0
    · rw [if_pos h1]; exact ⟨hA, hB, hu⟩
    · rw [if_neg h1] at h ⊢
      by_cases h2 : i = 4
      · rw [if_pos h2] at h; exact absurd rfl h
      · rw [if_neg h2] at h ⊢
        by_cases h3 : (rTol σ n p i).1 = 0
        · rw [if_pos h3] at h; exact absurd rfl h
        · rw [if_neg h3] at h ⊢
          obtain ⟨a1, a2, a3, a4⟩ := (rTol_ok hA hB hu ht (by omega)).2 h3
          exact rTols_ok k (i + 1) _ _ (by omega) a1 a2 a3 a4 h
theorem rSubs_ok {n o : Nat} : ∀ (k i : Nat) (σ : XS) (p : Nat), i + k = 16 → At σ n p → Bd σ 1 → nuN σ 1 = i → ntN σ 1 = o → ¬ (rSubs n k σ p i).1 = 0 → At (rSubs n k σ p i).2.1 n (rSubs n k σ p i).2.2 ∧ Bd (rSubs n k σ p i).2.1 1
  | 0, i, σ, p, hk, hA, hB, hu, ht, h => ⟨hA, hB⟩
  | k + 1, i, σ, p, hk, hA, hB, hu, ht, h => by
    rw [rSubs] at h ⊢
    by_cases h1 : rIsW σ n p 2 = 0
    · rw [if_pos h1]; exact ⟨hA, hB⟩
    · rw [if_neg h1] at h ⊢
      by_cases h2 : i = 15
      · rw [if_pos h2] at h; exact absurd rfl h
      · rw [if_neg h2] at h ⊢
        by_cases h3 : (rSub σ n p i).1 = 0
        · rw [if_pos h3] at h; exact absurd rfl h
        · rw [if_neg h3] at h ⊢
          obtain ⟨a1, a2, a3, a4⟩ := (rSub_ok hA hB hu ht (by omega)).2 h3
          exact rSubs_ok k (i + 1) _ _ (by omega) a1 a2 a3 a4 h
theorem rUsers_ok {n p : Nat} {σ : XS} (hA : At σ n p) (hB : Bd σ 1) (hu : nuN σ 1 = 0) (h : ¬ (rUsers σ n p).1 = 0) : At (rUsers σ n p).2.1 n (rUsers σ n p).2.2 ∧ Bd (rUsers σ n p).2.1 1 := by
  unfold rUsers at h ⊢
  by_cases h1 : rIsW σ n p 2 = 0
  · rw [if_pos h1] at h; exact absurd rfl h
  · rw [if_neg h1] at h ⊢
    exact rSubs_ok 16 0 σ p rfl hA hB hu rfl h
theorem rCmds_ok {n : Nat} : ∀ (k w : Nat) (σ : XS) (p : Nat), w + k = 700 → At σ n p → Bd σ 1 → ¬ (rCmds n k σ p w).1 = -1 → Bd (rCmds n k σ p w).2 1
  | 0, w, σ, p, hk, hA, hB, h => hB
  | k + 1, w, σ, p, hk, hA, hB, h => by
    rw [rCmds] at h ⊢
    by_cases h1 : kT σ n p = 0
    · rw [if_pos h1]; exact hB
    · rw [if_neg h1] at h ⊢
      by_cases h2 : (rCmd σ n p).1 = 0
      · rw [if_pos h2] at h; exact absurd rfl h
      · rw [if_neg h2] at h ⊢
        obtain ⟨a1, a2⟩ := (rCmd_ok hA hB).2 h2
        exact rCmds_ok k (w + 1) _ _ (by omega) a1 a2 h
theorem Fr.bd {σ τ : XS} {b : Nat} (f : Fr 1 σ τ) (hb : b ≠ 1) (h : Bd σ b) : Bd τ b := h.o (by rw [f.1 _ (fun k => inl_ne hb) (by simp) (by simp)]) (by rw [f.1 _ (fun k => inl_ne hb) (by simp) (by simp)]) (by rw [f.1 _ (fun k => inl_ne hb) (by simp) (by simp)])
theorem Fr.z {σ τ : XS} {b : Nat} (f : Fr 1 σ τ) (hb : b ≠ 1) (h : xZ σ b) : xZ τ b := xZ_o h (f.1 _ (fun k => inl_ne hb) (by simp) (by simp)) (f.1 _ (fun k => inl_ne hb) (by simp) (by simp))
theorem Fr.hi {σ τ : XS} {o n : Nat} (f : Fr 1 σ τ) (h : Hi σ o n) : Hi τ o n := by unfold Hi; rw [f.1 _ (fun k => by simp) (by simp) (by simp)]; exact h
theorem Bd.short {σ : XS} {b : Nat} (h : Bd σ b) : Bd (uShort σ) b := h.o (by rw [uShort, xu_ne _ _ _ (by simp)]) (by rw [uShort, xu_ne _ _ _ (by simp)]) (by rw [uShort, xu_ne _ _ _ (by simp)])
theorem uText_b {σ : XS} {n b k : Nat} : (uText σ n).1 (.inl (b, k)) = σ.1 (.inl (b, k)) := by
  rw [uText, uAdv, uTok_o _ _ _ _ _ (by simp), uText0, xu_ne _ _ _ (by simp), xu_ne _ _ _ (by simp), xu_ne _ _ _ (by simp)]
theorem uCopyB_z {σ : XS} {b f k j : Nat} (hbf : b ≠ f) (hk : k = 13 ∨ k = 15) (hj : j < 40) : (uCopyB σ b f).1 (.inl (b, k)) j = σ.1 (.inl (f, k)) j := by
  rcases hk with rfl | rfl
  · simp [uCopyB, uCopyC, uCopyK, uCopyS, xu_ap, xA_ap, xL_i, va_cpy, hj, hbf, Ne.symm hbf]
  · simp [uCopyB, uCopyC, uCopyK, uCopyS, xu_ap, xA_ap, xL_i, va_cpy, hj, hbf, Ne.symm hbf]
theorem xZ_copy {σ : XS} (h : xZ σ 0) : xZ (uCopyB σ 1 0) 1 := fun k hk => by
  rw [uCopyB_z (by decide) (Or.inl rfl) hk, uCopyB_z (by decide) (Or.inr rfl) hk]
  exact h k hk
section XP23
variable {p : Program} {l : Launch} {e : Env} {R : Room} {s : State} {m : MethodId} {args : Array Value} {below : List Frame} {meth : Method} {c : Code} {P : XP} {A : Nat → Prop} {nL cells slots : Nat} {Q : State → Prop} {cc : ByteArray} {ret : Option FieldType} {σ : XS} {pc : Nat} {lv : List (Nat × Value)} {st : List Value}

set_option maxRecDepth 100000 in
set_option maxHeartbeats 4000000 in
theorem c_X6_takeTrial (l : Launch) (P : XP) (σ : XS) (h0 : xI0 P) (hb : ∀ b, b < 12 → xIn P b) (hB : Bd σ 0) (o n : Nat) (hH : Hi σ o n) (hz : xZ σ 0) (hz1 : xZ σ 1) : XF l yX6_takeTrial cX6_takeTrial 1 none rm_X6_takeTrial P [.ref (P.2.2.1 (.inr 0))] σ (none) (uTake σ o n) := by
  refine XM.of (by decide +kernel) (Nat.le_of_ble_eq_true rfl) (fun p e s m args below meth c A C => ?_)
  replace C : XC p s m args meth c P A 1 RX6 cX6_takeTrial none := C
  refine XW.eq (lv' := [(0, _)]) rfl rfl rfl ?_
  have hb0 : xIn P 0 := hb 0 (by decide)
  have hb1 : xIn P 1 := hb 1 (by decide)
  have hnu := hB.2.1
  have hnc := hB.2.2.2.1
  have hnt := hB.2.2.2.2.2
  refine X_aload_n (pc := 0) C 0 dX6_takeTrial_0 rfl rfl ?_
  refine G_X6_26 (pc := 1) C (by assumption) dX6_takeTrial_1 ?_
  refine X_aload_n (pc := 4) C 0 dX6_takeTrial_4 rfl rfl ?_
  refine G_X6_12 (pc := 5) C (by assumption) dX6_takeTrial_5 ?_
  refine K_X6_123 (pc := 8) C (by assumption) (c_X2_push l P σ h0 hb o n hH.2.1 hH.2.2.2 hH.1 hH.2.2.1 hz) ⟨Nat.le_of_ble_eq_true rfl, Nat.le_of_ble_eq_true rfl⟩ ⟨rfl, rfl⟩ ⟨Nat.zero_le _, Nat.zero_le _⟩ (Nat.le_of_ble_eq_true rfl) dX6_takeTrial_8 ?_
  refine X_aload_n (pc := 11) C 0 dX6_takeTrial_11 rfl rfl ?_
  refine G_X6_12 (pc := 12) C (by assumption) dX6_takeTrial_12 ?_
  refine X_aload_n (pc := 15) C 0 dX6_takeTrial_15 rfl rfl ?_
  refine G_X6_19 (pc := 16) C (by assumption) dX6_takeTrial_16 ?_
  refine G_X6_67 (pc := 19) C (by assumption) dX6_takeTrial_19 ?_
  refine K_X6_70 (pc := 22) C (by assumption) (c_X0_copyFrom l P (uPush σ o n) 0 1 hb0 hb1 (xZ_push hz1 (Or.inl (by decide)))) ⟨Nat.le_of_ble_eq_true rfl, Nat.le_of_ble_eq_true rfl⟩ ⟨rfl, rfl⟩ ⟨Nat.zero_le _, Nat.zero_le _⟩ (Nat.le_of_ble_eq_true rfl) dX6_takeTrial_22 ?_
  exact X_vret (pc := 25) C (Nat.zero_le _) (Nat.zero_le _) dX6_takeTrial_25 ⟨rfl, rfl⟩

set_option maxRecDepth 100000 in
set_option maxHeartbeats 4000000 in
theorem c_X6_call (l : Launch) (hl0 : l.stackTraces = false) (P : XP) (σ : XS) (h0 : xI0 P) (hb : ∀ b, b < 12 → xIn P b) (hB : Bd σ 0) (o n : Nat) (hH : Hi σ o n) (hz : xZ σ 0) (x y u : Int32) (hu : u = 0 ∨ u = 1) : XTG l yX6_call cX6_call 4 (some .int) rm_X6_call P [.ref (P.2.2.1 (.inr 0)), .int x, .int y, .int u] σ (oth (rqP σ x y) (rqR σ)) (some (.int (nI (ncN σ 0)))) (uReq (uPush σ o n) 0 (nuN σ 0) (ncN σ 0) x y (-1) u) := by
  refine XTM.of (by decide +kernel) (Nat.le_of_ble_eq_true rfl) (fun p e s m args below meth c A C hT => ?_)
  replace C : XC p s m args meth c P A 4 RX6 cX6_call (some .int) := C
  refine XW.eq (lv' := [(0, _), (1, _), (2, _), (3, _)]) rfl rfl rfl ?_
  have hb0 : xIn P 0 := hb 0 (by decide)
  have hb1 : xIn P 1 := hb 1 (by decide)
  have hnu := hB.2.1
  have hnc := hB.2.2.2.1
  have hnt := hB.2.2.2.2.2
  refine X_aload_n (pc := 0) C 0 dX6_call_0 rfl rfl ?_
  refine X_iload_n (pc := 1) C 1 dX6_call_1 rfl rfl ?_
  refine X_iload_n (pc := 2) C 2 dX6_call_2 rfl rfl ?_
  refine X_reqG (i := .inr 0) (ci := 6) (n := 2) (pc := 3) C [.int _, .int _] (⟨c_X6_requirePair l hl0 P σ h0 hb hB x y, rqP_none⟩) m_c_X6_requirePair m_m_X6_116 m_i_X6_requirePair m_s_X6_requirePair m_n_X6 ⟨by decide +kernel, by decide +kernel, by decide +kernel⟩ ⟨Nat.le_of_ble_eq_true rfl, Nat.le_of_ble_eq_true rfl⟩ ⟨Nat.le_of_ble_eq_true rfl, Nat.le_of_ble_eq_true rfl⟩ (h0 0 (by decide)) rfl rfl rfl rfl (Nat.le_of_ble_eq_true rfl) rfl dX6_call_3 (fun g3 => ?_) (fun E9 g3 => X_out C hT (Nat.le_of_ble_eq_true rfl) (Nat.le_of_ble_eq_true rfl) ⟨oth_e g3, rfl⟩)
  refine X_aload_n (pc := 6) C 0 dX6_call_6 rfl rfl ?_
  refine X_reqG (i := .inr 0) (ci := 6) (n := 0) (pc := 7) C [] (⟨c_X6_requireRoomForCall l hl0 P σ h0 hb hB, rq_none⟩) m_c_X6_requireRoomForCall m_m_X6_120 m_i_X6_requireRoomForCall m_s_X6_requireRoomForCall m_n_X6 ⟨by decide +kernel, by decide +kernel, by decide +kernel⟩ ⟨Nat.le_of_ble_eq_true rfl, Nat.le_of_ble_eq_true rfl⟩ ⟨Nat.le_of_ble_eq_true rfl, Nat.le_of_ble_eq_true rfl⟩ (h0 0 (by decide)) rfl rfl rfl rfl (Nat.le_of_ble_eq_true rfl) rfl dX6_call_7 (fun g7 => ?_) (fun E9 g7 => X_out C hT (Nat.le_of_ble_eq_true rfl) (Nat.le_of_ble_eq_true rfl) ⟨by rw [oth_n g3]; exact g7, rfl⟩)
  have grm := rq_y g7
  refine X_aload_n (pc := 10) C 0 dX6_call_10 rfl rfl ?_
  refine G_X6_26 (pc := 11) C (by assumption) dX6_call_11 ?_
  refine X_aload_n (pc := 14) C 0 dX6_call_14 rfl rfl ?_
  refine G_X6_12 (pc := 15) C (by assumption) dX6_call_15 ?_
  refine K_X6_123 (pc := 18) C (by assumption) (c_X2_push l P σ h0 hb o n hH.2.1 hH.2.2.2 hH.1 hH.2.2.1 hz) ⟨Nat.le_of_ble_eq_true rfl, Nat.le_of_ble_eq_true rfl⟩ ⟨rfl, rfl⟩ ⟨Nat.le_of_ble_eq_true rfl, Nat.le_of_ble_eq_true rfl⟩ (Nat.le_of_ble_eq_true rfl) dX6_call_18 ?_
  refine X_aload_n (pc := 21) C 0 dX6_call_21 rfl rfl ?_
  refine G_X6_12 (pc := 22) C (by assumption) dX6_call_22 ?_
  refine X_iload_n (pc := 25) C 1 dX6_call_25 rfl rfl ?_
  refine X_iload_n (pc := 26) C 2 dX6_call_26 rfl rfl ?_
  refine X_iconst (pc := 27) (v := (-1)) C dX6_call_27 (by decide) ?_
  refine X_iload_n (pc := 28) C 3 dX6_call_28 rfl rfl ?_
  refine K_X6_126 (pc := 29) C (by assumption) (by have h := c_X0_request l P (uPush σ o n) 0 (nuN σ 0) (ncN σ 0) hb0 hnu ((by rw [(uPush_b (Or.inl (by decide))).1]; exact hB.1)) hnc ((by rw [(uPush_b (Or.inl (by decide))).1]; exact hB.2.2.1)) grm x y (-1) u (nar01 hu); exact h) ⟨Nat.le_of_ble_eq_true rfl, Nat.le_of_ble_eq_true rfl⟩ ⟨rfl, rfl⟩ ⟨Nat.le_of_ble_eq_true rfl, Nat.le_of_ble_eq_true rfl⟩ (Nat.le_of_ble_eq_true rfl) dX6_call_29 ?_
  exact XW.tret (X_iret (pc := 32) C (Nat.le_of_ble_eq_true rfl) (Nat.le_of_ble_eq_true rfl) dX6_call_32 ⟨by rw [oth_n g3]; exact g7, rfl, rfl⟩)

set_option maxRecDepth 100000 in
set_option maxHeartbeats 4000000 in
theorem c_X6_callTrunk (l : Launch) (hl0 : l.stackTraces = false) (P : XP) (σ : XS) (h0 : xI0 P) (hb : ∀ b, b < 12 → xIn P b) (hB : Bd σ 0) (o n : Nat) (hH : Hi σ o n) (hz : xZ σ 0) (x y u : Int32) (hu : u = 0 ∨ u = 1) : XTG l yX6_callTrunk cX6_callTrunk 4 (some .int) rm_X6_callTrunk P [.ref (P.2.2.1 (.inr 0)), .int x, .int y, .int u] σ (oth (rqU σ x) (oth (rqT σ y) (rqR σ))) (some (.int (nI (ncN σ 0)))) (uReq (uPush σ o n) 0 (nuN σ 0) (ncN σ 0) x (-1) y u) := by
  refine XTM.of (by decide +kernel) (Nat.le_of_ble_eq_true rfl) (fun p e s m args below meth c A C hT => ?_)
  replace C : XC p s m args meth c P A 4 RX6 cX6_callTrunk (some .int) := C
  refine XW.eq (lv' := [(0, _), (1, _), (2, _), (3, _)]) rfl rfl rfl ?_
  have hb0 : xIn P 0 := hb 0 (by decide)
  have hb1 : xIn P 1 := hb 1 (by decide)
  have hnu := hB.2.1
  have hnc := hB.2.2.2.1
  have hnt := hB.2.2.2.2.2
  refine X_aload_n (pc := 0) C 0 dX6_callTrunk_0 rfl rfl ?_
  refine X_iload_n (pc := 1) C 1 dX6_callTrunk_1 rfl rfl ?_
  refine X_reqG (i := .inr 0) (ci := 6) (n := 1) (pc := 2) C [.int _] (⟨c_X6_requireSubscriber l hl0 P σ h0 hb hB x, rq_none⟩) m_c_X6_requireSubscriber m_m_X6_130 m_i_X6_requireSubscriber m_s_X6_requireSubscriber m_n_X6 ⟨by decide +kernel, by decide +kernel, by decide +kernel⟩ ⟨Nat.le_of_ble_eq_true rfl, Nat.le_of_ble_eq_true rfl⟩ ⟨Nat.le_of_ble_eq_true rfl, Nat.le_of_ble_eq_true rfl⟩ (h0 0 (by decide)) rfl rfl rfl rfl (Nat.le_of_ble_eq_true rfl) rfl dX6_callTrunk_2 (fun g2 => ?_) (fun E9 g2 => X_out C hT (Nat.le_of_ble_eq_true rfl) (Nat.le_of_ble_eq_true rfl) ⟨oth_e g2, rfl⟩)
  refine X_aload_n (pc := 5) C 0 dX6_callTrunk_5 rfl rfl ?_
  refine X_iload_n (pc := 6) C 2 dX6_callTrunk_6 rfl rfl ?_
  refine X_reqG (i := .inr 0) (ci := 6) (n := 1) (pc := 7) C [.int _] (⟨c_X6_requireTrunk l hl0 P σ h0 hb hB y, rq_none⟩) m_c_X6_requireTrunk m_m_X6_133 m_i_X6_requireTrunk m_s_X6_requireTrunk m_n_X6 ⟨by decide +kernel, by decide +kernel, by decide +kernel⟩ ⟨Nat.le_of_ble_eq_true rfl, Nat.le_of_ble_eq_true rfl⟩ ⟨Nat.le_of_ble_eq_true rfl, Nat.le_of_ble_eq_true rfl⟩ (h0 0 (by decide)) rfl rfl rfl rfl (Nat.le_of_ble_eq_true rfl) rfl dX6_callTrunk_7 (fun g7 => ?_) (fun E9 g7 => X_out C hT (Nat.le_of_ble_eq_true rfl) (Nat.le_of_ble_eq_true rfl) ⟨by rw [oth_n g2, oth_e g7], rfl⟩)
  refine X_aload_n (pc := 10) C 0 dX6_callTrunk_10 rfl rfl ?_
  refine X_reqG (i := .inr 0) (ci := 6) (n := 0) (pc := 11) C [] (⟨c_X6_requireRoomForCall l hl0 P σ h0 hb hB, rq_none⟩) m_c_X6_requireRoomForCall m_m_X6_120 m_i_X6_requireRoomForCall m_s_X6_requireRoomForCall m_n_X6 ⟨by decide +kernel, by decide +kernel, by decide +kernel⟩ ⟨Nat.le_of_ble_eq_true rfl, Nat.le_of_ble_eq_true rfl⟩ ⟨Nat.le_of_ble_eq_true rfl, Nat.le_of_ble_eq_true rfl⟩ (h0 0 (by decide)) rfl rfl rfl rfl (Nat.le_of_ble_eq_true rfl) rfl dX6_callTrunk_11 (fun g11 => ?_) (fun E9 g11 => X_out C hT (Nat.le_of_ble_eq_true rfl) (Nat.le_of_ble_eq_true rfl) ⟨by rw [oth_n g2, oth_n g7]; exact g11, rfl⟩)
  have grm := rq_y g11
  refine X_aload_n (pc := 14) C 0 dX6_callTrunk_14 rfl rfl ?_
  refine G_X6_26 (pc := 15) C (by assumption) dX6_callTrunk_15 ?_
  refine X_aload_n (pc := 18) C 0 dX6_callTrunk_18 rfl rfl ?_
  refine G_X6_12 (pc := 19) C (by assumption) dX6_callTrunk_19 ?_
  refine K_X6_123 (pc := 22) C (by assumption) (c_X2_push l P σ h0 hb o n hH.2.1 hH.2.2.2 hH.1 hH.2.2.1 hz) ⟨Nat.le_of_ble_eq_true rfl, Nat.le_of_ble_eq_true rfl⟩ ⟨rfl, rfl⟩ ⟨Nat.le_of_ble_eq_true rfl, Nat.le_of_ble_eq_true rfl⟩ (Nat.le_of_ble_eq_true rfl) dX6_callTrunk_22 ?_
  refine X_aload_n (pc := 25) C 0 dX6_callTrunk_25 rfl rfl ?_
  refine G_X6_12 (pc := 26) C (by assumption) dX6_callTrunk_26 ?_
  refine X_iload_n (pc := 29) C 1 dX6_callTrunk_29 rfl rfl ?_
  refine X_iconst (pc := 30) (v := (-1)) C dX6_callTrunk_30 (by decide) ?_
  refine X_iload_n (pc := 31) C 2 dX6_callTrunk_31 rfl rfl ?_
  refine X_iload_n (pc := 32) C 3 dX6_callTrunk_32 rfl rfl ?_
  refine K_X6_126 (pc := 33) C (by assumption) (by have h := c_X0_request l P (uPush σ o n) 0 (nuN σ 0) (ncN σ 0) hb0 hnu ((by rw [(uPush_b (Or.inl (by decide))).1]; exact hB.1)) hnc ((by rw [(uPush_b (Or.inl (by decide))).1]; exact hB.2.2.1)) grm x (-1) y u (nar01 hu); exact h) ⟨Nat.le_of_ble_eq_true rfl, Nat.le_of_ble_eq_true rfl⟩ ⟨rfl, rfl⟩ ⟨Nat.le_of_ble_eq_true rfl, Nat.le_of_ble_eq_true rfl⟩ (Nat.le_of_ble_eq_true rfl) dX6_callTrunk_33 ?_
  exact XW.tret (X_iret (pc := 36) C (Nat.le_of_ble_eq_true rfl) (Nat.le_of_ble_eq_true rfl) dX6_callTrunk_36 ⟨by rw [oth_n g2, oth_n g7]; exact g11, rfl, rfl⟩)

set_option maxRecDepth 100000 in
set_option maxHeartbeats 4000000 in
theorem c_X6_end (l : Launch) (hl0 : l.stackTraces = false) (P : XP) (σ : XS) (h0 : xI0 P) (hb : ∀ b, b < 12 → xIn P b) (hB : Bd σ 0) (o n : Nat) (hH : Hi σ o n) (hz : xZ σ 0) (x : Int32) : XTG l yX6_end cX6_end 2 (some .int) rm_X6_end P [.ref (P.2.2.1 (.inr 0)), .int x] σ (oth (rqC σ x) (rq (¬ (σ.1 (.inl (0, 9)) x.toNatClampNeg = 2 ∨ σ.1 (.inl (0, 9)) x.toNatClampNeg = 3)) eIS)) (some (.int (nI (uFinA (uPush σ o n) 0 (nuN σ 0) (ncN σ 0) (ntN σ 0) x.toNatClampNeg).2 + nI (uFinB (uPush σ o n) 0 (nuN σ 0) (ncN σ 0) (ntN σ 0) x.toNatClampNeg).2))) ((uFinB (uPush σ o n) 0 (nuN σ 0) (ncN σ 0) (ntN σ 0) x.toNatClampNeg).1) := by
  refine XTM.of (by decide +kernel) (Nat.le_of_ble_eq_true rfl) (fun p e s m args below meth c A C hT => ?_)
  replace C : XC p s m args meth c P A 2 RX6 cX6_end (some .int) := C
  refine XW.eq (lv' := [(0, _), (1, _)]) rfl rfl rfl ?_
  have hb0 : xIn P 0 := hb 0 (by decide)
  have hb1 : xIn P 1 := hb 1 (by decide)
  have hnu := hB.2.1
  have hnc := hB.2.2.2.1
  have hnt := hB.2.2.2.2.2
  refine X_aload_n (pc := 0) C 0 dX6_end_0 rfl rfl ?_
  refine X_iload_n (pc := 1) C 1 dX6_end_1 rfl rfl ?_
  refine X_reqG (i := .inr 0) (ci := 6) (n := 1) (pc := 2) C [.int _] (⟨c_X6_requireCall l hl0 P σ h0 hb hB x, rq_none⟩) m_c_X6_requireCall m_m_X6_136 m_i_X6_requireCall m_s_X6_requireCall m_n_X6 ⟨by decide +kernel, by decide +kernel, by decide +kernel⟩ ⟨Nat.le_of_ble_eq_true rfl, Nat.le_of_ble_eq_true rfl⟩ ⟨Nat.le_of_ble_eq_true rfl, Nat.le_of_ble_eq_true rfl⟩ (h0 0 (by decide)) rfl rfl rfl rfl (Nat.le_of_ble_eq_true rfl) rfl dX6_end_2 (fun g2 => ?_) (fun E9 g2 => X_out C hT (Nat.le_of_ble_eq_true rfl) (Nat.le_of_ble_eq_true rfl) ⟨oth_e g2, rfl⟩)
  obtain ⟨j, hj, rfl⟩ := xok_of (rq_y g2)
  refine X_aload_n (pc := 5) C 0 dX6_end_5 rfl rfl ?_
  refine G_X6_12 (pc := 6) C (by assumption) dX6_end_6 ?_
  refine G_X6_139 (pc := 9) C (by assumption) dX6_end_9 ?_
  refine X_iload_n (pc := 12) C 1 dX6_end_12 rfl rfl ?_
  refine K_X6_143 (pc := 13) C (by assumption) (c_X1_isOver l P σ 0 j hb0 (by omega)) ⟨Nat.le_of_ble_eq_true rfl, Nat.le_of_ble_eq_true rfl⟩ ⟨rfl, rfl⟩ ⟨Nat.le_of_ble_eq_true rfl, Nat.le_of_ble_eq_true rfl⟩ (Nat.le_of_ble_eq_true rfl) dX6_end_13 ?_
  refine X_if_eq (pc := 16) C 29 dX6_end_16 (by decide) (fun h16 => ?_) (fun h16 => ?_)
  · have g16 := bz0 h16
    refine X_aload_n (pc := 29) C 0 dX6_end_29 rfl rfl ?_
    refine G_X6_26 (pc := 30) C (by assumption) dX6_end_30 ?_
    refine X_aload_n (pc := 33) C 0 dX6_end_33 rfl rfl ?_
    refine G_X6_12 (pc := 34) C (by assumption) dX6_end_34 ?_
    refine K_X6_123 (pc := 37) C (by assumption) (c_X2_push l P σ h0 hb o n hH.2.1 hH.2.2.2 hH.1 hH.2.2.1 hz) ⟨Nat.le_of_ble_eq_true rfl, Nat.le_of_ble_eq_true rfl⟩ ⟨rfl, rfl⟩ ⟨Nat.le_of_ble_eq_true rfl, Nat.le_of_ble_eq_true rfl⟩ (Nat.le_of_ble_eq_true rfl) dX6_end_37 ?_
    refine X_aload_n (pc := 40) C 0 dX6_end_40 rfl rfl ?_
    refine G_X6_12 (pc := 41) C (by assumption) dX6_end_41 ?_
    refine X_iload_n (pc := 44) C 1 dX6_end_44 rfl rfl ?_
    refine K_X6_154 (pc := 45) C (by assumption) (c_X0_finish l P (uPush σ o n) 0 (nuN σ 0) (ncN σ 0) (ntN σ 0) hb0 hnu (by rw [(uPush_b (Or.inl (by decide))).1]; exact hB.1) hnc (by rw [(uPush_b (Or.inl (by decide))).1]; exact hB.2.2.1) hnt (by rw [(uPush_b (Or.inl (by decide))).1]; exact hB.2.2.2.2.1) j (by omega)) ⟨Nat.le_of_ble_eq_true rfl, Nat.le_of_ble_eq_true rfl⟩ ⟨rfl, rfl⟩ ⟨Nat.le_of_ble_eq_true rfl, Nat.le_of_ble_eq_true rfl⟩ (Nat.le_of_ble_eq_true rfl) dX6_end_45 ?_
    exact XW.tret (X_iret (pc := 48) C (Nat.le_of_ble_eq_true rfl) (Nat.le_of_ble_eq_true rfl) dX6_end_48 (by have ej : (nI j).toNatClampNeg = j := nI_clamp (n31 (by omega)); rw [ej]; exact ⟨by rw [oth_n g2]; exact rq_t g16, rfl, rfl⟩))
  · have g16 := bz1 h16
    exact X_thrS (pc := 19) (q := 21) C hT hl0 fit_IllegalStateException fit_n m_l_X6_149 m_n_IllegalStateException (List.mem_of_getElem? (i := 24) rfl) tw_153 dX6_end_19 dX6_end_22 dX6_end_23 dX6_end_25 dX6_end_28 (Nat.le_of_ble_eq_true rfl) (Nat.le_of_ble_eq_true rfl) (Nat.le_of_ble_eq_true rfl) (Nat.le_of_ble_eq_true rfl) (Nat.le_of_ble_eq_true rfl) (Nat.le_of_ble_eq_true rfl) (by have ej : (nI j).toNatClampNeg = j := nI_clamp (n31 (by omega)); rw [ej]; exact ⟨by rw [oth_n g2]; exact rq_f (fun q => q g16), rfl⟩)

set_option maxRecDepth 100000 in
set_option maxHeartbeats 4000000 in
theorem c_X6_waitFor (l : Launch) (hl0 : l.stackTraces = false) (P : XP) (σ : XS) (h0 : xI0 P) (hb : ∀ b, b < 12 → xIn P b) (hB : Bd σ 0) (o n : Nat) (hH : Hi σ o n) (hz : xZ σ 0) (x : Int32) : XTG l yX6_waitFor cX6_waitFor 2 (some .int) rm_X6_waitFor P [.ref (P.2.2.1 (.inr 0)), .int x] σ (oth (rq (¬ x < 1 ∧ x ≤ 9999) eIA) (rq (σ.1 (.inl (0, 0)) 3 + x ≤ 999999) eIS)) (some (.int (σ.1 (.inl (0, 0)) 3 + x))) (uClock (uPush σ o n) 0 x) := by
  refine XTM.of (by decide +kernel) (Nat.le_of_ble_eq_true rfl) (fun p e s m args below meth c A C hT => ?_)
  replace C : XC p s m args meth c P A 2 RX6 cX6_waitFor (some .int) := C
  refine XW.eq (lv' := [(0, _), (1, _)]) rfl rfl rfl ?_
  have hb0 : xIn P 0 := hb 0 (by decide)
  have hb1 : xIn P 1 := hb 1 (by decide)
  have hnu := hB.2.1
  have hnc := hB.2.2.2.1
  have hnt := hB.2.2.2.2.2
  have e3 : (uPush σ o n).1 (.inl (0, 0)) 3 = σ.1 (.inl (0, 0)) 3 := by rw [(uPush_b (Or.inl (by decide))).1]
  refine X_iload_n (pc := 0) C 1 dX6_waitFor_0 rfl rfl ?_
  refine X_iconst (pc := 1) (v := 1) C dX6_waitFor_1 (by decide) ?_
  refine X_icmp_lt (pc := 2) C 12 dX6_waitFor_2 (by decide) (fun h2 => ?_) (fun h2 => ?_)
  · skip
    exact X_thrS (pc := 12) (q := 22) C hT hl0 fit_IllegalArgumentException fit_n m_l_X6_85 m_n_IllegalArgumentException (List.mem_of_getElem? (i := 25) rfl) tw_89 dX6_waitFor_12 dX6_waitFor_15 dX6_waitFor_16 dX6_waitFor_18 dX6_waitFor_21 (Nat.le_of_ble_eq_true rfl) (Nat.le_of_ble_eq_true rfl) (Nat.le_of_ble_eq_true rfl) (Nat.le_of_ble_eq_true rfl) (Nat.le_of_ble_eq_true rfl) (Nat.le_of_ble_eq_true rfl) (by first | exact ⟨oth_e (rq_f (fun q => q.1 h2)), rfl⟩ | exact ⟨oth_e (rq_f (fun q => h9 q.2)), rfl⟩)
  · skip
    refine X_iload_n (pc := 5) C 1 dX6_waitFor_5 rfl rfl ?_
    refine X_sipush (pc := 6) (v := 9999) C dX6_waitFor_6 (by decide) ?_
    refine X_icmp_le (pc := 9) C 22 dX6_waitFor_9 (by decide) (fun h9 => ?_) (fun h9 => ?_)
    · skip
      refine X_aload_n (pc := 22) C 0 dX6_waitFor_22 rfl rfl ?_
      refine G_X6_12 (pc := 23) C (by assumption) dX6_waitFor_23 ?_
      refine G_X6_160 (pc := 26) C (by assumption) dX6_waitFor_26 ?_
      refine X_iload_n (pc := 29) C 1 dX6_waitFor_29 rfl rfl ?_
      refine X_iadd (pc := 30) C dX6_waitFor_30 ?_
      refine X_ldc (pc := 31) C m_k_X6_163 dX6_waitFor_31 ?_
      refine X_icmp_le (pc := 33) C 46 dX6_waitFor_33 (by decide) (fun h33 => ?_) (fun h33 => ?_)
      · skip
        refine X_aload_n (pc := 46) C 0 dX6_waitFor_46 rfl rfl ?_
        refine G_X6_26 (pc := 47) C (by assumption) dX6_waitFor_47 ?_
        refine X_aload_n (pc := 50) C 0 dX6_waitFor_50 rfl rfl ?_
        refine G_X6_12 (pc := 51) C (by assumption) dX6_waitFor_51 ?_
        refine K_X6_123 (pc := 54) C (by assumption) (c_X2_push l P σ h0 hb o n hH.2.1 hH.2.2.2 hH.1 hH.2.2.1 hz) ⟨Nat.le_of_ble_eq_true rfl, Nat.le_of_ble_eq_true rfl⟩ ⟨rfl, rfl⟩ ⟨Nat.le_of_ble_eq_true rfl, Nat.le_of_ble_eq_true rfl⟩ (Nat.le_of_ble_eq_true rfl) dX6_waitFor_54 ?_
        refine X_aload_n (pc := 57) C 0 dX6_waitFor_57 rfl rfl ?_
        refine G_X6_12 (pc := 58) C (by assumption) dX6_waitFor_58 ?_
        refine X_dup (pc := 61) C dX6_waitFor_61 rfl ?_
        refine G_X6_160 (pc := 62) C (by assumption) dX6_waitFor_62 ?_
        refine X_iload_n (pc := 65) C 1 dX6_waitFor_65 rfl rfl ?_
        refine X_iadd (pc := 66) C dX6_waitFor_66 ?_
        refine U_X6_160 (pc := 67) C (by assumption) dX6_waitFor_67 ?_
        refine X_aload_n (pc := 70) C 0 dX6_waitFor_70 rfl rfl ?_
        refine G_X6_12 (pc := 71) C (by assumption) dX6_waitFor_71 ?_
        refine G_X6_160 (pc := 74) C (by assumption) dX6_waitFor_74 ?_
        exact XW.tret (X_iret (pc := 77) C (Nat.le_of_ble_eq_true rfl) (Nat.le_of_ble_eq_true rfl) dX6_waitFor_77 ⟨by rw [oth_n (rq_t ⟨h2, h9⟩)]; exact rq_t h33, by rw [xu_self, e3], rfl⟩)
      · skip
        exact X_thrS (pc := 36) (q := 23) C hT hl0 fit_IllegalStateException fit_n m_l_X6_149 m_n_IllegalStateException (List.mem_of_getElem? (i := 26) rfl) tw_153 dX6_waitFor_36 dX6_waitFor_39 dX6_waitFor_40 dX6_waitFor_42 dX6_waitFor_45 (Nat.le_of_ble_eq_true rfl) (Nat.le_of_ble_eq_true rfl) (Nat.le_of_ble_eq_true rfl) (Nat.le_of_ble_eq_true rfl) (Nat.le_of_ble_eq_true rfl) (Nat.le_of_ble_eq_true rfl) ⟨by rw [oth_n (rq_t ⟨h2, h9⟩)]; exact rq_f h33, rfl⟩
    · skip
      exact X_thrS (pc := 12) (q := 22) C hT hl0 fit_IllegalArgumentException fit_n m_l_X6_85 m_n_IllegalArgumentException (List.mem_of_getElem? (i := 25) rfl) tw_89 dX6_waitFor_12 dX6_waitFor_15 dX6_waitFor_16 dX6_waitFor_18 dX6_waitFor_21 (Nat.le_of_ble_eq_true rfl) (Nat.le_of_ble_eq_true rfl) (Nat.le_of_ble_eq_true rfl) (Nat.le_of_ble_eq_true rfl) (Nat.le_of_ble_eq_true rfl) (Nat.le_of_ble_eq_true rfl) (by first | exact ⟨oth_e (rq_f (fun q => q.1 h2)), rfl⟩ | exact ⟨oth_e (rq_f (fun q => h9 q.2)), rfl⟩)

set_option maxRecDepth 100000 in
set_option maxHeartbeats 4000000 in
theorem c_X6_setCuriosity (l : Launch) (hl0 : l.stackTraces = false) (P : XP) (σ : XS) (h0 : xI0 P) (hb : ∀ b, b < 12 → xIn P b) (hB : Bd σ 0) (o n : Nat) (hH : Hi σ o n) (hz : xZ σ 0) (x y : Int32) : XTG l yX6_setCuriosity cX6_setCuriosity 4 (some .int) rm_X6_setCuriosity P [.ref (P.2.2.1 (.inr 0)), .int x, .int y] σ (oth (rqU σ x) (rq (¬ y < 0 ∧ y ≤ 9) eIA)) (some (.int (σ.1 (.inl (0, 5)) x.toNatClampNeg))) (xu (uPush σ o n) (.inl (0, 5)) x.toNatClampNeg y) := by
  refine XTM.of (by decide +kernel) (Nat.le_of_ble_eq_true rfl) (fun p e s m args below meth c A C hT => ?_)
  replace C : XC p s m args meth c P A 4 RX6 cX6_setCuriosity (some .int) := C
  refine XW.eq (lv' := [(0, _), (1, _), (2, _)]) rfl rfl rfl ?_
  have hb0 : xIn P 0 := hb 0 (by decide)
  have hb1 : xIn P 1 := hb 1 (by decide)
  have hnu := hB.2.1
  have hnc := hB.2.2.2.1
  have hnt := hB.2.2.2.2.2
  refine X_aload_n (pc := 0) C 0 dX6_setCuriosity_0 rfl rfl ?_
  refine X_iload_n (pc := 1) C 1 dX6_setCuriosity_1 rfl rfl ?_
  refine X_reqG (i := .inr 0) (ci := 6) (n := 1) (pc := 2) C [.int _] (⟨c_X6_requireSubscriber l hl0 P σ h0 hb hB x, rq_none⟩) m_c_X6_requireSubscriber m_m_X6_130 m_i_X6_requireSubscriber m_s_X6_requireSubscriber m_n_X6 ⟨by decide +kernel, by decide +kernel, by decide +kernel⟩ ⟨Nat.le_of_ble_eq_true rfl, Nat.le_of_ble_eq_true rfl⟩ ⟨Nat.le_of_ble_eq_true rfl, Nat.le_of_ble_eq_true rfl⟩ (h0 0 (by decide)) rfl rfl rfl rfl (Nat.le_of_ble_eq_true rfl) rfl dX6_setCuriosity_2 (fun g2 => ?_) (fun E9 g2 => X_out C hT (Nat.le_of_ble_eq_true rfl) (Nat.le_of_ble_eq_true rfl) ⟨oth_e g2, rfl⟩)
  obtain ⟨j, hj, rfl⟩ := xok_of (rq_y g2)
  have ej : (nI j).toNatClampNeg = j := nI_clamp (n31 (by omega))
  rw [ej]
  refine X_iload_n (pc := 5) C 2 dX6_setCuriosity_5 rfl rfl ?_
  refine X_if_lt (pc := 6) C 15 dX6_setCuriosity_6 (by decide) (fun h6 => ?_) (fun h6 => ?_)
  · skip
    exact X_thrS (pc := 15) (q := 24) C hT hl0 fit_IllegalArgumentException fit_n m_l_X6_85 m_n_IllegalArgumentException (List.mem_of_getElem? (i := 27) rfl) tw_89 dX6_setCuriosity_15 dX6_setCuriosity_18 dX6_setCuriosity_19 dX6_setCuriosity_21 dX6_setCuriosity_24 (Nat.le_of_ble_eq_true rfl) (Nat.le_of_ble_eq_true rfl) (Nat.le_of_ble_eq_true rfl) (Nat.le_of_ble_eq_true rfl) (Nat.le_of_ble_eq_true rfl) (Nat.le_of_ble_eq_true rfl) (by first | exact ⟨by rw [oth_n g2]; exact rq_f (fun q => q.1 h6), rfl⟩ | exact ⟨by rw [oth_n g2]; exact rq_f (fun q => h12 q.2), rfl⟩)
  · skip
    refine X_iload_n (pc := 9) C 2 dX6_setCuriosity_9 rfl rfl ?_
    refine X_bipush (pc := 10) (v := 9) C dX6_setCuriosity_10 (by decide) ?_
    refine X_icmp_le (pc := 12) C 25 dX6_setCuriosity_12 (by decide) (fun h12 => ?_) (fun h12 => ?_)
    · skip
      refine X_aload_n (pc := 25) C 0 dX6_setCuriosity_25 rfl rfl ?_
      refine G_X6_26 (pc := 26) C (by assumption) dX6_setCuriosity_26 ?_
      refine X_aload_n (pc := 29) C 0 dX6_setCuriosity_29 rfl rfl ?_
      refine G_X6_12 (pc := 30) C (by assumption) dX6_setCuriosity_30 ?_
      refine K_X6_123 (pc := 33) C (by assumption) (c_X2_push l P σ h0 hb o n hH.2.1 hH.2.2.2 hH.1 hH.2.2.1 hz) ⟨Nat.le_of_ble_eq_true rfl, Nat.le_of_ble_eq_true rfl⟩ ⟨rfl, rfl⟩ ⟨Nat.le_of_ble_eq_true rfl, Nat.le_of_ble_eq_true rfl⟩ (Nat.le_of_ble_eq_true rfl) dX6_setCuriosity_33 ?_
      refine X_aload_n (pc := 36) C 0 dX6_setCuriosity_36 rfl rfl ?_
      refine G_X6_12 (pc := 37) C (by assumption) dX6_setCuriosity_37 ?_
      refine G_X6_98 (pc := 40) C (by assumption) dX6_setCuriosity_40 ?_
      refine G_X6_168 (pc := 43) C (by assumption) dX6_setCuriosity_43 ?_
      refine X_iload_n (pc := 46) C 1 dX6_setCuriosity_46 rfl rfl ?_
      refine X_ialdN (pc := 47) C (by first | exact h0 _ (by decide) | exact hb0 _ (by decide)) rfl (by omega) (by decide) dX6_setCuriosity_47 ?_
      refine X_istore_n (pc := 48) (lv1 := [(0, _), (1, _), (2, _), (3, _)]) C 3 dX6_setCuriosity_48 rfl (by decide) rfl ?_
      refine X_aload_n (pc := 49) C 0 dX6_setCuriosity_49 rfl rfl ?_
      refine G_X6_12 (pc := 50) C (by assumption) dX6_setCuriosity_50 ?_
      refine G_X6_98 (pc := 53) C (by assumption) dX6_setCuriosity_53 ?_
      refine G_X6_168 (pc := 56) C (by assumption) dX6_setCuriosity_56 ?_
      refine X_iload_n (pc := 59) C 1 dX6_setCuriosity_59 rfl rfl ?_
      refine X_iload_n (pc := 60) C 2 dX6_setCuriosity_60 rfl rfl ?_
      refine X_iastN (pc := 61) C (by first | exact h0 _ (by decide) | exact hb0 _ (by decide)) rfl (by omega) (by decide) dX6_setCuriosity_61 ?_
      refine X_iload_n (pc := 62) C 3 dX6_setCuriosity_62 rfl rfl ?_
      exact XW.tret (X_iret (pc := 63) C (Nat.le_of_ble_eq_true rfl) (Nat.le_of_ble_eq_true rfl) dX6_setCuriosity_63 ⟨by rw [oth_n g2]; exact rq_t ⟨h6, h12⟩, by rw [(uPush_b (Or.inl (by decide))).1], rfl⟩)
    · skip
      exact X_thrS (pc := 15) (q := 24) C hT hl0 fit_IllegalArgumentException fit_n m_l_X6_85 m_n_IllegalArgumentException (List.mem_of_getElem? (i := 27) rfl) tw_89 dX6_setCuriosity_15 dX6_setCuriosity_18 dX6_setCuriosity_19 dX6_setCuriosity_21 dX6_setCuriosity_24 (Nat.le_of_ble_eq_true rfl) (Nat.le_of_ble_eq_true rfl) (Nat.le_of_ble_eq_true rfl) (Nat.le_of_ble_eq_true rfl) (Nat.le_of_ble_eq_true rfl) (Nat.le_of_ble_eq_true rfl) (by first | exact ⟨by rw [oth_n g2]; exact rq_f (fun q => q.1 h6), rfl⟩ | exact ⟨by rw [oth_n g2]; exact rq_f (fun q => h12 q.2), rfl⟩)

set_option maxRecDepth 100000 in
set_option maxHeartbeats 4000000 in
theorem c_X6_undo (l : Launch) (hl0 : l.stackTraces = false) (P : XP) (σ : XS) (h0 : xI0 P) (hb : ∀ b, b < 12 → xIn P b) (hB : Bd σ 0) (o n : Nat) (hH : Hi σ o n) (hz : ∀ b, b < 12 → xZ σ b) : XTG l yX6_undo cX6_undo 1 (some .int) rm_X6_undo P [.ref (P.2.2.1 (.inr 0))] σ (rq (0 < n) eIS) (some (.int (nI (n - 1)))) (uPop σ o n) := by
  refine XTM.of (by decide +kernel) (Nat.le_of_ble_eq_true rfl) (fun p e s m args below meth c A C hT => ?_)
  replace C : XC p s m args meth c P A 1 RX6 cX6_undo (some .int) := C
  refine XW.eq (lv' := [(0, _)]) rfl rfl rfl ?_
  have hb0 : xIn P 0 := hb 0 (by decide)
  have hb1 : xIn P 1 := hb 1 (by decide)
  have hnu := hB.2.1
  have hnc := hB.2.2.2.1
  have hnt := hB.2.2.2.2.2
  have hn8 := hH.2.2.2
  refine X_aload_n (pc := 0) C 0 dX6_undo_0 rfl rfl ?_
  refine G_X6_26 (pc := 1) C (by assumption) dX6_undo_1 ?_
  refine G_X6_171 (pc := 4) C (by assumption) dX6_undo_4 ?_
  rw [hH.2.2.1]
  refine X_if_ne (pc := 7) C 20 dX6_undo_7 (by decide) (fun h7 => ?_) (fun h7 => ?_)
  · have gp : 0 < n := Nat.pos_of_ne_zero (fun z => h7 (by rw [z]; rfl))
    refine X_aload_n (pc := 20) C 0 dX6_undo_20 rfl rfl ?_
    refine G_X6_26 (pc := 21) C (by assumption) dX6_undo_21 ?_
    refine X_aload_n (pc := 24) C 0 dX6_undo_24 rfl rfl ?_
    refine G_X6_12 (pc := 25) C (by assumption) dX6_undo_25 ?_
    refine K_X6_174 (pc := 28) C (by assumption) (c_X2_popInto l P σ h0 hb o n hH.2.1 hH.2.2.2 hH.1 hH.2.2.1 gp hz) ⟨Nat.le_of_ble_eq_true rfl, Nat.le_of_ble_eq_true rfl⟩ ⟨rfl, rfl⟩ ⟨Nat.le_of_ble_eq_true rfl, Nat.le_of_ble_eq_true rfl⟩ (Nat.le_of_ble_eq_true rfl) dX6_undo_28 ?_
    refine X_aload_n (pc := 31) C 0 dX6_undo_31 rfl rfl ?_
    refine G_X6_26 (pc := 32) C (by assumption) dX6_undo_32 ?_
    refine G_X6_171 (pc := 35) C (by assumption) dX6_undo_35 ?_
    exact XW.tret (X_iret (pc := 38) C (Nat.le_of_ble_eq_true rfl) (Nat.le_of_ble_eq_true rfl) dX6_undo_38 ⟨rq_t gp, by rw [uPop, uCopyB_o, xu_self], rfl⟩)
  · have gp : ¬ 0 < n := fun z => nI_ne0 z (n31 (by omega)) h7
    exact X_thrS (pc := 10) (q := 25) C hT hl0 fit_IllegalStateException fit_n m_l_X6_149 m_n_IllegalStateException (List.mem_of_getElem? (i := 28) rfl) tw_153 dX6_undo_10 dX6_undo_13 dX6_undo_14 dX6_undo_16 dX6_undo_19 (Nat.le_of_ble_eq_true rfl) (Nat.le_of_ble_eq_true rfl) (Nat.le_of_ble_eq_true rfl) (Nat.le_of_ble_eq_true rfl) (Nat.le_of_ble_eq_true rfl) (Nat.le_of_ble_eq_true rfl) ⟨rq_f gp, rfl⟩

set_option maxRecDepth 100000 in
set_option maxHeartbeats 4000000 in
theorem c_X6_truncateInput (l : Launch) (hl0 : l.stackTraces = false) (P : XP) (σ : XS) (h0 : xI0 P) (hb : ∀ b, b < 12 → xIn P b) (hB : Bd σ 0) (n : Nat) (hx : Tx σ n) (x : Int32) : XTG l yX6_truncateInput cX6_truncateInput 2 (some .int) rm_X6_truncateInput P [.ref (P.2.2.1 (.inr 0)), .int x] σ (rq (xok x (n + 1)) eIA) (some (.int x)) (xu σ (.inr 2) 1 x) := by
  refine XTM.of (by decide +kernel) (Nat.le_of_ble_eq_true rfl) (fun p e s m args below meth c A C hT => ?_)
  replace C : XC p s m args meth c P A 2 RX6 cX6_truncateInput (some .int) := C
  refine XW.eq (lv' := [(0, _), (1, _)]) rfl rfl rfl ?_
  have hb0 : xIn P 0 := hb 0 (by decide)
  have hb1 : xIn P 1 := hb 1 (by decide)
  have hnu := hB.2.1
  have hnc := hB.2.2.2.1
  have hnt := hB.2.2.2.2.2
  have hn7 := hx.2.1
  refine X_iload_n (pc := 0) C 1 dX6_truncateInput_0 rfl rfl ?_
  refine X_if_lt (pc := 1) C 18 dX6_truncateInput_1 (by decide) (fun h1 => ?_) (fun h1 => ?_)
  · skip
    exact X_thrS (pc := 18) (q := 15) C hT hl0 fit_IllegalArgumentException fit_n m_l_X6_85 m_n_IllegalArgumentException (List.mem_of_getElem? (i := 18) rfl) tw_89 dX6_truncateInput_18 dX6_truncateInput_21 dX6_truncateInput_22 dX6_truncateInput_24 dX6_truncateInput_27 (Nat.le_of_ble_eq_true rfl) (Nat.le_of_ble_eq_true rfl) (Nat.le_of_ble_eq_true rfl) (Nat.le_of_ble_eq_true rfl) (Nat.le_of_ble_eq_true rfl) (Nat.le_of_ble_eq_true rfl) (by first | exact ⟨rq_f (xok_neg h1), rfl⟩ | exact ⟨rq_f (fun q => h15 (by obtain ⟨j, hj, rfl⟩ := xok_of q; exact nI_le (by omega) (n31 (by omega)))), rfl⟩)
  · skip
    refine X_iload_n (pc := 4) C 1 dX6_truncateInput_4 rfl rfl ?_
    refine X_aload_n (pc := 5) C 0 dX6_truncateInput_5 rfl rfl ?_
    refine G_X6_19 (pc := 6) C (by assumption) dX6_truncateInput_6 ?_
    refine G_X6_42 (pc := 9) C (by assumption) dX6_truncateInput_9 ?_
    refine G_X6_78 (pc := 12) C (by assumption) dX6_truncateInput_12 ?_
    rw [hx.1]
    refine X_icmp_le (pc := 15) C 28 dX6_truncateInput_15 (by decide) (fun h15 => ?_) (fun h15 => ?_)
    · skip
      refine X_aload_n (pc := 28) C 0 dX6_truncateInput_28 rfl rfl ?_
      refine G_X6_19 (pc := 29) C (by assumption) dX6_truncateInput_29 ?_
      refine G_X6_42 (pc := 32) C (by assumption) dX6_truncateInput_32 ?_
      refine X_iload_n (pc := 35) C 1 dX6_truncateInput_35 rfl rfl ?_
      refine K_X6_74 (pc := 36) C (by assumption) (c_X3_shorten l P σ h0 x) ⟨Nat.le_of_ble_eq_true rfl, Nat.le_of_ble_eq_true rfl⟩ ⟨rfl, rfl⟩ ⟨Nat.le_of_ble_eq_true rfl, Nat.le_of_ble_eq_true rfl⟩ (Nat.le_of_ble_eq_true rfl) dX6_truncateInput_36 ?_
      refine X_iload_n (pc := 39) C 1 dX6_truncateInput_39 rfl rfl ?_
      exact XW.tret (X_iret (pc := 40) C (Nat.le_of_ble_eq_true rfl) (Nat.le_of_ble_eq_true rfl) dX6_truncateInput_40 ⟨rq_t (xok_yes h1 (fun q => absurd (Int32.le_trans q h15) (fun z => absurd (nle (a := n + 1) (b := n) z) (by omega)))), rfl, rfl⟩)
    · skip
      exact X_thrS (pc := 18) (q := 15) C hT hl0 fit_IllegalArgumentException fit_n m_l_X6_85 m_n_IllegalArgumentException (List.mem_of_getElem? (i := 18) rfl) tw_89 dX6_truncateInput_18 dX6_truncateInput_21 dX6_truncateInput_22 dX6_truncateInput_24 dX6_truncateInput_27 (Nat.le_of_ble_eq_true rfl) (Nat.le_of_ble_eq_true rfl) (Nat.le_of_ble_eq_true rfl) (Nat.le_of_ble_eq_true rfl) (Nat.le_of_ble_eq_true rfl) (Nat.le_of_ble_eq_true rfl) (by first | exact ⟨rq_f (xok_neg h1), rfl⟩ | exact ⟨rq_f (fun q => h15 (by obtain ⟨j, hj, rfl⟩ := xok_of q; exact nI_le (by omega) (n31 (by omega)))), rfl⟩)

set_option maxRecDepth 100000 in
set_option maxHeartbeats 4000000 in
theorem c_X6_startsIfEnded (l : Launch) (hl0 : l.stackTraces = false) (P : XP) (σ : XS) (h0 : xI0 P) (hb : ∀ b, b < 12 → xIn P b) (hB : Bd σ 0) (hz : xZ σ 0) (x : Int32) : XTG l yX6_startsIfEnded cX6_startsIfEnded 2 (some .int) rm_X6_startsIfEnded P [.ref (P.2.2.1 (.inr 0)), .int x] σ (rqC σ x) (if σ.1 (.inl (0, 9)) x.toNatClampNeg = 2 ∨ σ.1 (.inl (0, 9)) x.toNatClampNeg = 3 then some (.int 0) else some (.int (nI (uFinA (uCopyB σ 1 0) 1 (nuN σ 0) (ncN σ 0) (ntN σ 0) x.toNatClampNeg).2 + nI (uFinB (uCopyB σ 1 0) 1 (nuN σ 0) (ncN σ 0) (ntN σ 0) x.toNatClampNeg).2))) (if σ.1 (.inl (0, 9)) x.toNatClampNeg = 2 ∨ σ.1 (.inl (0, 9)) x.toNatClampNeg = 3 then σ else (uFinB (uCopyB σ 1 0) 1 (nuN σ 0) (ncN σ 0) (ntN σ 0) x.toNatClampNeg).1) := by
  refine XTM.of (by decide +kernel) (Nat.le_of_ble_eq_true rfl) (fun p e s m args below meth c A C hT => ?_)
  replace C : XC p s m args meth c P A 2 RX6 cX6_startsIfEnded (some .int) := C
  refine XW.eq (lv' := [(0, _), (1, _)]) rfl rfl rfl ?_
  have hb0 : xIn P 0 := hb 0 (by decide)
  have hb1 : xIn P 1 := hb 1 (by decide)
  have hnu := hB.2.1
  have hnc := hB.2.2.2.1
  have hnt := hB.2.2.2.2.2
  refine X_aload_n (pc := 0) C 0 dX6_startsIfEnded_0 rfl rfl ?_
  refine X_iload_n (pc := 1) C 1 dX6_startsIfEnded_1 rfl rfl ?_
  refine X_reqG (i := .inr 0) (ci := 6) (n := 1) (pc := 2) C [.int _] (⟨c_X6_requireCall l hl0 P σ h0 hb hB x, rq_none⟩) m_c_X6_requireCall m_m_X6_136 m_i_X6_requireCall m_s_X6_requireCall m_n_X6 ⟨by decide +kernel, by decide +kernel, by decide +kernel⟩ ⟨Nat.le_of_ble_eq_true rfl, Nat.le_of_ble_eq_true rfl⟩ ⟨Nat.le_of_ble_eq_true rfl, Nat.le_of_ble_eq_true rfl⟩ (h0 0 (by decide)) rfl rfl rfl rfl (Nat.le_of_ble_eq_true rfl) rfl dX6_startsIfEnded_2 (fun g2 => ?_) (fun E9 g2 => X_out C hT (Nat.le_of_ble_eq_true rfl) (Nat.le_of_ble_eq_true rfl) ⟨g2, rfl⟩)
  obtain ⟨j, hj, rfl⟩ := xok_of (rq_y g2)
  have ej : (nI j).toNatClampNeg = j := nI_clamp (n31 (by omega))
  rw [ej]
  refine X_aload_n (pc := 5) C 0 dX6_startsIfEnded_5 rfl rfl ?_
  refine G_X6_12 (pc := 6) C (by assumption) dX6_startsIfEnded_6 ?_
  refine G_X6_139 (pc := 9) C (by assumption) dX6_startsIfEnded_9 ?_
  refine X_iload_n (pc := 12) C 1 dX6_startsIfEnded_12 rfl rfl ?_
  refine K_X6_143 (pc := 13) C (by assumption) (c_X1_isOver l P σ 0 j hb0 (by omega)) ⟨Nat.le_of_ble_eq_true rfl, Nat.le_of_ble_eq_true rfl⟩ ⟨rfl, rfl⟩ ⟨Nat.le_of_ble_eq_true rfl, Nat.le_of_ble_eq_true rfl⟩ (Nat.le_of_ble_eq_true rfl) dX6_startsIfEnded_13 ?_
  refine X_if_eq (pc := 16) C 21 dX6_startsIfEnded_16 (by decide) (fun h16 => ?_) (fun h16 => ?_)
  · have g16 := bz0 h16
    refine X_aload_n (pc := 21) C 0 dX6_startsIfEnded_21 rfl rfl ?_
    refine G_X6_19 (pc := 22) C (by assumption) dX6_startsIfEnded_22 ?_
    refine G_X6_67 (pc := 25) C (by assumption) dX6_startsIfEnded_25 ?_
    refine X_aload_n (pc := 28) C 0 dX6_startsIfEnded_28 rfl rfl ?_
    refine G_X6_12 (pc := 29) C (by assumption) dX6_startsIfEnded_29 ?_
    refine K_X6_70 (pc := 32) C (by assumption) (c_X0_copyFrom l P σ 1 0 hb1 hb0 hz) ⟨Nat.le_of_ble_eq_true rfl, Nat.le_of_ble_eq_true rfl⟩ ⟨rfl, rfl⟩ ⟨Nat.le_of_ble_eq_true rfl, Nat.le_of_ble_eq_true rfl⟩ (Nat.le_of_ble_eq_true rfl) dX6_startsIfEnded_32 ?_
    refine X_aload_n (pc := 35) C 0 dX6_startsIfEnded_35 rfl rfl ?_
    refine G_X6_19 (pc := 36) C (by assumption) dX6_startsIfEnded_36 ?_
    refine G_X6_67 (pc := 39) C (by assumption) dX6_startsIfEnded_39 ?_
    refine X_iload_n (pc := 42) C 1 dX6_startsIfEnded_42 rfl rfl ?_
    refine K_X6_154 (pc := 43) C (by assumption) (c_X0_finish l P (uCopyB σ 1 0) 1 (nuN σ 0) (ncN σ 0) (ntN σ 0) hb1 hnu ((uCopyB_1 (k := 3)).1.trans hB.1) hnc ((uCopyB_1 (k := 3)).2.1.trans hB.2.2.1) hnt (((uCopyB_1 (k := 3)).2.2 (by decide)).trans hB.2.2.2.2.1) j (by omega)) ⟨Nat.le_of_ble_eq_true rfl, Nat.le_of_ble_eq_true rfl⟩ ⟨rfl, rfl⟩ ⟨Nat.le_of_ble_eq_true rfl, Nat.le_of_ble_eq_true rfl⟩ (Nat.le_of_ble_eq_true rfl) dX6_startsIfEnded_43 ?_
    exact XW.tret (X_iret (pc := 46) C (Nat.le_of_ble_eq_true rfl) (Nat.le_of_ble_eq_true rfl) dX6_startsIfEnded_46 ⟨g2, by rw [if_neg g16], by rw [if_neg g16]⟩)
  · have g16 := bz1 h16
    refine X_iconst (pc := 19) (v := 0) C dX6_startsIfEnded_19 (by decide) ?_
    exact XW.tret (X_iret (pc := 20) C (Nat.le_of_ble_eq_true rfl) (Nat.le_of_ble_eq_true rfl) dX6_startsIfEnded_20 ⟨g2, by rw [if_pos g16], by rw [if_pos g16]⟩)

set_option maxRecDepth 100000 in
set_option maxHeartbeats 4000000 in
theorem c_X6_append (l : Launch) (P : XP) (σ : XS) (h0 : xI0 P) (n : Nat) (hx : Tx σ n) (a b w d q : Int32) : XF l yX6_append cX6_append 6 (some .int) rm_X6_append P [.ref (P.2.2.1 (.inr 0)), .int a, .int b, .int w, .int d, .int q] σ (some (.int (if n + 20 ≤ 700 then nI (n + 20) else -1))) (if n + 20 ≤ 700 then (uFour (uFour (uFour (uFour (uFour σ n a) (n + 4) b) (n + 8) w) (n + 12) d) (n + 16) q) else σ) := by
  refine XM.of (by decide +kernel) (Nat.le_of_ble_eq_true rfl) (fun p e s m args below meth c A C => ?_)
  replace C : XC p s m args meth c P A 6 RX6 cX6_append (some .int) := C
  refine XW.eq (lv' := [(0, _), (1, _), (2, _), (3, _), (4, _), (5, _)]) rfl rfl rfl ?_
  have hn7 := hx.2.1
  refine X_aload_n (pc := 0) C 0 dX6_append_0 rfl rfl ?_
  refine G_X6_19 (pc := 1) C (by assumption) dX6_append_1 ?_
  refine G_X6_42 (pc := 4) C (by assumption) dX6_append_4 ?_
  refine G_X6_78 (pc := 7) C (by assumption) dX6_append_7 ?_
  rw [hx.1]
  refine X_bipush (pc := 10) (v := 20) C dX6_append_10 (by decide) ?_
  refine X_iadd (pc := 12) C dX6_append_12 ?_
  rw [show nI n + 20 = nI (n + 20) from nI_add n 20]
  refine X_sipush (pc := 13) (v := 700) C dX6_append_13 (by decide) ?_
  refine X_icmp_le (pc := 16) C 21 dX6_append_16 (by decide) (fun h16 => ?_) (fun h16 => ?_)
  · have g16 := nle (a := n + 20) (b := 700) h16
    refine X_aload_n (pc := 21) C 0 dX6_append_21 rfl rfl ?_
    refine G_X6_19 (pc := 22) C (by assumption) dX6_append_22 ?_
    refine G_X6_42 (pc := 25) C (by assumption) dX6_append_25 ?_
    refine X_iload_n (pc := 28) C 1 dX6_append_28 rfl rfl ?_
    refine K_X6_82 (pc := 29) C (by assumption) (c_X3_addFour l P σ h0 n (by omega) (hx.1) a) ⟨Nat.le_of_ble_eq_true rfl, Nat.le_of_ble_eq_true rfl⟩ ⟨rfl, rfl⟩ ⟨Nat.zero_le _, Nat.zero_le _⟩ (Nat.le_of_ble_eq_true rfl) dX6_append_29 ?_
    refine X_aload_n (pc := 32) C 0 dX6_append_32 rfl rfl ?_
    refine G_X6_19 (pc := 33) C (by assumption) dX6_append_33 ?_
    refine G_X6_42 (pc := 36) C (by assumption) dX6_append_36 ?_
    refine X_iload_n (pc := 39) C 2 dX6_append_39 rfl rfl ?_
    refine K_X6_82 (pc := 40) C (by assumption) (c_X3_addFour l P (uFour σ n a) h0 (n + 4) (by omega) (by simp [uFour, uByte_n]) b) ⟨Nat.le_of_ble_eq_true rfl, Nat.le_of_ble_eq_true rfl⟩ ⟨rfl, rfl⟩ ⟨Nat.zero_le _, Nat.zero_le _⟩ (Nat.le_of_ble_eq_true rfl) dX6_append_40 ?_
    refine X_aload_n (pc := 43) C 0 dX6_append_43 rfl rfl ?_
    refine G_X6_19 (pc := 44) C (by assumption) dX6_append_44 ?_
    refine G_X6_42 (pc := 47) C (by assumption) dX6_append_47 ?_
    refine X_iload_n (pc := 50) C 3 dX6_append_50 rfl rfl ?_
    refine K_X6_82 (pc := 51) C (by assumption) (c_X3_addFour l P (uFour (uFour σ n a) (n + 4) b) h0 (n + 8) (by omega) (by simp [uFour, uByte_n]) w) ⟨Nat.le_of_ble_eq_true rfl, Nat.le_of_ble_eq_true rfl⟩ ⟨rfl, rfl⟩ ⟨Nat.zero_le _, Nat.zero_le _⟩ (Nat.le_of_ble_eq_true rfl) dX6_append_51 ?_
    refine X_aload_n (pc := 54) C 0 dX6_append_54 rfl rfl ?_
    refine G_X6_19 (pc := 55) C (by assumption) dX6_append_55 ?_
    refine G_X6_42 (pc := 58) C (by assumption) dX6_append_58 ?_
    refine X_iload (pc := 61) C dX6_append_61 rfl ?_
    refine K_X6_82 (pc := 63) C (by assumption) (c_X3_addFour l P (uFour (uFour (uFour σ n a) (n + 4) b) (n + 8) w) h0 (n + 12) (by omega) (by simp [uFour, uByte_n]) d) ⟨Nat.le_of_ble_eq_true rfl, Nat.le_of_ble_eq_true rfl⟩ ⟨rfl, rfl⟩ ⟨Nat.zero_le _, Nat.zero_le _⟩ (Nat.le_of_ble_eq_true rfl) dX6_append_63 ?_
    refine X_aload_n (pc := 66) C 0 dX6_append_66 rfl rfl ?_
    refine G_X6_19 (pc := 67) C (by assumption) dX6_append_67 ?_
    refine G_X6_42 (pc := 70) C (by assumption) dX6_append_70 ?_
    refine X_iload (pc := 73) C dX6_append_73 rfl ?_
    refine K_X6_82 (pc := 75) C (by assumption) (c_X3_addFour l P (uFour (uFour (uFour (uFour σ n a) (n + 4) b) (n + 8) w) (n + 12) d) h0 (n + 16) (by omega) (by simp [uFour, uByte_n]) q) ⟨Nat.le_of_ble_eq_true rfl, Nat.le_of_ble_eq_true rfl⟩ ⟨rfl, rfl⟩ ⟨Nat.zero_le _, Nat.zero_le _⟩ (Nat.le_of_ble_eq_true rfl) dX6_append_75 ?_
    refine X_aload_n (pc := 78) C 0 dX6_append_78 rfl rfl ?_
    refine G_X6_19 (pc := 79) C (by assumption) dX6_append_79 ?_
    refine G_X6_42 (pc := 82) C (by assumption) dX6_append_82 ?_
    refine G_X6_78 (pc := 85) C (by assumption) dX6_append_85 ?_
    exact X_iret (pc := 88) C (Nat.zero_le _) (Nat.zero_le _) dX6_append_88 (by first | exact ⟨by rw [if_neg (by omega)], by rw [if_neg (by omega)]⟩ | exact ⟨by rw [if_pos g16]; simp [uFour, uByte_n], by rw [if_pos g16]⟩)
  · have g16 := nnle (a := n + 20) (b := 700) h16
    refine X_iconst (pc := 19) (v := (-1)) C dX6_append_19 (by decide) ?_
    exact X_iret (pc := 20) C (Nat.zero_le _) (Nat.zero_le _) dX6_append_20 (by first | exact ⟨by rw [if_neg (by omega)], by rw [if_neg (by omega)]⟩ | exact ⟨by rw [if_pos g16]; simp [uFour, uByte_n], by rw [if_pos g16]⟩)

set_option maxRecDepth 100000 in
set_option maxHeartbeats 4000000 in
theorem E_X6_load {Post : Option Value → XS → Prop} {mc ms : Nat} (C : XC p s m args meth c P A 2 RX6 cX6_load (some .int)) (h0 : xI0 P) (hb : ∀ b, b < 12 → xIn P b) {r : Int32 × XS} {o n : Nat} (hok : ¬ r.1 = 0 → Bd r.2 0 ∧ Hi r.2 o n ∧ xZ r.2 0 ∧ xZ r.2 1) (hp : Post (some (.int (if r.1 = 0 then -1 else r.2.1 (.inl (1, 1)) 6))) (if r.1 = 0 then uShort r.2 else uTake (uShort r.2) o n)) : XW p l e rm_X6_load s m args below meth c P A 2 0 0 (MQ below (XQ P A Post) args s mc ms A) r.2 54 [(0, .ref (P.2.2.1 (.inr 0))), (1, .int r.1)] [] := by
  have hb0 : xIn P 0 := hb 0 (by decide)
  refine X_aload_n (pc := 54) C 0 dX6_load_54 rfl rfl ?_
  refine G_X6_19 (pc := 55) C (by assumption) dX6_load_55 ?_
  refine G_X6_42 (pc := 58) C (by assumption) dX6_load_58 ?_
  refine X_iconst (pc := 61) (v := 0) C dX6_load_61 (by decide) ?_
  refine K_X6_74 (pc := 62) C (by assumption) (c_X3_shorten l P r.2 h0 0) ⟨Nat.le_of_ble_eq_true rfl, Nat.le_of_ble_eq_true rfl⟩ ⟨rfl, rfl⟩ ⟨Nat.zero_le _, Nat.zero_le _⟩ (Nat.le_of_ble_eq_true rfl) dX6_load_62 ?_
  refine X_iload_n (pc := 65) C 1 dX6_load_65 rfl rfl ?_
  refine X_if_ne (pc := 66) C 71 dX6_load_66 (by decide) (fun h66 => ?_) (fun h66 => ?_)
  · obtain ⟨b1, b2, b3, b4⟩ := hok h66
    have g1 : Bd (uShort r.2) 0 := b1.o (by rw [uShort, xu_ne _ _ _ (by simp)]) (by rw [uShort, xu_ne _ _ _ (by simp)]) (by rw [uShort, xu_ne _ _ _ (by simp)])
    have g2 : Hi (uShort r.2) o n := by unfold Hi uShort; rw [xu_ne _ _ _ (by simp)]; exact b2
    have g3 : xZ (uShort r.2) 0 := xZ_o b3 (xu_ne _ _ _ (by simp)) (xu_ne _ _ _ (by simp))
    have g4 : xZ (uShort r.2) 1 := xZ_o b4 (xu_ne _ _ _ (by simp)) (xu_ne _ _ _ (by simp))
    rw [if_neg h66, if_neg h66] at hp
    refine X_aload_n (pc := 71) C 0 dX6_load_71 rfl rfl ?_
    refine K_X6_95 (pc := 72) C (by assumption) (c_X6_takeTrial l P (uShort r.2) h0 hb g1 o n g2 g3 g4) ⟨Nat.le_of_ble_eq_true rfl, Nat.le_of_ble_eq_true rfl⟩ ⟨rfl, rfl⟩ ⟨Nat.zero_le _, Nat.zero_le _⟩ (Nat.le_of_ble_eq_true rfl) dX6_load_72 ?_
    refine X_aload_n (pc := 75) C 0 dX6_load_75 rfl rfl ?_
    refine G_X6_12 (pc := 76) C (by assumption) dX6_load_76 ?_
    refine G_X6_98 (pc := 79) C (by assumption) dX6_load_79 ?_
    refine G_X6_102 (pc := 82) C (by assumption) dX6_load_82 ?_
    exact X_iret (pc := 85) C (Nat.zero_le _) (Nat.zero_le _) dX6_load_85 (by first | exact hp | (rw [show (uTake (uShort r.2) o n).1 (.inl (0, 1)) 6 = r.2.1 (.inl (1, 1)) 6 from by rw [uTake, (uCopyB_1 (k := 3)).1, (uPush_b (Or.inl (by decide))).1, uShort, xu_ne _ _ _ (by simp)]]; exact hp))
  · rw [if_pos h66, if_pos h66] at hp
    refine X_iconst (pc := 69) (v := (-1)) C dX6_load_69 (by decide) ?_
    exact X_iret (pc := 70) C (Nat.zero_le _) (Nat.zero_le _) dX6_load_70 (by first | exact hp | (rw [show (uTake (uShort r.2) o n).1 (.inl (0, 1)) 6 = r.2.1 (.inl (1, 1)) 6 from by rw [uTake, (uCopyB_1 (k := 3)).1, (uPush_b (Or.inl (by decide))).1, uShort, xu_ne _ _ _ (by simp)]]; exact hp))

set_option maxRecDepth 100000 in
set_option maxHeartbeats 4000000 in
theorem c_X6_load (l : Launch) (P : XP) (σ : XS) (h0 : xI0 P) (hb : ∀ b, b < 12 → xIn P b) (hB : Bd σ 0) (o n : Nat) (hH : Hi σ o n) (hz : xZ σ 0) (hz1 : xZ σ 1) (w : Nat) (hx : Tx σ w) : XF l yX6_load cX6_load 2 (some .int) rm_X6_load P [.ref (P.2.2.1 (.inr 0))] σ (some (.int (if (rLoad σ w).1 = 0 then -1 else (rLoad σ w).2.1 (.inl (1, 1)) 6))) (if (rLoad σ w).1 = 0 then uShort (rLoad σ w).2 else uTake (uShort (rLoad σ w).2) o n) := by
  refine XM.of (by decide +kernel) (Nat.le_of_ble_eq_true rfl) (fun p e s m args below meth c A C => ?_)
  replace C : XC p s m args meth c P A 2 RX6 cX6_load (some .int) := C
  refine XW.eq (lv' := [(0, _)]) rfl rfl rfl ?_
  have hb0 : xIn P 0 := hb 0 (by decide)
  have hb1 : xIn P 1 := hb 1 (by decide)
  have hnu := hB.2.1
  have hnc := hB.2.2.2.1
  have hnt := hB.2.2.2.2.2
  refine X_aload_n (pc := 0) C 0 dX6_load_0 rfl rfl ?_
  refine G_X6_19 (pc := 1) C (by assumption) dX6_load_1 ?_
  refine K_X6_54 (pc := 4) C (by assumption) (c_X4_startText l P σ h0 w hx.2.1 hx.1 hx.2.2) ⟨Nat.le_of_ble_eq_true rfl, Nat.le_of_ble_eq_true rfl⟩ ⟨rfl, rfl⟩ ⟨Nat.zero_le _, Nat.zero_le _⟩ (Nat.le_of_ble_eq_true rfl) dX6_load_4 ?_
  refine X_aload_n (pc := 7) C 0 dX6_load_7 rfl rfl ?_
  refine G_X6_19 (pc := 8) C (by assumption) dX6_load_8 ?_
  refine K_X6_57 (pc := 11) C (by assumption) (c_X4_readBoard l P (uText σ w) h0 hb1 w 0 (At_text hx)) ⟨Nat.le_of_ble_eq_true rfl, Nat.le_of_ble_eq_true rfl⟩ ⟨rfl, rfl⟩ ⟨Nat.zero_le _, Nat.zero_le _⟩ (Nat.le_of_ble_eq_true rfl) dX6_load_11 ?_
  obtain ⟨r1, e1⟩ : ∃ r1 : RR, r1 = rBrd (uText σ w) w 0 := ⟨_, rfl⟩
  have ok1 : rOkS w 0 0 r1 := e1 ▸ rBrd_ok (At_text hx)
  have f1 : Fr 1 σ r1.2.1 := e1 ▸ uText_fr.trans rBrd_fr
  rw [← e1]
  refine X_if_eq (pc := 14) C 52 dX6_load_14 (by decide) (fun h14 => ?_) (fun h14 => ?_)
  · skip
    refine X_iconst (pc := 52) (v := 0) C dX6_load_52 (by decide) ?_
    refine X_istore_n (pc := 53) (lv1 := [(0, _), (1, _)]) C 1 dX6_load_53 rfl (by decide) rfl ?_
    exact E_X6_load C h0 hb (r := (0, r1.2.1)) (o := o) (n := n) (fun h => absurd rfl h) (by have e : rLoad σ w = (0, r1.2.1) := (by unfold rLoad; rw [← e1, thn, if_pos h14]); rw [e]; exact ⟨rfl, rfl⟩)
  · skip
    refine X_aload_n (pc := 17) C 0 dX6_load_17 rfl rfl ?_
    refine G_X6_19 (pc := 18) C (by assumption) dX6_load_18 ?_
    refine K_X6_61 (pc := 21) C (by assumption) (c_X4_readTrunks l P r1.2.1 h0 hb1 w r1.2.2 (ok1.2 h14).1 (ok1.2 h14).2.1 0 (ok1.2 h14).2.2) ⟨Nat.le_of_ble_eq_true rfl, Nat.le_of_ble_eq_true rfl⟩ ⟨rfl, rfl⟩ ⟨Nat.zero_le _, Nat.zero_le _⟩ (Nat.le_of_ble_eq_true rfl) dX6_load_21 ?_
    obtain ⟨r2, e2⟩ : ∃ r2 : RR, r2 = rTols w 5 r1.2.1 r1.2.2 0 := ⟨_, rfl⟩
    have ok2 : ¬ r2.1 = 0 → At r2.2.1 w r2.2.2 ∧ Bd r2.2.1 1 ∧ nuN r2.2.1 1 = 0 := e2 ▸ rTols_ok 5 0 _ _ rfl (ok1.2 h14).1 (ok1.2 h14).2.1 (ok1.2 h14).2.2.1 (ok1.2 h14).2.2.2
    have f2 : Fr 1 σ r2.2.1 := e2 ▸ f1.trans (rTols_fr 5 _ _ _)
    rw [← e2]
    refine X_if_eq (pc := 24) C 52 dX6_load_24 (by decide) (fun h24 => ?_) (fun h24 => ?_)
    · skip
      refine X_iconst (pc := 52) (v := 0) C dX6_load_52 (by decide) ?_
      refine X_istore_n (pc := 53) (lv1 := [(0, _), (1, _)]) C 1 dX6_load_53 rfl (by decide) rfl ?_
      exact E_X6_load C h0 hb (r := (0, r2.2.1)) (o := o) (n := n) (fun h => absurd rfl h) (by have e : rLoad σ w = (0, r2.2.1) := (by unfold rLoad; rw [← e1, thn, if_neg h14, ← e2, thn, if_pos h24]); rw [e]; exact ⟨rfl, rfl⟩)
    · skip
      refine X_aload_n (pc := 27) C 0 dX6_load_27 rfl rfl ?_
      refine G_X6_19 (pc := 28) C (by assumption) dX6_load_28 ?_
      refine K_X6_64 (pc := 31) C (by assumption) (c_X4_readSubscribers l P r2.2.1 h0 hb1 w r2.2.2 (ok2 h24).1 (ok2 h24).2.1 (ntN r2.2.1 1) ⟨(ok2 h24).2.2, rfl⟩) ⟨Nat.le_of_ble_eq_true rfl, Nat.le_of_ble_eq_true rfl⟩ ⟨rfl, rfl⟩ ⟨Nat.zero_le _, Nat.zero_le _⟩ (Nat.le_of_ble_eq_true rfl) dX6_load_31 ?_
      obtain ⟨r3, e3⟩ : ∃ r3 : RR, r3 = rUsers r2.2.1 w r2.2.2 := ⟨_, rfl⟩
      have ok3 : ¬ r3.1 = 0 → At r3.2.1 w r3.2.2 ∧ Bd r3.2.1 1 := e3 ▸ rUsers_ok (ok2 h24).1 (ok2 h24).2.1 (ok2 h24).2.2
      have f3 : Fr 1 σ r3.2.1 := e3 ▸ f2.trans rUsers_fr
      rw [← e3]
      refine X_if_eq (pc := 34) C 52 dX6_load_34 (by decide) (fun h34 => ?_) (fun h34 => ?_)
      · skip
        refine X_iconst (pc := 52) (v := 0) C dX6_load_52 (by decide) ?_
        refine X_istore_n (pc := 53) (lv1 := [(0, _), (1, _)]) C 1 dX6_load_53 rfl (by decide) rfl ?_
        exact E_X6_load C h0 hb (r := (0, r3.2.1)) (o := o) (n := n) (fun h => absurd rfl h) (by have e : rLoad σ w = (0, r3.2.1) := (by unfold rLoad; rw [← e1, thn, if_neg h14, ← e2, thn, if_neg h24, ← e3, thn, if_pos h34]); rw [e]; exact ⟨rfl, rfl⟩)
      · skip
        refine X_aload_n (pc := 37) C 0 dX6_load_37 rfl rfl ?_
        refine G_X6_19 (pc := 38) C (by assumption) dX6_load_38 ?_
        refine K_X6_91 (pc := 41) C (by assumption) (c_X4_readCommands l P r3.2.1 h0 hb1 w r3.2.2 (ok3 h34).1 (ok3 h34).2) ⟨Nat.le_of_ble_eq_true rfl, Nat.le_of_ble_eq_true rfl⟩ ⟨rfl, rfl⟩ ⟨Nat.zero_le _, Nat.zero_le _⟩ (Nat.le_of_ble_eq_true rfl) dX6_load_41 ?_
        obtain ⟨r4, e4⟩ : ∃ r4 : Int32 × XS, r4 = rCmds w 700 r3.2.1 r3.2.2 0 := ⟨_, rfl⟩
        have f4 : Fr 1 σ r4.2 := e4 ▸ f3.trans (rCmds_fr 700 _ _ _)
        rw [← e4]
        refine X_iconst (pc := 44) (v := (-1)) C dX6_load_44 (by decide) ?_
        refine X_icmp_eq (pc := 45) C 52 dX6_load_45 (by decide) (fun h45 => ?_) (fun h45 => ?_)
        · skip
          refine X_iconst (pc := 52) (v := 0) C dX6_load_52 (by decide) ?_
          refine X_istore_n (pc := 53) (lv1 := [(0, _), (1, _)]) C 1 dX6_load_53 rfl (by decide) rfl ?_
          exact E_X6_load C h0 hb (r := (0, r4.2)) (o := o) (n := n) (fun h => absurd rfl h) (by have e : rLoad σ w = (0, r4.2) := (by unfold rLoad; rw [← e1, thn, if_neg h14, ← e2, thn, if_neg h24, ← e3, thn, if_neg h34, ← e4, if_pos h45]); rw [e]; exact ⟨rfl, rfl⟩)
        · skip
          refine X_iconst (pc := 48) (v := 1) C dX6_load_48 (by decide) ?_
          refine X_goto (pc := 49) C 53 dX6_load_49 (by decide) ?_
          refine X_istore_n (pc := 53) (lv1 := [(0, _), (1, _)]) C 1 dX6_load_53 rfl (by decide) rfl ?_
          exact E_X6_load C h0 hb (r := (1, r4.2)) (o := o) (n := n) (fun _ => ⟨f4.bd (by decide) hB, f4.hi hH, f4.z (by decide) hz, f4.2.2 hz1⟩) (by have e : rLoad σ w = (1, r4.2) := (by unfold rLoad; rw [← e1, thn, if_neg h14, ← e2, thn, if_neg h24, ← e3, thn, if_neg h34, ← e4, if_neg h45]); rw [e]; exact ⟨rfl, rfl⟩)

end XP23

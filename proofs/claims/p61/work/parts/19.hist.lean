/-! HISTORY; and a method that throws -/
theorem m8 : ∀ k : Nat, k < 18 → nI k - nI k / 8 * 8 = nI (k % 8) := by decide +kernel
def uPush (σ : XS) (o n : Nat) : XS :=
  if n < 8 then xu (uCopyB σ (2 + (o + n) % 8) 0) (.inr 4) 2 (nI (n + 1)) else xu (uCopyB σ (2 + (o + n) % 8) 0) (.inr 4) 1 (nI ((o + 1) % 8))
def uPop (σ : XS) (o n : Nat) : XS := uCopyB (xu σ (.inr 4) 2 (nI (n - 1))) 0 (2 + (o + (n - 1)) % 8)
theorem xZ_o {σ τ : XS} {b : Nat} (h : xZ σ b) (h1 : τ.1 (.inl (b, 13)) = σ.1 (.inl (b, 13))) (h2 : τ.1 (.inl (b, 15)) = σ.1 (.inl (b, 15))) : xZ τ b := fun k hk => by rw [h1, h2]; exact h k hk
section XP19
variable {p : Program} {l : Launch} {e : Env} {R : Room} {s : State} {m : MethodId} {args : Array Value} {below : List Frame} {meth : Method} {c : Code} {P : XP} {A : Nat → Prop} {nL cells slots : Nat} {Q : State → Prop} {cc : ByteArray} {ret : Option FieldType} {σ : XS} {pc : Nat} {lv : List (Nat × Value)} {st : List Value}
set_option maxRecDepth 100000 in
set_option maxHeartbeats 4000000 in
theorem c_X2_push (l : Launch) (P : XP) (σ : XS) (h0 : xI0 P) (hb : ∀ b, b < 12 → xIn P b) (o n : Nat) (ho : o < 8) (hn : n ≤ 8) (h1 : σ.1 (.inr 4) 1 = nI o) (h2 : σ.1 (.inr 4) 2 = nI n) (hz : xZ σ 0) : XF l yX2_push cX2_push 2 none rm_X2_push P [.ref (P.2.2.1 (.inr 4)), .ref (P.2.2.1 (.inl (0, 0)))] σ (none) (uPush σ o n) := by
  refine XM.of (by decide +kernel) (Nat.le_of_ble_eq_true rfl) (fun p e s m args below meth c A C => ?_)
  replace C : XC p s m args meth c P A 2 RX2 cX2_push none := C
  refine XW.eq (lv' := [(0, _), (1, _)]) rfl rfl rfl ?_
  have hbx : xIn P (2 + (o + n) % 8) := hb _ (by omega)
  have hc1 : (uCopyB σ (2 + (o + n) % 8) 0).1 (.inr 4) 1 = nI o := by rw [uCopyB_o]; exact h1
  have hc2 : (uCopyB σ (2 + (o + n) % 8) 0).1 (.inr 4) 2 = nI n := by rw [uCopyB_o]; exact h2
  refine X_aload_n (pc := 0) C 0 dX2_push_0 rfl rfl ?_
  refine G_X2_11 (pc := 1) C (by assumption) dX2_push_1 ?_
  refine X_aload_n (pc := 4) C 0 dX2_push_4 rfl rfl ?_
  refine G_X2_18 (pc := 5) C (by assumption) dX2_push_5 ?_
  rw [h1]
  refine X_aload_n (pc := 8) C 0 dX2_push_8 rfl rfl ?_
  refine G_X2_22 (pc := 9) C (by assumption) dX2_push_9 ?_
  rw [h2]
  refine X_iadd (pc := 12) C dX2_push_12 ?_
  rw [nI_add]
  refine X_bipush (pc := 13) (v := 8) C dX2_push_13 (by decide) ?_
  refine X_irem (pc := 15) C dX2_push_15 (by decide) ?_
  rw [m8 (o + n) (by omega)]
  refine X_aaldN (pc := 16) C (by first | exact h0 _ (by decide)) rfl (by omega) (by decide) dX2_push_16 ?_
  refine XW.eq (st' := .ref (P.2.2.1 (.inl (2 + (o + n) % 8, 0))) :: []) rfl rfl rfl ?_
  refine X_aload_n (pc := 17) C 1 dX2_push_17 rfl rfl ?_
  refine K_X2_25 (pc := 18) C (by assumption) (c_X0_copyFrom l P σ (2 + (o + n) % 8) 0 (hb _ (by omega)) (hb 0 (by decide)) hz) ⟨Nat.le_of_ble_eq_true rfl, Nat.le_of_ble_eq_true rfl⟩ ⟨rfl, rfl⟩ ⟨Nat.zero_le _, Nat.zero_le _⟩ (Nat.le_of_ble_eq_true rfl) dX2_push_18 ?_
  refine X_aload_n (pc := 21) C 0 dX2_push_21 rfl rfl ?_
  refine G_X2_22 (pc := 22) C (by assumption) dX2_push_22 ?_
  rw [hc2]
  refine X_bipush (pc := 25) (v := 8) C dX2_push_25 (by decide) ?_
  refine X_icmp_ge (pc := 27) C 43 dX2_push_27 (by decide) (fun h27 => ?_) (fun h27 => ?_)
  · have g27 := nle (a := 8) (b := n) h27
    refine X_aload_n (pc := 43) C 0 dX2_push_43 rfl rfl ?_
    refine X_aload_n (pc := 44) C 0 dX2_push_44 rfl rfl ?_
    refine G_X2_18 (pc := 45) C (by assumption) dX2_push_45 ?_
    rw [hc1]
    refine X_iconst (pc := 48) (v := 1) C dX2_push_48 (by decide) ?_
    refine X_iadd (pc := 49) C dX2_push_49 ?_
    rw [nI_1]
    refine X_bipush (pc := 50) (v := 8) C dX2_push_50 (by decide) ?_
    refine X_irem (pc := 52) C dX2_push_52 (by decide) ?_
    rw [m8 (o + 1) (by omega)]
    refine U_X2_18 (pc := 53) C (by assumption) dX2_push_53 ?_
    exact X_vret (pc := 56) C (Nat.zero_le _) (Nat.zero_le _) dX2_push_56 (by first | exact ⟨rfl, by rw [uPush, if_pos g27]⟩ | exact ⟨rfl, by rw [uPush, if_neg (by omega)]⟩)
  · have g27 := nnle (a := 8) (b := n) h27
    refine X_aload_n (pc := 30) C 0 dX2_push_30 rfl rfl ?_
    refine X_dup (pc := 31) C dX2_push_31 rfl ?_
    refine G_X2_22 (pc := 32) C (by assumption) dX2_push_32 ?_
    rw [hc2]
    refine X_iconst (pc := 35) (v := 1) C dX2_push_35 (by decide) ?_
    refine X_iadd (pc := 36) C dX2_push_36 ?_
    rw [nI_1]
    refine U_X2_22 (pc := 37) C (by assumption) dX2_push_37 ?_
    refine X_goto (pc := 40) C 56 dX2_push_40 (by decide) ?_
    exact X_vret (pc := 56) C (Nat.zero_le _) (Nat.zero_le _) dX2_push_56 (by first | exact ⟨rfl, by rw [uPush, if_pos g27]⟩ | exact ⟨rfl, by rw [uPush, if_neg (by omega)]⟩)

set_option maxRecDepth 100000 in
set_option maxHeartbeats 4000000 in
theorem c_X2_popInto (l : Launch) (P : XP) (σ : XS) (h0 : xI0 P) (hb : ∀ b, b < 12 → xIn P b) (o n : Nat) (ho : o < 8) (hn : n ≤ 8) (h1 : σ.1 (.inr 4) 1 = nI o) (h2 : σ.1 (.inr 4) 2 = nI n) (hp0 : 0 < n) (hz : ∀ b, b < 12 → xZ σ b) : XF l yX2_popInto cX2_popInto 2 none rm_X2_popInto P [.ref (P.2.2.1 (.inr 4)), .ref (P.2.2.1 (.inl (0, 0)))] σ (none) (uPop σ o n) := by
  refine XM.of (by decide +kernel) (Nat.le_of_ble_eq_true rfl) (fun p e s m args below meth c A C => ?_)
  replace C : XC p s m args meth c P A 2 RX2 cX2_popInto none := C
  refine XW.eq (lv' := [(0, _), (1, _)]) rfl rfl rfl ?_
  have hbx : xIn P 0 := hb 0 (by decide)
  refine X_aload_n (pc := 0) C 0 dX2_popInto_0 rfl rfl ?_
  refine G_X2_22 (pc := 1) C (by assumption) dX2_popInto_1 ?_
  rw [h2]
  refine X_if_le (pc := 4) C 38 dX2_popInto_4 (by decide) (fun h4 => ?_) (fun h4 => ?_)
  · exact absurd (nle (a := n) (b := 0) h4) (by omega)
  · skip
    refine X_aload_n (pc := 7) C 0 dX2_popInto_7 rfl rfl ?_
    refine X_dup (pc := 8) C dX2_popInto_8 rfl ?_
    refine G_X2_22 (pc := 9) C (by assumption) dX2_popInto_9 ?_
    rw [h2]
    refine X_iconst (pc := 12) (v := 1) C dX2_popInto_12 (by decide) ?_
    refine X_isub (pc := 13) C dX2_popInto_13 ?_
    rw [show nI n - 1 = nI (n - 1) from by rw [← nI_pred (n - 1), Nat.sub_add_cancel hp0]]
    refine U_X2_22 (pc := 14) C (by assumption) dX2_popInto_14 ?_
    refine X_aload_n (pc := 17) C 1 dX2_popInto_17 rfl rfl ?_
    refine X_aload_n (pc := 18) C 0 dX2_popInto_18 rfl rfl ?_
    refine G_X2_11 (pc := 19) C (by assumption) dX2_popInto_19 ?_
    refine X_aload_n (pc := 22) C 0 dX2_popInto_22 rfl rfl ?_
    refine G_X2_18 (pc := 23) C (by assumption) dX2_popInto_23 ?_
    rw [show (xu σ (.inr 4) 2 (nI (n - 1))).1 (.inr 4) 1 = nI o from by rw [xu_nk _ _ _ (by decide)]; exact h1]
    refine X_aload_n (pc := 26) C 0 dX2_popInto_26 rfl rfl ?_
    refine G_X2_22 (pc := 27) C (by assumption) dX2_popInto_27 ?_
    rw [xu_self]
    refine X_iadd (pc := 30) C dX2_popInto_30 ?_
    rw [nI_add]
    refine X_bipush (pc := 31) (v := 8) C dX2_popInto_31 (by decide) ?_
    refine X_irem (pc := 33) C dX2_popInto_33 (by decide) ?_
    rw [m8 (o + (n - 1)) (by omega)]
    refine X_aaldN (pc := 34) C (by first | exact h0 _ (by decide)) rfl (by omega) (by decide) dX2_popInto_34 ?_
    refine XW.eq (st' := .ref (P.2.2.1 (.inl (2 + (o + (n - 1)) % 8, 0))) :: .ref (P.2.2.1 (.inl (0, 0))) :: []) rfl rfl rfl ?_
    refine K_X2_25 (pc := 35) C (by assumption) (c_X0_copyFrom l P (xu σ (.inr 4) 2 (nI (n - 1))) 0 (2 + (o + (n - 1)) % 8) (hb 0 (by decide)) (hb _ (by omega)) (xZ_o (hz _ (by omega)) (xu_ne _ _ _ (by simp)) (xu_ne _ _ _ (by simp)))) ⟨Nat.le_of_ble_eq_true rfl, Nat.le_of_ble_eq_true rfl⟩ ⟨rfl, rfl⟩ ⟨Nat.zero_le _, Nat.zero_le _⟩ (Nat.le_of_ble_eq_true rfl) dX2_popInto_35 ?_
    exact X_vret (pc := 38) C (Nat.zero_le _) (Nat.zero_le _) dX2_popInto_38 ⟨rfl, rfl⟩

end XP19

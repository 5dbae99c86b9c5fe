/-! how many bits fifteen can have -/
def pcT (a b : Nat) : Bool := decide (xbc (nI (256 * a + b)) ≤ 14) || (256 * a + b == 32767)
set_option maxRecDepth 100000 in
theorem pc_t : ∀ a, a < 128 → ∀ b, b < 256 → pcT a b = true := by decide +kernel
theorem pc_le {m : Nat} (h : m < 32768) (h2 : m ≠ 32767) : xbc (nI m) ≤ 14 := by
  have := pc_t (m / 256) (by omega) (m % 256) (Nat.mod_lt _ (by decide))
  unfold pcT at this
  rw [show 256 * (m / 256) + m % 256 = m by omega, Bool.or_eq_true, decide_eq_true_iff, beq_iff_eq] at this
  exact this.resolve_right h2
/-- sets of the first n places as numbers -/
theorem bt_nI {m i : Nat} : bt (nI m) i = (decide (i < 32) && m.testBit i) := by
  unfold bt nI
  show (BitVec.ofNat 32 m).getLsbD i = _
  rw [BitVec.getLsbD_ofNat]
theorem set_num {x : Int32} (h : ∀ i, i < 32 → bt x i = true → i < 15) : ∃ m, m < 32768 ∧ x = nI m := by
  refine ⟨x.toBitVec.toNat, ?_, ?_⟩
  · refine Nat.lt_pow_two_of_testBit (n := 15) _ (fun i hi => ?_)
    by_cases g : i < 32
    · have : bt x i = false := by
        cases hb : bt x i with
        | false => rfl
        | true => exact absurd (h i g hb) (by omega)
      exact this
    · exact Nat.testBit_lt_two_pow (Nat.lt_of_lt_of_le x.toBitVec.isLt (Nat.pow_le_pow_right (by decide) (by omega)))
  · refine Int32.toBitVec_inj.mp ?_
    show _ = BitVec.ofNat 32 _
    simp
theorem pop_le {x : Int32} {j : Nat} (hj : j < 15) (h : ∀ i, i < 32 → bt x i = true → i < 15) (h2 : ¬ bt x j = true) : xbc x ≤ 14 := by
  obtain ⟨m, hm, rfl⟩ := set_num h
  refine pc_le hm (fun q => h2 ?_)
  rw [q, bt_nI]
  have : ∀ j, j < 15 → (decide (j < 32) && Nat.testBit 32767 j) = true := by decide
  exact this j hj
theorem xbc_0 (x : Int32) : 0 ≤ xbc x := by
  obtain ⟨j, hj, e⟩ := xbc_in x
  rw [e]
  exact nI_pos' (n31 (by omega))

/-! BOTH SIDES: changes keep the relation -/
section CHG
variable {σ τ : XS} {S F : Nat → Int32} {o ch n w : Nat} {x y u : Int32}
theorem and255 (v : Int32) : ¬ v &&& 255 = -1 := fun q => by
  have h1 : bt (v &&& 255) 31 = true := by rw [q]; exact b_m1 31 (by decide)
  rw [b_and, Bool.and_eq_true] at h1
  exact absurd h1.2 (by decide +kernel)
theorem uFour_at {v : Int32} {i m : Nat} : (uFour σ m v).1 (.inr 3) i = if i = m + 3 then v &&& 255 else if i = m + 2 then v >>> ((8 : Int32) &&& 31) &&& 255 else if i = m + 1 then v >>> ((16 : Int32) &&& 31) &&& 255 else if i = m then v >>> ((24 : Int32) &&& 31) &&& 255 else σ.1 (.inr 3) i := by
  unfold uFour uByte
  simp only [xu_ap, Sum.inr.injEq, true_and]
  simp
theorem sh0 (v : Int32) : v >>> ((0 : Int32) &&& 31) = v := by
  refine b_ext (fun i hi => ?_)
  have := b_sshr 0 (by decide) v hi
  rw [show nI 0 = (0 : Int32) from rfl] at this
  rw [this, if_pos (by omega), Nat.zero_add]
theorem uFour_o {v : Int32} {m : Nat} {i : XI} (h2 : i ≠ .inr 2) (h3 : i ≠ .inr 3) : (uFour σ m v).1 i = σ.1 i := by
  unfold uFour uByte
  rw [xu_ne _ _ _ h2, xu_ne _ _ _ h3, xu_ne _ _ _ h2, xu_ne _ _ _ h3, xu_ne _ _ _ h2, xu_ne _ _ _ h3, xu_ne _ _ _ h2, xu_ne _ _ _ h3]
end CHG

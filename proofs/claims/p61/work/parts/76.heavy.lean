/-! shares -/
abbrev shr (n a : Nat) : UInt32 := FP.fdiv (FP.i2f (nI a)) (FP.i2f (nI n * nI n))
def shT (n a : Nat) : Bool := decide (shr n a &&& 0x7fffffff ≤ 0x7f800000) && decide (Op.cmpValue (FP.fcmp (shr n a) (shr n a)) .l = 0)
set_option maxRecDepth 100000 in
theorem sh_t : ∀ n, n < 15 → ∀ a, a < 226 → shT (n + 1) a = true := by decide +kernel
def onT (a b : Nat) : Bool := decide (xbc (nI (256 * a + b)) = nI (bC (fun i => (256 * a + b).testBit i) 15))
set_option maxRecDepth 100000 in
theorem on_t0 : ∀ a, a < 8 → ∀ b, b < 256 → onT (0 + a) b = true := by decide +kernel
set_option maxRecDepth 100000 in
theorem on_t1 : ∀ a, a < 8 → ∀ b, b < 256 → onT (8 + a) b = true := by decide +kernel
set_option maxRecDepth 100000 in
theorem on_t2 : ∀ a, a < 8 → ∀ b, b < 256 → onT (16 + a) b = true := by decide +kernel
set_option maxRecDepth 100000 in
theorem on_t3 : ∀ a, a < 8 → ∀ b, b < 256 → onT (24 + a) b = true := by decide +kernel
set_option maxRecDepth 100000 in
theorem on_t4 : ∀ a, a < 8 → ∀ b, b < 256 → onT (32 + a) b = true := by decide +kernel
set_option maxRecDepth 100000 in
theorem on_t5 : ∀ a, a < 8 → ∀ b, b < 256 → onT (40 + a) b = true := by decide +kernel
set_option maxRecDepth 100000 in
theorem on_t6 : ∀ a, a < 8 → ∀ b, b < 256 → onT (48 + a) b = true := by decide +kernel
set_option maxRecDepth 100000 in
theorem on_t7 : ∀ a, a < 8 → ∀ b, b < 256 → onT (56 + a) b = true := by decide +kernel
set_option maxRecDepth 100000 in
theorem on_t8 : ∀ a, a < 8 → ∀ b, b < 256 → onT (64 + a) b = true := by decide +kernel
set_option maxRecDepth 100000 in
theorem on_t9 : ∀ a, a < 8 → ∀ b, b < 256 → onT (72 + a) b = true := by decide +kernel
set_option maxRecDepth 100000 in
theorem on_t10 : ∀ a, a < 8 → ∀ b, b < 256 → onT (80 + a) b = true := by decide +kernel
set_option maxRecDepth 100000 in
theorem on_t11 : ∀ a, a < 8 → ∀ b, b < 256 → onT (88 + a) b = true := by decide +kernel
set_option maxRecDepth 100000 in
theorem on_t12 : ∀ a, a < 8 → ∀ b, b < 256 → onT (96 + a) b = true := by decide +kernel
set_option maxRecDepth 100000 in
theorem on_t13 : ∀ a, a < 8 → ∀ b, b < 256 → onT (104 + a) b = true := by decide +kernel
set_option maxRecDepth 100000 in
theorem on_t14 : ∀ a, a < 8 → ∀ b, b < 256 → onT (112 + a) b = true := by decide +kernel
set_option maxRecDepth 100000 in
theorem on_t15 : ∀ a, a < 8 → ∀ b, b < 256 → onT (120 + a) b = true := by decide +kernel

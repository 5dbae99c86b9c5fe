/-! BOTH SIDES: what holds between calls -/
def RG (σ : XS) (b : Nat) (S : Nat → Int32) : Prop := RB σ b S ∧ 1 ≤ mU S
theorem RG.fr {σ τ : XS} {b : Nat} {S : Nat → Int32} (h : RG σ b S) (h1 : ∀ k, τ.1 (.inl (b, k)) = σ.1 (.inl (b, k))) (h2 : τ.2 (.inl (b, 2)) = σ.2 (.inl (b, 2))) : RG τ b S := ⟨h.1.fr h1 h2, h.2⟩
theorem RG.cgS {σ : XS} {b : Nat} {S S1 : Nat → Int32} (h : RG σ b S) (e : ∀ k, k < 550 → S1 k = S k) : RG σ b S1 := ⟨h.1.cgS e, by rw [mU, e 4 (by decide)]; exact h.2⟩
theorem RG.copy {σ : XS} {b f : Nat} {S : Nat → Int32} (h : RG σ f S) (hf : f ≠ b) : RG (uCopyB σ b f) b S := ⟨h.1.copy hf, h.2⟩
theorem cpy_in {α : Type} {f g : Nat → α} {sp dp n k : Nat} (h : k < n) : va_cpy f g sp dp n (dp + k) = f (sp + k) := by
  unfold va_cpy
  rw [if_pos ⟨by omega, by omega⟩]
  congr 1
  omega
theorem cpy_out {α : Type} {f g : Nat → α} {sp dp n k : Nat} (h : k < dp ∨ dp + n ≤ k) : va_cpy f g sp dp n k = g k := by
  unfold va_cpy
  exact if_neg (by omega)
/-- from σ to τ only board b changes; booleans stay booleans -/
def FS (b : Nat) (σ τ : XS) : Prop := (∀ i : XI, (∀ k, i ≠ .inl (b, k)) → τ.1 i = σ.1 i) ∧ (∀ i : XI, (∀ k, i ≠ .inl (b, k)) → τ.2 i = σ.2 i) ∧ (xZ σ b → xZ τ b)
theorem FS.of {b : Nat} {σ τ : XS} (h : Fr b σ τ) (h1 : τ.1 (.inr 1) = σ.1 (.inr 1)) (h2 : τ.1 (.inr 2) = σ.1 (.inr 2)) : FS b σ τ := ⟨fun i hi => by
  by_cases g1 : i = .inr 1
  · rw [g1, h1]
  · by_cases g2 : i = .inr 2
    · rw [g2, h2]
    · exact h.1 i hi g1 g2, h.2.1, h.2.2⟩
theorem FS.inr {b : Nat} {σ τ : XS} (h : FS b σ τ) (k : Nat) : τ.1 (.inr k) = σ.1 (.inr k) := h.1 _ (by simp)
theorem FS.inl {b c : Nat} {σ τ : XS} (h : FS b σ τ) (hc : c ≠ b) (k : Nat) : τ.1 (.inl (c, k)) = σ.1 (.inl (c, k)) := h.1 _ (fun j => inl_ne hc)
theorem FS.g {b c : Nat} {σ τ : XS} {S : Nat → Int32} (h : FS b σ τ) (hc : c ≠ b) (hg : RG σ c S) : RG τ c S := hg.fr (fun k => h.inl hc k) (h.2.1 _ (fun j => inl_ne hc))
theorem FS.z {b c : Nat} {σ τ : XS} (h : FS b σ τ) (hz : xZ σ c) : xZ τ c := by
  by_cases g : c = b
  · subst g; exact h.2.2 hz
  · exact xZ_o hz (h.inl g 13) (h.inl g 15)
theorem FS.rfl_ {b : Nat} {σ : XS} : FS b σ σ := ⟨fun _ _ => rfl, fun _ _ => rfl, fun h => h⟩
theorem FS.tr {b : Nat} {σ τ υ : XS} (h : FS b σ τ) (k : FS b τ υ) : FS b σ υ := ⟨fun i a => (k.1 i a).trans (h.1 i a), fun i a => (k.2.1 i a).trans (h.2.1 i a), fun z => k.2.2 (h.2.2 z)⟩
theorem FS.xu {b : Nat} {σ : XS} {k j : Nat} {v : Int32} (h13 : k ≠ 13) (h15 : k ≠ 15) : FS b σ (xu σ (.inl (b, k)) j v) := FS.of (Fr.xu h13 h15) (xu_ne _ _ _ (by simp)) (xu_ne _ _ _ (by simp))
theorem FS.copy {b f : Nat} {σ : XS} (hf : f ≠ b) (hz : xZ σ f) : FS b σ (uCopyB σ b f) := ⟨fun i h => (uCopyB_ne h).1, fun i h => (uCopyB_ne h).2, fun _ k hk => by
  rw [(uCopyB_c hf).1 13 k (by omega) (by omega) hk, (uCopyB_c hf).1 15 k (by omega) (by omega) hk]
  exact hz k hk⟩
/-! the parts of the relation -/
section RVS
variable {σ τ : XS} {S F : Nat → Int32} {o ch n w : Nat}
/-- a change is remembered -/
def oNx (o ch : Nat) : Nat := if ch < 8 then o else (o + 1) % 8
theorem uPush_4 (h8 : ch ≤ 8) (h4 : σ.1 (.inr 4) 1 = nI o ∧ σ.1 (.inr 4) 2 = nI ch) : (uPush σ o ch).1 (.inr 4) 1 = nI (oNx o ch) ∧ (uPush σ o ch).1 (.inr 4) 2 = nI (mNx ch) := by
  have e : (uCopyB σ (2 + (o + ch) % 8) 0).1 (.inr 4) = σ.1 (.inr 4) := (uCopyB_ne (fun k => by simp)).1
  unfold uPush oNx mNx
  by_cases g : ch < 8
  · rw [if_pos g, if_pos g, if_neg (by omega)]
    simp only [xu_ap, true_and]
    simp [e, h4.1]
  · obtain rfl : ch = 8 := by omega
    rw [if_neg g, if_neg g, if_pos rfl]
    generalize 2 + (o + 8) % 8 = q at e ⊢
    simp only [xu_ap, true_and]
    simp [e, h4.2]
end RVS

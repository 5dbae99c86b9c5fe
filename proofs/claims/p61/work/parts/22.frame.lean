/-! THE FACE: changes. First what reading and copying leave alone -/
theorem uCopyB_ne {σ : XS} {b f : Nat} {i : XI} (h : ∀ k, i ≠ .inl (b, k)) : (uCopyB σ b f).1 i = σ.1 i ∧ (uCopyB σ b f).2 i = σ.2 i := by
  constructor
  · simp [uCopyB, uCopyC, uCopyK, uCopyS, xu_ne, xA_ne, xL_i, h]
  · simp [uCopyB, uCopyC, uCopyK, uCopyS, xu_l, xA_l, xL_ne, h]
theorem inl_ne {a b j k : Nat} (h : a ≠ b) : (Sum.inl (a, j) : XI) ≠ .inl (b, k) := fun q => h (by cases q; rfl)
theorem uPush_ne {σ : XS} {o n : Nat} {i : XI} (h : ∀ k, i ≠ .inl (2 + (o + n) % 8, k)) (h4 : i ≠ .inr 4) : (uPush σ o n).1 i = σ.1 i ∧ (uPush σ o n).2 i = σ.2 i := by
  unfold uPush
  split
  · rw [xu_ne _ _ _ h4, xu_l]; exact uCopyB_ne h
  · rw [xu_ne _ _ _ h4, xu_l]; exact uCopyB_ne h
theorem uPush_b {σ : XS} {o n b k : Nat} (h : b < 2 ∨ 10 ≤ b) : (uPush σ o n).1 (.inl (b, k)) = σ.1 (.inl (b, k)) ∧ (uPush σ o n).2 (.inl (b, k)) = σ.2 (.inl (b, k)) := uPush_ne (fun j => inl_ne (by omega)) (by simp)
theorem Bd.push {σ : XS} {o n b : Nat} (h : Bd σ b) (hb : b < 2 ∨ 10 ≤ b) : Bd (uPush σ o n) b := h.o (by rw [(uPush_b hb).1]) (by rw [(uPush_b hb).1]) (by rw [(uPush_b hb).1])
theorem nu_push {σ : XS} {o n b : Nat} (hb : b < 2 ∨ 10 ≤ b) : nuN (uPush σ o n) b = nuN σ b ∧ ncN (uPush σ o n) b = ncN σ b ∧ ntN (uPush σ o n) b = ntN σ b := by
  unfold nuN ncN ntN
  rw [(uPush_b hb).1, (uPush_b hb).1, (uPush_b hb).1]
  exact ⟨rfl, rfl, rfl⟩
/-- from σ to τ only board b, the reader's error and the token change; booleans stay booleans -/
def Fr (b : Nat) (σ τ : XS) : Prop := (∀ i : XI, (∀ k, i ≠ .inl (b, k)) → i ≠ .inr 1 → i ≠ .inr 2 → τ.1 i = σ.1 i) ∧ (∀ i : XI, (∀ k, i ≠ .inl (b, k)) → τ.2 i = σ.2 i) ∧ (xZ σ b → xZ τ b)
theorem Fr.rfl {b : Nat} {σ : XS} : Fr b σ σ := ⟨fun _ _ _ _ => _root_.rfl, fun _ _ => _root_.rfl, fun h => h⟩
theorem Fr.trans {b : Nat} {σ τ υ : XS} (h : Fr b σ τ) (h2 : Fr b τ υ) : Fr b σ υ := ⟨fun i a1 a2 a3 => (h2.1 i a1 a2 a3).trans (h.1 i a1 a2 a3), fun i a => (h2.2.1 i a).trans (h.2.1 i a), fun z => h2.2.2 (h.2.2 z)⟩
theorem Fr.fA {b : Nat} {σ : XS} {n p : Nat} : Fr b σ (fA σ n p) := ⟨fun i _ _ h => fA_o _ _ _ h, fun i _ => by rw [fA_l], fun z => xZ_o z (fA_o _ _ _ (by simp)) (fA_o _ _ _ (by simp))⟩
theorem Fr.fF {b : Nat} {σ : XS} {n p : Nat} {k : Int32} : Fr b σ (fF σ n p k) := ⟨fun i _ h _ => fF_o _ _ _ _ h, fun i _ => by rw [fF_l], fun z => xZ_o z (fF_o _ _ _ _ (by simp)) (fF_o _ _ _ _ (by simp))⟩
theorem Fr.of {b : Nat} {σ τ : XS} (h1 : ∀ i : XI, (∀ k, i ≠ .inl (b, k)) → τ.1 i = σ.1 i) (h2 : ∀ i : XI, (∀ k, i ≠ .inl (b, k)) → τ.2 i = σ.2 i) (h3 : xZ σ b → xZ τ b) : Fr b σ τ := ⟨fun i a _ _ => h1 i a, h2, h3⟩
theorem Fr.xu {b : Nat} {σ : XS} {k j : Nat} {v : Int32} (h13 : k ≠ 13) (h15 : k ≠ 15) : Fr b σ (xu σ (.inl (b, k)) j v) := Fr.of (fun i h => xu_ne _ _ _ (h k)) (fun i _ => by rw [xu_l]) (fun z => xZ_o z (xu_ne _ _ _ (by simp [Ne.symm h13])) (xu_ne _ _ _ (by simp [Ne.symm h15])))
theorem Fr.tell {b : Nat} {σ : XS} {s t : Int32} {k : Nat} : Fr b σ (uTell σ b s t k) := Fr.of (fun i h => uTell_o _ _ _ _ (h 7) k) (fun i _ => by rw [uTell_l]) (fun z => xZ_o z (uTell_o _ _ _ _ (by simp) k) (uTell_o _ _ _ _ (by simp) k))
theorem Fr.start {b : Nat} {σ : XS} {nu j : Nat} : Fr b σ (uStart σ b nu j) := Fr.of (fun i h => uStart_o _ _ _ _ (h 7) (h 9) (h 16) (h 18)) (fun i _ => by rw [uStart_l]) (fun z => xZ_o z (uStart_o _ _ _ _ (by simp) (by simp) (by simp) (by simp)) (uStart_o _ _ _ _ (by simp) (by simp) (by simp) (by simp)))
theorem Fr.wait {b : Nat} {σ : XS} {nu nc : Nat} {u : Int32} {k : Nat} : Fr b σ (uWait σ b nu nc u k).1 := Fr.of (fun i h => uWait_o _ _ _ _ _ (h 7) (h 9) (h 16) (h 18) k) (fun i _ => by rw [uWait_l]) (fun z => xZ_o z (uWait_o _ _ _ _ _ (by simp) (by simp) (by simp) (by simp) k) (uWait_o _ _ _ _ _ (by simp) (by simp) (by simp) (by simp) k))
theorem fits_of {v : Int32} (h : v = 0 ∨ v = 1) : fits .boolean (.int v) = true := by rcases h with rfl | rfl <;> rfl
theorem Fr.call {b : Nat} {σ : XS} {n : Nat} {ca ot tr ur us : Int32} (hur : ur = 0 ∨ ur = 1) : Fr b σ (uCall σ b n ca ot tr ur us) := by
  refine Fr.of (fun i h => ?_) (fun i h => ?_) (fun z k hk => ?_)
  · simp only [uCall]
    rw [xu_ne _ _ _ (h _), xu_ne _ _ _ (h _), xu_ne _ _ _ (h _), xu_ne _ _ _ (h _), xu_ne _ _ _ (h _), xu_ne _ _ _ (h _), xu_ne _ _ _ (h _), xu_ne _ _ _ (h _), xu_ne _ _ _ (h _), xu_ne _ _ _ (h _), xu_ne _ _ _ (h _)]
  · simp only [uCall, xu_l]
  · have e13 : (uCall σ b n ca ot tr ur us).1 (.inl (b, 13)) k = if k = n then ur else σ.1 (.inl (b, 13)) k := by simp [uCall, xu_ap]
    have e15 : (uCall σ b n ca ot tr ur us).1 (.inl (b, 15)) k = if k = n then (if xbc us ≤ 1 then 0 else 1) else σ.1 (.inl (b, 15)) k := by simp [uCall, xu_ap]
    rw [e13, e15]
    by_cases g : k = n
    · rw [if_pos g, if_pos g]
      refine ⟨fits_of hur, fits_of ?_⟩
      by_cases g2 : xbc us ≤ 1
      · rw [if_pos g2]; exact Or.inl _root_.rfl
      · rw [if_neg g2]; exact Or.inr _root_.rfl
    · rw [if_neg g, if_neg g]; exact z k hk
theorem Fr.req {b : Nat} {σ : XS} {nu nc : Nat} {ca ot tr ur : Int32} (hur : ur = 0 ∨ ur = 1) : Fr b σ (uReq σ b nu nc ca ot tr ur) := by
  unfold uReq
  split
  · exact (Fr.call hur).trans Fr.start
  · exact Fr.call hur
theorem Fr.fin1 {b : Nat} {σ : XS} {j : Nat} {v : Int32} : Fr b σ (uFin1 σ b j v) := (Fr.xu (k := 9) (by decide) (by decide)).trans (Fr.xu (k := 17) (by decide) (by decide))
theorem Fr.fin {b : Nat} {σ : XS} {nu nt j : Nat} : Fr b σ (uFin σ b nu nt j) := by
  unfold uFin uBill
  split
  · split
    · exact Fr.fin1.trans (Fr.xu (k := 6) (by decide) (by decide))
    · exact Fr.fin1
  · exact Fr.fin1
theorem Fr.finB {b : Nat} {σ : XS} {nu nc nt j : Nat} : Fr b σ (uFinB σ b nu nc nt j).1 := (Fr.fin.trans Fr.wait).trans Fr.wait
theorem Fr.sub {b : Nat} {σ : XS} {n : Nat} {nm : Int64} {li co cu : Int32} : Fr b σ (uSub σ b n nm li co cu) := by
  refine Fr.of (fun i h => ?_) (fun i h => ?_) (fun z => xZ_o z ?_ ?_)
  · simp only [uSub]
    rw [xu_ne _ _ _ (h _), xu_ne _ _ _ (h _), xu_ne _ _ _ (h _), xu_ne _ _ _ (h _), xu_ne _ _ _ (h _), xu_ne _ _ _ (h _), xL_i]
  · simp only [uSub, xu_l]
    exact xL_ne _ _ (h _)
  · simp [uSub, xu_ne, xL_i]
  · simp [uSub, xu_ne, xL_i]
theorem Fr.reset {b : Nat} {σ : XS} {li co : Int32} : Fr b σ (uReset σ b li co) := by
  refine Fr.of (fun i h => ?_) (fun i h => ?_) (fun z => xZ_o z ?_ ?_)
  · simp only [uReset]
    rw [xu_ne _ _ _ (h _), xu_ne _ _ _ (h _), xu_ne _ _ _ (h _), xu_ne _ _ _ (h _), xu_ne _ _ _ (h _), xu_ne _ _ _ (h _)]
  · simp only [uReset, xu_l]
  · simp [uReset, xu_ne]
  · simp [uReset, xu_ne]
theorem Fr.trunk {b : Nat} {σ : XS} {n : Nat} {to : Int32} : Fr b σ (uTrunk σ b n to) := (Fr.xu (k := 19) (by decide) (by decide)).trans (Fr.xu (k := 0) (by decide) (by decide))
theorem rNum_fr {σ : XS} {n p : Nat} {lo hi : Int32} : Fr 1 σ (rNum σ n p lo hi).2 := by
  unfold rNum
  split
  · split
    · exact Fr.fF
    · split
      · exact Fr.fA
      · exact Fr.fF
  · exact Fr.fF
theorem rKnown_fr {σ : XS} {n p nu : Nat} {x : Int32} : Fr 1 σ (rKnown σ n p nu x).2 := by
  unfold rKnown
  split
  · split
    · exact Fr.fF
    · split
      · exact Fr.fF
      · exact Fr.fA
  · exact Fr.fF
theorem rNew_fr {σ : XS} {n p nu : Nat} : Fr 1 σ (rNew σ n p nu).2 := by
  unfold rNew
  split
  · split
    · exact Fr.fA
    · exact Fr.fF
  · exact Fr.fF
theorem rCode_fr {σ : XS} {n p nu : Nat} {li : Int32} : Fr 1 σ (rCode σ n p nu li).2 := by
  unfold rCode
  split
  · exact Fr.fF
  · split
    · exact Fr.fA
    · exact Fr.fF
theorem rReq1_fr {σ : XS} {n p : Nat} {ca ot tr ur : Int32} (hur : ur = 0 ∨ ur = 1) : Fr 1 σ (rReq1 σ n p ca ot tr ur).2.1 := by
  unfold rReq1
  split
  · split
    · exact (Fr.req hur).trans Fr.fA
    · exact Fr.fF
  · exact Fr.fF
theorem rReq_fr {σ : XS} {n p : Nat} {ca ot tr : Int32} : Fr 1 σ (rReq σ n p ca ot tr).2.1 := by
  have h : Fr 1 σ (rUrg σ n p).1 := by
    unfold rUrg
    split
    · exact Fr.rfl
    · exact Fr.fA
  exact h.trans (rReq1_fr (rIsW_01 σ n p 7))
theorem rSem_fr {σ τ : XS} {n p : Nat} (h : Fr 1 σ τ) : Fr 1 σ (rSem σ n p τ).2.1 := by
  unfold rSem
  split
  · exact h.trans Fr.fA
  · exact Fr.fF
theorem rCall_fr {σ : XS} {n p : Nat} : Fr 1 σ (rCall σ n p).2.1 := by
  unfold rCall rCall1
  split
  · exact Fr.fA.trans rKnown_fr
  · split
    · exact Fr.fA.trans (Fr.fA.trans rKnown_fr)
    · exact Fr.fA.trans (Fr.fA.trans (Fr.fA.trans rReq_fr))
theorem rTrk_fr {σ : XS} {n p : Nat} : Fr 1 σ (rTrk σ n p).2.1 := by
  unfold rTrk rTrk1
  split
  · exact Fr.fA.trans rKnown_fr
  · split
    · exact Fr.fA.trans (Fr.fA.trans rNum_fr)
    · exact Fr.fA.trans (Fr.fA.trans (Fr.fA.trans rReq_fr))
theorem rEnd2_fr {σ : XS} {n p j : Nat} : Fr 1 σ (rEnd2 σ n p j).2.1 := by
  unfold rEnd2
  split
  · split
    · exact Fr.fF
    · exact Fr.finB.trans Fr.fA
  · exact Fr.fF
theorem rEnd_fr {σ : XS} {n p : Nat} : Fr 1 σ (rEnd σ n p).2.1 := by
  unfold rEnd rEnd1
  split
  · exact Fr.fA.trans rNum_fr
  · exact Fr.fA.trans (Fr.fA.trans rEnd2_fr)
theorem rWait_fr {σ : XS} {n p : Nat} : Fr 1 σ (rWait σ n p).2.1 := by
  unfold rWait rWait1
  split
  · exact Fr.fA.trans rNum_fr
  · exact Fr.fA.trans (Fr.fA.trans (rSem_fr (Fr.xu (k := 0) (by decide) (by decide))))
theorem rMood_fr {σ : XS} {n p : Nat} : Fr 1 σ (rMood σ n p).2.1 := by
  unfold rMood rMood1
  split
  · exact Fr.fA.trans rKnown_fr
  · split
    · exact Fr.fA.trans (Fr.fA.trans rNum_fr)
    · exact Fr.fA.trans (Fr.fA.trans (Fr.fA.trans (rSem_fr (Fr.xu (k := 5) (by decide) (by decide)))))
theorem rCmd_fr {σ : XS} {n p : Nat} : Fr 1 σ (rCmd σ n p).2.1 := by
  unfold rCmd
  split
  · split
    · split
      · split
        · split
          · exact Fr.fF
          · exact rMood_fr
        · exact rWait_fr
      · exact rEnd_fr
    · exact rTrk_fr
  · exact rCall_fr
theorem rCmds_fr {n : Nat} : ∀ (k : Nat) (σ : XS) (p w : Nat), Fr 1 σ (rCmds n k σ p w).2
  | 0, σ, p, w => Fr.rfl
  | k + 1, σ, p, w => by
    unfold rCmds
    split
    · exact Fr.rfl
    · split
      · exact rCmd_fr
      · exact rCmd_fr.trans (rCmds_fr k _ _ _)
theorem rSub_fr {σ : XS} {n p nu : Nat} : Fr 1 σ (rSub σ n p nu).2.1 := by
  unfold rSub rSubA
  split
  · exact Fr.fA.trans rNew_fr
  · unfold rSubB rLine
    split
    · exact Fr.fA.trans (Fr.fA.trans rNum_fr)
    · unfold rSubC
      split
      · exact Fr.fA.trans (Fr.fA.trans (Fr.fA.trans rCode_fr))
      · unfold rSubD
        split
        · exact Fr.fA.trans (Fr.fA.trans (Fr.fA.trans (Fr.fA.trans rNum_fr)))
        · exact Fr.fA.trans (Fr.fA.trans (Fr.fA.trans (Fr.fA.trans (Fr.fA.trans (rSem_fr Fr.sub)))))
theorem rSubs_fr {n : Nat} : ∀ (k : Nat) (σ : XS) (p i : Nat), Fr 1 σ (rSubs n k σ p i).2.1
  | 0, σ, p, i => Fr.rfl
  | k + 1, σ, p, i => by
    unfold rSubs
    split
    · exact Fr.rfl
    · split
      · exact Fr.fF
      · split
        · exact rSub_fr
        · exact rSub_fr.trans (rSubs_fr k _ _ _)
theorem rUsers_fr {σ : XS} {n p : Nat} : Fr 1 σ (rUsers σ n p).2.1 := by
  unfold rUsers
  split
  · exact Fr.fF
  · exact rSubs_fr _ _ _ _
theorem rTol_fr {σ : XS} {n p nt : Nat} : Fr 1 σ (rTol σ n p nt).2.1 := by
  unfold rTol rTol1
  split
  · exact Fr.fA.trans rNum_fr
  · exact Fr.fA.trans (Fr.fA.trans (rSem_fr Fr.trunk))
theorem rTols_fr {n : Nat} : ∀ (k : Nat) (σ : XS) (p i : Nat), Fr 1 σ (rTols n k σ p i).2.1
  | 0, σ, p, i => Fr.rfl
  | k + 1, σ, p, i => by
    unfold rTols
    split
    · exact Fr.rfl
    · split
      · exact Fr.fF
      · split
        · exact rTol_fr
        · exact rTol_fr.trans (rTols_fr k _ _ _)
theorem rBrd_fr {σ : XS} {n p : Nat} : Fr 1 σ (rBrd σ n p).2.1 := by
  unfold rBrd
  split
  · exact Fr.fF
  · unfold rBrd1
    split
    · exact Fr.fA.trans rNum_fr
    · unfold rBrd2
      split
      · exact Fr.fA.trans (Fr.fA.trans rNum_fr)
      · exact Fr.fA.trans (Fr.fA.trans (Fr.fA.trans (rSem_fr Fr.reset)))
theorem uText_fr {σ : XS} {n b : Nat} : Fr b σ (uText σ n) := by
  refine ⟨fun i _ h1 h2 => ?_, fun i _ => rfl, fun z => xZ_o z ?_ ?_⟩
  · rw [uText, uAdv, uTok_o _ _ _ _ _ h2, uText0, xu_ne _ _ _ h2, xu_ne _ _ _ h1, xu_ne _ _ _ h1]
  · rw [uText, uAdv, uTok_o _ _ _ _ _ (by simp), uText0, xu_ne _ _ _ (by simp), xu_ne _ _ _ (by simp), xu_ne _ _ _ (by simp)]
  · rw [uText, uAdv, uTok_o _ _ _ _ _ (by simp), uText0, xu_ne _ _ _ (by simp), xu_ne _ _ _ (by simp), xu_ne _ _ _ (by simp)]

/-! THE DRAWN TEXT IS READ -/
def usx (us : List (Nat × Nat)) (v : Nat) : Nat × Nat := us.getD v (0, 0)
/-- board 1 as far as it was read; B the text's bytes -/
def PBd (B : Nat → Int32) (σ : XS) (ln co : Nat) (tl : List Nat) (us : List (Nat × Nat)) : Prop :=
  (σ.1 (.inr 3) = B ∧ σ.1 (.inl (1, 0)) 3 = 0 ∧ σ.1 (.inl (1, 0)) 4 = nI ln ∧ σ.1 (.inl (1, 0)) 5 = nI co ∧ σ.1 (.inl (1, 0)) 6 = nI tl.length ∧ σ.1 (.inl (1, 1)) 6 = nI us.length ∧ σ.1 (.inl (1, 8)) 10 = 0) ∧
  (∀ i, i < tl.length → σ.1 (.inl (1, 19)) i = nI (tl.getD i 0)) ∧
  ∀ v, v < us.length → σ.1 (.inl (1, 3)) v = nI ((usx us v).1 / 3) ∧ σ.1 (.inl (1, 4)) v = coU (usx us v).1 ∧ σ.1 (.inl (1, 5)) v = nI (usx us v).2 ∧ σ.1 (.inl (1, 6)) v = 0 ∧ σ.1 (.inl (1, 7)) v = xbit (nI v) ∧ σ.2 (.inl (1, 2)) v = nmW (nmU (usx us v).1)
section RD85
variable {B : Nat → Int32} {σ τ : XS} {n p ln co : Nat} {tl : List Nat} {us : List (Nat × Nat)} {R : List Int32}
theorem PBd.o (h : PBd B σ ln co tl us) (h1 : ∀ i, i ≠ .inr 2 → τ.1 i = σ.1 i) (h2 : τ.2 = σ.2) : PBd B τ ln co tl us := by
  unfold PBd
  rw [h1 _ (by simp), h1 _ (by simp), h1 _ (by simp), h1 _ (by simp), h1 _ (by simp), h1 _ (by simp), h1 _ (by simp), h1 _ (by simp), h1 _ (by simp), h1 _ (by simp), h2]
  exact h
theorem PBd.fA {q : Nat} (h : PBd B σ ln co tl us) : PBd B (fA σ n q) ln co tl us := h.o (fun i hi => fA_oo hi) fA_ll
theorem PBd.byt (h : PBd B σ ln co tl us) : σ.1 (.inr 3) = B := h.1.1
theorem tx_pos : 0 < (tx 0).length ∧ 0 < (tx 1).length ∧ 0 < (tx 2).length := by decide
theorem lt_L (x : Nat) (h : x < 100) : nI x ≤ 99 := nI_le (b := 99) (by omega) (by decide)
/-- the board's statement -/
theorem G_brd (hB : σ.1 (.inr 3) = B) (h : Sf B n p (brdT ln co ++ R)) (h1 : 1 ≤ ln ∧ ln ≤ 6) (h2 : 1 ≤ co ∧ co ≤ 6) : ∃ (τ : XS) (p1 : Nat), rBrd σ n p = (1, τ, p1) ∧ Sf B n p1 R ∧ PBd B τ ln co [] [] := by
  unfold brdT at h
  rw [tx12, List.append_assoc, List.append_assoc, List.append_assoc, List.append_assoc, List.append_assoc] at h
  obtain ⟨k1, l1, w1, s1⟩ := tok_w (sp := []) (w := tx 0) (c := 32) (h := h) (Or.inl rfl) kw_L.1 tx_pos.1 n32L
  obtain ⟨k2, v2, s2⟩ := tok_n (sp := [32]) (x := ln) (c := 32) (by omega) s1 (Or.inr rfl) n32D
  obtain ⟨k3, v3, s3⟩ := tok_n (sp := [32]) (x := co) (c := 59) (by omega) s2 (Or.inr rfl) (by decide)
  obtain ⟨k4, s4⟩ := tok_s s3
  generalize hp1 : tkE B n p = p1 at *
  generalize hp2 : tkE B n p1 = p2 at *
  generalize hp3 : tkE B n p2 = p3 at *
  generalize hp4 : tkE B n p3 = p4 at *
  have hB1 := fA_B (n := n) (p := p) hB
  have hB2 := fA_B (n := n) (p := p1) hB1
  have hB3 := fA_B (n := n) (p := p2) hB2
  have n1 : rNum (fA σ n p) n p1 1 6 = (nI ln, fA (fA σ n p) n p1) := e_num hB1 k2 v2 (nI_nlt (b := 1) h1.1 (n31 (by omega))) (nI_le (b := 6) h1.2 (by decide))
  have n2 : rNum (fA (fA σ n p) n p1) n p2 1 6 = (nI co, fA (fA (fA σ n p) n p1) n p2) := e_num hB2 k3 v3 (nI_nlt (b := 1) h2.1 (n31 (by omega))) (nI_le (b := 6) h2.2 (by decide))
  refine ⟨fA (uReset (fA (fA (fA σ n p) n p1) n p2) 1 (nI ln) (nI co)) n p3, p4, ?_, s4, ?_⟩
  · unfold rBrd
    rw [e_is hB k1 (by rw [hp1]; exact l1) (by rw [hp1]; exact w1), kw_ok.1, if_neg (by decide), e_eT hB, hp1]
    unfold rBrd1
    rw [n1]
    dsimp only
    rw [if_neg (not_m1 (by omega)), e_eT hB1, hp2]
    unfold rBrd2
    rw [n2]
    dsimp only
    rw [if_neg (not_m1 (by omega)), e_eT hB2, hp3, e_sem hB3 k4, hp4]
  · refine PBd.fA ?_
    unfold uReset
    refine ⟨⟨?_, ?_, ?_, ?_, ?_, ?_, ?_⟩, fun i hi => absurd hi (Nat.not_lt_zero _), fun v hv => absurd hv (Nat.not_lt_zero _)⟩
    · rw [xu_ne _ _ _ (by simp), xu_ne _ _ _ (by simp), xu_ne _ _ _ (by simp), xu_ne _ _ _ (by simp), xu_ne _ _ _ (by simp), xu_ne _ _ _ (by simp)]
      exact hB3
    all_goals simp only [xu_ap]
    all_goals first | (simp; done) | (simp; rfl)
/-- a trunk's -/
theorem G_tol {x : Nat} (hP : PBd B σ ln co tl []) (h : Sf B n p (trkT x ++ R)) (h1 : 1 ≤ x ∧ x ≤ 99) (ht : tl.length < 4) : ¬ rIsW σ n p 1 = 0 ∧ ∃ (τ : XS) (p1 : Nat), rTol σ n p tl.length = (1, τ, p1) ∧ Sf B n p1 R ∧ PBd B τ ln co (tl ++ [x]) [] := by
  have hB := hP.byt
  unfold trkT at h
  rw [tx13, List.append_assoc, List.append_assoc, List.append_assoc] at h
  obtain ⟨k1, l1, w1, s1⟩ := tok_w (sp := []) (w := tx 1) (c := 32) (h := h) (Or.inl rfl) kw_L.2.1 tx_pos.2.1 n32L
  obtain ⟨k2, v2, s2⟩ := tok_n (sp := [32]) (x := x) (c := 59) (by omega) s1 (Or.inr rfl) (by decide)
  obtain ⟨k4, s4⟩ := tok_s s2
  refine ⟨by rw [e_is hB k1 l1 w1, kw_ok.2.1]; decide, ?_⟩
  generalize hp1 : tkE B n p = p1 at *
  generalize hp2 : tkE B n p1 = p2 at *
  generalize hp3 : tkE B n p2 = p3 at *
  have hB1 := fA_B (n := n) (p := p) hB
  have hB2 := fA_B (n := n) (p := p1) hB1
  have n1 : rNum (fA σ n p) n p1 1 99 = (nI x, fA (fA σ n p) n p1) := e_num hB1 k2 v2 (nI_nlt (b := 1) h1.1 (n31 (by omega))) (nI_le (b := 99) h1.2 (by decide))
  refine ⟨fA (uTrunk (fA (fA σ n p) n p1) 1 tl.length (nI x)) n p2, p3, ?_, s4, ?_⟩
  · unfold rTol
    rw [e_eT hB, hp1]
    unfold rTol1
    rw [n1]
    dsimp only
    rw [if_neg (not_m1 (by omega)), e_eT hB1, hp2, e_sem hB2 k4, hp3]
  · refine PBd.fA ?_
    have hP2 : PBd B (fA (fA σ n p) n p1) ln co tl [] := hP.fA.fA
    generalize fA (fA σ n p) n p1 = υ at hP2
    obtain ⟨⟨a1, a2, a3, a4, a5, a6, a7⟩, a8, a9⟩ := hP2
    unfold uTrunk
    refine ⟨⟨?_, ?_, ?_, ?_, ?_, ?_, ?_⟩, fun i hi => ?_, fun v hv => absurd hv (Nat.not_lt_zero _)⟩
    · rw [xu_ne _ _ _ (by simp), xu_ne _ _ _ (by simp)]; exact a1
    · simp only [xu_ap]; simp [a2]
    · simp only [xu_ap]; simp [a3]
    · simp only [xu_ap]; simp [a4]
    · simp only [xu_ap]; simp
    · simp only [xu_ap]; simp [a6]
    · simp only [xu_ap]; simp [a7]
    · rw [xu_ne _ _ _ (by simp), xu_ap]
      rw [List.length_append] at hi
      have hi2 : i < tl.length + 1 := hi
      by_cases g : i = tl.length
      · subst g
        rw [if_pos ⟨rfl, rfl⟩]
        have := gD_r (L1 := tl) (L2 := [x]) (d := 0) 0
        rw [Nat.add_zero] at this
        rw [this]; rfl
      · rw [if_neg (fun z => g z.2), gD_l (by omega)]
        exact a8 i (by omega)
theorem rTols_s {k i : Nat} : rTols n (k + 1) σ p i = if rIsW σ n p 1 = 0 then (1, σ, p) else if i = 4 then (0, fF σ n p 6, p) else if (rTol σ n p i).1 = 0 then (0, (rTol σ n p i).2.1, (rTol σ n p i).2.2) else rTols n k (rTol σ n p i).2.1 (rTol σ n p i).2.2 (i + 1) := rfl
theorem rSubs_s {k i : Nat} : rSubs n (k + 1) σ p i = if rIsW σ n p 2 = 0 then (1, σ, p) else if i = 15 then (0, fF σ n p 6, p) else if (rSub σ n p i).1 = 0 then (0, (rSub σ n p i).2.1, (rSub σ n p i).2.2) else rSubs n k (rSub σ n p i).2.1 (rSub σ n p i).2.2 (i + 1) := rfl
/-- a subscriber's statement begins so -/
theorem usr_w {u cu : Nat} (hB : σ.1 (.inr 3) = B) (h : Sf B n p (usrT u cu ++ R)) : rIsW σ n p 1 = 0 ∧ ¬ rIsW σ n p 2 = 0 ∧ tkK B n p = 1 ∧ Sf B n (tkE B n p) (32 :: (nmU u ++ ([32] ++ (dig (u / 3) ++ ([32] ++ (tx (9 + u % 3) ++ ([32] ++ (dig cu ++ (59 :: R))))))))) := by
  unfold usrT at h
  rw [tx14] at h
  simp only [List.append_assoc] at h
  obtain ⟨k1, l1, w1, s1⟩ := tok_w (sp := []) (w := tx 2) (c := 32) (h := h) (Or.inl rfl) kw_L.2.2 tx_pos.2.2 n32L
  exact ⟨by rw [e_is hB k1 l1 w1, kw_ok.2.2.1], by rw [e_is hB k1 l1 w1, kw_ok.2.2.2]; decide, k1, s1⟩
theorem G_tols (hu : ∃ u cu R1, R = usrT u cu ++ R1) : ∀ (rest : List Nat) (k : Nat) (tl : List Nat) (σ : XS) (p : Nat), rest.length < k → tl.length + rest.length ≤ 4 → (∀ x ∈ rest, 1 ≤ x ∧ x ≤ 99) → PBd B σ ln co tl [] → Sf B n p (tkT rest ++ R) → ∃ (τ : XS) (p1 : Nat), rTols n k σ p tl.length = (1, τ, p1) ∧ Sf B n p1 R ∧ PBd B τ ln co (tl ++ rest) []
  | [], k, tl, σ, p, hk, h4, hx, hP, h => by
    obtain ⟨k1, rfl⟩ : ∃ k1, k = k1 + 1 := ⟨k - 1, by have : ([] : List Nat).length = 0 := rfl; omega⟩
    obtain ⟨u, cu, R1, e⟩ := hu
    refine ⟨σ, p, ?_, h, by rw [List.append_nil]; exact hP⟩
    rw [rTols_s, if_pos (usr_w (u := u) (cu := cu) (R := R1) hP.byt (by rw [← e]; exact h)).1]
  | x :: rest, k, tl, σ, p, hk, h4, hx, hP, h => by
    have hlen : (x :: rest).length = rest.length + 1 := rfl
    obtain ⟨k1, rfl⟩ : ∃ k1, k = k1 + 1 := ⟨k - 1, by omega⟩
    have h' : Sf B n p (trkT x ++ (tkT rest ++ R)) := by rw [← List.append_assoc]; exact h
    obtain ⟨g0, τ, p1, g1, g2, g3⟩ := G_tol hP h' (hx x (List.mem_cons_self ..)) (by omega)
    have hl2 : (tl ++ [x]).length = tl.length + 1 := by rw [List.length_append]; rfl
    obtain ⟨υ, p2, f1, f2, f3⟩ := G_tols hu rest k1 (tl ++ [x]) τ p1 (by omega) (by omega) (fun y hy => hx y (List.mem_cons_of_mem _ hy)) g3 g2
    refine ⟨υ, p2, ?_, f2, by rw [List.append_assoc] at f3; exact f3⟩
    rw [rTols_s, if_neg g0, if_neg (by omega), g1]
    dsimp only
    rw [if_neg (by decide), ← hl2]
    exact f1
theorem xamb_D {li co : Nat → Int32} {x y : Int32} {k : Nat} (h : ¬ (li k = x ∧ co k >>> (((31 - xnz (co k)) - xmin (31 - xnz (co k)) (31 - xnz y)) &&& 31) = y >>> (((31 - xnz y) - xmin (31 - xnz (co k)) (31 - xnz y)) &&& 31))) : ¬ xamb li co x y k = true := xamb_n h
/-- a subscriber's -/
theorem G_sub {u cu : Nat} (hP : PBd B σ ln co tl us) (h : Sf B n p (usrT u cu ++ R)) (hu : u < 12) (hl : u / 3 < ln) (hl6 : ln ≤ 6) (hc : cu ≤ 9) (h15 : us.length < 15) (hne : ∀ v, v < us.length → (usx us v).1 < 12 ∧ ¬ (usx us v).1 = u) : ∃ (τ : XS) (p1 : Nat), rSub σ n p us.length = (1, τ, p1) ∧ Sf B n p1 R ∧ PBd B τ ln co tl (us ++ [(u, cu)]) := by
  have hB := hP.byt
  obtain ⟨-, -, -, s0⟩ := usr_w hB h
  obtain ⟨c1, c2, c3⟩ := u_C u hu
  generalize hp1 : tkE B n p = p1 at *
  obtain ⟨k1, l1, w1, s1⟩ := tok_w (sp := [32]) (w := nmU u) (c := 32) (h := s0) (Or.inr rfl) (u_L u hu).1 (by show 0 < 2; decide) n32L
  obtain ⟨k2, v2, s2⟩ := tok_n (sp := [32]) (x := u / 3) (c := 32) (by omega) s1 (Or.inr rfl) n32D
  obtain ⟨k3, l3, w3, s3⟩ := tok_w (sp := [32]) (w := tx (9 + u % 3)) (c := 32) (h := s2) (Or.inr rfl) c1 c2 n32L
  obtain ⟨k4, v4, s4⟩ := tok_n (sp := [32]) (x := cu) (c := 59) (by omega) s3 (Or.inr rfl) (by decide)
  obtain ⟨k5, s5⟩ := tok_s s4
  have h2 := hP.2.2
  have hB1 := fA_B (n := n) (p := p) hB
  have hB2 := fA_B (n := n) (p := p1) hB1
  have hP3 : PBd B (fA (fA σ n p) n p1) ln co tl us := hP.fA.fA
  have n1 : rNew (fA σ n p) n p1 us.length = (nmW (nmU u), fA (fA σ n p) n p1) := e_new hB1 k1 l1 w1 (by show 2 ≤ 6; decide) (cFirst_no (fun j _ hj => by
    show ¬ ((fA σ n p).2 (.inl (1, 2)) j == nmW (nmU u)) = true
    rw [fA_ll, (h2 j (by omega)).2.2.2.2.2, beq_iff_eq]
    exact (u_N _ (hne j (by omega)).1 u hu (hne j (by omega)).2).1))
  generalize hp2 : tkE B n p1 = p2 at *
  have n2 : rLine (fA (fA σ n p) n p1) n p2 = (nI (u / 3), fA (fA (fA σ n p) n p1) n p2) := by
    unfold rLine
    rw [hP3.1.2.2.1]
    exact e_num hB2 k2 v2 (nI_pos (n31 (by omega))) (by
      rw [show nI ln - 1 = nI (ln - 1) by rw [show (1 : Int32) = nI 1 from rfl, nI_sub (by omega)]]
      exact nI_le (by omega) (n31 (by omega)))
  generalize hp3 : tkE B n p2 = p3 at *
  have hB3 := fA_B (n := n) (p := p2) hB2
  have hP4 : PBd B (fA (fA (fA σ n p) n p1) n p2) ln co tl us := hP3.fA
  have n3 : rCode (fA (fA (fA σ n p) n p1) n p2) n p3 us.length (nI (u / 3)) = (coU u, fA (fA (fA (fA σ n p) n p1) n p2) n p3) := by
    refine e_code hB3 k3 l3 w3 c3 ?_
    unfold rAmb
    refine cFirstB_no (fun j _ hj => xamb_D ?_)
    have q := hP4.2.2 j (by omega)
    rw [q.1, q.2.1]
    exact (u_N _ (hne j (by omega)).1 u hu (hne j (by omega)).2).2
  generalize hp4 : tkE B n p3 = p4 at *
  have hB4 := fA_B (n := n) (p := p3) hB3
  have hB5 := fA_B (n := n) (p := p4) hB4
  have n4 : rNum (fA (fA (fA (fA σ n p) n p1) n p2) n p3) n p4 0 9 = (nI cu, fA (fA (fA (fA (fA σ n p) n p1) n p2) n p3) n p4) := e_num hB4 k4 v4 (nI_pos (n31 (by omega))) (nI_le (b := 9) hc (by decide))
  generalize hp5 : tkE B n p4 = p5 at *
  generalize hp6 : tkE B n p5 = p6 at *
  have hP5 : PBd B (fA (fA (fA (fA (fA σ n p) n p1) n p2) n p3) n p4) ln co tl us := hP4.fA.fA
  refine ⟨fA (uSub (fA (fA (fA (fA (fA σ n p) n p1) n p2) n p3) n p4) 1 us.length (nmW (nmU u)) (nI (u / 3)) (coU u) (nI cu)) n p5, p6, ?_, s5, ?_⟩
  · unfold rSub rSubA
    rw [e_eT hB, hp1, n1]
    dsimp only
    rw [if_neg (u_Z u hu), e_eT hB1, hp2]
    unfold rSubB
    rw [n2]
    dsimp only
    rw [if_neg (not_m1 (by omega)), e_eT hB2, hp3]
    unfold rSubC
    rw [n3]
    dsimp only
    rw [if_neg c3, e_eT hB3, hp4]
    unfold rSubD
    rw [n4]
    dsimp only
    rw [if_neg (not_m1 (by omega)), e_eT hB4, hp5, e_sem hB5 k5, hp6]
  · refine PBd.fA ?_
    generalize fA (fA (fA (fA (fA σ n p) n p1) n p2) n p3) n p4 = υ at hP5
    obtain ⟨⟨a1, a2, a3, a4, a5, a6, a7⟩, a8, a9⟩ := hP5
    have hl2 : (us ++ [(u, cu)]).length = us.length + 1 := by rw [List.length_append]; rfl
    have x0 : usx (us ++ [(u, cu)]) us.length = (u, cu) := by
      have := gD_r (L1 := us) (L2 := [(u, cu)]) (d := (0, 0)) 0
      rw [Nat.add_zero] at this
      exact this
    have x1 : ∀ v, v < us.length → usx (us ++ [(u, cu)]) v = usx us v := fun v hv => gD_l hv
    unfold uSub
    refine ⟨⟨?_, ?_, ?_, ?_, ?_, ?_, ?_⟩, fun i hi => ?_, fun v hv => ?_⟩
    · rw [xu_ne _ _ _ (by simp), xu_ne _ _ _ (by simp), xu_ne _ _ _ (by simp), xu_ne _ _ _ (by simp), xu_ne _ _ _ (by simp), xu_ne _ _ _ (by simp), xL_i]; exact a1
    · simp only [xu_ap, xL_i]; simp [a2]
    · simp only [xu_ap, xL_i]; simp [a3]
    · simp only [xu_ap, xL_i]; simp [a4]
    · simp only [xu_ap, xL_i]; simp [a5]
    · simp only [xu_ap, xL_i]; simp
    · simp only [xu_ap, xL_i]; simp [a7]
    · rw [xu_ne _ _ _ (by simp), xu_ne _ _ _ (by simp), xu_ne _ _ _ (by simp), xu_ne _ _ _ (by simp), xu_ne _ _ _ (by simp), xu_ne _ _ _ (by simp), xL_i]; exact a8 i hi
    · rw [hl2] at hv
      have e2 : (xu (xu (xu (xu (xu (xu (xL υ (.inl (1, 2)) (vp_updL (υ.2 (.inl (1, 2))) us.length (nmW (nmU u)))) (.inl (1, 3)) us.length (nI (u / 3))) (.inl (1, 4)) us.length (coU u)) (.inl (1, 5)) us.length (nI cu)) (.inl (1, 6)) us.length 0) (.inl (1, 7)) us.length (xbit (nI us.length))) (.inl (1, 1)) 6 (nI (us.length + 1))).2 (.inl (1, 2)) v = if v = us.length then nmW (nmU u) else υ.2 (.inl (1, 2)) v := by
        rw [xu_l, xu_l, xu_l, xu_l, xu_l, xu_l, xL_self]
        rfl
      rw [e2]
      simp only [xu_ap, xL_i]
      by_cases g : v = us.length
      · subst g
        rw [x0]
        simp
      · rw [x1 v (by omega), if_neg g]
        have q := a9 v (by omega)
        simp [g, q]
theorem G_subs : ∀ (rest : List (Nat × Nat)) (k : Nat) (us : List (Nat × Nat)) (σ : XS) (p : Nat), rest.length < k → us.length + rest.length ≤ 12 → (∀ q ∈ rest, q.1 < 12 ∧ q.1 / 3 < ln ∧ q.2 ≤ 9) → (us ++ rest).Pairwise (fun a b => a.1 < b.1) → (∀ v, v < us.length → (usx us v).1 < 12) → ln ≤ 6 → PBd B σ ln co tl us → Sf B n p (usT rest) → ∃ (τ : XS) (p1 : Nat), rSubs n k σ p us.length = (1, τ, p1) ∧ Sf B n p1 [] ∧ PBd B τ ln co tl (us ++ rest)
  | [], k, us, σ, p, hk, h12, hx, hw, h9, hl6, hP, h => by
    obtain ⟨k1, rfl⟩ : ∃ k1, k = k1 + 1 := ⟨k - 1, by have : ([] : List (Nat × Nat)).length = 0 := rfl; omega⟩
    refine ⟨σ, p, ?_, h, by rw [List.append_nil]; exact hP⟩
    rw [rSubs_s, if_pos (e_is0 hP.byt (by rw [tok_0 h]; decide) (by decide))]
  | (u, cu) :: rest, k, us, σ, p, hk, h12, hx, hw, h9, hl6, hP, h => by
    have hlen : ((u, cu) :: rest).length = rest.length + 1 := rfl
    obtain ⟨k1, rfl⟩ : ∃ k1, k = k1 + 1 := ⟨k - 1, by omega⟩
    have q := hx (u, cu) (List.mem_cons_self ..)
    have hlt : ∀ v, v < us.length → (usx us v).1 < u := fun v hv => by
      refine (List.pairwise_append.mp hw).2.2 (usx us v) ?_ (u, cu) (List.mem_cons_self ..)
      unfold usx
      rw [List.getD_eq_getElem?_getD, List.getElem?_eq_getElem hv]
      exact List.getElem_mem hv
    obtain ⟨τ, p1, g1, g2, g3⟩ := G_sub hP h q.1 q.2.1 hl6 q.2.2 (by omega) (fun v hv => ⟨h9 v hv, Nat.ne_of_lt (hlt v hv)⟩)
    have hl2 : (us ++ [(u, cu)]).length = us.length + 1 := by rw [List.length_append]; rfl
    have hw2 : (us ++ [(u, cu)] ++ rest).Pairwise (fun a b => a.1 < b.1) := by rw [List.append_assoc]; exact hw
    obtain ⟨υ, p2, f1, f2, f3⟩ := G_subs rest k1 (us ++ [(u, cu)]) τ p1 (by omega) (by omega) (fun y hy => hx y (List.mem_cons_of_mem _ hy)) hw2 (fun v hv => by
      rw [hl2] at hv
      unfold usx
      by_cases g : v < us.length
      · rw [gD_l g]; exact h9 v g
      · obtain rfl : v = us.length := by omega
        have := gD_r (L1 := us) (L2 := [(u, cu)]) (d := (0, 0)) 0
        rw [Nat.add_zero] at this
        rw [this]; exact q.1) hl6 g3 g2
    refine ⟨υ, p2, ?_, f2, by rw [List.append_assoc] at f3; exact f3⟩
    rw [rSubs_s, if_neg (usr_w (u := u) (cu := cu) (R := usT rest) hP.byt h).2.1, if_neg (by omega), g1]
    dsimp only
    rw [if_neg (by decide), ← hl2]
    exact f1
/-- load reads the whole text -/
theorem G_load {us : List (Nat × Nat)} (hB : σ.1 (.inr 3) = B) (hn : n ≤ 700) (h : Sf B n 0 (brdT ln co ++ (tkT tl ++ usT us))) (h1 : 1 ≤ ln ∧ ln ≤ 6) (h2 : 1 ≤ co ∧ co ≤ 6) (h4 : tl.length ≤ 4) (hx : ∀ x ∈ tl, 1 ≤ x ∧ x ≤ 99) (hu1 : us ≠ []) (h12 : us.length ≤ 12) (hu : ∀ q ∈ us, q.1 < 12 ∧ q.1 / 3 < ln ∧ q.2 ≤ 9) (hw : us.Pairwise (fun a b => a.1 < b.1)) : ∃ τ : XS, rLoad σ n = (1, τ) ∧ PBd B τ ln co tl us := by
  have hB0 : (uText σ n).1 (.inr 3) = B := by
    unfold uText uAdv
    rw [uTok_o _ _ _ _ _ (by simp)]
    unfold uText0
    rw [xu_ne _ _ _ (by simp), xu_ne _ _ _ (by simp), xu_ne _ _ _ (by simp)]
    exact hB
  obtain ⟨τ1, p1, a1, b1, c1⟩ := G_brd hB0 h h1 h2
  have hus : ∃ u cu R1, usT us = usrT u cu ++ R1 := by
    cases us with
    | nil => exact absurd rfl hu1
    | cons q us => exact ⟨q.1, q.2, usT us, rfl⟩
  obtain ⟨τ2, p2, a2, b2, c2⟩ := G_tols hus tl 5 [] τ1 p1 (by omega) (by have : ([] : List Nat).length = 0 := rfl; omega) hx c1 b1
  obtain ⟨τ3, p3, a3, b3, c3⟩ := G_subs us 16 [] τ2 p2 (by omega) (by have : ([] : List (Nat × Nat)).length = 0 := rfl; omega) hu (by rw [List.nil_append]; exact hw) (fun v hv => absurd hv (Nat.not_lt_zero _)) h1.2 c2 b2
  refine ⟨τ3, ?_, c3⟩
  unfold rLoad thn
  rw [a1]
  dsimp only
  rw [if_neg (by decide)]
  have a2' : rTols n 5 τ1 p1 0 = (1, τ2, p2) := a2
  rw [a2']
  dsimp only
  rw [if_neg (by decide)]
  obtain ⟨u, cu, R1, eu⟩ := hus
  have e3 : rUsers τ2 n p2 = (1, τ3, p3) := by
    unfold rUsers
    rw [if_neg (usr_w (u := u) (cu := cu) (R := R1) c2.byt (by rw [← eu]; exact b2)).2.1]
    exact a3
  rw [e3]
  dsimp only
  rw [if_neg (by decide)]
  have e4 : rCmds n 700 τ3 p3 0 = (nI 0, τ3) := by
    show (if kT τ3 n p3 = 0 then (nI 0, τ3) else _) = _
    have : kT τ3 n p3 = 0 := by
      unfold kT
      rw [c3.byt]
      exact tok_0 b3
    rw [if_pos this]
  rw [e4]
  dsimp only
  rw [if_neg (by decide)]
end RD85


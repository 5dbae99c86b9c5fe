/-! THE LAW'S LOOP -/
def lawST : List Nat := [288, 361, 417, 430, 443, 456, 469, 565, 661, 717, 773, 841, 885, 941, 997, 1010, 1023, 1036, 1049, 1062, 1075, 1088, 1101, 1114, 1127, 1190, 1253, 1309, 1365, 1421, 1477, 1533, 1589, 1645, 1701, 1769, 1837, 1893, 1906, 1962, 2018, 2074, 2130, 2186, 2242, 2298, 2354, 2410, 2466, 2522, 2585, 2653, 2709, 2765, 2778, 2819, 2862, 2875]
def lawOF : Array Int := #[248, 321, 377, 390, 403, 416, 429, 525, 621, 677, 733, 801, 845, 901, 957, 970, 983, 996, 1009, 1022, 1035, 1048, 1061, 1074, 1087, 1150, 1213, 1269, 1325, 1381, 1437, 1493, 1549, 1605, 1661, 1729, 1797, 1853, 1866, 1922, 1978, 2034, 2090, 2146, 2202, 2258, 2314, 2370, 2426, 2482, 2545, 2613, 2669, 2725, 2738, 2779, 2822, 2835]
theorem lawOF_at : ∀ n, n < 58 → ∃ off, lawOF[n]? = some off ∧ (40 : Int) + off = ((lawST.getD n 0 : Nat) : Int) := by decide +kernel
theorem and63 (x : Int32) : ∃ n : Nat, n < 64 ∧ x &&& 63 = nI n := by
  obtain ⟨j, hj, e⟩ := xok_of (x := x &&& 63) (n := 64) (by
    have h : (x &&& 63).toBitVec.toNat < 64 := by
      rw [Int32.toBitVec_and, BitVec.toNat_and]
      have h2 : x.toBitVec.toNat &&& (63 : Int32).toBitVec.toNat ≤ (63 : Int32).toBitVec.toNat := Nat.and_le_right
      have h3 : (63 : Int32).toBitVec.toNat = 63 := by decide +kernel
      omega
    have h4 : (x &&& 63).toInt = ((x &&& 63).toBitVec.toNat : Int) := by
      rw [← Int32.toInt_toBitVec]
      exact BitVec.toInt_eq_toNat_of_lt (by omega)
    unfold xok
    omega) (by decide)
  exact ⟨j, hj, e⟩
theorem i_le6 {i L : Nat} (hi : i ≤ 4000) (hL : L ≤ 3072) (h : ¬ (nI L - 6 < nI i)) : i + 6 ≤ L := by
  have h1 : (nI L - 6).toInt = (L : Int) - 6 := by
    have e : (nI L).toInt = (L : Int) := nI_toInt (by omega)
    rw [Int32.toInt_sub, e, show (6 : Int32).toInt = 6 from by decide +kernel]
    exact Int.bmod_eq_of_le (by omega) (by omega)
  have h2 : (nI i).toInt = (i : Int) := nI_toInt (by omega)
  have h3 := Int32.not_lt.mp h
  rw [Int32.le_iff_toInt_le, h1, h2] at h3
  omega
section XP77
variable {p : Program} {l : Launch} {e : Env} {s : State} {m : MethodId} {args : Array Value} {below : List Frame} {meth : Method} {c : Code} {P : XP} {A : Nat → Prop} {nL cells slots : Nat} {Q : State → Prop} {cc : ByteArray} {ret : Option FieldType} {own : String} {σ : XS} {pc : Nat} {lv : List (Nat × Value)} {st : List Value} {b L i : Nat} {xs : Nat → Int32} {d : Drawn}
theorem X_tableIn (C : XC p s m args meth c P A nL own cc ret) {x : Int32} {dflt lo hi : Int} {offs : Array Int} {len : Nat} {off : Int} {tgt : Nat} (dd : decode cc pc = .ok (.tableswitch dflt lo hi offs, len)) (h1 : ¬ x.toInt < lo) (h2 : ¬ hi < x.toInt) (ho : offs[(x.toInt - lo).toNat]? = some off) (ht : (pc : Int) + off = (tgt : Int)) (k : XW p l e room_1 s m args below meth c P A nL cells slots Q σ tgt lv st) : XW p l e room_1 s m args below meth c P A nL cells slots Q σ pc lv (.int x :: st) := fun H locs ls hP hS hl => lv_tableIn C.1 C.2.1 dd h1 h2 ho ht (k H locs ls hP hS hl)
theorem X_tableOut (C : XC p s m args meth c P A nL own cc ret) {x : Int32} {dflt lo hi : Int} {offs : Array Int} {len : Nat} {tgt : Nat} (dd : decode cc pc = .ok (.tableswitch dflt lo hi offs, len)) (h : x.toInt < lo ∨ hi < x.toInt) (ht : (pc : Int) + dflt = (tgt : Int)) (k : XW p l e room_1 s m args below meth c P A nL cells slots Q σ tgt lv st) : XW p l e room_1 s m args below meth c P A nL cells slots Q σ pc lv (.int x :: st) := fun H locs ls hP hS hl => lv_tableOut C.1 C.2.1 dd h ht (k H locs ls hP hS hl)

set_option maxRecDepth 100000 in
set_option maxHeartbeats 4000000 in
theorem law_cases (hl0 : l.stackTraces = false) (C : XC p s m args meth c P A 9 RL cL_law ret) (hP : xAll P) (hX : ∀ d, SC (s.setDrawn d) A b L xs) (hd : s.drawn.sameBut d lw_cs) (hi : i + 6 ≤ L) (hR : RV σ) (hc : cells + 8 ≤ room_1.cells) (hs : slots + 64 ≤ room_1.slots) (K : ∀ d1 σ1, s.drawn.sameBut d1 lw_cs → RV σ1 → XW p l e room_1 (s.setDrawn d1) m args below meth c P A 9 (cells + 8) (slots + 64) Q σ1 2900 (lvL P b i) []) : ∀ a ∈ lawST, XW p l e room_1 (s.setDrawn d) m args below meth c P A 9 cells slots Q σ a (lvL P b i) [] :=
  List.forall_mem_cons.mpr ⟨k_0 hl0 (C.drawn d) hP (hX d) hi hR ⟨hc, hs⟩ (fun σ1 h2 => K d σ1 hd h2), List.forall_mem_cons.mpr ⟨k_1 hl0 (C.drawn d) hP (hX d) hi hR ⟨hc, hs⟩ (fun σ1 h2 => K d σ1 hd h2), List.forall_mem_cons.mpr ⟨k_2 hl0 (C.drawn d) hP (hX d) hi hR ⟨hc, hs⟩ (fun σ1 h2 => K d σ1 hd h2), List.forall_mem_cons.mpr ⟨k_3 hl0 (C.drawn d) hP (hX d) hi hR ⟨hc, hs⟩ (fun σ1 h2 => K d σ1 hd h2), List.forall_mem_cons.mpr ⟨k_4 hl0 (C.drawn d) hP (hX d) hi hR ⟨hc, hs⟩ (fun σ1 h2 => K d σ1 hd h2), List.forall_mem_cons.mpr ⟨k_5 hl0 (C.drawn d) hP (hX d) hi hR ⟨hc, hs⟩ (fun σ1 h2 => K d σ1 hd h2), List.forall_mem_cons.mpr ⟨k_6 hl0 (C.drawn d) hP (hX d) hi hR ⟨hc, hs⟩ (fun σ1 h2 => K d σ1 hd h2), List.forall_mem_cons.mpr ⟨k_7 hl0 (C.drawn d) hP (hX d) hi hR ⟨hc, hs⟩ (fun σ1 h2 => K d σ1 hd h2), List.forall_mem_cons.mpr ⟨k_8 hl0 (C.drawn d) hP (hX d) hi hR ⟨hc, hs⟩ (fun σ1 h2 => K d σ1 hd h2), List.forall_mem_cons.mpr ⟨k_9 hl0 (C.drawn d) hP (hX d) hi hR ⟨hc, hs⟩ (fun σ1 h2 => K d σ1 hd h2), List.forall_mem_cons.mpr ⟨k_10 hl0 (C.drawn d) hP (hX d) hi hR ⟨hc, hs⟩ (fun σ1 h2 => K d σ1 hd h2), List.forall_mem_cons.mpr ⟨k_11 hl0 (C.drawn d) hP (hX d) hi hR ⟨hc, hs⟩ (fun σ1 h2 => K d σ1 hd h2), List.forall_mem_cons.mpr ⟨k_12 hl0 (C.drawn d) hP (hX d) hi hR ⟨hc, hs⟩ (fun σ1 h2 => K d σ1 hd h2), List.forall_mem_cons.mpr ⟨k_13 hl0 (C.drawn d) hP (hX d) hi hR ⟨hc, hs⟩ (fun σ1 h2 => K d σ1 hd h2), List.forall_mem_cons.mpr ⟨k_14 hl0 (C.drawn d) hP (hX d) hi hR ⟨hc, hs⟩ (fun σ1 h2 => K d σ1 hd h2), List.forall_mem_cons.mpr ⟨k_15 hl0 (C.drawn d) hP (hX d) hi hR ⟨hc, hs⟩ (fun σ1 h2 => K d σ1 hd h2), List.forall_mem_cons.mpr ⟨k_16 hl0 (C.drawn d) hP (hX d) hi hR ⟨hc, hs⟩ (fun σ1 h2 => K d σ1 hd h2), List.forall_mem_cons.mpr ⟨k_17 hl0 (C.drawn d) hP (hX d) hi hR ⟨hc, hs⟩ (fun σ1 h2 => K d σ1 hd h2), List.forall_mem_cons.mpr ⟨k_18 hl0 (C.drawn d) hP (hX d) hi hR ⟨hc, hs⟩ (fun σ1 h2 => K d σ1 hd h2), List.forall_mem_cons.mpr ⟨k_19 hl0 (C.drawn d) hP (hX d) hi hR ⟨hc, hs⟩ (fun σ1 h2 => K d σ1 hd h2), List.forall_mem_cons.mpr ⟨k_20 hl0 (C.drawn d) hP (hX d) hi hR ⟨hc, hs⟩ (fun σ1 h2 => K d σ1 hd h2), List.forall_mem_cons.mpr ⟨k_21 hl0 (C.drawn d) hP (hX d) hi hR ⟨hc, hs⟩ (fun σ1 h2 => K d σ1 hd h2), List.forall_mem_cons.mpr ⟨k_22 hl0 (C.drawn d) hP (hX d) hi hR ⟨hc, hs⟩ (fun σ1 h2 => K d σ1 hd h2), List.forall_mem_cons.mpr ⟨k_23 hl0 (C.drawn d) hP (hX d) hi hR ⟨hc, hs⟩ (fun σ1 h2 => K d σ1 hd h2), List.forall_mem_cons.mpr ⟨k_24 hl0 (C.drawn d) hP (hX d) hi hR ⟨hc, hs⟩ (fun σ1 h2 => K d σ1 hd h2), List.forall_mem_cons.mpr ⟨k_25 hl0 (C.drawn d) hP (hX d) hi hR ⟨hc, hs⟩ (fun σ1 h2 => K d σ1 hd h2), List.forall_mem_cons.mpr ⟨k_26 hl0 (C.drawn d) hP (hX d) hi hR ⟨hc, hs⟩ (fun σ1 h2 => K d σ1 hd h2), List.forall_mem_cons.mpr ⟨k_27 hl0 (C.drawn d) hP (hX d) hi hR ⟨hc, hs⟩ (fun σ1 h2 => K d σ1 hd h2), List.forall_mem_cons.mpr ⟨k_28 hl0 (C.drawn d) hP (hX d) hi hR ⟨hc, hs⟩ (fun σ1 h2 => K d σ1 hd h2), List.forall_mem_cons.mpr ⟨k_29 hl0 (C.drawn d) hP (hX d) hi hR ⟨hc, hs⟩ (fun σ1 h2 => K d σ1 hd h2), List.forall_mem_cons.mpr ⟨k_30 hl0 (C.drawn d) hP (hX d) hi hR ⟨hc, hs⟩ (fun σ1 h2 => K d σ1 hd h2), List.forall_mem_cons.mpr ⟨k_31 hl0 (C.drawn d) hP (hX d) hi hR ⟨hc, hs⟩ (fun σ1 h2 => K d σ1 hd h2), List.forall_mem_cons.mpr ⟨k_32 hl0 (C.drawn d) hP (hX d) hi hR ⟨hc, hs⟩ (fun σ1 h2 => K d σ1 hd h2), List.forall_mem_cons.mpr ⟨k_33 hl0 (C.drawn d) hP (hX d) hi hR ⟨hc, hs⟩ (fun σ1 h2 => K d σ1 hd h2), List.forall_mem_cons.mpr ⟨k_34 hl0 (C.drawn d) hP (hX d) hi hR ⟨hc, hs⟩ (fun σ1 h2 => K d σ1 hd h2), List.forall_mem_cons.mpr ⟨k_35 hl0 (C.drawn d) hP (hX d) hi hR ⟨hc, hs⟩ (fun σ1 h2 => K d σ1 hd h2), List.forall_mem_cons.mpr ⟨k_36 hl0 (C.drawn d) hP (hX d) hi hR ⟨hc, hs⟩ (fun σ1 h2 => K d σ1 hd h2), List.forall_mem_cons.mpr ⟨k_37 hl0 (C.drawn d) hP (hX d) hi hR ⟨hc, hs⟩ (fun σ1 h2 => K d σ1 hd h2), List.forall_mem_cons.mpr ⟨k_38 hl0 (C.drawn d) hP (hX d) hi hR ⟨hc, hs⟩ (fun σ1 h2 => K d σ1 hd h2), List.forall_mem_cons.mpr ⟨k_39 hl0 (C.drawn d) hP (hX d) hi hR ⟨hc, hs⟩ (fun σ1 h2 => K d σ1 hd h2), List.forall_mem_cons.mpr ⟨k_40 hl0 (C.drawn d) hP (hX d) hi hR ⟨hc, hs⟩ (fun σ1 h2 => K d σ1 hd h2), List.forall_mem_cons.mpr ⟨k_41 hl0 (C.drawn d) hP (hX d) hi hR ⟨hc, hs⟩ (fun σ1 h2 => K d σ1 hd h2), List.forall_mem_cons.mpr ⟨k_42 hl0 (C.drawn d) hP (hX d) hi hR ⟨hc, hs⟩ (fun σ1 h2 => K d σ1 hd h2), List.forall_mem_cons.mpr ⟨k_43 hl0 (C.drawn d) hP (hX d) hi hR ⟨hc, hs⟩ (fun σ1 h2 => K d σ1 hd h2), List.forall_mem_cons.mpr ⟨k_44 hl0 (C.drawn d) hP (hX d) hi hR ⟨hc, hs⟩ (fun σ1 h2 => K d σ1 hd h2), List.forall_mem_cons.mpr ⟨k_45 hl0 (C.drawn d) hP (hX d) hi hR ⟨hc, hs⟩ (fun σ1 h2 => K d σ1 hd h2), List.forall_mem_cons.mpr ⟨k_46 hl0 (C.drawn d) hP (hX d) hi hR ⟨hc, hs⟩ (fun σ1 h2 => K d σ1 hd h2), List.forall_mem_cons.mpr ⟨k_47 hl0 (C.drawn d) hP (hX d) hi hR ⟨hc, hs⟩ (fun σ1 h2 => K d σ1 hd h2), List.forall_mem_cons.mpr ⟨k_48 hl0 (C.drawn d) hP (hX d) hi hR ⟨hc, hs⟩ (fun σ1 h2 => K d σ1 hd h2), List.forall_mem_cons.mpr ⟨k_49 hl0 (C.drawn d) hP (hX d) hi hR ⟨hc, hs⟩ (fun σ1 h2 => K d σ1 hd h2), List.forall_mem_cons.mpr ⟨k_50 hl0 (C.drawn d) hP (hX d) hi hR ⟨hc, hs⟩ (fun σ1 h2 => K d σ1 hd h2), List.forall_mem_cons.mpr ⟨k_51 hl0 (C.drawn d) hP (hX d) hi hR ⟨hc, hs⟩ (fun σ1 h2 => K d σ1 hd h2), List.forall_mem_cons.mpr ⟨k_52 hl0 (C.drawn d) hP (hX d) hi hR ⟨hc, hs⟩ (fun σ1 h2 => K d σ1 hd h2), List.forall_mem_cons.mpr ⟨k_53 hl0 (C.drawn d) hP (hX d) hi hR ⟨hc, hs⟩ (fun σ1 h2 => K d σ1 hd h2), List.forall_mem_cons.mpr ⟨k_54 hd (C.drawn d) hP hR ⟨by omega, by omega⟩ (fun d1 σ1 h1 h2 => XW.widen (Nat.le_add_right _ _) (Nat.le_add_right _ _) (K d1 σ1 h1 h2)), List.forall_mem_cons.mpr ⟨k_55 hd (C.drawn d) hP hR ⟨by omega, by omega⟩ (fun d1 σ1 h1 h2 => XW.widen (Nat.le_add_right _ _) (Nat.le_add_right _ _) (K d1 σ1 h1 h2)), List.forall_mem_cons.mpr ⟨k_56 hl0 (C.drawn d) hP (hX d) hi hR ⟨hc, hs⟩ (fun σ1 h2 => K d σ1 hd h2), List.forall_mem_cons.mpr ⟨k_57 hl0 (C.drawn d) hP (hX d) hi hR ⟨hc, hs⟩ (fun σ1 h2 => K d σ1 hd h2), fun _ h => absurd h List.not_mem_nil⟩⟩⟩⟩⟩⟩⟩⟩⟩⟩⟩⟩⟩⟩⟩⟩⟩⟩⟩⟩⟩⟩⟩⟩⟩⟩⟩⟩⟩⟩⟩⟩⟩⟩⟩⟩⟩⟩⟩⟩⟩⟩⟩⟩⟩⟩⟩⟩⟩⟩⟩⟩⟩⟩⟩⟩⟩⟩
set_option maxRecDepth 100000 in
set_option maxHeartbeats 4000000 in
theorem law_turn (hl0 : l.stackTraces = false) (C : XC p s m args meth c P A 9 RL cL_law ret) (hP : xAll P) (hX : ∀ d, SC (s.setDrawn d) A b L xs) (hd : s.drawn.sameBut d lw_cs) (hi : i + 6 ≤ L) (hR : RV σ) (hc : cells + 8 ≤ room_1.cells) (hs : slots + 64 ≤ room_1.slots) (K : ∀ d1 σ1, s.drawn.sameBut d1 lw_cs → RV σ1 → XW p l e room_1 (s.setDrawn d1) m args below meth c P A 9 (cells + 8) (slots + 64) Q σ1 2900 (lvL P b i) []) : XW p l e room_1 (s.setDrawn d) m args below meth c P A 9 cells slots Q σ 33 (lvL P b i) [] := by
  have hk := law_cases (cells := cells) (slots := slots) hl0 C hP hX hd hi hR hc hs K
  refine X_arg0 (pc := 33) (C.drawn d) (hX d) hi rfl rfl dL_law_33 dL_law_34 dL_law_36 ?_
  refine X_bipush (pc := 37) (v := 63) (C.drawn d) dL_law_37 (by decide) ?_
  refine X_iand (pc := 39) (C.drawn d) dL_law_39 ?_
  obtain ⟨n, hn, e⟩ := and63 (xs i)
  rw [e]
  have en : (nI n).toInt = (n : Int) := nI_toInt (by omega)
  by_cases h : n < 58
  · obtain ⟨off, h1, h2⟩ := lawOF_at n h
    refine X_tableIn (pc := 40) (C.drawn d) (offs := lawOF) (off := off) (tgt := lawST.getD n 0) dL_law_40 (by omega) (by omega) ?_ h2 (hk _ ?_)
    · rw [en, show ((n : Int) - 0).toNat = n from by omega]; exact h1
    · rw [List.getD_eq_getElem?_getD]
      have hl : n < lawST.length := by rw [show lawST.length = 58 from by decide +kernel]; exact h
      rw [List.getElem?_eq_getElem hl]
      exact List.getElem_mem hl
  · refine X_tableOut (pc := 40) (C.drawn d) (tgt := 2900) dL_law_40 (Or.inr (by omega)) (by decide) ?_
    exact XW.widen (Nat.le_add_right _ _) (Nat.le_add_right _ _) (K d σ hd hR)

set_option maxRecDepth 100000 in
set_option maxHeartbeats 4000000 in
theorem law_loop (hl0 : l.stackTraces = false) (C : XC p s m args meth c P A 9 RL cL_law ret) (hP : xAll P) (hX : ∀ d, SC (s.setDrawn d) A b L xs)
    (kx : ∀ d1 σ1 i1 c1 s1, s.drawn.sameBut d1 lw_cs → c1 ≤ 601024 → s1 ≤ 7293034 → XW p l e room_1 (s.setDrawn d1) m args below meth c P A 9 c1 s1 Q σ1 2906 (lvL P b i1) []) :
    ∀ (f i cells slots : Nat) (σ : XS) (d : Drawn), s.drawn.sameBut d lw_cs → RV σ → i ≤ 4000 → L < i + 6 * f + 6 → cells + 8 * f ≤ 601024 → slots + 64 * f ≤ 7293034 → XW p l e room_1 (s.setDrawn d) m args below meth c P A 9 cells slots Q σ 23 (lvL P b i) [] := by
  have hL : L ≤ 3072 := (hX s.drawn).2.2.2
  intro f
  induction f with
  | zero =>
    intro i cells slots σ d hd hR h4 hf hc hs
    have D := C.drawn d
    refine X_iload (pc := 23) D dL_law_23 rfl ?_
    refine X_aload_n (pc := 25) D 0 dL_law_25 rfl rfl ?_
    refine X_slen (pc := 26) D (hX d) dL_law_26 ?_
    refine X_bipush (pc := 27) (v := 6) D dL_law_27 (by decide) ?_
    refine X_isub (pc := 29) D dL_law_29 ?_
    exact X_icmp_gt (pc := 30) D 2906 dL_law_30 (by decide) (fun _ => kx d σ i _ _ hd (by omega) (by omega)) (fun q => absurd (i_le6 h4 hL q) (by omega))
  | succ f ih =>
    intro i cells slots σ d hd hR h4 hf hc hs
    have D := C.drawn d
    refine X_iload (pc := 23) D dL_law_23 rfl ?_
    refine X_aload_n (pc := 25) D 0 dL_law_25 rfl rfl ?_
    refine X_slen (pc := 26) D (hX d) dL_law_26 ?_
    refine X_bipush (pc := 27) (v := 6) D dL_law_27 (by decide) ?_
    refine X_isub (pc := 29) D dL_law_29 ?_
    refine X_icmp_gt (pc := 30) D 2906 dL_law_30 (by decide) (fun _ => kx d σ i _ _ hd (by omega) (by omega)) (fun q => ?_)
    have hi := i_le6 h4 hL q
    refine law_turn hl0 C hP hX hd hi hR (by show cells + 8 ≤ 601024; omega) (by show slots + 64 ≤ 7293034; omega) (fun d1 σ1 hd1 hR1 => ?_)
    have D1 := C.drawn d1
    refine X_iinc (pc := 2900) (kk := 6) (lv1 := lvL P b (i + 6)) D1 dL_law_2900 rfl (by decide) (by decide) (by rw [show (6 : Int32) = nI 6 from rfl, nI_add]; rfl) ?_
    refine X_goto (pc := 2903) D1 23 dL_law_2903 (by decide) ?_
    exact ih (i + 6) _ _ σ1 d1 hd1 hR1 (by omega) (by omega) (by omega) (by omega)

end XP77

/-! word AND write -/
abbrev rm_L_word : Room := { frames := 4, cells := 0, slots := 0, locals := 120 }
abbrev rm_L_write : Room := { frames := 12, cells := 10, slots := 60, locals := 400 }
section X87o
variable {p : Program} {l : Launch} {e : Env} {R : Room} {s : State} {m : MethodId} {args : Array Value} {below : List Frame} {meth : Method} {c : Code} {P : XP} {A : Nat → Prop} {nL cells slots : Nat} {Q : State → Prop} {own : String} {cc : ByteArray} {ret : Option FieldType} {σ : XS} {pc : Nat} {lv : List (Nat × Value)} {st : List Value}
/-- on a raw thing, a method of its own class that leaves all as it is -/
theorem X_fVR (C : XC p s m args meth c P A nL own cc ret) {y : MethodName} {cy : ByteArray} {ny : Nat} {ry : Option FieldType} {rm : Room} (i : Nat) {b ci : Nat} {fs : List Value} {q9 : vw_C} (As : List Value) {n index : Nat} {v1 : Option Value} (hM : XF l y cy ny ry rm P (.ref b :: As) σ v1 σ) (hc : Cond.code y cy ny ry ∈ xTB) (hlk : Cond.methodLink own index y ∈ xTB) (hin : Cond.instanceMethod y ∈ xTB) (hse : Cond.selects y.cls y y ∈ xTB) (hini : Cond.initialized y.cls ∈ xTB) (hd : y.cls ≠ "java/lang/invoke/MethodHandle" ∧ y.cls ≠ "java/lang/invoke/VarHandle" ∧ (parseMethodDescriptor y.desc).map (fun d => d.parameters.length) = some n) (hR : rm.frames + 1 ≤ R.frames ∧ 8 + (ny + 11) + rm.locals ≤ R.locals) (hz : rm.cells = 0 ∧ rm.slots = 0) (hcl : cells ≤ R.cells ∧ slots ≤ R.slots)
    (he : (xRaw P)[i]? = some (b, .inr (ci, fs))) (hci : vwCl[ci]? = some q9) (hq : q9.1 = y.cls) (hn : As.length = n) (hst : (st.map fun v => v.category).sum ≤ 8) {st0 : List Value} (h0 : st0 = As.reverse ++ .ref b :: st) (d : decode cc pc = .ok (.invokevirtual index, 3)) (k : XW p l e R s m args below meth c P A nL cells slots Q σ (pc + 3) lv (v1.toList ++ st)) : XW p l e R s m args below meth c P A nL cells slots Q σ pc lv st0 :=
  X_callVP C i As (XMP.ofX hM) hc hlk hin hse hini hd hR (by rw [hz.1, hz.2]; exact hcl) he hci hq hn hst h0 d (fun v w hp C1 => by obtain ⟨rfl, rfl⟩ := hp; rw [hz.1, hz.2]; exact k)
end X87o
theorem gD_out {t : List Int32} {j : Nat} (h : t.length ≤ j) : t.getD j 0 = 0 := by rw [List.getD_eq_getElem?_getD, List.getElem?_eq_none h]; rfl
theorem okT.by8 {t : List Int32} (h : okT t) (j : Nat) : by8 (t.getD j 0) := by
  by_cases g : j < t.length
  · obtain ⟨x, hx, e⟩ := h j g
    rw [e]; exact by8_n hx
  · rw [gD_out (by omega)]; exact by8_n (x := 0) (by decide)
theorem by8_m1 {c : Int32} (h : by8 c) : ¬ c = -1 := fun q => by
  have := h 8 (by decide) (by decide)
  rw [q, b_m1 8 (by decide)] at this
  exact absurd this (by decide)
/-- the first m bytes of the input are the text's; nothing else has changed -/
def Wr (σ0 σ : XS) (t : List Int32) (m : Nat) : Prop := (∀ i, i ≠ .inr 2 → i ≠ .inr 3 → σ.1 i = σ0.1 i) ∧ σ.2 = σ0.2 ∧ σ.1 (.inr 2) 1 = nI m ∧ ∀ i, i < m → σ.1 (.inr 3) i = t.getD i 0
theorem Wr.four {σ0 σ : XS} {t : List Int32} {m : Nat} (h : Wr σ0 σ t m) (ho : okT t) : Wr σ0 (uFour σ m (wd t m 4)) t (m + 4) := by
  obtain ⟨h1, h2, h3, h4⟩ := h
  obtain ⟨a, b, c, d⟩ := wd_b (p := m) ho.by8
  refine ⟨fun i g2 g3 => (uFour_o g2 g3).trans (h1 i g2 g3), ?_, ?_, fun i hi => ?_⟩
  · rw [← h2]; rfl
  · unfold uFour uByte
    simp only [xu_ap]
    simp
  · rw [uFour_at]
    by_cases g3 : i = m + 3
    · rw [if_pos g3, d, g3]
    · rw [if_neg g3]
      by_cases g2 : i = m + 2
      · rw [if_pos g2, c, g2]
      · rw [if_neg g2]
        by_cases g1 : i = m + 1
        · rw [if_pos g1, b, g1]
        · rw [if_neg g1]
          by_cases g0 : i = m
          · rw [if_pos g0, a, g0]
          · rw [if_neg g0]; exact h4 i (by omega)
theorem Wr.tx {σ0 σ : XS} {t : List Int32} {m : Nat} (h : Wr σ0 σ t m) (ho : okT t) (hm : m ≤ 700) : Tx σ m := ⟨h.2.2.1, hm, fun i hi => by rw [h.2.2.2 i hi]; exact by8_m1 (ho.by8 i)⟩
section X87
variable {p : Program} {l : Launch} {e : Env} {R : Room} {s : State} {m : MethodId} {args : Array Value} {below : List Frame} {meth : Method} {c : Code} {P : XP} {A : Nat → Prop}  {Q : State → Prop} {cc : ByteArray} {ret : Option FieldType} {σ : XS} {pc : Nat} {lv : List (Nat × Value)} {st : List Value}
variable {t : List Int32} {i k a q : Nat}

set_option maxRecDepth 100000 in
set_option maxHeartbeats 4000000 in
theorem c_L_word (l : Launch) (P : XP) (σ : XS) (hs : isStr (xRaw P) (P.2.1 4) i k a q t) (ho : okT t) (pp : Nat) (hpp : pp ≤ 1000) : XF l yL_word cL_word 4 (some .int) rm_L_word P [.ref a, .int (nI pp)] σ (some (.int (wd t pp 4))) σ := by
  refine XM.of (by decide +kernel) (Nat.le_of_ble_eq_true rfl) (fun p e s m args below meth c A C => ?_)
  replace C : XC p s m args meth c P A 4 RL cL_word (some .int) := C
  have hlen := hs.2.1
  have lp : ∀ (n j : Nat), n + j = 4 → XW p l e rm_L_word s m args below meth c P A 4 0 0 (MQ below (XQ P A (fun v9 σ9 => v9 = some (.int (wd t pp 4)) ∧ σ9 = σ)) args s rm_L_word.cells rm_L_word.slots A) σ 4 [(0, .ref a), (1, .int (nI pp)), (2, .int (wd t pp j)), (3, .int (nI (pp + j)))] [] := by
    intro n
    induction n with
    | zero =>
      intro j hj
      obtain rfl : j = 4 := by omega
      refine X_iload_n (pc := 4) C 3 dL_word_4 rfl rfl ?_
      refine X_iload_n (pc := 5) C 1 dL_word_5 rfl rfl ?_
      refine X_iconst (pc := 6) (v := nI 4) C dL_word_6 (by decide) ?_
      refine X_iadd (pc := 7) C dL_word_7 ?_
      rw [nI_add]
      refine X_icmp_ge (pc := 8) C 40 dL_word_8 (by decide) (fun h => ?_) (fun h => absurd (Int32.le_refl _) h)
      refine X_iload_n (pc := 40) C 2 dL_word_40 rfl rfl ?_
      exact X_iret (pc := 41) C (Nat.zero_le _) (Nat.zero_le _) dL_word_41 ⟨rfl, rfl⟩
    | succ n ih =>
      intro j hj
      have m32 : XW p l e rm_L_word s m args below meth c P A 4 0 0 (MQ below (XQ P A (fun v9 σ9 => v9 = some (.int (wd t pp 4)) ∧ σ9 = σ)) args s rm_L_word.cells rm_L_word.slots A) σ 32 [(0, .ref a), (1, .int (nI pp)), (2, .int (wd t pp j)), (3, .int (nI (pp + j)))] [.int (t.getD (pp + j) 0), .int (wd t pp j <<< ((8 : Int32) &&& 31))] := by
        refine X_ior (pc := 32) C dL_word_32 ?_
        refine X_istore_n (pc := 33) (lv1 := [(0, _), (1, _), (2, _), (3, _)]) C 2 dL_word_33 rfl (by decide) rfl ?_
        first | refine X_iincN (pc := 34) (lv1 := [(0, _), (1, _), (2, _), (3, _)]) C dL_word_34 rfl (by decide) (by decide) rfl ?_ | refine X_iinc (pc := 34) (kk := 1) (lv1 := [(0, _), (1, _), (2, _), (3, _)]) C dL_word_34 rfl (by decide) (by decide) rfl ?_
        refine X_goto (pc := 37) C 4 dL_word_37 (by decide) ?_
        exact ih (j + 1) (by omega)
      refine X_iload_n (pc := 4) C 3 dL_word_4 rfl rfl ?_
      refine X_iload_n (pc := 5) C 1 dL_word_5 rfl rfl ?_
      refine X_iconst (pc := 6) (v := nI 4) C dL_word_6 (by decide) ?_
      refine X_iadd (pc := 7) C dL_word_7 ?_
      rw [nI_add]
      refine X_icmp_ge (pc := 8) C 40 dL_word_8 (by decide) (fun h => absurd h (nI_ge (by omega) (n31 (by omega)))) (fun h => ?_)
      refine X_iload_n (pc := 11) C 2 dL_word_11 rfl rfl ?_
      refine X_bipush (pc := 12) (v := 8) C dL_word_12 (by decide) ?_
      refine X_ishl (pc := 14) C dL_word_14 ?_
      refine X_iload_n (pc := 15) C 3 dL_word_15 rfl rfl ?_
      refine X_aload_n (pc := 16) C 0 dL_word_16 rfl rfl ?_
      refine X_fVR (n := 0) (pc := 17) C i [] (c_J0_lengthR l _ σ i k a q t hs) m_c_J0_length_8abf5 m_m_L_104 m_i_J0_length_8abf5 m_s_J0_length_8abf5 m_n_J0 ⟨by decide +kernel, by decide +kernel, by decide +kernel⟩ ⟨Nat.le_of_ble_eq_true rfl, Nat.le_of_ble_eq_true rfl⟩ ⟨rfl, rfl⟩ ⟨Nat.zero_le _, Nat.zero_le _⟩ hs.1 rfl rfl rfl (Nat.le_of_ble_eq_true rfl) rfl dL_word_17 ?_
      refine X_icmp_ge (pc := 20) C 31 dL_word_20 (by decide) (fun h20 => ?_) (fun h20 => ?_)
      · have hge : t.length ≤ pp + j := (nI_leI (n31 (by omega)) (n31 (by omega))).mp h20
        refine X_iconst (pc := 31) (v := 0) C dL_word_31 (by decide) ?_
        rw [gD_out hge] at m32
        exact m32
      · have hlt : pp + j < t.length := Nat.lt_of_not_le (fun z => h20 ((nI_leI (n31 (by omega)) (n31 (by omega))).mpr z))
        refine X_aload_n (pc := 23) C 0 dL_word_23 rfl rfl ?_
        refine X_iload_n (pc := 24) C 3 dL_word_24 rfl rfl ?_
        refine X_fVR (n := 1) (pc := 25) C i [.int _] (c_J0_charAtR l _ σ i k a q t hs ho (pp + j) hlt) m_c_J0_charAt_5068e m_m_L_109 m_i_J0_charAt_5068e m_s_J0_charAt_5068e m_n_J0 ⟨by decide +kernel, by decide +kernel, by decide +kernel⟩ ⟨Nat.le_of_ble_eq_true rfl, Nat.le_of_ble_eq_true rfl⟩ ⟨rfl, rfl⟩ ⟨Nat.zero_le _, Nat.zero_le _⟩ hs.1 rfl rfl rfl (Nat.le_of_ble_eq_true rfl) rfl dL_word_25 ?_
        refine X_goto (pc := 28) C 32 dL_word_28 (by decide) ?_
        exact m32
  refine XW.eq (lv' := [(0, _), (1, _)]) rfl rfl rfl ?_
  refine X_iconst (pc := 0) (v := 0) C dL_word_0 (by decide) ?_
  refine X_istore_n (pc := 1) (lv1 := [(0, _), (1, _), (2, _)]) C 2 dL_word_1 rfl (by decide) rfl ?_
  refine X_iload_n (pc := 2) C 1 dL_word_2 rfl rfl ?_
  refine X_istore_n (pc := 3) (lv1 := [(0, _), (1, _), (2, _), (3, _)]) C 3 dL_word_3 rfl (by decide) rfl ?_
  exact lp 4 0 rfl

theorem b_trunc (l : Launch) (hl0 : l.stackTraces = false) (P : XP) (hP : XA P) (σ : XS) (hB : Bd σ 0) (n : Nat) (hx : Tx σ n) (x : Nat) (hle : x ≤ n) : XMH l yL_truncateInput cL_truncateInput 3 [(0, 5, 6, 13)] (rmL 2 rm_X6_truncateInput) P [.ref (P.2.2.1 (.inr 0)), .int (nI x)] σ (fun w τ => w = some (.int (nI x)) ∧ τ = xu σ (.inr 2) 1 (nI x)) := by
  have h7 := hx.2.1
  refine (c_L_truncateInput l P σ hP.n0 _ (c_X6_truncateInput l hl0 P σ hP.1 hP.2 hB n hx (nI x)) (fun v9 τ q => ⟨_, q.2.1⟩) (fun E τ he => rq_e he.1)).mono (fun w τ q => ?_)
  exact LW_v (rq_t (xok_nI (by omega) (by omega))) rfl q
set_option maxRecDepth 100000 in
set_option maxHeartbeats 4000000 in
theorem c_L_write (l : Launch) (hl0 : l.stackTraces = false) (P : XP) (hP : XA P) (σ : XS) (hB : Bd σ 0) {n0 : Nat} (hx : Tx σ n0) (hs : isStr (xRaw P) (P.2.1 4) i k a q t) (ho : okT t) (h6 : t.length ≤ 600) : XM l yL_write cL_write 3 (some .boolean) rm_L_write P [.ref (P.2.2.1 (.inr 0)), .ref a] σ (fun v9 τ => v9 = some (.int 1) ∧ Wr σ τ t t.length) := by
  refine XM.of (by decide +kernel) (Nat.le_of_ble_eq_true rfl) (fun p e s m args below meth c A C => ?_)
  replace C : XC p s m args meth c P A 3 RL cL_write (some .boolean) := C
  have lp : ∀ (f j : Nat), f + j = 40 → 20 * j < t.length + 20 → ∀ τ, Wr σ τ t (20 * j) → XW p l e rm_L_write s m args below meth c P A 3 (1) (6 * (1)) (MQ below (XQ P A (fun v9 τ => v9 = some (.int 1) ∧ Wr σ τ t t.length)) args s rm_L_write.cells rm_L_write.slots A) τ 12 [(0, .ref (P.2.2.1 (.inr 0))), (1, .ref a), (2, .int (nI (20 * j)))] [] := by
    intro f
    induction f with
    | zero => intro j h1 h2; omega
    | succ f ih =>
      intro j h1 h2 τ hw
      refine X_iload_n (pc := 12) C 2 dL_write_12 rfl rfl ?_
      refine X_aload_n (pc := 13) C 1 dL_write_13 rfl rfl ?_
      refine X_fVR (n := 0) (pc := 14) C i [] (c_J0_lengthR l _ _ i k a q t hs) m_c_J0_length_8abf5 m_m_L_104 m_i_J0_length_8abf5 m_s_J0_length_8abf5 m_n_J0 ⟨by decide +kernel, by decide +kernel, by decide +kernel⟩ ⟨Nat.le_of_ble_eq_true rfl, Nat.le_of_ble_eq_true rfl⟩ ⟨rfl, rfl⟩ ⟨by show _ ≤ 10; omega, by show _ ≤ 60; omega⟩ hs.1 rfl rfl rfl (Nat.le_of_ble_eq_true rfl) rfl dL_write_14 ?_
      skip
      refine X_icmp_ge (pc := 17) C 75 dL_write_17 (by decide) (fun h17 => ?_) (fun h17 => ?_)
      · have hge : t.length ≤ 20 * j := (nI_leI (n31 (by omega)) (n31 (by omega))).mp h17
        have hBd : Bd τ 0 := hB.o (congrFun (hw.1 (.inl (0, 1)) (by simp) (by simp)) 6) (congrFun (hw.1 (.inl (0, 8)) (by simp) (by simp)) 10) (congrFun (hw.1 (.inl (0, 0)) (by simp) (by simp)) 6)
        have hend : Wr σ (xu τ (.inr 2) 1 (nI t.length)) t t.length := ⟨fun i g2 g3 => (xu_ne _ _ _ g2).trans (hw.1 i g2 g3), by rw [xu_l]; exact hw.2.1, xu_self _ _ _ _, fun i hi => by rw [xu_ne _ _ _ (by simp)]; exact hw.2.2.2 i (by omega)⟩
        refine X_aload_n (pc := 75) C 0 dL_write_75 rfl rfl ?_
        refine X_aload_n (pc := 76) C 1 dL_write_76 rfl rfl ?_
        refine X_fVR (n := 0) (pc := 77) C i [] (c_J0_lengthR l _ _ i k a q t hs) m_c_J0_length_8abf5 m_m_L_104 m_i_J0_length_8abf5 m_s_J0_length_8abf5 m_n_J0 ⟨by decide +kernel, by decide +kernel, by decide +kernel⟩ ⟨Nat.le_of_ble_eq_true rfl, Nat.le_of_ble_eq_true rfl⟩ ⟨rfl, rfl⟩ ⟨by show _ ≤ 10; omega, by show _ ≤ 60; omega⟩ hs.1 rfl rfl rfl (Nat.le_of_ble_eq_true rfl) rfl dL_write_77 ?_
        refine X_chg (n := 2) (nc := 1) (pc := 80) C [.ref _, .int _] (b_trunc l hl0 _ hP _ hBd (20 * j) (hw.tx ho (by omega)) t.length (by omega)) ⟨rfl, rfl⟩ m_h_L_truncateInput m_m_L_113 m_t_L_truncateInput m_n_L ⟨by decide +kernel, by decide +kernel, by decide +kernel⟩ ⟨Nat.le_of_ble_eq_true rfl, Nat.le_of_ble_eq_true rfl⟩ ⟨by show _ ≤ 10; omega, by show _ ≤ 60; omega⟩ rfl (Nat.le_of_ble_eq_true rfl) rfl dL_write_80 (fun v9 υ hq => ?_)
        obtain ⟨rfl, rfl⟩ := hq
        refine X_aload_n (pc := 83) C 1 dL_write_83 rfl rfl ?_
        refine X_fVR (n := 0) (pc := 84) C i [] (c_J0_lengthR l _ _ i k a q t hs) m_c_J0_length_8abf5 m_m_L_104 m_i_J0_length_8abf5 m_s_J0_length_8abf5 m_n_J0 ⟨by decide +kernel, by decide +kernel, by decide +kernel⟩ ⟨Nat.le_of_ble_eq_true rfl, Nat.le_of_ble_eq_true rfl⟩ ⟨rfl, rfl⟩ ⟨by show _ ≤ 10; omega, by show _ ≤ 60; omega⟩ hs.1 rfl rfl rfl (Nat.le_of_ble_eq_true rfl) rfl dL_write_84 ?_
        refine X_icmp_ne (pc := 87) C 94 dL_write_87 (by decide) (fun h => absurd rfl h) (fun h => ?_)
        refine X_iconst (pc := 90) (v := 1) C dL_write_90 (by decide) ?_
        refine X_goto (pc := 91) C 95 dL_write_91 (by decide) ?_
        exact X_zret (pc := 95) C (by show _ ≤ 10; omega) (by show _ ≤ 60; omega) rfl dL_write_95 ⟨rfl, hend⟩
      · have hlt : 20 * j < t.length := Nat.lt_of_not_le (fun z => h17 ((nI_leI (n31 (by omega)) (n31 (by omega))).mpr z))
        have w1 := hw.four ho
        have w2 := w1.four ho
        have w3 := w2.four ho
        have w4 := w3.four ho
        have w5 := w4.four ho
        refine X_aload_n (pc := 20) C 0 dL_write_20 rfl rfl ?_
        refine X_aload_n (pc := 21) C 1 dL_write_21 rfl rfl ?_
        refine X_iload_n (pc := 22) C 2 dL_write_22 rfl rfl ?_
        refine X_callSF (n := 2) (pc := 23) C [.ref _, .int _] (c_L_word l _ _ hs ho (20 * j) (by omega)) m_c_L_word m_m_L_118 m_t_L_word m_n_L ⟨by decide +kernel, by decide +kernel, by decide +kernel⟩ ⟨Nat.le_of_ble_eq_true rfl, Nat.le_of_ble_eq_true rfl⟩ ⟨rfl, rfl⟩ ⟨by show _ ≤ 10; omega, by show _ ≤ 60; omega⟩ rfl (Nat.le_of_ble_eq_true rfl) rfl dL_write_23 ?_
        refine X_aload_n (pc := 26) C 1 dL_write_26 rfl rfl ?_
        refine X_iload_n (pc := 27) C 2 dL_write_27 rfl rfl ?_
        refine X_iconst (pc := 28) (v := nI 4) C dL_write_28 (by decide) ?_
        refine X_iadd (pc := 29) C dL_write_29 ?_
        rw [nI_add]
        refine X_callSF (n := 2) (pc := 30) C [.ref _, .int _] (c_L_word l _ _ hs ho (20 * j + 4) (by omega)) m_c_L_word m_m_L_118 m_t_L_word m_n_L ⟨by decide +kernel, by decide +kernel, by decide +kernel⟩ ⟨Nat.le_of_ble_eq_true rfl, Nat.le_of_ble_eq_true rfl⟩ ⟨rfl, rfl⟩ ⟨by show _ ≤ 10; omega, by show _ ≤ 60; omega⟩ rfl (Nat.le_of_ble_eq_true rfl) rfl dL_write_30 ?_
        refine X_aload_n (pc := 33) C 1 dL_write_33 rfl rfl ?_
        refine X_iload_n (pc := 34) C 2 dL_write_34 rfl rfl ?_
        refine X_bipush (pc := 35) (v := nI 8) C dL_write_35 (by decide) ?_
        refine X_iadd (pc := 37) C dL_write_37 ?_
        rw [nI_add]
        refine X_callSF (n := 2) (pc := 38) C [.ref _, .int _] (c_L_word l _ _ hs ho (20 * j + 8) (by omega)) m_c_L_word m_m_L_118 m_t_L_word m_n_L ⟨by decide +kernel, by decide +kernel, by decide +kernel⟩ ⟨Nat.le_of_ble_eq_true rfl, Nat.le_of_ble_eq_true rfl⟩ ⟨rfl, rfl⟩ ⟨by show _ ≤ 10; omega, by show _ ≤ 60; omega⟩ rfl (Nat.le_of_ble_eq_true rfl) rfl dL_write_38 ?_
        refine X_aload_n (pc := 41) C 1 dL_write_41 rfl rfl ?_
        refine X_iload_n (pc := 42) C 2 dL_write_42 rfl rfl ?_
        refine X_bipush (pc := 43) (v := nI 12) C dL_write_43 (by decide) ?_
        refine X_iadd (pc := 45) C dL_write_45 ?_
        rw [nI_add]
        refine X_callSF (n := 2) (pc := 46) C [.ref _, .int _] (c_L_word l _ _ hs ho (20 * j + 12) (by omega)) m_c_L_word m_m_L_118 m_t_L_word m_n_L ⟨by decide +kernel, by decide +kernel, by decide +kernel⟩ ⟨Nat.le_of_ble_eq_true rfl, Nat.le_of_ble_eq_true rfl⟩ ⟨rfl, rfl⟩ ⟨by show _ ≤ 10; omega, by show _ ≤ 60; omega⟩ rfl (Nat.le_of_ble_eq_true rfl) rfl dL_write_46 ?_
        refine X_aload_n (pc := 49) C 1 dL_write_49 rfl rfl ?_
        refine X_iload_n (pc := 50) C 2 dL_write_50 rfl rfl ?_
        refine X_bipush (pc := 51) (v := nI 16) C dL_write_51 (by decide) ?_
        refine X_iadd (pc := 53) C dL_write_53 ?_
        rw [nI_add]
        refine X_callSF (n := 2) (pc := 54) C [.ref _, .int _] (c_L_word l _ _ hs ho (20 * j + 16) (by omega)) m_c_L_word m_m_L_118 m_t_L_word m_n_L ⟨by decide +kernel, by decide +kernel, by decide +kernel⟩ ⟨Nat.le_of_ble_eq_true rfl, Nat.le_of_ble_eq_true rfl⟩ ⟨rfl, rfl⟩ ⟨by show _ ≤ 10; omega, by show _ ≤ 60; omega⟩ rfl (Nat.le_of_ble_eq_true rfl) rfl dL_write_54 ?_
        refine X_fV (i := .inr 0) (ci := 6) (n := 5) (pc := 57) C [.int _, .int _, .int _, .int _, .int _] (c_X6_append l _ τ hP.1 (20 * j) (hw.tx ho (by omega)) _ _ _ _ _) m_c_X6_append m_m_L_122 m_i_X6_append m_s_X6_append m_n_X6 ⟨by decide +kernel, by decide +kernel, by decide +kernel⟩ ⟨Nat.le_of_ble_eq_true rfl, Nat.le_of_ble_eq_true rfl⟩ ⟨rfl, rfl⟩ ⟨by show _ ≤ 10; omega, by show _ ≤ 60; omega⟩ hP.n0 rfl rfl rfl rfl (Nat.le_of_ble_eq_true rfl) rfl dL_write_57 ?_
        rw [if_pos (show 20 * j + 20 ≤ 700 by omega), if_pos (show 20 * j + 20 ≤ 700 by omega)]
        refine X_iload_n (pc := 60) C 2 dL_write_60 rfl rfl ?_
        refine X_bipush (pc := 61) (v := nI 20) C dL_write_61 (by decide) ?_
        refine X_iadd (pc := 63) C dL_write_63 ?_
        rw [nI_add]
        refine X_icmp_eq (pc := 64) C 69 dL_write_64 (by decide) (fun h => ?_) (fun h => absurd rfl h)
        refine X_iinc (kk := nI 20) (lv1 := [(0, _), (1, _), (2, _)]) (pc := 69) C dL_write_69 rfl (by decide) (by decide) rfl ?_
        rw [nI_add, show 20 * j + 20 = 20 * (j + 1) by omega]
        refine X_goto (pc := 72) C 12 dL_write_72 (by decide) ?_
        exact ih (j + 1) (by omega) (by omega) _ w5
  refine XW.eq (lv' := [(0, _), (1, _)]) rfl rfl rfl ?_
  refine XW.up (c1 := 0) (s1 := 6 * 0) (by omega) (by omega) ?_
  refine X_aload_n (pc := 0) C 0 dL_write_0 rfl rfl ?_
  refine X_iconst (pc := 1) (v := 0) C dL_write_1 (by decide) ?_
  refine X_chg (n := 2) (nc := 1) (pc := 2) C [.ref _, .int _] (b_trunc l hl0 _ hP _ hB n0 hx 0 (by omega)) ⟨rfl, rfl⟩ m_h_L_truncateInput m_m_L_113 m_t_L_truncateInput m_n_L ⟨by decide +kernel, by decide +kernel, by decide +kernel⟩ ⟨Nat.le_of_ble_eq_true rfl, Nat.le_of_ble_eq_true rfl⟩ ⟨by show _ ≤ 10; omega, by show _ ≤ 60; omega⟩ rfl (Nat.le_of_ble_eq_true rfl) rfl dL_write_2 (fun v9 υ hq => ?_)
  obtain ⟨rfl, rfl⟩ := hq
  refine X_if_eq (pc := 5) C 10 dL_write_5 (by decide) (fun h => ?_) (fun h => absurd rfl h)
  refine X_iconst (pc := 10) (v := 0) C dL_write_10 (by decide) ?_
  refine X_istore_n (pc := 11) (lv1 := [(0, _), (1, _), (2, _)]) C 2 dL_write_11 rfl (by decide) rfl ?_
  exact lp 40 0 rfl (by omega) _ ⟨fun i g2 _ => xu_ne _ _ _ g2, by rw [xu_l], xu_self _ _ _ _, fun i hi => absurd hi (Nat.not_lt_zero _)⟩
end X87

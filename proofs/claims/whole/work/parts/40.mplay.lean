/-! THE REFERENCE: a script is played -/
theorem mCm_e {B S F L : Nat → Int32} {n : Nat} {τ : XS} {r : MR} (h : mCm0 B n S F L = r) : mV τ (mCm B n (S, F, L)) = mW τ r.1 (mGo B n r.2.1) r.2.2 := by subst h; rfl
/-- the reader goes on: it keeps the other fields -/
def PG (F G : Nat → Int32) : Prop := eF F ≤ eF G ∧ G 6 = F 6 ∧ G 7 = F 7 ∧ G 11 = F 11
theorem PG.rf {F : Nat → Int32} : PG F F := ⟨Nat.le_refl _, rfl, rfl, rfl⟩
theorem PG.tr {F G H : Nat → Int32} (h : PG F G) (k : PG G H) : PG F H := ⟨Nat.le_trans h.1 k.1, k.2.1.trans h.2.1, k.2.2.1.trans h.2.2.1, k.2.2.2.trans h.2.2.2⟩
theorem mWr_PG {F : Nat → Int32} {b q : Int32} : PG F (mWr F b q) := ⟨Nat.le_of_eq (by rw [eF, eF, mWr_o (by decide) (by decide) (by decide)]), mWr_o (by decide) (by decide) (by decide), mWr_o (by decide) (by decide) (by decide), mWr_o (by decide) (by decide) (by decide)⟩
theorem mNx1_eF {B F : Nat → Int32} {n : Nat} (h : TK n F) : eF (mNx1 B n F) = tkE B n (eF F) := by
  have h1 : tkS B n (eF F) ≤ tkE B n (eF F) ∧ tkE B n (eF F) ≤ n := tkE_in B h.2.2.2.2.2
  have h2 := h.1
  rw [eF, mNx1, mNextF, upd_ne (by decide), upd_ne (by decide), upd_ne (by decide), upd_at, cN, nI_clamp (n31 (by omega))]
theorem mNx1_PG {B F : Nat → Int32} {n : Nat} (h : TK n F) : PG F (mNx1 B n F) := by
  have h1 := tkE_in B h.2.2.2.2.2
  have h2 := tkS_in B h.2.2.2.2.2
  refine ⟨?_, mNx1_o (by decide) (by decide) (by decide) (by decide), mNx1_o (by decide) (by decide) (by decide) (by decide), mNx1_o (by decide) (by decide) (by decide) (by decide)⟩
  rw [mNx1_eF h]
  exact Nat.le_trans h2.1 h1.1
theorem mGo_PG {B F : Nat → Int32} {n : Nat} (h : TK n F) : PG F (mGo B n F) := by
  unfold mGo
  by_cases g : F 20 = 0
  · rw [if_pos g]; exact mNx1_PG h
  · rw [if_neg g]; exact PG.rf
theorem upd_PG {F : Nat → Int32} {k : Nat} {v : Int32} (h : 18 ≠ k) (h1 : 6 ≠ k) (h2 : 7 ≠ k) (h3 : 11 ≠ k) : PG F (upd F k v) := ⟨Nat.le_of_eq (by rw [eF, eF, upd_ne h]), upd_ne h1, upd_ne h2, upd_ne h3⟩
theorem mNbF_PG {B F : Nat → Int32} {n : Nat} {a b : Int32} (h : TK n F) : PG F (mNbF B n F a b) := (mWr_PG.tr mWr_PG).tr (mGo_PG (mNb0_TK h))
theorem mNhF_PG {F : Nat → Int32} : PG F (mNhF F) := by
  unfold mNhF
  by_cases g : mNhW F 20 = 0
  · rw [if_pos g]; exact mWr_PG.tr (upd_PG (by decide) (by decide) (by decide) (by decide))
  · rw [if_neg g]; exact mWr_PG
theorem mUhF_PG {B S F L : Nat → Int32} {n : Nat} {x : Int32} (h : TK n F) : PG F (mUhF B n S F L x) := (mNhF_PG.tr mWr_PG).tr (mGo_PG (mWr_TK (mNhF_TK h)))
theorem mUrF_PG {B F : Nat → Int32} {n : Nat} (h : TK n F) : PG F (mUrF B n F) := by
  unfold mUrF
  by_cases g : mIs B F 7 = 0
  · rw [if_pos g]; exact PG.rf
  · rw [if_neg g]; exact mGo_PG h
theorem mEn_PG {F : Nat → Int32} {b q : Int32} : PG F (mEn F b q) := mWr_PG.tr mWr_PG
theorem mCeR_PG {B S F L : Nat → Int32} {n : Nat} {x y t : Int32} (h : TK n F) : PG F (mCeR B n S F L x y t).2.1 := by
  unfold mCeR
  by_cases g : mCe B n S F 20 = 0
  · rw [if_pos g]
    dsimp only
    exact ((mUrF_PG h).tr mEn_PG).tr (upd_PG (by decide) (by decide) (by decide) (by decide))
  · rw [if_neg g]
    dsimp only
    exact (mUrF_PG h).tr mEn_PG
theorem mCa1_PG {B S F L : Nat → Int32} {n : Nat} (h : TK n F) : PG F (mCa1 B n S F L) := (mGo_PG h).tr (mUhF_PG (mGo_TK h))
theorem mCm0_PG {B S F L : Nat → Int32} {n : Nat} (h : TK n F) : PG F (mCm0 B n S F L).2.1 := by
  unfold mCm0
  by_cases g3 : mIs B F 3 = 0
  · rw [if_pos g3]
    by_cases g1 : mIs B F 1 = 0
    · rw [if_pos g1]
      by_cases g4 : mIs B F 4 = 0
      · rw [if_pos g4]
        by_cases g5 : mIs B F 5 = 0
        · rw [if_pos g5]
          have h2 : PG F (mMo2 B n S F L) := by
            unfold mMo2
            by_cases g : mMo1 B n F 20 = 0
            · rw [if_pos g]; exact (mWr_PG.tr (mGo_PG (mWr_TK h))).tr (mUhF_PG (mMo1_TK h))
            · rw [if_neg g]; exact mWr_PG.tr (mGo_PG (mWr_TK h))
          have h3 : PG F (mMo3 B n S F L) := (h2.tr (mNbF_PG (mMo2_TK h))).tr mEn_PG
          unfold mMo
          by_cases g : mMo3 B n S F L 20 = 0
          · rw [if_pos g]
            dsimp only
            exact h3.tr (upd_PG (by decide) (by decide) (by decide) (by decide))
          · rw [if_neg g]
            dsimp only
            exact h3
        · rw [if_neg g5]
          have h3 : PG F (mWa1 B n S F) := ((mGo_PG h).tr (mNbF_PG (mGo_TK h))).tr mEn_PG
          unfold mWa
          by_cases g : mWa1 B n S F 20 = 0
          · rw [if_pos g]
            dsimp only
            exact h3.tr (upd_PG (by decide) (by decide) (by decide) (by decide))
          · rw [if_neg g]
            dsimp only
            exact h3
      · rw [if_neg g4]
        have h3 : PG F (mEd2 B n S F) := ((mGo_PG h).tr (mNbF_PG (mGo_TK h))).tr mEn_PG
        unfold mEd
        by_cases g : mEd2 B n S F 20 = 0
        · rw [if_pos g]
          dsimp only
          exact h3.tr (upd_PG (by decide) (by decide) (by decide) (by decide))
        · rw [if_neg g]
          dsimp only
          exact h3
    · rw [if_neg g1]
      unfold mTr
      exact ((mCa1_PG h).tr (mNbF_PG (mCa1_TK h))).tr (mCeR_PG (mNbF_TK (mCa1_TK h)))
  · rw [if_neg g3]
    unfold mCa
    by_cases g : mCa1 B n S F L 20 = 0
    · rw [if_pos g]
      exact ((mCa1_PG h).tr (mUhF_PG (mCa1_TK h))).tr (mCeR_PG (mUhF_TK (mCa1_TK h)))
    · rw [if_neg g]
      exact (mCa1_PG h).tr (mCeR_PG (mCa1_TK h))
theorem mCm_PG {B : Nat → Int32} {n : Nat} {r : MR} (hS : MS r.1) (h : TK n r.2.1) : PG r.2.1 (mCm B n r).2.1 := by
  unfold mCm
  dsimp only
  exact (mCm0_PG h).tr (mGo_PG (mCm0_ok hS h).2)
/-- behind a step forward stands a token, or the text ends -/
theorem mGo_step {B F : Nat → Int32} {n : Nat} (h : TK n F) (h1 : mGo B n F 20 = 0) (h2 : ¬ mGo B n F 16 = 0) : eF F + 1 ≤ eF (mGo B n F) := by
  rw [mGo_20] at h1
  rw [mGo, if_pos h1] at h2 ⊢
  rw [mNx1_eF h]
  rw [mNx1, mNextF, upd_ne (by decide), upd_at] at h2
  have a : eF F ≤ tkS B n (eF F) ∧ tkS B n (eF F) ≤ n := tkS_in B h.2.2.2.2.2
  have g : tkS B n (eF F) < n := Classical.byContradiction fun q => h2 (by rw [tkK, if_neg q])
  have e : tkS B n (eF F) + 1 ≤ tkE B n (eF F) := by
    have hk : n - tkS B n (eF F) = (n - tkS B n (eF F) - 1) + 1 := by omega
    unfold tkE
    rw [if_pos g]
    by_cases gl : isL (B (tkS B n (eF F)))
    · rw [if_pos gl, hk, cSkip, if_pos (by simp only [qL, decide_eq_true_eq]; exact gl)]
      exact (cSkip_in (qL B) (n - tkS B n (eF F) - 1) (tkS B n (eF F) + 1)).1
    · rw [if_neg gl]
      by_cases gd : isD (B (tkS B n (eF F)))
      · rw [if_pos gd, hk, cSkip, if_pos (by simp only [qD, decide_eq_true_eq]; exact gd)]
        exact (cSkip_in (qD B) (n - tkS B n (eF F) - 1) (tkS B n (eF F) + 1)).1
      · rw [if_neg gd]
        exact Nat.le_refl _
  omega
/-- the commands to the text's end -/
noncomputable def mCs (B : Nat → Int32) (n : Nat) : Nat → MR → Nat → MR × Nat
  | 0, r, c => (r, c)
  | k + 1, r, c => if r.2.1 20 = 0 ∧ ¬ r.2.1 16 = 0 then mCs B n k (mCm B n r) (c + 1) else (r, c)
theorem mCs_y {B : Nat → Int32} {n k c : Nat} {r : MR} (h : r.2.1 20 = 0) (h2 : ¬ r.2.1 16 = 0) : mCs B n (k + 1) r c = mCs B n k (mCm B n r) (c + 1) := if_pos ⟨h, h2⟩
theorem mCs_n {B : Nat → Int32} {n c : Nat} {r : MR} (h : ¬ (r.2.1 20 = 0 ∧ ¬ r.2.1 16 = 0)) : ∀ k, mCs B n k r c = (r, c)
  | 0 => rfl
  | k + 1 => if_neg h
theorem mCs_ok {B : Nat → Int32} {n : Nat} : ∀ (k : Nat) (r : MR) (c : Nat), MS r.1 → TK n r.2.1 → MS (mCs B n k r c).1.1 ∧ TK n (mCs B n k r c).1.2.1 ∧ PG r.2.1 (mCs B n k r c).1.2.1
  | 0, r, c, h1, h2 => ⟨h1, h2, PG.rf⟩
  | k + 1, r, c, h1, h2 => by
    by_cases g : r.2.1 20 = 0 ∧ ¬ r.2.1 16 = 0
    · rw [mCs_y g.1 g.2]
      have h3 := mCm_ok (B := B) h1 h2
      have h4 := mCs_ok (B := B) k (mCm B n r) (c + 1) h3.1 h3.2
      exact ⟨h4.1, h4.2.1, (mCm_PG h1 h2).tr h4.2.2⟩
    · rw [mCs_n g]
      exact ⟨h1, h2, PG.rf⟩
theorem mCs_le {B : Nat → Int32} {n : Nat} : ∀ (k : Nat) (r : MR) (c : Nat), (mCs B n k r c).2 ≤ c + k
  | 0, r, c => Nat.le_refl _
  | k + 1, r, c => by
    by_cases g : r.2.1 20 = 0 ∧ ¬ r.2.1 16 = 0
    · rw [mCs_y g.1 g.2]
      have := mCs_le (B := B) (n := n) k (mCm B n r) (c + 1)
      omega
    · rw [mCs_n g]
      exact Nat.le_add_right _ _
theorem yw_ldcwS {p : Program} {l : Launch} {e : Env} {R : Room} {s : State} {m : MethodId} {args : Array Value} {below : List Frame} {meth : Method} {c : Code} {T : State} {locs : List Loc} {cells slots : Nat}
    (X : Stand p l e R s m args below meth c T locs cells slots) (hexec : p.tables.exec = Jvm.exec) {own text : String} {index : Nat} {a : Addr} (hown : s.vm.findClass own = some m.cls)
    (hconst : (Cond.stringRef own index text).before args s = true) (hev : (Term.string own index).eval args s none [] s = some (.ref a)) {g : JFrame} (hg : g.method = m) (hdg : decode c.code g.pc = .ok (.ldc_w index, 3)) :
    ∀ target, Steps p.tables e below (T.setTop { g with pc := g.pc + 3, stack := .ref a :: g.stack }) target → Steps p.tables e below (T.setTop g) target := by
  obtain ⟨k, cf, i, a', hk, hcf, hcp, -, hr, hev'⟩ := Cond.stringRef_spec hown hconst
  cases hev.symm.trans hev'
  obtain ⟨k', hk', he⟩ := X.warmed.alike.2.2 _ _ hk
  have hr' : k'.resolved[index]? = some (some (.string a)) := by
    rcases X.warmed.entry hk hk' index with h | ⟨h, -⟩
    · rw [h]; exact hr
    · rw [hr] at h; cases h
  intro target hrest
  subst hg
  jvm_step X.here [hexec, hdg, ldc_w.wp_string (e := e) (s := T) (f := g) X.here.top hk' (by rw [he]; exact hcf) hcp hr']
  exact hrest
theorem X_ldcwS {p : Program} {l : Launch} {e : Env} {R : Room} {s : State} {m : MethodId} {args : Array Value} {below : List Frame} {meth : Method} {c : Code} {P : XP} {A : Nat → Prop} {nL cells slots : Nat} {Q : State → Prop} {cc : ByteArray} {ret : Option FieldType} {σ : XS} {pc : Nat} {lv : List (Nat × Value)} {st : List Value} {own : String}
    (C : XC p s m args meth c P A nL own cc ret) {idx q : Nat} {tx : String} (h : (own, idx, tx, q) ∈ xRl) (d : decode cc pc = .ok (.ldc_w idx, 3)) (k : XW p l e R s m args below meth c P A nL cells slots Q σ (pc + 3) lv (.ref (xK P q) :: st)) : XW p l e R s m args below meth c P A nL cells slots Q σ pc lv st := fun H locs ls hP hS hl => by
  intro T hT X
  obtain ⟨t, a1, b1⟩ := k H locs ls hP hS hl T hT X
  have hZ := C.hE.2.2.1 _ h
  exact ⟨t, yw_ldcwS X C.1 C.2.2.2.1 (text := tx) (a := xK P q) hZ.1 hZ.2 (g := F0 m pc ls st) rfl (by rw [C.2.1]; exact d) t a1, b1⟩
section XP40
variable {p : Program} {l : Launch} {e : Env} {R : Room} {s : State} {m : MethodId} {args : Array Value} {below : List Frame} {meth : Method} {c : Code} {P : XP} {A : Nat → Prop} {nL cells slots : Nat} {Q : State → Prop} {cc : ByteArray} {ret : Option FieldType} {σ : XS} {pc : Nat} {lv : List (Nat × Value)} {st : List Value}
set_option maxRecDepth 100000 in
set_option maxHeartbeats 4000000 in
theorem c_X7_command (l : Launch) (P : XP) (τ : XS) (S F L : Nat → Int32) (h1 : xI1 P) (n : Nat) (hT : TK n F) (hS : MS S) : XF l yX7_command cX7_command 3 none rm_X7_command P [.ref (P.2.2.1 (.inr 9))] (mW τ S F L) (none) (mV τ (mCm (τ.1 (.inr 16)) n (S, F, L))) := by
  refine XM.of (by decide +kernel) (Nat.le_of_ble_eq_true rfl) (fun p e s m args below meth c A C => ?_)
  replace C : XC p s m args meth c P A 3 RX7 cX7_command none := C
  refine XW.eq (lv' := [(0, _)]) rfl rfl rfl ?_
  refine X_aload_n (pc := 0) C 0 dX7_command_0 rfl rfl ?_
  refine X_ldcS (pc := 1) (q := 3) C (List.mem_of_getElem? (i := 12) rfl) dX7_command_1 ?_
  refine X_fV (i := .inr 9) (ci := 7) (n := 1) (pc := 3) C [.ref _] (c_X7_is l P _ _ _ _ h1 n hT 3 (by decide)) m_c_X7_is m_m_X7_208 m_i_X7_is m_s_X7_is m_n_X7 ⟨by decide +kernel, by decide +kernel, by decide +kernel⟩ ⟨Nat.le_of_ble_eq_true rfl, Nat.le_of_ble_eq_true rfl⟩ ⟨rfl, rfl⟩ ⟨Nat.zero_le _, Nat.zero_le _⟩ (h1 9 (by decide) (by decide)) rfl rfl rfl rfl (Nat.le_of_ble_eq_true rfl) rfl dX7_command_3 ?_
  refine X_if_eq (pc := 6) C 17 dX7_command_6 (by decide) (fun h6 => ?_) (fun h6 => ?_)
  · skip
    refine X_aload_n (pc := 17) C 0 dX7_command_17 rfl rfl ?_
    refine X_ldcS (pc := 18) (q := 1) C (List.mem_of_getElem? (i := 10) rfl) dX7_command_18 ?_
    refine X_fV (i := .inr 9) (ci := 7) (n := 1) (pc := 20) C [.ref _] (c_X7_is l P _ _ _ _ h1 n hT 1 (by decide)) m_c_X7_is m_m_X7_208 m_i_X7_is m_s_X7_is m_n_X7 ⟨by decide +kernel, by decide +kernel, by decide +kernel⟩ ⟨Nat.le_of_ble_eq_true rfl, Nat.le_of_ble_eq_true rfl⟩ ⟨rfl, rfl⟩ ⟨Nat.zero_le _, Nat.zero_le _⟩ (h1 9 (by decide) (by decide)) rfl rfl rfl rfl (Nat.le_of_ble_eq_true rfl) rfl dX7_command_20 ?_
    refine X_if_eq (pc := 23) C 34 dX7_command_23 (by decide) (fun h23 => ?_) (fun h23 => ?_)
    · skip
      refine X_aload_n (pc := 34) C 0 dX7_command_34 rfl rfl ?_
      refine X_ldcS (pc := 35) (q := 4) C (List.mem_of_getElem? (i := 13) rfl) dX7_command_35 ?_
      refine X_fV (i := .inr 9) (ci := 7) (n := 1) (pc := 37) C [.ref _] (c_X7_is l P _ _ _ _ h1 n hT 4 (by decide)) m_c_X7_is m_m_X7_208 m_i_X7_is m_s_X7_is m_n_X7 ⟨by decide +kernel, by decide +kernel, by decide +kernel⟩ ⟨Nat.le_of_ble_eq_true rfl, Nat.le_of_ble_eq_true rfl⟩ ⟨rfl, rfl⟩ ⟨Nat.zero_le _, Nat.zero_le _⟩ (h1 9 (by decide) (by decide)) rfl rfl rfl rfl (Nat.le_of_ble_eq_true rfl) rfl dX7_command_37 ?_
      refine X_if_eq (pc := 40) C 102 dX7_command_40 (by decide) (fun h40 => ?_) (fun h40 => ?_)
      · skip
        refine X_aload_n (pc := 102) C 0 dX7_command_102 rfl rfl ?_
        refine X_ldcS (pc := 103) (q := 5) C (List.mem_of_getElem? (i := 14) rfl) dX7_command_103 ?_
        refine X_fV (i := .inr 9) (ci := 7) (n := 1) (pc := 105) C [.ref _] (c_X7_is l P _ _ _ _ h1 n hT 5 (by decide)) m_c_X7_is m_m_X7_208 m_i_X7_is m_s_X7_is m_n_X7 ⟨by decide +kernel, by decide +kernel, by decide +kernel⟩ ⟨Nat.le_of_ble_eq_true rfl, Nat.le_of_ble_eq_true rfl⟩ ⟨rfl, rfl⟩ ⟨Nat.zero_le _, Nat.zero_le _⟩ (h1 9 (by decide) (by decide)) rfl rfl rfl rfl (Nat.le_of_ble_eq_true rfl) rfl dX7_command_105 ?_
        refine X_if_eq (pc := 108) C 157 dX7_command_108 (by decide) (fun h108 => ?_) (fun h108 => ?_)
        · have gC : mCm0 (τ.1 (.inr 16)) n S F L = mMo (τ.1 (.inr 16)) n S F L := by rw [mCm0, if_pos h6, if_pos h23, if_pos h40, if_pos h108]
          refine X_aload_n (pc := 157) C 0 dX7_command_157 rfl rfl ?_
          refine X_aload_n (pc := 158) C 0 dX7_command_158 rfl rfl ?_
          refine X_ldcwS (pc := 159) (q := 6) C (List.mem_of_getElem? (i := 15) rfl) dX7_command_159 ?_
          refine X_fV (i := .inr 9) (ci := 7) (n := 1) (pc := 162) C [.ref _] (c_X7_is l P _ _ _ _ h1 n hT 6 (by decide)) m_c_X7_is m_m_X7_208 m_i_X7_is m_s_X7_is m_n_X7 ⟨by decide +kernel, by decide +kernel, by decide +kernel⟩ ⟨Nat.le_of_ble_eq_true rfl, Nat.le_of_ble_eq_true rfl⟩ ⟨rfl, rfl⟩ ⟨Nat.zero_le _, Nat.zero_le _⟩ (h1 9 (by decide) (by decide)) rfl rfl rfl rfl (Nat.le_of_ble_eq_true rfl) rfl dX7_command_162 ?_
          refine X_if_ne (pc := 165) C 172 dX7_command_165 (by decide) (fun h165 => ?_) (fun h165 => ?_)
          · have g165 : (if mIs (τ.1 (.inr 16)) F 6 = 0 then (1 : Int32) else 0) = 0 := if_neg h165
            refine X_iconst (pc := 172) (v := 0) C dX7_command_172 (by decide) ?_
            refine X_iconst (pc := 173) (v := 1) C dX7_command_173 (by decide) ?_
            refine K_X7_190 (pc := 174) C (by assumption) (c_X7_wrong l P _ _ _ _ h1 _ _) ⟨Nat.le_of_ble_eq_true rfl, Nat.le_of_ble_eq_true rfl⟩ ⟨rfl, rfl⟩ ⟨Nat.zero_le _, Nat.zero_le _⟩ (Nat.le_of_ble_eq_true rfl) dX7_command_174 ?_
            refine XW.eq (σ' := mW τ S (mWr F (if mIs (τ.1 (.inr 16)) F 6 = 0 then (1 : Int32) else 0) 1) L) (by rw [g165]) rfl rfl ?_
            refine X_aload_n (pc := 177) C 0 dX7_command_177 rfl rfl ?_
            refine K_X7_194 (pc := 178) C (by assumption) (c_X7_go l P _ _ _ _ h1 n (mWr_TK hT)) ⟨Nat.le_of_ble_eq_true rfl, Nat.le_of_ble_eq_true rfl⟩ ⟨rfl, rfl⟩ ⟨Nat.zero_le _, Nat.zero_le _⟩ (Nat.le_of_ble_eq_true rfl) dX7_command_178 ?_
            refine XW.eq (σ' := mW τ S (mMo1 (τ.1 (.inr 16)) n F) L) (by rfl) rfl rfl ?_
            refine X_aload_n (pc := 181) C 0 dX7_command_181 rfl rfl ?_
            refine G_X7_180 (pc := 182) C (by assumption) dX7_command_182 ?_
            rw [mW_9]
            refine X_if_eq (pc := 185) C 192 dX7_command_185 (by decide) (fun h185 => ?_) (fun h185 => ?_)
            · have e2 : (mMo2 (τ.1 (.inr 16)) n S F L) = mUhF (τ.1 (.inr 16)) n S (mMo1 (τ.1 (.inr 16)) n F) L (-1) := if_pos h185
              have eL : (mMoL (τ.1 (.inr 16)) n F L) = mNhL (τ.1 (.inr 16)) (mMo1 (τ.1 (.inr 16)) n F) L := if_pos h185
              have eX : (mMoX (τ.1 (.inr 16)) n S F L) = mUhV (τ.1 (.inr 16)) S (mMo1 (τ.1 (.inr 16)) n F) L := if_pos h185
              refine X_aload_n (pc := 192) C 0 dX7_command_192 rfl rfl ?_
              refine X_iconst (pc := 193) (v := (-1)) C dX7_command_193 (by decide) ?_
              refine K_X7_220 (pc := 194) C (by assumption) (c_X7_userHere l P _ _ _ _ h1 n (mMo1_TK hT) hS.1 (-1)) ⟨Nat.le_of_ble_eq_true rfl, Nat.le_of_ble_eq_true rfl⟩ ⟨rfl, rfl⟩ ⟨Nat.zero_le _, Nat.zero_le _⟩ (Nat.le_of_ble_eq_true rfl) dX7_command_194 ?_
              refine X_istore_n (pc := 197) (lv1 := [(0, _), (1, _)]) C 1 dX7_command_197 rfl (by decide) rfl ?_
              refine XW.eq (σ' := mW τ S (mMo2 (τ.1 (.inr 16)) n S F L) (mMoL (τ.1 (.inr 16)) n F L)) (lv' := [(0, .ref (P.2.2.1 (.inr 9))), (1, .int (mMoX (τ.1 (.inr 16)) n S F L))]) (by rw [e2, eL]) (by rw [eX]) rfl ?_
              refine X_aload_n (pc := 198) C 0 dX7_command_198 rfl rfl ?_
              refine X_iconst (pc := 199) (v := 0) C dX7_command_199 (by decide) ?_
              refine X_bipush (pc := 200) (v := 9) C dX7_command_200 (by decide) ?_
              refine K_X7_203 (pc := 202) C (by assumption) (c_X7_number l P _ _ _ _ h1 n (mMo2_TK hT) 0 9) ⟨Nat.le_of_ble_eq_true rfl, Nat.le_of_ble_eq_true rfl⟩ ⟨rfl, rfl⟩ ⟨Nat.zero_le _, Nat.zero_le _⟩ (Nat.le_of_ble_eq_true rfl) dX7_command_202 ?_
              refine XW.eq (st' := [.int (mMoV (τ.1 (.inr 16)) n S F L)]) rfl rfl rfl ?_
              refine X_istore_n (pc := 205) (lv1 := [(0, _), (1, _), (2, _)]) C 2 dX7_command_205 rfl (by decide) rfl ?_
              refine X_aload_n (pc := 206) C 0 dX7_command_206 rfl rfl ?_
              refine X_iconst (pc := 207) (v := 1) C dX7_command_207 (by decide) ?_
              refine X_iconst (pc := 208) (v := 1) C dX7_command_208 (by decide) ?_
              refine K_X7_226 (pc := 209) C (by assumption) (c_X7_ends l P _ _ _ _ h1 _ _) ⟨Nat.le_of_ble_eq_true rfl, Nat.le_of_ble_eq_true rfl⟩ ⟨rfl, rfl⟩ ⟨Nat.zero_le _, Nat.zero_le _⟩ (Nat.le_of_ble_eq_true rfl) dX7_command_209 ?_
              refine XW.eq (σ' := mW τ S (mMo3 (τ.1 (.inr 16)) n S F L) (mMoL (τ.1 (.inr 16)) n F L)) (st' := [.int (if (mMo3 (τ.1 (.inr 16)) n S F L) 20 = 0 then 1 else 0)]) rfl rfl rfl ?_
              refine X_if_eq (pc := 212) C 225 dX7_command_212 (by decide) (fun h212 => ?_) (fun h212 => ?_)
              · have g212 := bz0 h212
                refine XW.eq (σ' := mV τ (mMo (τ.1 (.inr 16)) n S F L)) (by rw [mV, mMo, if_neg g212]) rfl rfl ?_
                have hk := mCm0_ok (L := L) (B := (τ.1 (.inr 16))) hS hT
                rw [gC] at hk
                refine X_aload_n (pc := 225) C 0 dX7_command_225 rfl rfl ?_
                refine K_X7_194 (pc := 226) C (by assumption) (c_X7_go l P _ _ _ _ h1 n hk.2) ⟨Nat.le_of_ble_eq_true rfl, Nat.le_of_ble_eq_true rfl⟩ ⟨rfl, rfl⟩ ⟨Nat.zero_le _, Nat.zero_le _⟩ (Nat.le_of_ble_eq_true rfl) dX7_command_226 ?_
                exact X_vret (pc := 229) C (Nat.zero_le _) (Nat.zero_le _) dX7_command_229 ⟨rfl, (mCm_e gC).symm⟩
              · have g212 := bz1 h212
                refine X_aload_n (pc := 215) C 0 dX7_command_215 rfl rfl ?_
                refine X_aload_n (pc := 216) C 0 dX7_command_216 rfl rfl ?_
                refine X_iload_n (pc := 217) C 1 dX7_command_217 rfl rfl ?_
                refine X_iload_n (pc := 218) C 2 dX7_command_218 rfl rfl ?_
                refine K_X7_261 (pc := 219) C (by assumption) (c_X7_setsMoodX l P _ _ _ _ h1 _ (xok_mono (mMoX_ok hS.1 g212) hS.1.u15) _) ⟨Nat.le_of_ble_eq_true rfl, Nat.le_of_ble_eq_true rfl⟩ ⟨rfl, rfl⟩ ⟨Nat.zero_le _, Nat.zero_le _⟩ (Nat.le_of_ble_eq_true rfl) dX7_command_219 ?_
                refine U_X7_234 (pc := 222) C (by assumption) dX7_command_222 ?_
                rw [mW_u9]
                refine XW.eq (σ' := mV τ (mMo (τ.1 (.inr 16)) n S F L)) (by rw [mV, mMo, if_pos g212]) rfl rfl ?_
                have hk := mCm0_ok (L := L) (B := (τ.1 (.inr 16))) hS hT
                rw [gC] at hk
                refine X_aload_n (pc := 225) C 0 dX7_command_225 rfl rfl ?_
                refine K_X7_194 (pc := 226) C (by assumption) (c_X7_go l P _ _ _ _ h1 n hk.2) ⟨Nat.le_of_ble_eq_true rfl, Nat.le_of_ble_eq_true rfl⟩ ⟨rfl, rfl⟩ ⟨Nat.zero_le _, Nat.zero_le _⟩ (Nat.le_of_ble_eq_true rfl) dX7_command_226 ?_
                exact X_vret (pc := 229) C (Nat.zero_le _) (Nat.zero_le _) dX7_command_229 ⟨rfl, (mCm_e gC).symm⟩
            · have e2 : (mMo2 (τ.1 (.inr 16)) n S F L) = (mMo1 (τ.1 (.inr 16)) n F) := if_neg h185
              have eL : (mMoL (τ.1 (.inr 16)) n F L) = L := if_neg h185
              have eX : (mMoX (τ.1 (.inr 16)) n S F L) = 0 := if_neg h185
              refine X_iconst (pc := 188) (v := 0) C dX7_command_188 (by decide) ?_
              refine X_goto (pc := 189) C 197 dX7_command_189 (by decide) ?_
              refine X_istore_n (pc := 197) (lv1 := [(0, _), (1, _)]) C 1 dX7_command_197 rfl (by decide) rfl ?_
              refine XW.eq (σ' := mW τ S (mMo2 (τ.1 (.inr 16)) n S F L) (mMoL (τ.1 (.inr 16)) n F L)) (lv' := [(0, .ref (P.2.2.1 (.inr 9))), (1, .int (mMoX (τ.1 (.inr 16)) n S F L))]) (by rw [e2, eL]) (by rw [eX]) rfl ?_
              refine X_aload_n (pc := 198) C 0 dX7_command_198 rfl rfl ?_
              refine X_iconst (pc := 199) (v := 0) C dX7_command_199 (by decide) ?_
              refine X_bipush (pc := 200) (v := 9) C dX7_command_200 (by decide) ?_
              refine K_X7_203 (pc := 202) C (by assumption) (c_X7_number l P _ _ _ _ h1 n (mMo2_TK hT) 0 9) ⟨Nat.le_of_ble_eq_true rfl, Nat.le_of_ble_eq_true rfl⟩ ⟨rfl, rfl⟩ ⟨Nat.zero_le _, Nat.zero_le _⟩ (Nat.le_of_ble_eq_true rfl) dX7_command_202 ?_
              refine XW.eq (st' := [.int (mMoV (τ.1 (.inr 16)) n S F L)]) rfl rfl rfl ?_
              refine X_istore_n (pc := 205) (lv1 := [(0, _), (1, _), (2, _)]) C 2 dX7_command_205 rfl (by decide) rfl ?_
              refine X_aload_n (pc := 206) C 0 dX7_command_206 rfl rfl ?_
              refine X_iconst (pc := 207) (v := 1) C dX7_command_207 (by decide) ?_
              refine X_iconst (pc := 208) (v := 1) C dX7_command_208 (by decide) ?_
              refine K_X7_226 (pc := 209) C (by assumption) (c_X7_ends l P _ _ _ _ h1 _ _) ⟨Nat.le_of_ble_eq_true rfl, Nat.le_of_ble_eq_true rfl⟩ ⟨rfl, rfl⟩ ⟨Nat.zero_le _, Nat.zero_le _⟩ (Nat.le_of_ble_eq_true rfl) dX7_command_209 ?_
              refine XW.eq (σ' := mW τ S (mMo3 (τ.1 (.inr 16)) n S F L) (mMoL (τ.1 (.inr 16)) n F L)) (st' := [.int (if (mMo3 (τ.1 (.inr 16)) n S F L) 20 = 0 then 1 else 0)]) rfl rfl rfl ?_
              refine X_if_eq (pc := 212) C 225 dX7_command_212 (by decide) (fun h212 => ?_) (fun h212 => ?_)
              · have g212 := bz0 h212
                refine XW.eq (σ' := mV τ (mMo (τ.1 (.inr 16)) n S F L)) (by rw [mV, mMo, if_neg g212]) rfl rfl ?_
                have hk := mCm0_ok (L := L) (B := (τ.1 (.inr 16))) hS hT
                rw [gC] at hk
                refine X_aload_n (pc := 225) C 0 dX7_command_225 rfl rfl ?_
                refine K_X7_194 (pc := 226) C (by assumption) (c_X7_go l P _ _ _ _ h1 n hk.2) ⟨Nat.le_of_ble_eq_true rfl, Nat.le_of_ble_eq_true rfl⟩ ⟨rfl, rfl⟩ ⟨Nat.zero_le _, Nat.zero_le _⟩ (Nat.le_of_ble_eq_true rfl) dX7_command_226 ?_
                exact X_vret (pc := 229) C (Nat.zero_le _) (Nat.zero_le _) dX7_command_229 ⟨rfl, (mCm_e gC).symm⟩
              · have g212 := bz1 h212
                refine X_aload_n (pc := 215) C 0 dX7_command_215 rfl rfl ?_
                refine X_aload_n (pc := 216) C 0 dX7_command_216 rfl rfl ?_
                refine X_iload_n (pc := 217) C 1 dX7_command_217 rfl rfl ?_
                refine X_iload_n (pc := 218) C 2 dX7_command_218 rfl rfl ?_
                refine K_X7_261 (pc := 219) C (by assumption) (c_X7_setsMoodX l P _ _ _ _ h1 _ (xok_mono (mMoX_ok hS.1 g212) hS.1.u15) _) ⟨Nat.le_of_ble_eq_true rfl, Nat.le_of_ble_eq_true rfl⟩ ⟨rfl, rfl⟩ ⟨Nat.zero_le _, Nat.zero_le _⟩ (Nat.le_of_ble_eq_true rfl) dX7_command_219 ?_
                refine U_X7_234 (pc := 222) C (by assumption) dX7_command_222 ?_
                rw [mW_u9]
                refine XW.eq (σ' := mV τ (mMo (τ.1 (.inr 16)) n S F L)) (by rw [mV, mMo, if_pos g212]) rfl rfl ?_
                have hk := mCm0_ok (L := L) (B := (τ.1 (.inr 16))) hS hT
                rw [gC] at hk
                refine X_aload_n (pc := 225) C 0 dX7_command_225 rfl rfl ?_
                refine K_X7_194 (pc := 226) C (by assumption) (c_X7_go l P _ _ _ _ h1 n hk.2) ⟨Nat.le_of_ble_eq_true rfl, Nat.le_of_ble_eq_true rfl⟩ ⟨rfl, rfl⟩ ⟨Nat.zero_le _, Nat.zero_le _⟩ (Nat.le_of_ble_eq_true rfl) dX7_command_226 ?_
                exact X_vret (pc := 229) C (Nat.zero_le _) (Nat.zero_le _) dX7_command_229 ⟨rfl, (mCm_e gC).symm⟩
          · have g165 : (if mIs (τ.1 (.inr 16)) F 6 = 0 then (1 : Int32) else 0) = 1 := if_pos h165
            refine X_iconst (pc := 168) (v := 1) C dX7_command_168 (by decide) ?_
            refine X_goto (pc := 169) C 173 dX7_command_169 (by decide) ?_
            refine X_iconst (pc := 173) (v := 1) C dX7_command_173 (by decide) ?_
            refine K_X7_190 (pc := 174) C (by assumption) (c_X7_wrong l P _ _ _ _ h1 _ _) ⟨Nat.le_of_ble_eq_true rfl, Nat.le_of_ble_eq_true rfl⟩ ⟨rfl, rfl⟩ ⟨Nat.zero_le _, Nat.zero_le _⟩ (Nat.le_of_ble_eq_true rfl) dX7_command_174 ?_
            refine XW.eq (σ' := mW τ S (mWr F (if mIs (τ.1 (.inr 16)) F 6 = 0 then (1 : Int32) else 0) 1) L) (by rw [g165]) rfl rfl ?_
            refine X_aload_n (pc := 177) C 0 dX7_command_177 rfl rfl ?_
            refine K_X7_194 (pc := 178) C (by assumption) (c_X7_go l P _ _ _ _ h1 n (mWr_TK hT)) ⟨Nat.le_of_ble_eq_true rfl, Nat.le_of_ble_eq_true rfl⟩ ⟨rfl, rfl⟩ ⟨Nat.zero_le _, Nat.zero_le _⟩ (Nat.le_of_ble_eq_true rfl) dX7_command_178 ?_
            refine XW.eq (σ' := mW τ S (mMo1 (τ.1 (.inr 16)) n F) L) (by rfl) rfl rfl ?_
            refine X_aload_n (pc := 181) C 0 dX7_command_181 rfl rfl ?_
            refine G_X7_180 (pc := 182) C (by assumption) dX7_command_182 ?_
            rw [mW_9]
            refine X_if_eq (pc := 185) C 192 dX7_command_185 (by decide) (fun h185 => ?_) (fun h185 => ?_)
            · have e2 : (mMo2 (τ.1 (.inr 16)) n S F L) = mUhF (τ.1 (.inr 16)) n S (mMo1 (τ.1 (.inr 16)) n F) L (-1) := if_pos h185
              have eL : (mMoL (τ.1 (.inr 16)) n F L) = mNhL (τ.1 (.inr 16)) (mMo1 (τ.1 (.inr 16)) n F) L := if_pos h185
              have eX : (mMoX (τ.1 (.inr 16)) n S F L) = mUhV (τ.1 (.inr 16)) S (mMo1 (τ.1 (.inr 16)) n F) L := if_pos h185
              refine X_aload_n (pc := 192) C 0 dX7_command_192 rfl rfl ?_
              refine X_iconst (pc := 193) (v := (-1)) C dX7_command_193 (by decide) ?_
              refine K_X7_220 (pc := 194) C (by assumption) (c_X7_userHere l P _ _ _ _ h1 n (mMo1_TK hT) hS.1 (-1)) ⟨Nat.le_of_ble_eq_true rfl, Nat.le_of_ble_eq_true rfl⟩ ⟨rfl, rfl⟩ ⟨Nat.zero_le _, Nat.zero_le _⟩ (Nat.le_of_ble_eq_true rfl) dX7_command_194 ?_
              refine X_istore_n (pc := 197) (lv1 := [(0, _), (1, _)]) C 1 dX7_command_197 rfl (by decide) rfl ?_
              refine XW.eq (σ' := mW τ S (mMo2 (τ.1 (.inr 16)) n S F L) (mMoL (τ.1 (.inr 16)) n F L)) (lv' := [(0, .ref (P.2.2.1 (.inr 9))), (1, .int (mMoX (τ.1 (.inr 16)) n S F L))]) (by rw [e2, eL]) (by rw [eX]) rfl ?_
              refine X_aload_n (pc := 198) C 0 dX7_command_198 rfl rfl ?_
              refine X_iconst (pc := 199) (v := 0) C dX7_command_199 (by decide) ?_
              refine X_bipush (pc := 200) (v := 9) C dX7_command_200 (by decide) ?_
              refine K_X7_203 (pc := 202) C (by assumption) (c_X7_number l P _ _ _ _ h1 n (mMo2_TK hT) 0 9) ⟨Nat.le_of_ble_eq_true rfl, Nat.le_of_ble_eq_true rfl⟩ ⟨rfl, rfl⟩ ⟨Nat.zero_le _, Nat.zero_le _⟩ (Nat.le_of_ble_eq_true rfl) dX7_command_202 ?_
              refine XW.eq (st' := [.int (mMoV (τ.1 (.inr 16)) n S F L)]) rfl rfl rfl ?_
              refine X_istore_n (pc := 205) (lv1 := [(0, _), (1, _), (2, _)]) C 2 dX7_command_205 rfl (by decide) rfl ?_
              refine X_aload_n (pc := 206) C 0 dX7_command_206 rfl rfl ?_
              refine X_iconst (pc := 207) (v := 1) C dX7_command_207 (by decide) ?_
              refine X_iconst (pc := 208) (v := 1) C dX7_command_208 (by decide) ?_
              refine K_X7_226 (pc := 209) C (by assumption) (c_X7_ends l P _ _ _ _ h1 _ _) ⟨Nat.le_of_ble_eq_true rfl, Nat.le_of_ble_eq_true rfl⟩ ⟨rfl, rfl⟩ ⟨Nat.zero_le _, Nat.zero_le _⟩ (Nat.le_of_ble_eq_true rfl) dX7_command_209 ?_
              refine XW.eq (σ' := mW τ S (mMo3 (τ.1 (.inr 16)) n S F L) (mMoL (τ.1 (.inr 16)) n F L)) (st' := [.int (if (mMo3 (τ.1 (.inr 16)) n S F L) 20 = 0 then 1 else 0)]) rfl rfl rfl ?_
              refine X_if_eq (pc := 212) C 225 dX7_command_212 (by decide) (fun h212 => ?_) (fun h212 => ?_)
              · have g212 := bz0 h212
                refine XW.eq (σ' := mV τ (mMo (τ.1 (.inr 16)) n S F L)) (by rw [mV, mMo, if_neg g212]) rfl rfl ?_
                have hk := mCm0_ok (L := L) (B := (τ.1 (.inr 16))) hS hT
                rw [gC] at hk
                refine X_aload_n (pc := 225) C 0 dX7_command_225 rfl rfl ?_
                refine K_X7_194 (pc := 226) C (by assumption) (c_X7_go l P _ _ _ _ h1 n hk.2) ⟨Nat.le_of_ble_eq_true rfl, Nat.le_of_ble_eq_true rfl⟩ ⟨rfl, rfl⟩ ⟨Nat.zero_le _, Nat.zero_le _⟩ (Nat.le_of_ble_eq_true rfl) dX7_command_226 ?_
                exact X_vret (pc := 229) C (Nat.zero_le _) (Nat.zero_le _) dX7_command_229 ⟨rfl, (mCm_e gC).symm⟩
              · have g212 := bz1 h212
                refine X_aload_n (pc := 215) C 0 dX7_command_215 rfl rfl ?_
                refine X_aload_n (pc := 216) C 0 dX7_command_216 rfl rfl ?_
                refine X_iload_n (pc := 217) C 1 dX7_command_217 rfl rfl ?_
                refine X_iload_n (pc := 218) C 2 dX7_command_218 rfl rfl ?_
                refine K_X7_261 (pc := 219) C (by assumption) (c_X7_setsMoodX l P _ _ _ _ h1 _ (xok_mono (mMoX_ok hS.1 g212) hS.1.u15) _) ⟨Nat.le_of_ble_eq_true rfl, Nat.le_of_ble_eq_true rfl⟩ ⟨rfl, rfl⟩ ⟨Nat.zero_le _, Nat.zero_le _⟩ (Nat.le_of_ble_eq_true rfl) dX7_command_219 ?_
                refine U_X7_234 (pc := 222) C (by assumption) dX7_command_222 ?_
                rw [mW_u9]
                refine XW.eq (σ' := mV τ (mMo (τ.1 (.inr 16)) n S F L)) (by rw [mV, mMo, if_pos g212]) rfl rfl ?_
                have hk := mCm0_ok (L := L) (B := (τ.1 (.inr 16))) hS hT
                rw [gC] at hk
                refine X_aload_n (pc := 225) C 0 dX7_command_225 rfl rfl ?_
                refine K_X7_194 (pc := 226) C (by assumption) (c_X7_go l P _ _ _ _ h1 n hk.2) ⟨Nat.le_of_ble_eq_true rfl, Nat.le_of_ble_eq_true rfl⟩ ⟨rfl, rfl⟩ ⟨Nat.zero_le _, Nat.zero_le _⟩ (Nat.le_of_ble_eq_true rfl) dX7_command_226 ?_
                exact X_vret (pc := 229) C (Nat.zero_le _) (Nat.zero_le _) dX7_command_229 ⟨rfl, (mCm_e gC).symm⟩
            · have e2 : (mMo2 (τ.1 (.inr 16)) n S F L) = (mMo1 (τ.1 (.inr 16)) n F) := if_neg h185
              have eL : (mMoL (τ.1 (.inr 16)) n F L) = L := if_neg h185
              have eX : (mMoX (τ.1 (.inr 16)) n S F L) = 0 := if_neg h185
              refine X_iconst (pc := 188) (v := 0) C dX7_command_188 (by decide) ?_
              refine X_goto (pc := 189) C 197 dX7_command_189 (by decide) ?_
              refine X_istore_n (pc := 197) (lv1 := [(0, _), (1, _)]) C 1 dX7_command_197 rfl (by decide) rfl ?_
              refine XW.eq (σ' := mW τ S (mMo2 (τ.1 (.inr 16)) n S F L) (mMoL (τ.1 (.inr 16)) n F L)) (lv' := [(0, .ref (P.2.2.1 (.inr 9))), (1, .int (mMoX (τ.1 (.inr 16)) n S F L))]) (by rw [e2, eL]) (by rw [eX]) rfl ?_
              refine X_aload_n (pc := 198) C 0 dX7_command_198 rfl rfl ?_
              refine X_iconst (pc := 199) (v := 0) C dX7_command_199 (by decide) ?_
              refine X_bipush (pc := 200) (v := 9) C dX7_command_200 (by decide) ?_
              refine K_X7_203 (pc := 202) C (by assumption) (c_X7_number l P _ _ _ _ h1 n (mMo2_TK hT) 0 9) ⟨Nat.le_of_ble_eq_true rfl, Nat.le_of_ble_eq_true rfl⟩ ⟨rfl, rfl⟩ ⟨Nat.zero_le _, Nat.zero_le _⟩ (Nat.le_of_ble_eq_true rfl) dX7_command_202 ?_
              refine XW.eq (st' := [.int (mMoV (τ.1 (.inr 16)) n S F L)]) rfl rfl rfl ?_
              refine X_istore_n (pc := 205) (lv1 := [(0, _), (1, _), (2, _)]) C 2 dX7_command_205 rfl (by decide) rfl ?_
              refine X_aload_n (pc := 206) C 0 dX7_command_206 rfl rfl ?_
              refine X_iconst (pc := 207) (v := 1) C dX7_command_207 (by decide) ?_
              refine X_iconst (pc := 208) (v := 1) C dX7_command_208 (by decide) ?_
              refine K_X7_226 (pc := 209) C (by assumption) (c_X7_ends l P _ _ _ _ h1 _ _) ⟨Nat.le_of_ble_eq_true rfl, Nat.le_of_ble_eq_true rfl⟩ ⟨rfl, rfl⟩ ⟨Nat.zero_le _, Nat.zero_le _⟩ (Nat.le_of_ble_eq_true rfl) dX7_command_209 ?_
              refine XW.eq (σ' := mW τ S (mMo3 (τ.1 (.inr 16)) n S F L) (mMoL (τ.1 (.inr 16)) n F L)) (st' := [.int (if (mMo3 (τ.1 (.inr 16)) n S F L) 20 = 0 then 1 else 0)]) rfl rfl rfl ?_
              refine X_if_eq (pc := 212) C 225 dX7_command_212 (by decide) (fun h212 => ?_) (fun h212 => ?_)
              · have g212 := bz0 h212
                refine XW.eq (σ' := mV τ (mMo (τ.1 (.inr 16)) n S F L)) (by rw [mV, mMo, if_neg g212]) rfl rfl ?_
                have hk := mCm0_ok (L := L) (B := (τ.1 (.inr 16))) hS hT
                rw [gC] at hk
                refine X_aload_n (pc := 225) C 0 dX7_command_225 rfl rfl ?_
                refine K_X7_194 (pc := 226) C (by assumption) (c_X7_go l P _ _ _ _ h1 n hk.2) ⟨Nat.le_of_ble_eq_true rfl, Nat.le_of_ble_eq_true rfl⟩ ⟨rfl, rfl⟩ ⟨Nat.zero_le _, Nat.zero_le _⟩ (Nat.le_of_ble_eq_true rfl) dX7_command_226 ?_
                exact X_vret (pc := 229) C (Nat.zero_le _) (Nat.zero_le _) dX7_command_229 ⟨rfl, (mCm_e gC).symm⟩
              · have g212 := bz1 h212
                refine X_aload_n (pc := 215) C 0 dX7_command_215 rfl rfl ?_
                refine X_aload_n (pc := 216) C 0 dX7_command_216 rfl rfl ?_
                refine X_iload_n (pc := 217) C 1 dX7_command_217 rfl rfl ?_
                refine X_iload_n (pc := 218) C 2 dX7_command_218 rfl rfl ?_
                refine K_X7_261 (pc := 219) C (by assumption) (c_X7_setsMoodX l P _ _ _ _ h1 _ (xok_mono (mMoX_ok hS.1 g212) hS.1.u15) _) ⟨Nat.le_of_ble_eq_true rfl, Nat.le_of_ble_eq_true rfl⟩ ⟨rfl, rfl⟩ ⟨Nat.zero_le _, Nat.zero_le _⟩ (Nat.le_of_ble_eq_true rfl) dX7_command_219 ?_
                refine U_X7_234 (pc := 222) C (by assumption) dX7_command_222 ?_
                rw [mW_u9]
                refine XW.eq (σ' := mV τ (mMo (τ.1 (.inr 16)) n S F L)) (by rw [mV, mMo, if_pos g212]) rfl rfl ?_
                have hk := mCm0_ok (L := L) (B := (τ.1 (.inr 16))) hS hT
                rw [gC] at hk
                refine X_aload_n (pc := 225) C 0 dX7_command_225 rfl rfl ?_
                refine K_X7_194 (pc := 226) C (by assumption) (c_X7_go l P _ _ _ _ h1 n hk.2) ⟨Nat.le_of_ble_eq_true rfl, Nat.le_of_ble_eq_true rfl⟩ ⟨rfl, rfl⟩ ⟨Nat.zero_le _, Nat.zero_le _⟩ (Nat.le_of_ble_eq_true rfl) dX7_command_226 ?_
                exact X_vret (pc := 229) C (Nat.zero_le _) (Nat.zero_le _) dX7_command_229 ⟨rfl, (mCm_e gC).symm⟩
        · have gC : mCm0 (τ.1 (.inr 16)) n S F L = mWa (τ.1 (.inr 16)) n S F L := by rw [mCm0, if_pos h6, if_pos h23, if_pos h40, if_neg h108]
          refine X_aload_n (pc := 111) C 0 dX7_command_111 rfl rfl ?_
          refine K_X7_194 (pc := 112) C (by assumption) (c_X7_go l P _ _ _ _ h1 n hT) ⟨Nat.le_of_ble_eq_true rfl, Nat.le_of_ble_eq_true rfl⟩ ⟨rfl, rfl⟩ ⟨Nat.zero_le _, Nat.zero_le _⟩ (Nat.le_of_ble_eq_true rfl) dX7_command_112 ?_
          refine X_aload_n (pc := 115) C 0 dX7_command_115 rfl rfl ?_
          refine X_iconst (pc := 116) (v := 1) C dX7_command_116 (by decide) ?_
          refine X_sipush (pc := 117) (v := 9999) C dX7_command_117 (by decide) ?_
          refine X_ldc (pc := 120) C m_k_X7_255 dX7_command_120 ?_
          refine X_aload_n (pc := 122) C 0 dX7_command_122 rfl rfl ?_
          refine G_X7_9 (pc := 123) C (by assumption) dX7_command_123 ?_
          refine X_iconst (pc := 126) (v := 0) C dX7_command_126 (by decide) ?_
          refine X_ialdN (j := 0) (pc := 127) C (by first | exact h1 _ (by decide) (by decide)) rfl (by omega) (by decide) dX7_command_127 ?_
          rw [mW_10]
          refine X_isub (pc := 128) C dX7_command_128 ?_
          refine X_mmin (pc := 129) C m_m_X7_177 (Nat.le_of_ble_eq_true rfl) (Nat.le_of_ble_eq_true rfl) ⟨Nat.zero_le _, Nat.zero_le _⟩ dX7_command_129 ?_
          refine K_X7_203 (pc := 132) C (by assumption) (c_X7_number l P _ _ _ _ h1 n (mGo_TK hT) 1 _) ⟨Nat.le_of_ble_eq_true rfl, Nat.le_of_ble_eq_true rfl⟩ ⟨rfl, rfl⟩ ⟨Nat.zero_le _, Nat.zero_le _⟩ (Nat.le_of_ble_eq_true rfl) dX7_command_132 ?_
          refine XW.eq (st' := [.int (mWaV (τ.1 (.inr 16)) n S F)]) rfl rfl rfl ?_
          refine X_istore_n (pc := 135) (lv1 := [(0, _), (1, _)]) C 1 dX7_command_135 rfl (by decide) rfl ?_
          refine X_aload_n (pc := 136) C 0 dX7_command_136 rfl rfl ?_
          refine X_iconst (pc := 137) (v := 1) C dX7_command_137 (by decide) ?_
          refine X_iconst (pc := 138) (v := 1) C dX7_command_138 (by decide) ?_
          refine K_X7_226 (pc := 139) C (by assumption) (c_X7_ends l P _ _ _ _ h1 _ _) ⟨Nat.le_of_ble_eq_true rfl, Nat.le_of_ble_eq_true rfl⟩ ⟨rfl, rfl⟩ ⟨Nat.zero_le _, Nat.zero_le _⟩ (Nat.le_of_ble_eq_true rfl) dX7_command_139 ?_
          refine XW.eq (σ' := mW τ S (mWa1 (τ.1 (.inr 16)) n S F) L) (st' := [.int (if (mWa1 (τ.1 (.inr 16)) n S F) 20 = 0 then 1 else 0)]) rfl rfl rfl ?_
          refine X_if_eq (pc := 142) C 154 dX7_command_142 (by decide) (fun h142 => ?_) (fun h142 => ?_)
          · have g142 := bz0 h142
            refine XW.eq (σ' := mV τ (mWa (τ.1 (.inr 16)) n S F L)) (by rw [mV, mWa, if_neg g142]) rfl rfl ?_
            refine X_goto (pc := 154) C 225 dX7_command_154 (by decide) ?_
            have hk := mCm0_ok (L := L) (B := (τ.1 (.inr 16))) hS hT
            rw [gC] at hk
            refine X_aload_n (pc := 225) C 0 dX7_command_225 rfl rfl ?_
            refine K_X7_194 (pc := 226) C (by assumption) (c_X7_go l P _ _ _ _ h1 n hk.2) ⟨Nat.le_of_ble_eq_true rfl, Nat.le_of_ble_eq_true rfl⟩ ⟨rfl, rfl⟩ ⟨Nat.zero_le _, Nat.zero_le _⟩ (Nat.le_of_ble_eq_true rfl) dX7_command_226 ?_
            exact X_vret (pc := 229) C (Nat.zero_le _) (Nat.zero_le _) dX7_command_229 ⟨rfl, (mCm_e gC).symm⟩
          · have g142 := bz1 h142
            refine X_aload_n (pc := 145) C 0 dX7_command_145 rfl rfl ?_
            refine X_aload_n (pc := 146) C 0 dX7_command_146 rfl rfl ?_
            refine X_iload_n (pc := 147) C 1 dX7_command_147 rfl rfl ?_
            refine K_X7_256 (pc := 148) C (by assumption) (c_X7_waits l P _ _ _ _ h1 _) ⟨Nat.le_of_ble_eq_true rfl, Nat.le_of_ble_eq_true rfl⟩ ⟨rfl, rfl⟩ ⟨Nat.zero_le _, Nat.zero_le _⟩ (Nat.le_of_ble_eq_true rfl) dX7_command_148 ?_
            refine U_X7_234 (pc := 151) C (by assumption) dX7_command_151 ?_
            rw [mW_u9]
            refine XW.eq (σ' := mV τ (mWa (τ.1 (.inr 16)) n S F L)) (by rw [mV, mWa, if_pos g142]) rfl rfl ?_
            refine X_goto (pc := 154) C 225 dX7_command_154 (by decide) ?_
            have hk := mCm0_ok (L := L) (B := (τ.1 (.inr 16))) hS hT
            rw [gC] at hk
            refine X_aload_n (pc := 225) C 0 dX7_command_225 rfl rfl ?_
            refine K_X7_194 (pc := 226) C (by assumption) (c_X7_go l P _ _ _ _ h1 n hk.2) ⟨Nat.le_of_ble_eq_true rfl, Nat.le_of_ble_eq_true rfl⟩ ⟨rfl, rfl⟩ ⟨Nat.zero_le _, Nat.zero_le _⟩ (Nat.le_of_ble_eq_true rfl) dX7_command_226 ?_
            exact X_vret (pc := 229) C (Nat.zero_le _) (Nat.zero_le _) dX7_command_229 ⟨rfl, (mCm_e gC).symm⟩
      · have gC : mCm0 (τ.1 (.inr 16)) n S F L = mEd (τ.1 (.inr 16)) n S F L := by rw [mCm0, if_pos h6, if_pos h23, if_neg h40]
        refine X_aload_n (pc := 43) C 0 dX7_command_43 rfl rfl ?_
        refine K_X7_194 (pc := 44) C (by assumption) (c_X7_go l P _ _ _ _ h1 n hT) ⟨Nat.le_of_ble_eq_true rfl, Nat.le_of_ble_eq_true rfl⟩ ⟨rfl, rfl⟩ ⟨Nat.zero_le _, Nat.zero_le _⟩ (Nat.le_of_ble_eq_true rfl) dX7_command_44 ?_
        refine X_aload_n (pc := 47) C 0 dX7_command_47 rfl rfl ?_
        refine X_iconst (pc := 48) (v := 0) C dX7_command_48 (by decide) ?_
        refine X_aload_n (pc := 49) C 0 dX7_command_49 rfl rfl ?_
        refine G_X7_9 (pc := 50) C (by assumption) dX7_command_50 ?_
        refine X_iconst (pc := 53) (v := 5) C dX7_command_53 (by decide) ?_
        refine X_ialdN (j := 5) (pc := 54) C (by first | exact h1 _ (by decide) (by decide)) rfl (by omega) (by decide) dX7_command_54 ?_
        rw [mW_10]
        skip
        refine X_iconst (pc := 55) (v := 1) C dX7_command_55 (by decide) ?_
        refine X_isub (pc := 56) C dX7_command_56 ?_
        refine K_X7_203 (pc := 57) C (by assumption) (c_X7_number l P _ _ _ _ h1 n (mGo_TK hT) 0 _) ⟨Nat.le_of_ble_eq_true rfl, Nat.le_of_ble_eq_true rfl⟩ ⟨rfl, rfl⟩ ⟨Nat.zero_le _, Nat.zero_le _⟩ (Nat.le_of_ble_eq_true rfl) dX7_command_57 ?_
        refine XW.eq (σ' := mW τ S (mEd1 (τ.1 (.inr 16)) n S F) L) (st' := [.int (mEdC (τ.1 (.inr 16)) n S F)]) rfl rfl rfl ?_
        refine X_istore_n (pc := 60) (lv1 := [(0, _), (1, _)]) C 1 dX7_command_60 rfl (by decide) rfl ?_
        refine X_aload_n (pc := 61) C 0 dX7_command_61 rfl rfl ?_
        refine X_aload_n (pc := 62) C 0 dX7_command_62 rfl rfl ?_
        refine G_X7_180 (pc := 63) C (by assumption) dX7_command_63 ?_
        rw [mW_9]
        refine X_if_ne (pc := 66) C 77 dX7_command_66 (by decide) (fun h66 => ?_) (fun h66 => ?_)
        · have g9 : (if (mEd1 (τ.1 (.inr 16)) n S F) 20 = 0 ∧ 2 ≤ sC S 4 (cN (mEdC (τ.1 (.inr 16)) n S F)) then (0 : Int32) else 1) = 1 := if_neg (fun q => h66 q.1)
          refine X_iconst (pc := 77) (v := 1) C dX7_command_77 (by decide) ?_
          refine X_goto (pc := 78) C 82 dX7_command_78 (by decide) ?_
          refine X_bipush (pc := 82) (v := 7) C dX7_command_82 (by decide) ?_
          refine K_X7_226 (pc := 84) C (by assumption) (c_X7_ends l P _ _ _ _ h1 _ _) ⟨Nat.le_of_ble_eq_true rfl, Nat.le_of_ble_eq_true rfl⟩ ⟨rfl, rfl⟩ ⟨Nat.zero_le _, Nat.zero_le _⟩ (Nat.le_of_ble_eq_true rfl) dX7_command_84 ?_
          refine XW.eq (σ' := mW τ S (mEd2 (τ.1 (.inr 16)) n S F) L) (st' := [.int (if (mEd2 (τ.1 (.inr 16)) n S F) 20 = 0 then 1 else 0)]) (by rw [mEd2, g9]) rfl (by rw [mEd2, g9]) ?_
          refine X_if_eq (pc := 87) C 99 dX7_command_87 (by decide) (fun h87 => ?_) (fun h87 => ?_)
          · have g87 := bz0 h87
            refine XW.eq (σ' := mV τ (mEd (τ.1 (.inr 16)) n S F L)) (by rw [mV, mEd, if_neg g87]) rfl rfl ?_
            refine X_goto (pc := 99) C 225 dX7_command_99 (by decide) ?_
            have hk := mCm0_ok (L := L) (B := (τ.1 (.inr 16))) hS hT
            rw [gC] at hk
            refine X_aload_n (pc := 225) C 0 dX7_command_225 rfl rfl ?_
            refine K_X7_194 (pc := 226) C (by assumption) (c_X7_go l P _ _ _ _ h1 n hk.2) ⟨Nat.le_of_ble_eq_true rfl, Nat.le_of_ble_eq_true rfl⟩ ⟨rfl, rfl⟩ ⟨Nat.zero_le _, Nat.zero_le _⟩ (Nat.le_of_ble_eq_true rfl) dX7_command_226 ?_
            exact X_vret (pc := 229) C (Nat.zero_le _) (Nat.zero_le _) dX7_command_229 ⟨rfl, (mCm_e gC).symm⟩
          · have g87 := bz1 h87
            have gy := xok_c (mEdC_ok hS.1 (mEd2_0 g87).2.2.1) (by have := hS.1.k40; omega)
            refine X_aload_n (pc := 90) C 0 dX7_command_90 rfl rfl ?_
            refine X_aload_n (pc := 91) C 0 dX7_command_91 rfl rfl ?_
            refine X_iload_n (pc := 92) C 1 dX7_command_92 rfl rfl ?_
            refine K_X7_250 (pc := 93) C (by assumption) (c_X7_finishes l P _ _ _ _ h1 hS.1 _ gy.1 _ gy.2) ⟨Nat.le_of_ble_eq_true rfl, Nat.le_of_ble_eq_true rfl⟩ ⟨rfl, rfl⟩ ⟨Nat.zero_le _, Nat.zero_le _⟩ (Nat.le_of_ble_eq_true rfl) dX7_command_93 ?_
            refine U_X7_234 (pc := 96) C (by assumption) dX7_command_96 ?_
            rw [mW_u9]
            refine XW.eq (σ' := mV τ (mEd (τ.1 (.inr 16)) n S F L)) (by rw [mV, mEd, if_pos g87]) rfl rfl ?_
            refine X_goto (pc := 99) C 225 dX7_command_99 (by decide) ?_
            have hk := mCm0_ok (L := L) (B := (τ.1 (.inr 16))) hS hT
            rw [gC] at hk
            refine X_aload_n (pc := 225) C 0 dX7_command_225 rfl rfl ?_
            refine K_X7_194 (pc := 226) C (by assumption) (c_X7_go l P _ _ _ _ h1 n hk.2) ⟨Nat.le_of_ble_eq_true rfl, Nat.le_of_ble_eq_true rfl⟩ ⟨rfl, rfl⟩ ⟨Nat.zero_le _, Nat.zero_le _⟩ (Nat.le_of_ble_eq_true rfl) dX7_command_226 ?_
            exact X_vret (pc := 229) C (Nat.zero_le _) (Nat.zero_le _) dX7_command_229 ⟨rfl, (mCm_e gC).symm⟩
        · have gx := xok_c (mEdC_ok hS.1 h66) (by have := hS.1.k40; omega)
          have g40 := hS.1.k40
          refine X_aload_n (pc := 69) C 0 dX7_command_69 rfl rfl ?_
          refine X_iload_n (pc := 70) C 1 dX7_command_70 rfl rfl ?_
          refine K_X7_247 (pc := 71) C (by assumption) (c_X7_isOver l P _ _ _ _ h1 _ (by omega) _ gx.2) ⟨Nat.le_of_ble_eq_true rfl, Nat.le_of_ble_eq_true rfl⟩ ⟨rfl, rfl⟩ ⟨Nat.zero_le _, Nat.zero_le _⟩ (Nat.le_of_ble_eq_true rfl) dX7_command_71 ?_
          refine X_if_ne (pc := 74) C 81 dX7_command_74 (by decide) (fun h74 => ?_) (fun h74 => ?_)
          · have g9 : (if (mEd1 (τ.1 (.inr 16)) n S F) 20 = 0 ∧ 2 ≤ sC S 4 (cN (mEdC (τ.1 (.inr 16)) n S F)) then (0 : Int32) else 1) = 0 := if_pos ⟨h66, bz1 h74⟩
            refine X_iconst (pc := 81) (v := 0) C dX7_command_81 (by decide) ?_
            refine X_bipush (pc := 82) (v := 7) C dX7_command_82 (by decide) ?_
            refine K_X7_226 (pc := 84) C (by assumption) (c_X7_ends l P _ _ _ _ h1 _ _) ⟨Nat.le_of_ble_eq_true rfl, Nat.le_of_ble_eq_true rfl⟩ ⟨rfl, rfl⟩ ⟨Nat.zero_le _, Nat.zero_le _⟩ (Nat.le_of_ble_eq_true rfl) dX7_command_84 ?_
            refine XW.eq (σ' := mW τ S (mEd2 (τ.1 (.inr 16)) n S F) L) (st' := [.int (if (mEd2 (τ.1 (.inr 16)) n S F) 20 = 0 then 1 else 0)]) (by rw [mEd2, g9]) rfl (by rw [mEd2, g9]) ?_
            refine X_if_eq (pc := 87) C 99 dX7_command_87 (by decide) (fun h87 => ?_) (fun h87 => ?_)
            · have g87 := bz0 h87
              refine XW.eq (σ' := mV τ (mEd (τ.1 (.inr 16)) n S F L)) (by rw [mV, mEd, if_neg g87]) rfl rfl ?_
              refine X_goto (pc := 99) C 225 dX7_command_99 (by decide) ?_
              have hk := mCm0_ok (L := L) (B := (τ.1 (.inr 16))) hS hT
              rw [gC] at hk
              refine X_aload_n (pc := 225) C 0 dX7_command_225 rfl rfl ?_
              refine K_X7_194 (pc := 226) C (by assumption) (c_X7_go l P _ _ _ _ h1 n hk.2) ⟨Nat.le_of_ble_eq_true rfl, Nat.le_of_ble_eq_true rfl⟩ ⟨rfl, rfl⟩ ⟨Nat.zero_le _, Nat.zero_le _⟩ (Nat.le_of_ble_eq_true rfl) dX7_command_226 ?_
              exact X_vret (pc := 229) C (Nat.zero_le _) (Nat.zero_le _) dX7_command_229 ⟨rfl, (mCm_e gC).symm⟩
            · have g87 := bz1 h87
              have gy := xok_c (mEdC_ok hS.1 (mEd2_0 g87).2.2.1) (by have := hS.1.k40; omega)
              refine X_aload_n (pc := 90) C 0 dX7_command_90 rfl rfl ?_
              refine X_aload_n (pc := 91) C 0 dX7_command_91 rfl rfl ?_
              refine X_iload_n (pc := 92) C 1 dX7_command_92 rfl rfl ?_
              refine K_X7_250 (pc := 93) C (by assumption) (c_X7_finishes l P _ _ _ _ h1 hS.1 _ gy.1 _ gy.2) ⟨Nat.le_of_ble_eq_true rfl, Nat.le_of_ble_eq_true rfl⟩ ⟨rfl, rfl⟩ ⟨Nat.zero_le _, Nat.zero_le _⟩ (Nat.le_of_ble_eq_true rfl) dX7_command_93 ?_
              refine U_X7_234 (pc := 96) C (by assumption) dX7_command_96 ?_
              rw [mW_u9]
              refine XW.eq (σ' := mV τ (mEd (τ.1 (.inr 16)) n S F L)) (by rw [mV, mEd, if_pos g87]) rfl rfl ?_
              refine X_goto (pc := 99) C 225 dX7_command_99 (by decide) ?_
              have hk := mCm0_ok (L := L) (B := (τ.1 (.inr 16))) hS hT
              rw [gC] at hk
              refine X_aload_n (pc := 225) C 0 dX7_command_225 rfl rfl ?_
              refine K_X7_194 (pc := 226) C (by assumption) (c_X7_go l P _ _ _ _ h1 n hk.2) ⟨Nat.le_of_ble_eq_true rfl, Nat.le_of_ble_eq_true rfl⟩ ⟨rfl, rfl⟩ ⟨Nat.zero_le _, Nat.zero_le _⟩ (Nat.le_of_ble_eq_true rfl) dX7_command_226 ?_
              exact X_vret (pc := 229) C (Nat.zero_le _) (Nat.zero_le _) dX7_command_229 ⟨rfl, (mCm_e gC).symm⟩
          · have g9 : (if (mEd1 (τ.1 (.inr 16)) n S F) 20 = 0 ∧ 2 ≤ sC S 4 (cN (mEdC (τ.1 (.inr 16)) n S F)) then (0 : Int32) else 1) = 1 := if_neg (fun q => bz0 h74 q.2)
            refine X_iconst (pc := 77) (v := 1) C dX7_command_77 (by decide) ?_
            refine X_goto (pc := 78) C 82 dX7_command_78 (by decide) ?_
            refine X_bipush (pc := 82) (v := 7) C dX7_command_82 (by decide) ?_
            refine K_X7_226 (pc := 84) C (by assumption) (c_X7_ends l P _ _ _ _ h1 _ _) ⟨Nat.le_of_ble_eq_true rfl, Nat.le_of_ble_eq_true rfl⟩ ⟨rfl, rfl⟩ ⟨Nat.zero_le _, Nat.zero_le _⟩ (Nat.le_of_ble_eq_true rfl) dX7_command_84 ?_
            refine XW.eq (σ' := mW τ S (mEd2 (τ.1 (.inr 16)) n S F) L) (st' := [.int (if (mEd2 (τ.1 (.inr 16)) n S F) 20 = 0 then 1 else 0)]) (by rw [mEd2, g9]) rfl (by rw [mEd2, g9]) ?_
            refine X_if_eq (pc := 87) C 99 dX7_command_87 (by decide) (fun h87 => ?_) (fun h87 => ?_)
            · have g87 := bz0 h87
              refine XW.eq (σ' := mV τ (mEd (τ.1 (.inr 16)) n S F L)) (by rw [mV, mEd, if_neg g87]) rfl rfl ?_
              refine X_goto (pc := 99) C 225 dX7_command_99 (by decide) ?_
              have hk := mCm0_ok (L := L) (B := (τ.1 (.inr 16))) hS hT
              rw [gC] at hk
              refine X_aload_n (pc := 225) C 0 dX7_command_225 rfl rfl ?_
              refine K_X7_194 (pc := 226) C (by assumption) (c_X7_go l P _ _ _ _ h1 n hk.2) ⟨Nat.le_of_ble_eq_true rfl, Nat.le_of_ble_eq_true rfl⟩ ⟨rfl, rfl⟩ ⟨Nat.zero_le _, Nat.zero_le _⟩ (Nat.le_of_ble_eq_true rfl) dX7_command_226 ?_
              exact X_vret (pc := 229) C (Nat.zero_le _) (Nat.zero_le _) dX7_command_229 ⟨rfl, (mCm_e gC).symm⟩
            · have g87 := bz1 h87
              have gy := xok_c (mEdC_ok hS.1 (mEd2_0 g87).2.2.1) (by have := hS.1.k40; omega)
              refine X_aload_n (pc := 90) C 0 dX7_command_90 rfl rfl ?_
              refine X_aload_n (pc := 91) C 0 dX7_command_91 rfl rfl ?_
              refine X_iload_n (pc := 92) C 1 dX7_command_92 rfl rfl ?_
              refine K_X7_250 (pc := 93) C (by assumption) (c_X7_finishes l P _ _ _ _ h1 hS.1 _ gy.1 _ gy.2) ⟨Nat.le_of_ble_eq_true rfl, Nat.le_of_ble_eq_true rfl⟩ ⟨rfl, rfl⟩ ⟨Nat.zero_le _, Nat.zero_le _⟩ (Nat.le_of_ble_eq_true rfl) dX7_command_93 ?_
              refine U_X7_234 (pc := 96) C (by assumption) dX7_command_96 ?_
              rw [mW_u9]
              refine XW.eq (σ' := mV τ (mEd (τ.1 (.inr 16)) n S F L)) (by rw [mV, mEd, if_pos g87]) rfl rfl ?_
              refine X_goto (pc := 99) C 225 dX7_command_99 (by decide) ?_
              have hk := mCm0_ok (L := L) (B := (τ.1 (.inr 16))) hS hT
              rw [gC] at hk
              refine X_aload_n (pc := 225) C 0 dX7_command_225 rfl rfl ?_
              refine K_X7_194 (pc := 226) C (by assumption) (c_X7_go l P _ _ _ _ h1 n hk.2) ⟨Nat.le_of_ble_eq_true rfl, Nat.le_of_ble_eq_true rfl⟩ ⟨rfl, rfl⟩ ⟨Nat.zero_le _, Nat.zero_le _⟩ (Nat.le_of_ble_eq_true rfl) dX7_command_226 ?_
              exact X_vret (pc := 229) C (Nat.zero_le _) (Nat.zero_le _) dX7_command_229 ⟨rfl, (mCm_e gC).symm⟩
    · have gC : mCm0 (τ.1 (.inr 16)) n S F L = mTr (τ.1 (.inr 16)) n S F L := by rw [mCm0, if_pos h6, if_neg h23]
      refine X_aload_n (pc := 26) C 0 dX7_command_26 rfl rfl ?_
      refine X_iconst (pc := 27) (v := 1) C dX7_command_27 (by decide) ?_
      refine K_X7_239 (pc := 28) C (by assumption) (c_X7_callTold1 l P _ _ _ _ h1 n hT hS.1) ⟨Nat.le_of_ble_eq_true rfl, Nat.le_of_ble_eq_true rfl⟩ ⟨rfl, rfl⟩ ⟨Nat.zero_le _, Nat.zero_le _⟩ (Nat.le_of_ble_eq_true rfl) dX7_command_28 ?_
      refine X_goto (pc := 31) C 225 dX7_command_31 (by decide) ?_
      have hk := mCm0_ok (L := L) (B := (τ.1 (.inr 16))) hS hT
      rw [gC] at hk
      refine X_aload_n (pc := 225) C 0 dX7_command_225 rfl rfl ?_
      refine K_X7_194 (pc := 226) C (by assumption) (c_X7_go l P _ _ _ _ h1 n hk.2) ⟨Nat.le_of_ble_eq_true rfl, Nat.le_of_ble_eq_true rfl⟩ ⟨rfl, rfl⟩ ⟨Nat.zero_le _, Nat.zero_le _⟩ (Nat.le_of_ble_eq_true rfl) dX7_command_226 ?_
      exact X_vret (pc := 229) C (Nat.zero_le _) (Nat.zero_le _) dX7_command_229 ⟨rfl, (mCm_e gC).symm⟩
  · have gC : mCm0 (τ.1 (.inr 16)) n S F L = mCa (τ.1 (.inr 16)) n S F L := if_neg h6
    refine X_aload_n (pc := 9) C 0 dX7_command_9 rfl rfl ?_
    refine X_iconst (pc := 10) (v := 0) C dX7_command_10 (by decide) ?_
    refine K_X7_239 (pc := 11) C (by assumption) (c_X7_callTold0 l P _ _ _ _ h1 n hT hS.1) ⟨Nat.le_of_ble_eq_true rfl, Nat.le_of_ble_eq_true rfl⟩ ⟨rfl, rfl⟩ ⟨Nat.zero_le _, Nat.zero_le _⟩ (Nat.le_of_ble_eq_true rfl) dX7_command_11 ?_
    refine X_goto (pc := 14) C 225 dX7_command_14 (by decide) ?_
    have hk := mCm0_ok (L := L) (B := (τ.1 (.inr 16))) hS hT
    rw [gC] at hk
    refine X_aload_n (pc := 225) C 0 dX7_command_225 rfl rfl ?_
    refine K_X7_194 (pc := 226) C (by assumption) (c_X7_go l P _ _ _ _ h1 n hk.2) ⟨Nat.le_of_ble_eq_true rfl, Nat.le_of_ble_eq_true rfl⟩ ⟨rfl, rfl⟩ ⟨Nat.zero_le _, Nat.zero_le _⟩ (Nat.le_of_ble_eq_true rfl) dX7_command_226 ?_
    exact X_vret (pc := 229) C (Nat.zero_le _) (Nat.zero_le _) dX7_command_229 ⟨rfl, (mCm_e gC).symm⟩

end XP40

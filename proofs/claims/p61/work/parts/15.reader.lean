/-! READER: the token that is looked at, from place p of a text of n bytes -/
theorem tkS_in (f : Nat → Int32) {n p : Nat} (h : p ≤ n) : p ≤ tkS f n p ∧ tkS f n p ≤ n := by
  have := cSkip_in (qS f) (n - p) p
  unfold tkS
  omega
theorem tkE_in (f : Nat → Int32) {n p : Nat} (h : p ≤ n) : tkS f n p ≤ tkE f n p ∧ tkE f n p ≤ n := by
  have h1 := tkS_in f h
  unfold tkE
  split
  · split
    · have := cSkip_in (qL f) (n - tkS f n p) (tkS f n p); omega
    · split
      · have := cSkip_in (qD f) (n - tkS f n p) (tkS f n p); omega
      · omega
  · omega
abbrev bT (σ : XS) : Nat → Int32 := σ.1 (.inr 3)
abbrev kT (σ : XS) (n p : Nat) : Int32 := tkK (σ.1 (.inr 3)) n p
abbrev sT (σ : XS) (n p : Nat) : Nat := tkS (σ.1 (.inr 3)) n p
abbrev eT (σ : XS) (n p : Nat) : Nat := tkE (σ.1 (.inr 3)) n p
abbrev vT (σ : XS) (n p : Nat) : Int32 := cNum (σ.1 (.inr 3)) (n - tkS (σ.1 (.inr 3)) n p) (tkS (σ.1 (.inr 3)) n p) 0
/-- the reader looks at the token from place p on -/
def At (σ : XS) (n p : Nat) : Prop := n ≤ 700 ∧ p ≤ n ∧ σ.1 (.inr 2) 1 = nI n ∧ σ.1 (.inr 2) 2 = nI (eT σ n p) ∧ σ.1 (.inr 2) 3 = kT σ n p ∧ σ.1 (.inr 2) 4 = nI (sT σ n p) ∧ (kT σ n p = 2 → σ.1 (.inr 2) 5 = vT σ n p) ∧ ∀ i, i < n → ¬ σ.1 (.inr 3) i = -1
theorem At.o {σ τ : XS} {n p : Nat} (h : At σ n p) (h2 : τ.1 (.inr 2) = σ.1 (.inr 2)) (h3 : τ.1 (.inr 3) = σ.1 (.inr 3)) : At τ n p := by
  unfold At kT sT eT vT at *
  rw [h2, h3]
  exact h
theorem tkN_2 {f : Nat → Int32} {n p : Nat} {a : Int32} (h : tkK f n p = 2) : tkN f n p a = cNum f (n - tkS f n p) (tkS f n p) 0 := by
  unfold tkK at h
  unfold tkN
  by_cases h1 : tkS f n p < n
  · rw [if_pos h1] at h
    by_cases h2 : isL (f (tkS f n p))
    · rw [if_pos h2] at h; exact absurd h (by decide)
    · rw [if_neg h2] at h
      by_cases h3 : isD (f (tkS f n p))
      · rw [if_pos ⟨h1, h2, h3⟩]
      · rw [if_neg h3] at h
        split at h <;> exact absurd h (by decide)
  · rw [if_neg h1] at h; exact absurd h (by decide)
theorem At.adv {σ : XS} {n p : Nat} (h1 : n ≤ 700) (h2 : p ≤ n) (h3 : σ.1 (.inr 2) 1 = nI n) (h4 : ∀ i, i < n → ¬ σ.1 (.inr 3) i = -1) : At (uAdv σ n p) n p := by
  have e3 : (uAdv σ n p).1 (.inr 3) = σ.1 (.inr 3) := uTok_o _ _ _ _ _ (by simp)
  unfold At kT sT eT vT
  rw [e3]
  refine ⟨h1, h2, ?_, ?_, ?_, ?_, fun hk => ?_, h4⟩
  · simp [uAdv, uTok, xu_ap, h3]
  · simp [uAdv, uTok, xu_ap]
  · simp [uAdv, uTok, xu_ap]
  · simp [uAdv, uTok, xu_ap]
  · rw [← tkN_2 (a := σ.1 (.inr 2) 5) hk]
    simp [uAdv, uTok, xu_ap]
/-- on to the next token; an error at the present one -/
def fA (σ : XS) (n p : Nat) : XS := uAdv σ n (eT σ n p)
def fF (σ : XS) (n p : Nat) (k : Int32) : XS := xu (xu σ (.inr 1) 2 k) (.inr 1) 3 (nI (sT σ n p))
theorem At.a {σ : XS} {n p : Nat} (h : At σ n p) : At (fA σ n p) n (eT σ n p) := At.adv h.1 (tkE_in _ h.2.1).2 h.2.2.1 h.2.2.2.2.2.2.2
theorem fA_o (σ : XS) (n p : Nat) {i : XI} (h : i ≠ .inr 2) : (fA σ n p).1 i = σ.1 i := uTok_o _ _ _ _ _ h
theorem fF_o (σ : XS) (n p : Nat) (k : Int32) {i : XI} (h : i ≠ .inr 1) : (fF σ n p k).1 i = σ.1 i := by
  unfold fF
  rw [xu_ne _ _ _ h, xu_ne _ _ _ h]
theorem fA_l (σ : XS) (n p : Nat) : (fA σ n p).2 = σ.2 := rfl
theorem fF_l (σ : XS) (n p : Nat) (k : Int32) : (fF σ n p k).2 = σ.2 := rfl
/-- a number between lo and hi -/
def rNum (σ : XS) (n p : Nat) (lo hi : Int32) : Int32 × XS := if kT σ n p = 2 then (if vT σ n p < lo then (-1, fF σ n p 2) else if vT σ n p ≤ hi then (vT σ n p, fA σ n p) else (-1, fF σ n p 2)) else (-1, fF σ n p 1)
/-- the word as a name; whether it is one; the subscriber of board 1 of this name -/
def rNm (σ : XS) (n p : Nat) : Int64 := xnm (wC (bT σ) (kT σ n p) (sT σ n p) (eT σ n p)) 6
abbrev rIsN (σ : XS) (n p : Nat) : Prop := kT σ n p = 1 ∧ eT σ n p - sT σ n p ≤ 6
def rFind (σ : XS) (n p nu : Nat) : Int32 := cFirst (fun k => σ.2 (.inl (1, 2)) k == rNm σ n p) nu 0
def rKnown (σ : XS) (n p nu : Nat) (x : Int32) : Int32 × XS := if rIsN σ n p then (if rFind σ n p nu = -1 then (-1, fF σ n p 3) else if rFind σ n p nu = x then (-1, fF σ n p 3) else (rFind σ n p nu, fA σ n p)) else (-1, fF σ n p 1)
def rNew (σ : XS) (n p nu : Nat) : Int64 × XS := if rIsN σ n p then (if rFind σ n p nu = -1 then (rNm σ n p, fA σ n p) else (0, fF σ n p 4)) else (0, fF σ n p 1)
def rCd (σ : XS) (n p : Nat) : Int32 := xcode (wC (bT σ) (kT σ n p) (sT σ n p) (eT σ n p)) (kT σ n p) (eT σ n p - sT σ n p)
noncomputable def rAmb (σ : XS) (nu : Nat) (li co : Int32) : Int32 := cFirstB (xamb (σ.1 (.inl (1, 3))) (σ.1 (.inl (1, 4))) li co) nu 0
noncomputable def rCode (σ : XS) (n p nu : Nat) (li : Int32) : Int32 × XS := if rCd σ n p = -1 then (-1, fF σ n p 1) else if rAmb σ nu li (rCd σ n p) = 0 then (rCd σ n p, fA σ n p) else (-1, fF σ n p 5)
def rSemi (σ : XS) (n p : Nat) : Int32 × XS := if kT σ n p = 3 then (1, σ) else (0, fF σ n p 1)
def rIsW (σ : XS) (n p q : Nat) : Int32 := xisW (wC (bT σ) (kT σ n p) (sT σ n p) (eT σ n p)) (wL (kT σ n p) (sT σ n p) (eT σ n p)) q
theorem xln_700 : ∀ q, q < 15 → xln q ≤ 700 := by decide +kernel
section XFV
variable {p : Program} {l : Launch} {e : Env} {R : Room} {s : State} {m : MethodId} {args : Array Value} {below : List Frame} {meth : Method} {c : Code} {P : XP} {A : Nat → Prop} {nL cells slots : Nat} {Q : State → Prop} {own : String} {cc : ByteArray} {ret : Option FieldType} {σ : XS} {pc : Nat} {lv : List (Nat × Value)} {st : List Value}
theorem X_fV (C : XC p s m args meth c P A nL own cc ret) {y : MethodName} {cy : ByteArray} {ny : Nat} {ry : Option FieldType} {rm : Room} {i : XI} {ci : Nat} {tm : List (Option XI)} {q9 : vw_C} (As : List Value) {n index : Nat} {v1 : Option Value} {σ1 : XS} (hM : XF l y cy ny ry rm P (.ref (P.2.2.1 i) :: As) σ v1 σ1) (hc : Cond.code y cy ny ry ∈ xTB) (hlk : Cond.methodLink own index y ∈ xTB) (hin : Cond.instanceMethod y ∈ xTB) (hse : Cond.selects y.cls y y ∈ xTB) (hini : Cond.initialized y.cls ∈ xTB) (hd : y.cls ≠ "java/lang/invoke/MethodHandle" ∧ y.cls ≠ "java/lang/invoke/VarHandle" ∧ (parseMethodDescriptor y.desc).map (fun d => d.parameters.length) = some n) (hR : rm.frames + 1 ≤ R.frames ∧ 8 + (ny + 11) + rm.locals ≤ R.locals) (h0 : rm.cells = 0 ∧ rm.slots = 0) (hcl : cells ≤ R.cells ∧ slots ≤ R.slots)
    (hi : i ∈ P.2.2.2.1) (hs : xsh i = .inl (ci, tm)) (hci : vwCl[ci]? = some q9) (hq : q9.1 = y.cls) (hn : As.length = n) (hst : (st.map fun v => v.category).sum ≤ 8) {st0 : List Value} (hs0 : st0 = As.reverse ++ .ref (P.2.2.1 i) :: st) (d : decode cc pc = .ok (.invokevirtual index, 3)) (k : XW p l e R s m args below meth c P A nL cells slots Q σ1 (pc + 3) lv (v1.toList ++ st)) : XW p l e R s m args below meth c P A nL cells slots Q σ pc lv st0 :=
  X_callV C As hM hc hlk hin hse hini hd hR (by rw [h0.1, h0.2]; exact hcl) hi hs hci hq hn hst hs0 d (fun v9 σ9 h9 => by obtain ⟨rfl, rfl⟩ := h9; rw [h0.1, h0.2]; exact k)
end XFV
section XP15
variable {p : Program} {l : Launch} {e : Env} {R : Room} {s : State} {m : MethodId} {args : Array Value} {below : List Frame} {meth : Method} {c : Code} {P : XP} {A : Nat → Prop} {nL cells slots : Nat} {Q : State → Prop} {cc : ByteArray} {ret : Option FieldType} {σ : XS} {pc : Nat} {lv : List (Nat × Value)} {st : List Value}
set_option maxRecDepth 100000 in
set_option maxHeartbeats 4000000 in
theorem L_X3_isWord {Post : Option Value → XS → Prop} {mc ms : Nat} (C : XC p s m args meth c P A 3 RX3 cX3_isWord (some .boolean)) (h0 : xI0 P) {kd : Int32} {s0 e0 : Nat} (hk : σ.1 (.inr 2) 3 = kd) (hs : σ.1 (.inr 2) 4 = nI s0) (he : σ.1 (.inr 2) 2 = nI e0) (hse : s0 ≤ e0) (hee : e0 ≤ 700) {q : Nat} (hq : q < 15) : ∀ (k i : Nat), i + k = xln q → Post (some (.int (xmat (wC (σ.1 (.inr 3)) kd s0 e0) q k i))) σ → XW p l e rm_X3_isWord s m args below meth c P A 3 0 0 (MQ below (XQ P A Post) args s mc ms A) σ 15 [(0, .ref (P.2.2.1 (.inr 2))), (1, .ref (xK P q)), (2, .int (nI i))] [] := by
  have hb := xln_700 q hq
  intro k
  induction k with
  | zero =>
    intro i hi hp
    have e9 : i = xln q := by omega
    refine X_iload_n (pc := 15) C 2 dX3_isWord_15 rfl rfl ?_
    refine X_aload_n (pc := 16) C 1 dX3_isWord_16 rfl rfl ?_
    refine X_callT (n := 0) (pc := 17) C hq [] (c_J0_length l P σ q hq) rfl m_c_J0_length_8abf5 m_m_X3_23 m_i_J0_length_8abf5 m_s_J0_length_8abf5 m_n_J0 ⟨by decide +kernel, by decide +kernel, by decide +kernel⟩ ⟨Nat.le_of_ble_eq_true rfl, Nat.le_of_ble_eq_true rfl⟩ ⟨rfl, rfl⟩ ⟨Nat.zero_le _, Nat.zero_le _⟩ rfl (Nat.le_of_ble_eq_true rfl) rfl dX3_isWord_17 ?_
    refine X_icmp_ge (pc := 20) C 44 dX3_isWord_20 (by decide) (fun h20 => ?_) (fun h20 => ?_)
    · skip
      refine X_iconst (pc := 44) (v := 1) C dX3_isWord_44 (by decide) ?_
      exact X_zret (pc := 45) C (Nat.zero_le _) (Nat.zero_le _) (rfl) dX3_isWord_45 hp
    · exact absurd (nI_le (Nat.le_of_eq e9.symm) (n31 (by omega))) h20
  | succ k ih =>
    intro i hi hp
    have hlt : i < xln q := by omega
    refine X_iload_n (pc := 15) C 2 dX3_isWord_15 rfl rfl ?_
    refine X_aload_n (pc := 16) C 1 dX3_isWord_16 rfl rfl ?_
    refine X_callT (n := 0) (pc := 17) C hq [] (c_J0_length l P σ q hq) rfl m_c_J0_length_8abf5 m_m_X3_23 m_i_J0_length_8abf5 m_s_J0_length_8abf5 m_n_J0 ⟨by decide +kernel, by decide +kernel, by decide +kernel⟩ ⟨Nat.le_of_ble_eq_true rfl, Nat.le_of_ble_eq_true rfl⟩ ⟨rfl, rfl⟩ ⟨Nat.zero_le _, Nat.zero_le _⟩ rfl (Nat.le_of_ble_eq_true rfl) rfl dX3_isWord_17 ?_
    refine X_icmp_ge (pc := 20) C 44 dX3_isWord_20 (by decide) (fun h20 => ?_) (fun h20 => ?_)
    · exact absurd (nle h20 (by omega) (by omega)) (by omega)
    · skip
      refine X_aload_n (pc := 23) C 0 dX3_isWord_23 rfl rfl ?_
      refine X_iload_n (pc := 24) C 2 dX3_isWord_24 rfl rfl ?_
      refine K_X3_67 (pc := 25) C (by assumption) (c_X3_letterAt l P σ h0 kd s0 e0 hk hs he hse hee i (by omega)) ⟨Nat.le_of_ble_eq_true rfl, Nat.le_of_ble_eq_true rfl⟩ ⟨rfl, rfl⟩ ⟨Nat.zero_le _, Nat.zero_le _⟩ (Nat.le_of_ble_eq_true rfl) dX3_isWord_25 ?_
      refine X_aload_n (pc := 28) C 1 dX3_isWord_28 rfl rfl ?_
      refine X_iload_n (pc := 29) C 2 dX3_isWord_29 rfl rfl ?_
      refine X_callT (n := 1) (pc := 30) C hq [.int _] (c_J0_charAt l P σ q i hq hlt) rfl m_c_J0_charAt_5068e m_m_X3_28 m_i_J0_charAt_5068e m_s_J0_charAt_5068e m_n_J0 ⟨by decide +kernel, by decide +kernel, by decide +kernel⟩ ⟨Nat.le_of_ble_eq_true rfl, Nat.le_of_ble_eq_true rfl⟩ ⟨rfl, rfl⟩ ⟨Nat.zero_le _, Nat.zero_le _⟩ rfl (Nat.le_of_ble_eq_true rfl) rfl dX3_isWord_30 ?_
      refine X_icmp_eq (pc := 33) C 38 dX3_isWord_33 (by decide) (fun h33 => ?_) (fun h33 => ?_)
      · skip
        first | refine X_iincN (pc := 38) (lv1 := [(0, _), (1, _), (2, _)]) C dX3_isWord_38 rfl (by decide) (by decide) rfl ?_ | refine X_iinc (pc := 38) (kk := 1) (lv1 := [(0, _), (1, _), (2, _)]) C dX3_isWord_38 rfl (by decide) (by decide) rfl ?_
        refine X_goto (pc := 41) C 15 dX3_isWord_41 (by decide) ?_
        exact ih (i + 1) (by omega) (by rw [xmat, if_pos h33] at hp; exact hp)
      · skip
        refine X_iconst (pc := 36) (v := 0) C dX3_isWord_36 (by decide) ?_
        exact X_zret (pc := 37) C (Nat.zero_le _) (Nat.zero_le _) (rfl) dX3_isWord_37 (by rw [xmat, if_neg h33] at hp; exact hp)

set_option maxRecDepth 100000 in
set_option maxHeartbeats 4000000 in
theorem c_X3_isWord (l : Launch) (P : XP) (σ : XS) (h0 : xI0 P) (kd : Int32) (s0 e0 : Nat) (hk : σ.1 (.inr 2) 3 = kd) (hs : σ.1 (.inr 2) 4 = nI s0) (he : σ.1 (.inr 2) 2 = nI e0) (hse : s0 ≤ e0) (hee : e0 ≤ 700) (q : Nat) (hq : q < 15) : XF l yX3_isWord cX3_isWord 3 (some .boolean) rm_X3_isWord P [.ref (P.2.2.1 (.inr 2)), .ref (xK P q)] σ (some (.int (xisW (wC (σ.1 (.inr 3)) kd s0 e0) (wL kd s0 e0) q))) (σ) := by
  refine XM.of (by decide +kernel) (Nat.le_of_ble_eq_true rfl) (fun p e s m args below meth c A C => ?_)
  replace C : XC p s m args meth c P A 3 RX3 cX3_isWord (some .boolean) := C
  refine XW.eq (lv' := [(0, _), (1, _)]) rfl rfl rfl ?_
  have hb := xln_700 q hq
  refine X_aload_n (pc := 0) C 0 dX3_isWord_0 rfl rfl ?_
  refine K_X3_64 (pc := 1) C (by assumption) (c_X3_wordLength l P σ h0 kd s0 e0 hk hs he hse hee) ⟨Nat.le_of_ble_eq_true rfl, Nat.le_of_ble_eq_true rfl⟩ ⟨rfl, rfl⟩ ⟨Nat.zero_le _, Nat.zero_le _⟩ (Nat.le_of_ble_eq_true rfl) dX3_isWord_1 ?_
  refine X_aload_n (pc := 4) C 1 dX3_isWord_4 rfl rfl ?_
  refine X_callT (n := 0) (pc := 5) C hq [] (c_J0_length l P σ q hq) rfl m_c_J0_length_8abf5 m_m_X3_23 m_i_J0_length_8abf5 m_s_J0_length_8abf5 m_n_J0 ⟨by decide +kernel, by decide +kernel, by decide +kernel⟩ ⟨Nat.le_of_ble_eq_true rfl, Nat.le_of_ble_eq_true rfl⟩ ⟨rfl, rfl⟩ ⟨Nat.zero_le _, Nat.zero_le _⟩ rfl (Nat.le_of_ble_eq_true rfl) rfl dX3_isWord_5 ?_
  refine X_icmp_eq (pc := 8) C 13 dX3_isWord_8 (by decide) (fun h8 => ?_) (fun h8 => ?_)
  · have g8 := neq h8 (by have := @wL_le kd s0 e0; omega) (by omega)
    refine X_iconst (pc := 13) (v := 0) C dX3_isWord_13 (by decide) ?_
    refine X_istore_n (pc := 14) (lv1 := [(0, _), (1, _), (2, _)]) C 2 dX3_isWord_14 rfl (by decide) rfl ?_
    exact L_X3_isWord C h0 hk hs he hse hee hq (xln q) 0 (by omega) ⟨by rw [xisW, if_pos g8, g8], rfl⟩
  · skip
    refine X_iconst (pc := 11) (v := 0) C dX3_isWord_11 (by decide) ?_
    exact X_zret (pc := 12) C (Nat.zero_le _) (Nat.zero_le _) (rfl) dX3_isWord_12 ⟨by rw [xisW, if_neg (fun q9 => h8 (by rw [q9]))], rfl⟩

theorem uFill_n {σ : XS} {q : Nat} (h : σ.1 (.inr 2) 1 = nI 0) : ∀ k, (uFill σ q k).1 (.inr 2) 1 = nI k
  | 0 => h
  | k + 1 => uByte_n _ _ _
set_option maxRecDepth 100000 in
set_option maxHeartbeats 4000000 in
theorem L_X3_fill (C : XC p s m args meth c P A 3 RX3 cX3_fill none) (h0 : xI0 P) (hl : σ.1 (.inr 2) 1 = nI 0) {q : Nat} (hq : q < 15) (kx : XW p l e rm_X3_fill s m args below meth c P A 3 0 0 Q (uFill σ q (xln q)) 25 [(0, .ref (P.2.2.1 (.inr 2))), (1, .ref (xK P q)), (2, .int (nI (xln q)))] []) : ∀ (k i : Nat), i + k = xln q → XW p l e rm_X3_fill s m args below meth c P A 3 0 0 Q (uFill σ q i) 2 [(0, .ref (P.2.2.1 (.inr 2))), (1, .ref (xK P q)), (2, .int (nI i))] [] := by
  have hb := xln_700 q hq
  intro k
  induction k with
  | zero =>
    intro i hi
    have e9 : i = xln q := by omega
    subst e9
    refine X_iload_n (pc := 2) C 2 dX3_fill_2 rfl rfl ?_
    refine X_aload_n (pc := 3) C 1 dX3_fill_3 rfl rfl ?_
    refine X_callT (n := 0) (pc := 4) C hq [] (c_J0_length l P _ q hq) rfl m_c_J0_length_8abf5 m_m_X3_23 m_i_J0_length_8abf5 m_s_J0_length_8abf5 m_n_J0 ⟨by decide +kernel, by decide +kernel, by decide +kernel⟩ ⟨Nat.le_of_ble_eq_true rfl, Nat.le_of_ble_eq_true rfl⟩ ⟨rfl, rfl⟩ ⟨Nat.zero_le _, Nat.zero_le _⟩ rfl (Nat.le_of_ble_eq_true rfl) rfl dX3_fill_4 ?_
    refine X_icmp_ge (pc := 7) C 25 dX3_fill_7 (by decide) (fun h7 => ?_) (fun h7 => ?_)
    · skip
      exact kx
    · exact absurd (nI_le (Nat.le_refl _) (n31 (by omega))) h7
  | succ k ih =>
    intro i hi
    have hlt : i < xln q := by omega
    refine X_iload_n (pc := 2) C 2 dX3_fill_2 rfl rfl ?_
    refine X_aload_n (pc := 3) C 1 dX3_fill_3 rfl rfl ?_
    refine X_callT (n := 0) (pc := 4) C hq [] (c_J0_length l P _ q hq) rfl m_c_J0_length_8abf5 m_m_X3_23 m_i_J0_length_8abf5 m_s_J0_length_8abf5 m_n_J0 ⟨by decide +kernel, by decide +kernel, by decide +kernel⟩ ⟨Nat.le_of_ble_eq_true rfl, Nat.le_of_ble_eq_true rfl⟩ ⟨rfl, rfl⟩ ⟨Nat.zero_le _, Nat.zero_le _⟩ rfl (Nat.le_of_ble_eq_true rfl) rfl dX3_fill_4 ?_
    refine X_icmp_ge (pc := 7) C 25 dX3_fill_7 (by decide) (fun h7 => ?_) (fun h7 => ?_)
    · exact absurd (nle h7 (by omega) (by omega)) (by omega)
    · skip
      refine X_aload_n (pc := 10) C 0 dX3_fill_10 rfl rfl ?_
      refine X_aload_n (pc := 11) C 1 dX3_fill_11 rfl rfl ?_
      refine X_iload_n (pc := 12) C 2 dX3_fill_12 rfl rfl ?_
      refine X_callT (n := 1) (pc := 13) C hq [.int _] (c_J0_charAt l P _ q i hq hlt) rfl m_c_J0_charAt_5068e m_m_X3_28 m_i_J0_charAt_5068e m_s_J0_charAt_5068e m_n_J0 ⟨by decide +kernel, by decide +kernel, by decide +kernel⟩ ⟨Nat.le_of_ble_eq_true rfl, Nat.le_of_ble_eq_true rfl⟩ ⟨rfl, rfl⟩ ⟨Nat.zero_le _, Nat.zero_le _⟩ rfl (Nat.le_of_ble_eq_true rfl) rfl dX3_fill_13 ?_
      refine K_X3_19 (pc := 16) C (by assumption) (by have h := c_X3_addByte l P (uFill σ q i) h0 i (by omega) (uFill_n hl i) (xch q i); rw [if_pos (by omega)] at h; exact h) ⟨Nat.le_of_ble_eq_true rfl, Nat.le_of_ble_eq_true rfl⟩ ⟨rfl, rfl⟩ ⟨Nat.zero_le _, Nat.zero_le _⟩ (Nat.le_of_ble_eq_true rfl) dX3_fill_16 ?_
      first | refine X_iincN (pc := 19) (lv1 := [(0, _), (1, _), (2, _)]) C dX3_fill_19 rfl (by decide) (by decide) rfl ?_ | refine X_iinc (pc := 19) (kk := 1) (lv1 := [(0, _), (1, _), (2, _)]) C dX3_fill_19 rfl (by decide) (by decide) rfl ?_
      refine X_goto (pc := 22) C 2 dX3_fill_22 (by decide) ?_
      exact ih (i + 1) (by omega)

set_option maxRecDepth 100000 in
set_option maxHeartbeats 4000000 in
theorem c_X3_fill (l : Launch) (P : XP) (σ : XS) (h0 : xI0 P) (hl : σ.1 (.inr 2) 1 = nI 0) (q : Nat) (hq : q < 15) : XF l yX3_fill cX3_fill 3 none rm_X3_fill P [.ref (P.2.2.1 (.inr 2)), .ref (xK P q)] σ (none) ((uFill σ q (xln q))) := by
  refine XM.of (by decide +kernel) (Nat.le_of_ble_eq_true rfl) (fun p e s m args below meth c A C => ?_)
  replace C : XC p s m args meth c P A 3 RX3 cX3_fill none := C
  refine XW.eq (lv' := [(0, _), (1, _)]) rfl rfl rfl ?_
  refine X_iconst (pc := 0) (v := 0) C dX3_fill_0 (by decide) ?_
  refine X_istore_n (pc := 1) (lv1 := [(0, _), (1, _), (2, _)]) C 2 dX3_fill_1 rfl (by decide) rfl ?_
  refine L_X3_fill C h0 hl hq ?_ (xln q) 0 (by omega)
  exact X_vret (pc := 25) C (Nat.zero_le _) (Nat.zero_le _) dX3_fill_25 ⟨rfl, rfl⟩

theorem At.se {σ : XS} {n p : Nat} (h : At σ n p) : sT σ n p ≤ eT σ n p ∧ eT σ n p ≤ 700 := by
  have a := tkE_in (σ.1 (.inr 3)) h.2.1
  exact ⟨a.1, Nat.le_trans a.2 h.1⟩
set_option maxRecDepth 100000 in
set_option maxHeartbeats 4000000 in
theorem c_X4_fail (l : Launch) (P : XP) (σ : XS) (h0 : xI0 P) (n p0 : Nat) (hA : At σ n p0) (k : Int32) : XF l yX4_fail cX4_fail 2 (some .boolean) rm_X4_fail P [.ref (P.2.2.1 (.inr 1)), .int k] σ (some (.int 0)) (fF σ n p0 k) := by
  refine XM.of (by decide +kernel) (Nat.le_of_ble_eq_true rfl) (fun p e s m args below meth c A C => ?_)
  replace C : XC p s m args meth c P A 2 RX4 cX4_fail (some .boolean) := C
  refine XW.eq (lv' := [(0, _), (1, _)]) rfl rfl rfl ?_
  refine X_aload_n (pc := 0) C 0 dX4_fail_0 rfl rfl ?_
  refine X_iload_n (pc := 1) C 1 dX4_fail_1 rfl rfl ?_
  refine U_X4_29 (pc := 2) C (by assumption) dX4_fail_2 ?_
  refine X_aload_n (pc := 5) C 0 dX4_fail_5 rfl rfl ?_
  refine X_aload_n (pc := 6) C 0 dX4_fail_6 rfl rfl ?_
  refine G_X4_12 (pc := 7) C (by assumption) dX4_fail_7 ?_
  refine G_X4_190 (pc := 10) C (by assumption) dX4_fail_10 ?_
  rw [show (xu σ (.inr 1) 2 k).1 (.inr 2) 4 = nI (sT σ n p0) from by simp [xu_ap, hA.2.2.2.2.2.1]]
  refine U_X4_25 (pc := 13) C (by assumption) dX4_fail_13 ?_
  refine X_iconst (pc := 16) (v := 0) C dX4_fail_16 (by decide) ?_
  exact X_zret (pc := 17) C (Nat.zero_le _) (Nat.zero_le _) (rfl) dX4_fail_17 ⟨rfl, rfl⟩

set_option maxRecDepth 100000 in
set_option maxHeartbeats 4000000 in
theorem c_X4_isAtSemicolon (l : Launch) (P : XP) (σ : XS) (h0 : xI0 P) (n p0 : Nat) (hA : At σ n p0) : XF l yX4_isAtSemicolon cX4_isAtSemicolon 1 (some .boolean) rm_X4_isAtSemicolon P [.ref (P.2.2.1 (.inr 1))] σ (some (.int (rSemi σ n p0).1)) ((rSemi σ n p0).2) := by
  refine XM.of (by decide +kernel) (Nat.le_of_ble_eq_true rfl) (fun p e s m args below meth c A C => ?_)
  replace C : XC p s m args meth c P A 1 RX4 cX4_isAtSemicolon (some .boolean) := C
  refine XW.eq (lv' := [(0, _)]) rfl rfl rfl ?_
  refine X_aload_n (pc := 0) C 0 dX4_isAtSemicolon_0 rfl rfl ?_
  refine G_X4_12 (pc := 1) C (by assumption) dX4_isAtSemicolon_1 ?_
  refine G_X4_99 (pc := 4) C (by assumption) dX4_isAtSemicolon_4 ?_
  rw [hA.2.2.2.2.1]
  refine X_iconst (pc := 7) (v := 3) C dX4_isAtSemicolon_7 (by decide) ?_
  refine X_icmp_eq (pc := 8) C 19 dX4_isAtSemicolon_8 (by decide) (fun h8 => ?_) (fun h8 => ?_)
  · skip
    refine X_iconst (pc := 19) (v := 1) C dX4_isAtSemicolon_19 (by decide) ?_
    refine X_goto (pc := 20) C 24 dX4_isAtSemicolon_20 (by decide) ?_
    exact X_zret (pc := 24) C (Nat.zero_le _) (Nat.zero_le _) (rfl) dX4_isAtSemicolon_24 ⟨by rw [rSemi, if_pos h8], by rw [rSemi, if_pos h8]⟩
  · skip
    refine X_aload_n (pc := 11) C 0 dX4_isAtSemicolon_11 rfl rfl ?_
    refine X_iconst (pc := 12) (v := 1) C dX4_isAtSemicolon_12 (by decide) ?_
    refine K_X4_48 (pc := 13) C (by assumption) (c_X4_fail l P σ h0 n p0 hA 1) ⟨Nat.le_of_ble_eq_true rfl, Nat.le_of_ble_eq_true rfl⟩ ⟨rfl, rfl⟩ ⟨Nat.zero_le _, Nat.zero_le _⟩ (Nat.le_of_ble_eq_true rfl) dX4_isAtSemicolon_13 ?_
    refine X_if_eq (pc := 16) C 23 dX4_isAtSemicolon_16 (by decide) (fun h16 => ?_) (fun h16 => ?_)
    · skip
      refine X_iconst (pc := 23) (v := 0) C dX4_isAtSemicolon_23 (by decide) ?_
      exact X_zret (pc := 24) C (Nat.zero_le _) (Nat.zero_le _) (rfl) dX4_isAtSemicolon_24 ⟨by rw [rSemi, if_neg h8], by rw [rSemi, if_neg h8]⟩
    · exact absurd rfl h16

set_option maxRecDepth 100000 in
set_option maxHeartbeats 4000000 in
theorem c_X4_readNumber (l : Launch) (P : XP) (σ : XS) (h0 : xI0 P) (n p0 : Nat) (hA : At σ n p0) (lo hi : Int32) : XF l yX4_readNumber cX4_readNumber 4 (some .int) rm_X4_readNumber P [.ref (P.2.2.1 (.inr 1)), .int lo, .int hi] σ (some (.int (rNum σ n p0 lo hi).1)) ((rNum σ n p0 lo hi).2) := by
  refine XM.of (by decide +kernel) (Nat.le_of_ble_eq_true rfl) (fun p e s m args below meth c A C => ?_)
  replace C : XC p s m args meth c P A 4 RX4 cX4_readNumber (some .int) := C
  refine XW.eq (lv' := [(0, _), (1, _), (2, _)]) rfl rfl rfl ?_
  refine X_aload_n (pc := 0) C 0 dX4_readNumber_0 rfl rfl ?_
  refine G_X4_12 (pc := 1) C (by assumption) dX4_readNumber_1 ?_
  refine G_X4_99 (pc := 4) C (by assumption) dX4_readNumber_4 ?_
  rw [hA.2.2.2.2.1]
  refine X_iconst (pc := 7) (v := 2) C dX4_readNumber_7 (by decide) ?_
  refine X_icmp_eq (pc := 8) C 19 dX4_readNumber_8 (by decide) (fun h8 => ?_) (fun h8 => ?_)
  · skip
    refine X_aload_n (pc := 19) C 0 dX4_readNumber_19 rfl rfl ?_
    refine G_X4_12 (pc := 20) C (by assumption) dX4_readNumber_20 ?_
    refine G_X4_169 (pc := 23) C (by assumption) dX4_readNumber_23 ?_
    rw [hA.2.2.2.2.2.2.1 h8]
    refine X_istore_n (pc := 26) (lv1 := [(0, _), (1, _), (2, _), (3, _)]) C 3 dX4_readNumber_26 rfl (by decide) rfl ?_
    refine X_iload_n (pc := 27) C 3 dX4_readNumber_27 rfl rfl ?_
    refine X_iload_n (pc := 28) C 1 dX4_readNumber_28 rfl rfl ?_
    refine X_icmp_lt (pc := 29) C 37 dX4_readNumber_29 (by decide) (fun h29 => ?_) (fun h29 => ?_)
    · skip
      refine X_aload_n (pc := 37) C 0 dX4_readNumber_37 rfl rfl ?_
      refine X_iconst (pc := 38) (v := 2) C dX4_readNumber_38 (by decide) ?_
      refine K_X4_48 (pc := 39) C (by assumption) (c_X4_fail l P σ h0 n p0 hA 2) ⟨Nat.le_of_ble_eq_true rfl, Nat.le_of_ble_eq_true rfl⟩ ⟨rfl, rfl⟩ ⟨Nat.zero_le _, Nat.zero_le _⟩ (Nat.le_of_ble_eq_true rfl) dX4_readNumber_39 ?_
      refine X_pop (pc := 42) C dX4_readNumber_42 rfl ?_
      refine X_iconst (pc := 43) (v := (-1)) C dX4_readNumber_43 (by decide) ?_
      exact X_iret (pc := 44) C (Nat.zero_le _) (Nat.zero_le _) dX4_readNumber_44 ⟨by rw [rNum, if_pos h8, if_pos h29], by rw [rNum, if_pos h8, if_pos h29]⟩
    · skip
      refine X_iload_n (pc := 32) C 3 dX4_readNumber_32 rfl rfl ?_
      refine X_iload_n (pc := 33) C 2 dX4_readNumber_33 rfl rfl ?_
      refine X_icmp_le (pc := 34) C 45 dX4_readNumber_34 (by decide) (fun h34 => ?_) (fun h34 => ?_)
      · skip
        refine X_aload_n (pc := 45) C 0 dX4_readNumber_45 rfl rfl ?_
        refine G_X4_12 (pc := 46) C (by assumption) dX4_readNumber_46 ?_
        refine K_X4_52 (pc := 49) C (by assumption) (c_X3_advance l P σ h0 n hA.1 hA.2.2.1 (eT σ n p0) (tkE_in _ hA.2.1).2 hA.2.2.2.1 hA.2.2.2.2.2.2.2) ⟨Nat.le_of_ble_eq_true rfl, Nat.le_of_ble_eq_true rfl⟩ ⟨rfl, rfl⟩ ⟨Nat.zero_le _, Nat.zero_le _⟩ (Nat.le_of_ble_eq_true rfl) dX4_readNumber_49 ?_
        refine X_iload_n (pc := 52) C 3 dX4_readNumber_52 rfl rfl ?_
        exact X_iret (pc := 53) C (Nat.zero_le _) (Nat.zero_le _) dX4_readNumber_53 ⟨by rw [rNum, if_pos h8, if_neg h29, if_pos h34], by rw [rNum, if_pos h8, if_neg h29, if_pos h34]; rfl⟩
      · skip
        refine X_aload_n (pc := 37) C 0 dX4_readNumber_37 rfl rfl ?_
        refine X_iconst (pc := 38) (v := 2) C dX4_readNumber_38 (by decide) ?_
        refine K_X4_48 (pc := 39) C (by assumption) (c_X4_fail l P σ h0 n p0 hA 2) ⟨Nat.le_of_ble_eq_true rfl, Nat.le_of_ble_eq_true rfl⟩ ⟨rfl, rfl⟩ ⟨Nat.zero_le _, Nat.zero_le _⟩ (Nat.le_of_ble_eq_true rfl) dX4_readNumber_39 ?_
        refine X_pop (pc := 42) C dX4_readNumber_42 rfl ?_
        refine X_iconst (pc := 43) (v := (-1)) C dX4_readNumber_43 (by decide) ?_
        exact X_iret (pc := 44) C (Nat.zero_le _) (Nat.zero_le _) dX4_readNumber_44 ⟨by rw [rNum, if_pos h8, if_neg h29, if_neg h34], by rw [rNum, if_pos h8, if_neg h29, if_neg h34]⟩
  · skip
    refine X_aload_n (pc := 11) C 0 dX4_readNumber_11 rfl rfl ?_
    refine X_iconst (pc := 12) (v := 1) C dX4_readNumber_12 (by decide) ?_
    refine K_X4_48 (pc := 13) C (by assumption) (c_X4_fail l P σ h0 n p0 hA 1) ⟨Nat.le_of_ble_eq_true rfl, Nat.le_of_ble_eq_true rfl⟩ ⟨rfl, rfl⟩ ⟨Nat.zero_le _, Nat.zero_le _⟩ (Nat.le_of_ble_eq_true rfl) dX4_readNumber_13 ?_
    refine X_pop (pc := 16) C dX4_readNumber_16 rfl ?_
    refine X_iconst (pc := 17) (v := (-1)) C dX4_readNumber_17 (by decide) ?_
    exact X_iret (pc := 18) C (Nat.zero_le _) (Nat.zero_le _) dX4_readNumber_18 ⟨by rw [rNum, if_neg h8], by rw [rNum, if_neg h8]⟩

set_option maxRecDepth 100000 in
set_option maxHeartbeats 4000000 in
theorem c_X4_readKnownName (l : Launch) (P : XP) (σ : XS) (h0 : xI0 P) (n p0 : Nat) (hA : At σ n p0) (hb1 : xIn P 1) (nu : Nat) (hnu : nu ≤ 15) (hcu : σ.1 (.inl (1, 1)) 6 = nI nu) (x : Int32) : XF l yX4_readKnownName cX4_readKnownName 3 (some .int) rm_X4_readKnownName P [.ref (P.2.2.1 (.inr 1)), .int x] σ (some (.int (rKnown σ n p0 nu x).1)) ((rKnown σ n p0 nu x).2) := by
  refine XM.of (by decide +kernel) (Nat.le_of_ble_eq_true rfl) (fun p e s m args below meth c A C => ?_)
  replace C : XC p s m args meth c P A 3 RX4 cX4_readKnownName (some .int) := C
  refine XW.eq (lv' := [(0, _), (1, _)]) rfl rfl rfl ?_
  refine X_aload_n (pc := 0) C 0 dX4_readKnownName_0 rfl rfl ?_
  refine G_X4_12 (pc := 1) C (by assumption) dX4_readKnownName_1 ?_
  refine K_X4_172 (pc := 4) C (by assumption) (c_X3_isName l P σ h0 (kT σ n p0) (sT σ n p0) (eT σ n p0) hA.2.2.2.2.1 hA.2.2.2.2.2.1 hA.2.2.2.1 hA.se.1 hA.se.2) ⟨Nat.le_of_ble_eq_true rfl, Nat.le_of_ble_eq_true rfl⟩ ⟨rfl, rfl⟩ ⟨Nat.zero_le _, Nat.zero_le _⟩ (Nat.le_of_ble_eq_true rfl) dX4_readKnownName_4 ?_
  refine X_if_ne (pc := 7) C 18 dX4_readKnownName_7 (by decide) (fun h7 => ?_) (fun h7 => ?_)
  · have g7 := bz1 h7
    refine X_aload_n (pc := 18) C 0 dX4_readKnownName_18 rfl rfl ?_
    refine G_X4_21 (pc := 19) C (by assumption) dX4_readKnownName_19 ?_
    refine G_X4_89 (pc := 22) C (by assumption) dX4_readKnownName_22 ?_
    refine X_aload_n (pc := 25) C 0 dX4_readKnownName_25 rfl rfl ?_
    refine G_X4_12 (pc := 26) C (by assumption) dX4_readKnownName_26 ?_
    refine K_X4_175 (pc := 29) C (by assumption) (c_X3_wordAsName l P σ h0 (kT σ n p0) (sT σ n p0) (eT σ n p0) hA.2.2.2.2.1 hA.2.2.2.2.2.1 hA.2.2.2.1 hA.se.1 hA.se.2) ⟨Nat.le_of_ble_eq_true rfl, Nat.le_of_ble_eq_true rfl⟩ ⟨rfl, rfl⟩ ⟨Nat.zero_le _, Nat.zero_le _⟩ (Nat.le_of_ble_eq_true rfl) dX4_readKnownName_29 ?_
    refine K_X4_178 (pc := 32) C (by assumption) (c_X5_findName l P σ 1 nu hb1 hnu hcu _) ⟨Nat.le_of_ble_eq_true rfl, Nat.le_of_ble_eq_true rfl⟩ ⟨rfl, rfl⟩ ⟨Nat.zero_le _, Nat.zero_le _⟩ (Nat.le_of_ble_eq_true rfl) dX4_readKnownName_32 ?_
    refine X_istore_n (pc := 35) (lv1 := [(0, _), (1, _), (2, _)]) C 2 dX4_readKnownName_35 rfl (by decide) rfl ?_
    refine X_iload_n (pc := 36) C 2 dX4_readKnownName_36 rfl rfl ?_
    refine X_iconst (pc := 37) (v := (-1)) C dX4_readKnownName_37 (by decide) ?_
    refine X_icmp_eq (pc := 38) C 46 dX4_readKnownName_38 (by decide) (fun h38 => ?_) (fun h38 => ?_)
    · skip
      refine X_aload_n (pc := 46) C 0 dX4_readKnownName_46 rfl rfl ?_
      refine X_iconst (pc := 47) (v := 3) C dX4_readKnownName_47 (by decide) ?_
      refine K_X4_48 (pc := 48) C (by assumption) (c_X4_fail l P σ h0 n p0 hA 3) ⟨Nat.le_of_ble_eq_true rfl, Nat.le_of_ble_eq_true rfl⟩ ⟨rfl, rfl⟩ ⟨Nat.zero_le _, Nat.zero_le _⟩ (Nat.le_of_ble_eq_true rfl) dX4_readKnownName_48 ?_
      refine X_pop (pc := 51) C dX4_readKnownName_51 rfl ?_
      refine X_iconst (pc := 52) (v := (-1)) C dX4_readKnownName_52 (by decide) ?_
      exact X_iret (pc := 53) C (Nat.zero_le _) (Nat.zero_le _) dX4_readKnownName_53 ⟨by rw [rKnown, if_pos g7, if_pos (show rFind σ n p0 nu = -1 from h38)], by rw [rKnown, if_pos g7, if_pos (show rFind σ n p0 nu = -1 from h38)]⟩
    · skip
      refine X_iload_n (pc := 41) C 2 dX4_readKnownName_41 rfl rfl ?_
      refine X_iload_n (pc := 42) C 1 dX4_readKnownName_42 rfl rfl ?_
      refine X_icmp_ne (pc := 43) C 54 dX4_readKnownName_43 (by decide) (fun h43 => ?_) (fun h43 => ?_)
      · skip
        refine X_aload_n (pc := 54) C 0 dX4_readKnownName_54 rfl rfl ?_
        refine G_X4_12 (pc := 55) C (by assumption) dX4_readKnownName_55 ?_
        refine K_X4_52 (pc := 58) C (by assumption) (c_X3_advance l P σ h0 n hA.1 hA.2.2.1 (eT σ n p0) (tkE_in _ hA.2.1).2 hA.2.2.2.1 hA.2.2.2.2.2.2.2) ⟨Nat.le_of_ble_eq_true rfl, Nat.le_of_ble_eq_true rfl⟩ ⟨rfl, rfl⟩ ⟨Nat.zero_le _, Nat.zero_le _⟩ (Nat.le_of_ble_eq_true rfl) dX4_readKnownName_58 ?_
        refine X_iload_n (pc := 61) C 2 dX4_readKnownName_61 rfl rfl ?_
        exact X_iret (pc := 62) C (Nat.zero_le _) (Nat.zero_le _) dX4_readKnownName_62 ⟨by rw [rKnown, if_pos g7, if_neg (show ¬ rFind σ n p0 nu = -1 from h38), if_neg (show ¬ rFind σ n p0 nu = x from h43)]; rfl, by rw [rKnown, if_pos g7, if_neg (show ¬ rFind σ n p0 nu = -1 from h38), if_neg (show ¬ rFind σ n p0 nu = x from h43)]; rfl⟩
      · skip
        refine X_aload_n (pc := 46) C 0 dX4_readKnownName_46 rfl rfl ?_
        refine X_iconst (pc := 47) (v := 3) C dX4_readKnownName_47 (by decide) ?_
        refine K_X4_48 (pc := 48) C (by assumption) (c_X4_fail l P σ h0 n p0 hA 3) ⟨Nat.le_of_ble_eq_true rfl, Nat.le_of_ble_eq_true rfl⟩ ⟨rfl, rfl⟩ ⟨Nat.zero_le _, Nat.zero_le _⟩ (Nat.le_of_ble_eq_true rfl) dX4_readKnownName_48 ?_
        refine X_pop (pc := 51) C dX4_readKnownName_51 rfl ?_
        refine X_iconst (pc := 52) (v := (-1)) C dX4_readKnownName_52 (by decide) ?_
        exact X_iret (pc := 53) C (Nat.zero_le _) (Nat.zero_le _) dX4_readKnownName_53 ⟨by rw [rKnown, if_pos g7, if_neg (show ¬ rFind σ n p0 nu = -1 from h38), if_pos (show rFind σ n p0 nu = x from h43)], by rw [rKnown, if_pos g7, if_neg (show ¬ rFind σ n p0 nu = -1 from h38), if_pos (show rFind σ n p0 nu = x from h43)]⟩
  · have g7 : ¬ rIsN σ n p0 := bz0 h7
    refine X_aload_n (pc := 10) C 0 dX4_readKnownName_10 rfl rfl ?_
    refine X_iconst (pc := 11) (v := 1) C dX4_readKnownName_11 (by decide) ?_
    refine K_X4_48 (pc := 12) C (by assumption) (c_X4_fail l P σ h0 n p0 hA 1) ⟨Nat.le_of_ble_eq_true rfl, Nat.le_of_ble_eq_true rfl⟩ ⟨rfl, rfl⟩ ⟨Nat.zero_le _, Nat.zero_le _⟩ (Nat.le_of_ble_eq_true rfl) dX4_readKnownName_12 ?_
    refine X_pop (pc := 15) C dX4_readKnownName_15 rfl ?_
    refine X_iconst (pc := 16) (v := (-1)) C dX4_readKnownName_16 (by decide) ?_
    exact X_iret (pc := 17) C (Nat.zero_le _) (Nat.zero_le _) dX4_readKnownName_17 ⟨by rw [rKnown, if_neg g7], by rw [rKnown, if_neg g7]⟩

set_option maxRecDepth 100000 in
set_option maxHeartbeats 4000000 in
theorem c_X4_readNewName (l : Launch) (P : XP) (σ : XS) (h0 : xI0 P) (n p0 : Nat) (hA : At σ n p0) (hb1 : xIn P 1) (nu : Nat) (hnu : nu ≤ 15) (hcu : σ.1 (.inl (1, 1)) 6 = nI nu) : XF l yX4_readNewName cX4_readNewName 3 (some .long) rm_X4_readNewName P [.ref (P.2.2.1 (.inr 1))] σ (some (.long (rNew σ n p0 nu).1)) ((rNew σ n p0 nu).2) := by
  refine XM.of (by decide +kernel) (Nat.le_of_ble_eq_true rfl) (fun p e s m args below meth c A C => ?_)
  replace C : XC p s m args meth c P A 3 RX4 cX4_readNewName (some .long) := C
  refine XW.eq (lv' := [(0, _)]) rfl rfl rfl ?_
  refine X_aload_n (pc := 0) C 0 dX4_readNewName_0 rfl rfl ?_
  refine G_X4_12 (pc := 1) C (by assumption) dX4_readNewName_1 ?_
  refine K_X4_172 (pc := 4) C (by assumption) (c_X3_isName l P σ h0 (kT σ n p0) (sT σ n p0) (eT σ n p0) hA.2.2.2.2.1 hA.2.2.2.2.2.1 hA.2.2.2.1 hA.se.1 hA.se.2) ⟨Nat.le_of_ble_eq_true rfl, Nat.le_of_ble_eq_true rfl⟩ ⟨rfl, rfl⟩ ⟨Nat.zero_le _, Nat.zero_le _⟩ (Nat.le_of_ble_eq_true rfl) dX4_readNewName_4 ?_
  refine X_if_ne (pc := 7) C 18 dX4_readNewName_7 (by decide) (fun h7 => ?_) (fun h7 => ?_)
  · have g7 := bz1 h7
    refine X_aload_n (pc := 18) C 0 dX4_readNewName_18 rfl rfl ?_
    refine G_X4_12 (pc := 19) C (by assumption) dX4_readNewName_19 ?_
    refine K_X4_175 (pc := 22) C (by assumption) (c_X3_wordAsName l P σ h0 (kT σ n p0) (sT σ n p0) (eT σ n p0) hA.2.2.2.2.1 hA.2.2.2.2.2.1 hA.2.2.2.1 hA.se.1 hA.se.2) ⟨Nat.le_of_ble_eq_true rfl, Nat.le_of_ble_eq_true rfl⟩ ⟨rfl, rfl⟩ ⟨Nat.zero_le _, Nat.zero_le _⟩ (Nat.le_of_ble_eq_true rfl) dX4_readNewName_22 ?_
    refine X_lstore_n (pc := 25) (lv1 := [(0, _), (1, _)]) C 1 dX4_readNewName_25 rfl (by decide) rfl ?_
    refine X_aload_n (pc := 26) C 0 dX4_readNewName_26 rfl rfl ?_
    refine G_X4_21 (pc := 27) C (by assumption) dX4_readNewName_27 ?_
    refine G_X4_89 (pc := 30) C (by assumption) dX4_readNewName_30 ?_
    refine X_lload_n (pc := 33) C 1 dX4_readNewName_33 rfl rfl ?_
    refine K_X4_178 (pc := 34) C (by assumption) (c_X5_findName l P σ 1 nu hb1 hnu hcu _) ⟨Nat.le_of_ble_eq_true rfl, Nat.le_of_ble_eq_true rfl⟩ ⟨rfl, rfl⟩ ⟨Nat.zero_le _, Nat.zero_le _⟩ (Nat.le_of_ble_eq_true rfl) dX4_readNewName_34 ?_
    refine X_iconst (pc := 37) (v := (-1)) C dX4_readNewName_37 (by decide) ?_
    refine X_icmp_eq (pc := 38) C 49 dX4_readNewName_38 (by decide) (fun h38 => ?_) (fun h38 => ?_)
    · skip
      refine X_aload_n (pc := 49) C 0 dX4_readNewName_49 rfl rfl ?_
      refine G_X4_12 (pc := 50) C (by assumption) dX4_readNewName_50 ?_
      refine K_X4_52 (pc := 53) C (by assumption) (c_X3_advance l P σ h0 n hA.1 hA.2.2.1 (eT σ n p0) (tkE_in _ hA.2.1).2 hA.2.2.2.1 hA.2.2.2.2.2.2.2) ⟨Nat.le_of_ble_eq_true rfl, Nat.le_of_ble_eq_true rfl⟩ ⟨rfl, rfl⟩ ⟨Nat.zero_le _, Nat.zero_le _⟩ (Nat.le_of_ble_eq_true rfl) dX4_readNewName_53 ?_
      refine X_lload_n (pc := 56) C 1 dX4_readNewName_56 rfl rfl ?_
      exact X_lret (pc := 57) C (Nat.zero_le _) (Nat.zero_le _) dX4_readNewName_57 ⟨by rw [rNew, if_pos g7, if_pos (show rFind σ n p0 nu = -1 from h38)]; rfl, by rw [rNew, if_pos g7, if_pos (show rFind σ n p0 nu = -1 from h38)]; rfl⟩
    · skip
      refine X_aload_n (pc := 41) C 0 dX4_readNewName_41 rfl rfl ?_
      refine X_iconst (pc := 42) (v := 4) C dX4_readNewName_42 (by decide) ?_
      refine K_X4_48 (pc := 43) C (by assumption) (c_X4_fail l P σ h0 n p0 hA 4) ⟨Nat.le_of_ble_eq_true rfl, Nat.le_of_ble_eq_true rfl⟩ ⟨rfl, rfl⟩ ⟨Nat.zero_le _, Nat.zero_le _⟩ (Nat.le_of_ble_eq_true rfl) dX4_readNewName_43 ?_
      refine X_pop (pc := 46) C dX4_readNewName_46 rfl ?_
      refine X_lconst (pc := 47) (v := 0) C dX4_readNewName_47 (by decide) ?_
      exact X_lret (pc := 48) C (Nat.zero_le _) (Nat.zero_le _) dX4_readNewName_48 ⟨by rw [rNew, if_pos g7, if_neg (show ¬ rFind σ n p0 nu = -1 from h38)], by rw [rNew, if_pos g7, if_neg (show ¬ rFind σ n p0 nu = -1 from h38)]⟩
  · have g7 : ¬ rIsN σ n p0 := bz0 h7
    refine X_aload_n (pc := 10) C 0 dX4_readNewName_10 rfl rfl ?_
    refine X_iconst (pc := 11) (v := 1) C dX4_readNewName_11 (by decide) ?_
    refine K_X4_48 (pc := 12) C (by assumption) (c_X4_fail l P σ h0 n p0 hA 1) ⟨Nat.le_of_ble_eq_true rfl, Nat.le_of_ble_eq_true rfl⟩ ⟨rfl, rfl⟩ ⟨Nat.zero_le _, Nat.zero_le _⟩ (Nat.le_of_ble_eq_true rfl) dX4_readNewName_12 ?_
    refine X_pop (pc := 15) C dX4_readNewName_15 rfl ?_
    refine X_lconst (pc := 16) (v := 0) C dX4_readNewName_16 (by decide) ?_
    exact X_lret (pc := 17) C (Nat.zero_le _) (Nat.zero_le _) dX4_readNewName_17 ⟨by rw [rNew, if_neg g7], by rw [rNew, if_neg g7]⟩

theorem xmat_01 (f : Nat → Int32) (q : Nat) : ∀ k i, xmat f q k i = 0 ∨ xmat f q k i = 1
  | 0, _ => Or.inr rfl
  | k + 1, i => by
    unfold xmat
    split
    · exact xmat_01 f q k (i + 1)
    · exact Or.inl rfl
theorem rIsW_01 (σ : XS) (n p q : Nat) : rIsW σ n p q = 0 ∨ rIsW σ n p q = 1 := by
  unfold rIsW xisW
  split
  · exact xmat_01 _ _ _ _
  · exact Or.inl rfl
theorem cFirstB_01 (q : Nat → Bool) : ∀ k i, cFirstB q k i = 0 ∨ cFirstB q k i = 1
  | 0, _ => Or.inl rfl
  | k + 1, i => by
    unfold cFirstB
    split
    · exact Or.inr rfl
    · exact cFirstB_01 q k (i + 1)
theorem cFirst_in (q : Nat → Bool) : ∀ k i, ¬ cFirst q k i = -1 → ∃ j, i ≤ j ∧ j < i + k ∧ q j = true ∧ cFirst q k i = nI j
  | 0, _, h => absurd rfl h
  | k + 1, i, h => by
    unfold cFirst at h ⊢
    by_cases hq : q i = true
    · rw [if_pos hq]
      exact ⟨i, Nat.le_refl _, by omega, hq, rfl⟩
    · rw [if_neg hq] at h ⊢
      obtain ⟨j, h1, h2, h3, h4⟩ := cFirst_in q k (i + 1) h
      exact ⟨j, by omega, by omega, h3, h4⟩
set_option maxRecDepth 100000 in
set_option maxHeartbeats 4000000 in
theorem c_X4_readCode (l : Launch) (P : XP) (σ : XS) (h0 : xI0 P) (n p0 : Nat) (hA : At σ n p0) (hb1 : xIn P 1) (nu : Nat) (hnu : nu ≤ 15) (hcu : σ.1 (.inl (1, 1)) 6 = nI nu) (li : Int32) : XF l yX4_readCode cX4_readCode 3 (some .int) rm_X4_readCode P [.ref (P.2.2.1 (.inr 1)), .int li] σ (some (.int (rCode σ n p0 nu li).1)) ((rCode σ n p0 nu li).2) := by
  refine XM.of (by decide +kernel) (Nat.le_of_ble_eq_true rfl) (fun p e s m args below meth c A C => ?_)
  replace C : XC p s m args meth c P A 3 RX4 cX4_readCode (some .int) := C
  refine XW.eq (lv' := [(0, _), (1, _)]) rfl rfl rfl ?_
  refine X_aload_n (pc := 0) C 0 dX4_readCode_0 rfl rfl ?_
  refine G_X4_12 (pc := 1) C (by assumption) dX4_readCode_1 ?_
  refine K_X4_182 (pc := 4) C (by assumption) (c_X3_wordAsCode l P σ h0 (kT σ n p0) (sT σ n p0) (eT σ n p0) hA.2.2.2.2.1 hA.2.2.2.2.2.1 hA.2.2.2.1 hA.se.1 hA.se.2) ⟨Nat.le_of_ble_eq_true rfl, Nat.le_of_ble_eq_true rfl⟩ ⟨rfl, rfl⟩ ⟨Nat.zero_le _, Nat.zero_le _⟩ (Nat.le_of_ble_eq_true rfl) dX4_readCode_4 ?_
  refine X_istore_n (pc := 7) (lv1 := [(0, _), (1, _), (2, _)]) C 2 dX4_readCode_7 rfl (by decide) rfl ?_
  refine X_iload_n (pc := 8) C 2 dX4_readCode_8 rfl rfl ?_
  refine X_iconst (pc := 9) (v := (-1)) C dX4_readCode_9 (by decide) ?_
  refine X_icmp_ne (pc := 10) C 21 dX4_readCode_10 (by decide) (fun h10 => ?_) (fun h10 => ?_)
  · skip
    refine X_aload_n (pc := 21) C 0 dX4_readCode_21 rfl rfl ?_
    refine G_X4_21 (pc := 22) C (by assumption) dX4_readCode_22 ?_
    refine G_X4_89 (pc := 25) C (by assumption) dX4_readCode_25 ?_
    refine X_iload_n (pc := 28) C 1 dX4_readCode_28 rfl rfl ?_
    refine X_iload_n (pc := 29) C 2 dX4_readCode_29 rfl rfl ?_
    refine K_X4_186 (pc := 30) C (by assumption) (c_X5_isAmbiguous l P σ 1 nu hb1 hnu hcu _ _) ⟨Nat.le_of_ble_eq_true rfl, Nat.le_of_ble_eq_true rfl⟩ ⟨rfl, rfl⟩ ⟨Nat.zero_le _, Nat.zero_le _⟩ (Nat.le_of_ble_eq_true rfl) dX4_readCode_30 ?_
    refine X_if_eq (pc := 33) C 44 dX4_readCode_33 (by decide) (fun h33 => ?_) (fun h33 => ?_)
    · skip
      refine X_aload_n (pc := 44) C 0 dX4_readCode_44 rfl rfl ?_
      refine G_X4_12 (pc := 45) C (by assumption) dX4_readCode_45 ?_
      refine K_X4_52 (pc := 48) C (by assumption) (c_X3_advance l P σ h0 n hA.1 hA.2.2.1 (eT σ n p0) (tkE_in _ hA.2.1).2 hA.2.2.2.1 hA.2.2.2.2.2.2.2) ⟨Nat.le_of_ble_eq_true rfl, Nat.le_of_ble_eq_true rfl⟩ ⟨rfl, rfl⟩ ⟨Nat.zero_le _, Nat.zero_le _⟩ (Nat.le_of_ble_eq_true rfl) dX4_readCode_48 ?_
      refine X_iload_n (pc := 51) C 2 dX4_readCode_51 rfl rfl ?_
      exact X_iret (pc := 52) C (Nat.zero_le _) (Nat.zero_le _) dX4_readCode_52 ⟨by rw [rCode, if_neg (show ¬ rCd σ n p0 = -1 from h10), if_pos (show rAmb σ nu li (rCd σ n p0) = 0 from h33)]; rfl, by rw [rCode, if_neg (show ¬ rCd σ n p0 = -1 from h10), if_pos (show rAmb σ nu li (rCd σ n p0) = 0 from h33)]; rfl⟩
    · skip
      refine X_aload_n (pc := 36) C 0 dX4_readCode_36 rfl rfl ?_
      refine X_iconst (pc := 37) (v := 5) C dX4_readCode_37 (by decide) ?_
      refine K_X4_48 (pc := 38) C (by assumption) (c_X4_fail l P σ h0 n p0 hA 5) ⟨Nat.le_of_ble_eq_true rfl, Nat.le_of_ble_eq_true rfl⟩ ⟨rfl, rfl⟩ ⟨Nat.zero_le _, Nat.zero_le _⟩ (Nat.le_of_ble_eq_true rfl) dX4_readCode_38 ?_
      refine X_pop (pc := 41) C dX4_readCode_41 rfl ?_
      refine X_iconst (pc := 42) (v := (-1)) C dX4_readCode_42 (by decide) ?_
      exact X_iret (pc := 43) C (Nat.zero_le _) (Nat.zero_le _) dX4_readCode_43 ⟨by rw [rCode, if_neg (show ¬ rCd σ n p0 = -1 from h10), if_neg (show ¬ rAmb σ nu li (rCd σ n p0) = 0 from h33)], by rw [rCode, if_neg (show ¬ rCd σ n p0 = -1 from h10), if_neg (show ¬ rAmb σ nu li (rCd σ n p0) = 0 from h33)]⟩
  · skip
    refine X_aload_n (pc := 13) C 0 dX4_readCode_13 rfl rfl ?_
    refine X_iconst (pc := 14) (v := 1) C dX4_readCode_14 (by decide) ?_
    refine K_X4_48 (pc := 15) C (by assumption) (c_X4_fail l P σ h0 n p0 hA 1) ⟨Nat.le_of_ble_eq_true rfl, Nat.le_of_ble_eq_true rfl⟩ ⟨rfl, rfl⟩ ⟨Nat.zero_le _, Nat.zero_le _⟩ (Nat.le_of_ble_eq_true rfl) dX4_readCode_15 ?_
    refine X_pop (pc := 18) C dX4_readCode_18 rfl ?_
    refine X_iconst (pc := 19) (v := (-1)) C dX4_readCode_19 (by decide) ?_
    exact X_iret (pc := 20) C (Nat.zero_le _) (Nat.zero_le _) dX4_readCode_20 ⟨by rw [rCode, if_pos (show rCd σ n p0 = -1 from h10)], by rw [rCode, if_pos (show rCd σ n p0 = -1 from h10)]⟩

/-- a text is begun -/
def uText0 (σ : XS) : XS := xu (xu (xu σ (.inr 1) 2 0) (.inr 1) 3 (-1)) (.inr 2) 2 0
def uText (σ : XS) (n : Nat) : XS := uAdv (uText0 σ) n 0
set_option maxRecDepth 100000 in
set_option maxHeartbeats 4000000 in
theorem c_X4_startText (l : Launch) (P : XP) (σ : XS) (h0 : xI0 P) (n : Nat) (hn : n ≤ 700) (hl : σ.1 (.inr 2) 1 = nI n) (hby : ∀ i, i < n → ¬ σ.1 (.inr 3) i = -1) : XF l yX4_startText cX4_startText 1 none rm_X4_startText P [.ref (P.2.2.1 (.inr 1))] σ (none) (uText σ n) := by
  refine XM.of (by decide +kernel) (Nat.le_of_ble_eq_true rfl) (fun p e s m args below meth c A C => ?_)
  replace C : XC p s m args meth c P A 1 RX4 cX4_startText none := C
  refine XW.eq (lv' := [(0, _)]) rfl rfl rfl ?_
  refine X_aload_n (pc := 0) C 0 dX4_startText_0 rfl rfl ?_
  refine X_iconst (pc := 1) (v := 0) C dX4_startText_1 (by decide) ?_
  refine U_X4_29 (pc := 2) C (by assumption) dX4_startText_2 ?_
  refine X_aload_n (pc := 5) C 0 dX4_startText_5 rfl rfl ?_
  refine X_iconst (pc := 6) (v := (-1)) C dX4_startText_6 (by decide) ?_
  refine U_X4_25 (pc := 7) C (by assumption) dX4_startText_7 ?_
  refine X_aload_n (pc := 10) C 0 dX4_startText_10 rfl rfl ?_
  refine G_X4_12 (pc := 11) C (by assumption) dX4_startText_11 ?_
  refine K_X4_32 (pc := 14) C (by assumption) (c_X3_rewind l P (xu (xu σ (.inr 1) 2 0) (.inr 1) 3 (-1)) h0 n hn (by simp [xu_ap, hl]) (fun i hi => by rw [xu_ne _ _ _ (by simp), xu_ne _ _ _ (by simp)]; exact hby i hi)) ⟨Nat.le_of_ble_eq_true rfl, Nat.le_of_ble_eq_true rfl⟩ ⟨rfl, rfl⟩ ⟨Nat.zero_le _, Nat.zero_le _⟩ (Nat.le_of_ble_eq_true rfl) dX4_startText_14 ?_
  exact X_vret (pc := 17) C (Nat.zero_le _) (Nat.zero_le _) dX4_startText_17 ⟨rfl, rfl⟩

theorem uCopyB_o {σ : XS} {b f : Nat} {k : Nat} : (uCopyB σ b f).1 (.inr k) = σ.1 (.inr k) := by
  simp [uCopyB, uCopyC, uCopyK, uCopyS, xu_ne, xA_ne, xL_i]
end XP15

/-! THE LAW'S BODY: the text is drawn -/
def okC (L : List Int32) : Prop := ∀ c ∈ L, ∃ x : Nat, x < 128 ∧ c = nI x
theorem okC.t {L : List Int32} (h : okC L) : okT L := fun j hj => h _ (gD_mem hj)
theorem okC.app {L M : List Int32} (h : okC L) (g : okC M) : okC (L ++ M) := fun c hc => (List.mem_append.mp hc).elim (h c) (g c)
theorem okC_1 {x : Nat} (h : x < 128) : okC [nI x] := fun c hc => ⟨x, h, List.mem_singleton.mp hc⟩
theorem okC_txt : ∀ q, q < 15 → ∀ c ∈ tx q, c.toNatClampNeg < 128 ∧ c = nI c.toNatClampNeg := by decide +kernel
theorem okC_tx {q : Nat} (hq : q < 15) : okC (tx q) := fun c hc => ⟨_, (okC_txt q hq c hc).1, (okC_txt q hq c hc).2⟩
theorem okC_dgt : ∀ x, x < 100 → ∀ c ∈ dig x, c.toNatClampNeg < 128 ∧ c = nI c.toNatClampNeg := by decide +kernel
theorem okC_dg {x : Nat} (hx : x < 100) : okC (dig x) := fun c hc => ⟨_, (okC_dgt x hx c hc).1, (okC_dgt x hx c hc).2⟩
theorem u_len : ∀ u, u < 12 → (tx (9 + u % 3)).length ≤ 2 ∧ xln (9 + u % 3) ≤ 6 ∧ 9 + u % 3 < 15 := by decide
theorem u_c16 : ∀ u, u < 12 → ((nI (97 + u)).toUInt32 % 65536).toInt32 = nI (97 + u) := by decide +kernel
/-- rings, the draws' state and a StringBuilder with the text t lie behind the world -/
def TB (P : XP) (w : va_W) (a0 a1 b : Nat) (t : List Int32) : Prop :=
  (∃ fr : Nat → Option Nat, w[0]? = some (a0, .inl (P.2.1 5, 3, .inr (.inr (.inr (.inr fr))))) ∧ ∀ j, j < 3 → fr j = some (xK P (9 + j))) ∧ (∃ f : Nat → Int32, w[1]? = some (iC P a1 f)) ∧ 3 ≤ w.length ∧ ∃ k q n : Nat, 3 ≤ k ∧ isSB w (P.2.1 4) 2 k b q t n
theorem TB.set {P : XP} {w : va_W} {a0 a1 b : Nat} {t : List Int32} (h : TB P w a0 a1 b t) (f1 : Nat → Int32) : TB P (w.set 1 (iC P a1 f1)) a0 a1 b t := by
  obtain ⟨⟨fr, h0, h0'⟩, ⟨f, h1⟩, h3, k, q, n, hk, hs1, hs2, hs3, hs4, hs5, g, hs6, hs7⟩ := h
  refine ⟨⟨fr, ?_, h0'⟩, ⟨f1, set_at h1⟩, by rw [List.length_set]; exact h3, k, q, n, hk, ?_, hs2, hs3, hs4, hs5, g, ?_, hs7⟩
  · rw [set_ne (by decide)]; exact h0
  · rw [set_ne (by decide)]; exact hs1
  · rw [set_ne (by omega)]; exact hs6
theorem TB.app {P : XP} {w w1 : va_W} {a0 a1 b k k1 q1 n1 : Nat} {t t1 : List Int32} (h : TB P w a0 a1 b t) (hk : 3 ≤ k) (hs : isSB w1 (P.2.1 4) 2 k1 b q1 t1 n1) (hg : keepG w w1 2 k k1) : TB P w1 a0 a1 b t1 := by
  obtain ⟨⟨fr, h0, h0'⟩, ⟨f, h1⟩, h3, -⟩ := h
  obtain ⟨⟨g1, g2⟩, g3⟩ := hg
  exact ⟨⟨fr, (g2 0 (by omega) (by decide) (by omega)).trans h0, h0'⟩, ⟨f, (g2 1 (by omega) (by decide) (by omega)).trans h1⟩, by omega, k1, q1, n1, by omega, hs⟩
section X96
variable {p : Program} {l : Launch} {e : Env}  {s : State} {m : MethodId} {args : Array Value} {below : List Frame} {meth : Method} {c : Code} {P : XP} {A : Nat → Prop} {nL cells slots : Nat} {Q : State → Prop} {cc : ByteArray} {ret : Option FieldType} {σ : XS} {pc : Nat} {lv : List (Nat × Value)} {st : List Value}
variable {own : String} {w : va_W} {a0 a1 b : Nat} {t : List Int32}
theorem X_tbS (C : XC p s m args meth c (xPR P w) A nL RL cc ret) (h : TB P w a0 a1 b t) {g : Nat} (hq : g < 15) (h6 : xln g ≤ 6) (hl : t.length ≤ 900) (hcl : cells + 1 ≤ room_1.cells ∧ slots + 2100 ≤ room_1.slots) (hst : (st.map fun v => v.category).sum ≤ 8) (d : decode cc pc = .ok (.invokevirtual 247, 3))
    (kk : ∀ w1 : va_W, TB P w1 a0 a1 b (t ++ tx g) → XC p s m args meth c (xPR P w1) A nL RL cc ret → XW p l e room_1 s m args below meth c (xPR P w1) A nL (cells + 1) (slots + 2100) Q σ (pc + 3) lv (.ref b :: st)) : XW p l e room_1 s m args below meth c (xPR P w) A nL cells slots Q σ pc lv (.ref (xK P g) :: .ref b :: st) := by
  obtain ⟨k, q, n, hk, hs⟩ := h.2.2.2
  refine X_callVP (n := 1) C 2 [.ref (xK P g)] (c_J4_appendS l (xPR P w) σ 2 k b q t n hs g hq (by omega)) m_c_J4_append_15ec4 m_m_L_247 m_i_J4_append_15ec4 m_s_J4_append_15ec4 m_n_J4 ⟨by decide +kernel, by decide +kernel, by decide +kernel⟩ ⟨Nat.le_of_ble_eq_true rfl, Nat.le_of_ble_eq_true rfl⟩ hcl hs.1 rfl rfl rfl hst rfl d (fun v w1 hp C1 => ?_)
  obtain ⟨rfl, k1, q1, n1, r1, r2⟩ := hp
  exact kk w1 (h.app hk r1 r2) C1
theorem X_tbC (C : XC p s m args meth c (xPR P w) A nL RL cc ret) (h : TB P w a0 a1 b t) {x : Nat} (hx : x < 128) (hl : t.length ≤ 900) (hcl : cells + 1 ≤ room_1.cells ∧ slots + 2100 ≤ room_1.slots) (hst : (st.map fun v => v.category).sum ≤ 8) (d : decode cc pc = .ok (.invokevirtual 242, 3))
    (kk : ∀ w1 : va_W, TB P w1 a0 a1 b (t ++ [nI x]) → XC p s m args meth c (xPR P w1) A nL RL cc ret → XW p l e room_1 s m args below meth c (xPR P w1) A nL (cells + 1) (slots + 2100) Q σ (pc + 3) lv (.ref b :: st)) : XW p l e room_1 s m args below meth c (xPR P w) A nL cells slots Q σ pc lv (.int (nI x) :: .ref b :: st) := by
  obtain ⟨k, q, n, hk, hs⟩ := h.2.2.2
  refine X_callVP (n := 1) C 2 [.int (nI x)] (c_J4_appendC l (xPR P w) σ 2 k b q t n hs x hx (by omega)) m_c_J4_append_cf468 m_m_L_242 m_i_J4_append_cf468 m_s_J4_append_cf468 m_n_J4 ⟨by decide +kernel, by decide +kernel, by decide +kernel⟩ ⟨Nat.le_of_ble_eq_true rfl, Nat.le_of_ble_eq_true rfl⟩ hcl hs.1 rfl rfl rfl hst rfl d (fun v w1 hp C1 => ?_)
  obtain ⟨rfl, k1, q1, n1, r1, r2⟩ := hp
  exact kk w1 (h.app hk r1 r2) C1
theorem X_tbI (C : XC p s m args meth c (xPR P w) A nL RL cc ret) (h : TB P w a0 a1 b t) {x : Nat} (hx : x < 100) (hl : t.length ≤ 900) (hcl : cells + 1 ≤ room_1.cells ∧ slots + 2100 ≤ room_1.slots) (hst : (st.map fun v => v.category).sum ≤ 8) (d : decode cc pc = .ok (.invokevirtual 239, 3))
    (kk : ∀ w1 : va_W, TB P w1 a0 a1 b (t ++ dig x) → XC p s m args meth c (xPR P w1) A nL RL cc ret → XW p l e room_1 s m args below meth c (xPR P w1) A nL (cells + 1) (slots + 2100) Q σ (pc + 3) lv (.ref b :: st)) : XW p l e room_1 s m args below meth c (xPR P w) A nL cells slots Q σ pc lv (.int (nI x) :: .ref b :: st) := by
  obtain ⟨k, q, n, hk, hs⟩ := h.2.2.2
  refine X_callVP (n := 1) C 2 [.int (nI x)] (c_J4_appendI l (xPR P w) σ 2 k b q t n hs x hx (by omega)) m_c_J4_append_bf812 m_m_L_239 m_i_J4_append_bf812 m_s_J4_append_bf812 m_n_J4 ⟨by decide +kernel, by decide +kernel, by decide +kernel⟩ ⟨Nat.le_of_ble_eq_true rfl, Nat.le_of_ble_eq_true rfl⟩ hcl hs.1 rfl rfl rfl hst rfl d (fun v w1 hp C1 => ?_)
  obtain ⟨rfl, k1, q1, n1, r1, r2⟩ := hp
  exact kk w1 (h.app hk r1 r2) C1
theorem X_drwW {n : Nat} {f : Nat → Int32} (C : XC p s m args meth c (xPR P w) A nL RL cc ret) (h : w[1]? = some (iC P a1 f)) (hn : 1 ≤ n) (hn2 : n ≤ 1000) (hcl : cells ≤ room_1.cells ∧ slots ≤ room_1.slots) (hst : (st.map fun v => v.category).sum ≤ 8) (d : decode cc pc = .ok (.invokestatic 203, 3))
    (kk : ∀ (j : Nat) (f1 : Nat → Int32), j < n → XC p s m args meth c (xPR P (w.set 1 (iC P a1 f1))) A nL RL cc ret → XW p l e room_1 s m args below meth c (xPR P (w.set 1 (iC P a1 f1))) A nL cells slots Q σ (pc + 3) lv (.int (nI j) :: st)) : XW p l e room_1 s m args below meth c (xPR P w) A nL cells slots Q σ pc lv (.int (nI n) :: .ref a1 :: st) := by
  refine X_callSP (n := 2) C [.ref a1, .int (nI n)] (c_L_draw l (xPR P w) σ (i := 1) (f := f) h hn hn2) m_c_L_draw m_m_L_203 m_t_L_draw m_n_L ⟨by decide +kernel, by decide +kernel, by decide +kernel⟩ ⟨Nat.le_of_ble_eq_true rfl, Nat.le_of_ble_eq_true rfl⟩ hcl rfl hst rfl d (fun v w1 hp C1 => ?_)
  obtain ⟨j, f1, hj, rfl, rfl⟩ := hp
  exact kk j f1 hj C1
theorem X_tbD {n : Nat} (C : XC p s m args meth c (xPR P w) A nL RL cc ret) (h : TB P w a0 a1 b t) (hn : 1 ≤ n) (hn2 : n ≤ 1000) (hcl : cells ≤ room_1.cells ∧ slots ≤ room_1.slots) (hst : (st.map fun v => v.category).sum ≤ 8) (d : decode cc pc = .ok (.invokestatic 203, 3))
    (kk : ∀ (j : Nat) (w1 : va_W), j < n → TB P w1 a0 a1 b t → XC p s m args meth c (xPR P w1) A nL RL cc ret → XW p l e room_1 s m args below meth c (xPR P w1) A nL cells slots Q σ (pc + 3) lv (.int (nI j) :: st)) : XW p l e room_1 s m args below meth c (xPR P w) A nL cells slots Q σ pc lv (.int (nI n) :: .ref a1 :: st) := by
  obtain ⟨f, hf⟩ := h.2.1
  exact X_drwW C hf hn hn2 hcl hst d (fun j f1 hj C1 => kk j _ hj (h.set f1) C1)
end X96
theorem tkT_snoc : ∀ (tl : List Nat) (x : Nat), tkT (tl ++ [x]) = tkT tl ++ trkT x
  | [], x => by show trkT x ++ [] = [] ++ trkT x; rw [List.append_nil]; rfl
  | y :: tl, x => by show trkT y ++ tkT (tl ++ [x]) = trkT y ++ tkT tl ++ trkT x; rw [tkT_snoc tl x, List.append_assoc]
theorem usT_snoc : ∀ (us : List (Nat × Nat)) (q : Nat × Nat), usT (us ++ [q]) = usT us ++ usrT q.1 q.2
  | [], q => by show usrT q.1 q.2 ++ [] = [] ++ usrT q.1 q.2; rw [List.append_nil]; rfl
  | y :: us, q => by show usrT y.1 y.2 ++ usT (us ++ [q]) = usrT y.1 y.2 ++ usT us ++ usrT q.1 q.2; rw [usT_snoc us q, List.append_assoc]
theorem tx_l : (tx 12).length = 6 ∧ (tx 13).length = 6 ∧ (tx 14).length = 6 := by decide
theorem lc (c : Int32) : ([c] : List Int32).length = 1 := rfl
section X96b
variable {p : Program} {l : Launch} {e : Env}  {s : State} {m : MethodId} {args : Array Value} {below : List Frame} {meth : Method} {c : Code} {P : XP} {A : Nat → Prop} {nL cells slots : Nat} {Q : State → Prop} {cc : ByteArray} {ret : Option FieldType} {σ : XS} {pc : Nat} {lv : List (Nat × Value)} {st : List Value}
variable {w : va_W} {a0 a1 b b0 ln : Nat} {t : List Int32}

theorem lc2 (c : Nat) : ([c] : List Nat).length = 1 := rfl
theorem lc3 (c : Nat × Nat) : ([c] : List (Nat × Nat)).length = 1 := rfl
set_option maxRecDepth 100000 in
set_option maxHeartbeats 4000000 in
/-- the trunks' statements are drawn -/
theorem W_trunks {B0 : List Int32} (kx : ∀ (tl : List Nat) (w : va_W), tl.length ≤ 2 → (∀ x ∈ tl, 1 ≤ x ∧ x ≤ 99) → TB P w a0 a1 b (B0 ++ tkT tl) → okC (B0 ++ tkT tl) → (B0 ++ tkT tl).length ≤ 20 + 9 * tl.length → XC p s m args meth c (xPR P w) A 12 RL cL_law ret → XW p l e room_1 s m args below meth c (xPR P w) A 12 (1000) (130000) Q σ 139 [(0, .ref b0), (1, .ref a0), (2, .int (nI 0)), (3, .ref a1), (4, .ref (P.2.2.1 (.inr 0))), (5, .int (nI ln)), (6, .ref b)] []) :
    ∀ (n : Nat) (tl : List Nat), tl.length + n ≤ 2 → (∀ x ∈ tl, 1 ≤ x ∧ x ≤ 99) → ∀ (w : va_W) (cells slots : Nat), TB P w a0 a1 b (B0 ++ tkT tl) → okC (B0 ++ tkT tl) → (B0 ++ tkT tl).length ≤ 20 + 9 * tl.length → cells + 3 * n ≤ 900 → slots + 6300 * n ≤ 120000 → XC p s m args meth c (xPR P w) A 12 RL cL_law ret → XW p l e room_1 s m args below meth c (xPR P w) A 12 (cells) (slots) Q σ 104 [(0, .ref b0), (1, .ref a0), (2, .int (nI 0)), (3, .ref a1), (4, .ref (P.2.2.1 (.inr 0))), (5, .int (nI ln)), (6, .ref b), (7, .int (nI n))] [] := by
  intro n
  induction n with
  | zero =>
    intro tl hn hx w cells slots hw hok hlen hc hs C
    refine X_iload (pc := 104) C dL_law_104 rfl ?_
    refine X_if_le (pc := 106) C 139 dL_law_106 (by decide) (fun h => ?_) (fun h => absurd (by decide) h)
    exact XW.up (by omega) (by omega) (XW.less [0, 1, 2, 3, 4, 5, 6] rfl (kx tl w (by omega) hx hw hok hlen C))
  | succ n ih =>
    intro tl hn hx w cells slots hw hok hlen hc hs C
    have hlen2 : (B0 ++ tkT tl).length ≤ 40 := by omega
    generalize hT : B0 ++ tkT tl = t at hw hlen2
    obtain ⟨l12, l13, l14⟩ := tx_l
    refine X_iload (pc := 104) C dL_law_104 rfl ?_
    refine X_if_le (pc := 106) C 139 dL_law_106 (by decide) (fun h => absurd h (nI_nle (by omega) (n31 (by omega)))) (fun h => ?_)
    refine X_aload (pc := 109) C dL_law_109 rfl ?_
    refine X_ldcS (pc := 111) (q := 13) C (List.mem_of_getElem? (i := 13) rfl) dL_law_111 ?_
    refine X_tbS (pc := 113) C hw (by decide) (by decide) (by (try simp only [List.length_append, lc]); omega) ⟨by show _ ≤ 600086; omega, by show _ ≤ 7301442; omega⟩ (Nat.le_of_ble_eq_true rfl) dL_law_113 (fun w hw C => ?_)
    refine X_iconst (pc := 116) (v := 1) C dL_law_116 (by decide) ?_
    refine X_aload_n (pc := 117) C 3 dL_law_117 rfl rfl ?_
    refine X_bipush (pc := 118) (v := nI 99) C dL_law_118 (by decide) ?_
    refine X_tbD (n := 99) (pc := 120) C hw (by decide) (by decide) ⟨by show _ ≤ 600086; omega, by show _ ≤ 7301442; omega⟩ (Nat.le_of_ble_eq_true rfl) dL_law_120 (fun j w hj hw C => ?_)
    refine X_iadd (pc := 123) C dL_law_123 ?_
    rw [show (1 : Int32) + nI j = nI (1 + j) from nI_add 1 j]
    have dgj := (dg_ok (1 + j) (by omega)).2.2
    refine X_tbI (pc := 124) C hw (by omega) (by (try simp only [List.length_append, lc]); omega) ⟨by show _ ≤ 600086; omega, by show _ ≤ 7301442; omega⟩ (Nat.le_of_ble_eq_true rfl) dL_law_124 (fun w hw C => ?_)
    refine X_bipush (pc := 127) (v := nI 59) C dL_law_127 (by decide) ?_
    refine X_tbC (pc := 129) C hw (by decide) (by (try simp only [List.length_append, lc]); omega) ⟨by show _ ≤ 600086; omega, by show _ ≤ 7301442; omega⟩ (Nat.le_of_ble_eq_true rfl) dL_law_129 (fun w hw C => ?_)
    refine X_pop (pc := 132) C dL_law_132 rfl ?_
    refine X_iinc (pc := 133) (kk := (-1)) (lv1 := [(0, _), (1, _), (2, _), (3, _), (4, _), (5, _), (6, _), (7, _)]) C dL_law_133 rfl (by decide) (by decide) rfl ?_
    refine X_goto (pc := 136) C 104 dL_law_136 (by decide) ?_
    rw [show nI (n + 1) + -1 = nI n by rw [← Int32.sub_eq_add_neg, nI_pred]]
    rw [← hT] at hw
    exact ih (tl ++ [1 + j]) (by rw [List.length_append, lc2]; omega) (fun y hy => (List.mem_append.mp hy).elim (hx y) (fun z => by rw [List.mem_singleton.mp z]; omega)) w _ _ (by rw [tkT_snoc]; unfold trkT; simp only [← List.append_assoc] at hw ⊢; exact hw) (by rw [tkT_snoc, ← List.append_assoc]; exact hok.app ((okC_tx (q := 13) (by decide)).app ((okC_dg (x := 1 + j) (by omega)).app (okC_1 (x := 59) (by decide))))) (by rw [tkT_snoc]; unfold trkT; simp only [List.length_append, lc, lc2] at hlen ⊢; omega) (by omega) (by omega) C

set_option maxRecDepth 100000 in
set_option maxHeartbeats 4000000 in
/-- the subscribers' statements are drawn -/
theorem W_users {B0 : List Int32} (h1 : 1 ≤ ln ∧ ln ≤ 4) (kx : ∀ (us : List (Nat × Nat)) (w : va_W), us ≠ [] → us.length ≤ 12 → (∀ q ∈ us, q.1 < 12 ∧ q.1 / 3 < ln ∧ q.2 ≤ 9) → us.Pairwise (fun a b => a.1 < b.1) → TB P w a0 a1 b (B0 ++ usT us) → okC (B0 ++ usT us) → (B0 ++ usT us).length ≤ 400 → XC p s m args meth c (xPR P w) A 12 RL cL_law ret → XW p l e room_1 s m args below meth c (xPR P w) A 12 (2000) (400000) Q σ 241 [(0, .ref b0), (1, .ref a0), (2, .int (nI 0)), (3, .ref a1), (4, .ref (P.2.2.1 (.inr 0))), (5, .int (nI ln)), (6, .ref b), (7, .int (nI us.length))] []) :
    ∀ (n u : Nat), u + n = 3 * ln → ∀ (us : List (Nat × Nat)) (w : va_W) (cells slots : Nat), us.length ≤ u → (1 ≤ u → us ≠ []) → (∀ q ∈ us, q.1 < u ∧ q.1 / 3 < ln ∧ q.2 ≤ 9) → us.Pairwise (fun a b => a.1 < b.1) → TB P w a0 a1 b (B0 ++ usT us) → okC (B0 ++ usT us) → (B0 ++ usT us).length ≤ 100 + 17 * us.length → cells + 9 * n ≤ 2000 → slots + 18900 * n ≤ 400000 → XC p s m args meth c (xPR P w) A 12 RL cL_law ret → XW p l e room_1 s m args below meth c (xPR P w) A 12 (cells) (slots) Q σ 145 [(0, .ref b0), (1, .ref a0), (2, .int (nI 0)), (3, .ref a1), (4, .ref (P.2.2.1 (.inr 0))), (5, .int (nI ln)), (6, .ref b), (7, .int (nI us.length)), (8, .int (nI u))] [] := by
  intro n
  induction n with
  | zero =>
    intro u hn us w cells slots hl1 hne hus hpw hw hok hlen hc hs C
    obtain rfl : u = 3 * ln := by omega
    refine X_iload (pc := 145) C dL_law_145 rfl ?_
    refine X_iconst (pc := 147) (v := nI 3) C dL_law_147 (by decide) ?_
    refine X_iload (pc := 148) C dL_law_148 rfl ?_
    refine X_imul (pc := 150) C dL_law_150 ?_
    rw [nI_m]
    refine X_icmp_ge (pc := 151) C 241 dL_law_151 (by decide) (fun h => ?_) (fun h => absurd (Int32.le_refl _) h)
    exact XW.up (by omega) (by omega) (XW.less [0, 1, 2, 3, 4, 5, 6, 7] rfl (kx us w (hne (by omega)) (by omega) (fun q hq => ⟨by have := (hus q hq).1; omega, (hus q hq).2⟩) hpw hw hok (by omega) C))
  | succ n ih =>
    intro u hn us w cells slots hl1 hne hus hpw hw hok hlen hc hs C
    have hu12 : u < 12 := by omega
    have ul := u_len u hu12
    have dgu := (dg_ok (u / 3) (by omega)).2.2
    obtain ⟨l12, l13, l14⟩ := tx_l
    have skip : us ≠ [] → ∀ (w : va_W) (cells slots : Nat), TB P w a0 a1 b (B0 ++ usT us) → cells + 9 * n ≤ 2000 → slots + 18900 * n ≤ 400000 → XC p s m args meth c (xPR P w) A 12 RL cL_law ret → XW p l e room_1 s m args below meth c (xPR P w) A 12 (cells) (slots) Q σ 235 [(0, .ref b0), (1, .ref a0), (2, .int (nI 0)), (3, .ref a1), (4, .ref (P.2.2.1 (.inr 0))), (5, .int (nI ln)), (6, .ref b), (7, .int (nI us.length)), (8, .int (nI u))] [] := by
      intro hne1 w cells slots hw hc hs C
      refine X_iincN (pc := 235) (lv1 := [(0, _), (1, _), (2, _), (3, _), (4, _), (5, _), (6, _), (7, _), (8, _)]) C dL_law_235 rfl (by decide) (by decide) rfl ?_
      refine X_goto (pc := 238) C 145 dL_law_238 (by decide) ?_
      exact ih (u + 1) (by omega) us w cells slots (by omega) (fun _ => hne1) (fun q hq => ⟨by have := (hus q hq).1; omega, (hus q hq).2⟩) hpw hw hok hlen hc hs C
    have add : ∀ (w : va_W), TB P w a0 a1 b (B0 ++ usT us) → XC p s m args meth c (xPR P w) A 12 RL cL_law ret → XW p l e room_1 s m args below meth c (xPR P w) A 12 (cells) (slots) Q σ 170 [(0, .ref b0), (1, .ref a0), (2, .int (nI 0)), (3, .ref a1), (4, .ref (P.2.2.1 (.inr 0))), (5, .int (nI ln)), (6, .ref b), (7, .int (nI us.length)), (8, .int (nI u))] [] := by
      intro w hw C
      have hlen2 : (B0 ++ usT us).length ≤ 400 := by omega
      generalize hT : B0 ++ usT us = t at hw hlen2
      refine X_aload (pc := 170) C dL_law_170 rfl ?_
      refine X_ldcS (pc := 172) (q := 14) C (List.mem_of_getElem? (i := 14) rfl) dL_law_172 ?_
      refine X_tbS (pc := 174) C hw (by decide) (by decide) (by (try simp only [List.length_append, lc]); omega) ⟨by show _ ≤ 600086; omega, by show _ ≤ 7301442; omega⟩ (Nat.le_of_ble_eq_true rfl) dL_law_174 (fun w hw C => ?_)
      refine X_bipush (pc := 177) (v := nI 97) C dL_law_177 (by decide) ?_
      refine X_iload (pc := 179) C dL_law_179 rfl ?_
      refine X_iadd (pc := 181) C dL_law_181 ?_
      rw [nI_add]
      refine X_i2c (pc := 182) C dL_law_182 ?_
      rw [u_c16 u hu12]
      refine X_tbC (pc := 183) C hw (by omega) (by (try simp only [List.length_append, lc]); omega) ⟨by show _ ≤ 600086; omega, by show _ ≤ 7301442; omega⟩ (Nat.le_of_ble_eq_true rfl) dL_law_183 (fun w hw C => ?_)
      refine X_bipush (pc := 186) (v := nI 32) C dL_law_186 (by decide) ?_
      refine X_tbC (pc := 188) C hw (by decide) (by (try simp only [List.length_append, lc]); omega) ⟨by show _ ≤ 600086; omega, by show _ ≤ 7301442; omega⟩ (Nat.le_of_ble_eq_true rfl) dL_law_188 (fun w hw C => ?_)
      refine X_iload (pc := 191) C dL_law_191 rfl ?_
      refine X_iconst (pc := 193) (v := nI 3) C dL_law_193 (by decide) ?_
      refine X_idiv (pc := 194) C dL_law_194 (by decide) ?_
      rw [nI_div (n31 (by omega)) (by decide)]
      refine X_tbI (pc := 195) C hw (by omega) (by (try simp only [List.length_append, lc]); omega) ⟨by show _ ≤ 600086; omega, by show _ ≤ 7301442; omega⟩ (Nat.le_of_ble_eq_true rfl) dL_law_195 (fun w hw C => ?_)
      refine X_bipush (pc := 198) (v := nI 32) C dL_law_198 (by decide) ?_
      refine X_tbC (pc := 200) C hw (by decide) (by (try simp only [List.length_append, lc]); omega) ⟨by show _ ≤ 600086; omega, by show _ ≤ 7301442; omega⟩ (Nat.le_of_ble_eq_true rfl) dL_law_200 (fun w hw C => ?_)
      refine X_aload_n (pc := 203) C 1 dL_law_203 rfl rfl ?_
      refine X_iload (pc := 204) C dL_law_204 rfl ?_
      refine X_iconst (pc := 206) (v := nI 3) C dL_law_206 (by decide) ?_
      refine X_irem (pc := 207) C dL_law_207 (by decide) ?_
      rw [nI_rem (n31 (by omega)) (by decide)]
      obtain ⟨fr, hf0, hf1⟩ := hw.1
      refine X_rAald (pc := 208) C 0 (j := u % 3) hf0 (Nat.mod_lt _ (by decide)) (by decide) dL_law_208 ?_
      rw [hf1 (u % 3) (Nat.mod_lt _ (by decide))]
      refine X_tbS (g := 9 + u % 3) (pc := 209) C hw ul.2.2 ul.2.1 (by (try simp only [List.length_append, lc]); omega) ⟨by show _ ≤ 600086; omega, by show _ ≤ 7301442; omega⟩ (Nat.le_of_ble_eq_true rfl) dL_law_209 (fun w hw C => ?_)
      refine X_bipush (pc := 212) (v := nI 32) C dL_law_212 (by decide) ?_
      refine X_tbC (pc := 214) C hw (by decide) (by (try simp only [List.length_append, lc]); omega) ⟨by show _ ≤ 600086; omega, by show _ ≤ 7301442; omega⟩ (Nat.le_of_ble_eq_true rfl) dL_law_214 (fun w hw C => ?_)
      refine X_aload_n (pc := 217) C 3 dL_law_217 rfl rfl ?_
      refine X_bipush (pc := 218) (v := nI 10) C dL_law_218 (by decide) ?_
      refine X_tbD (n := 10) (pc := 220) C hw (by decide) (by decide) ⟨by show _ ≤ 600086; omega, by show _ ≤ 7301442; omega⟩ (Nat.le_of_ble_eq_true rfl) dL_law_220 (fun j w hj hw C => ?_)
      have dgj := (dg_ok j (by omega)).2.2
      refine X_tbI (pc := 223) C hw (by omega) (by (try simp only [List.length_append, lc]); omega) ⟨by show _ ≤ 600086; omega, by show _ ≤ 7301442; omega⟩ (Nat.le_of_ble_eq_true rfl) dL_law_223 (fun w hw C => ?_)
      refine X_bipush (pc := 226) (v := nI 59) C dL_law_226 (by decide) ?_
      refine X_tbC (pc := 228) C hw (by decide) (by (try simp only [List.length_append, lc]); omega) ⟨by show _ ≤ 600086; omega, by show _ ≤ 7301442; omega⟩ (Nat.le_of_ble_eq_true rfl) dL_law_228 (fun w hw C => ?_)
      refine X_pop (pc := 231) C dL_law_231 rfl ?_
      first | refine X_iincN (pc := 232) (lv1 := [(0, _), (1, _), (2, _), (3, _), (4, _), (5, _), (6, _), (7, _), (8, _)]) C dL_law_232 rfl (by decide) (by decide) rfl ?_ | refine X_iinc (pc := 232) (kk := 1) (lv1 := [(0, _), (1, _), (2, _), (3, _), (4, _), (5, _), (6, _), (7, _), (8, _)]) C dL_law_232 rfl (by decide) (by decide) rfl ?_
      first | refine X_iincN (pc := 235) (lv1 := [(0, _), (1, _), (2, _), (3, _), (4, _), (5, _), (6, _), (7, _), (8, _)]) C dL_law_235 rfl (by decide) (by decide) rfl ?_ | refine X_iinc (pc := 235) (kk := 1) (lv1 := [(0, _), (1, _), (2, _), (3, _), (4, _), (5, _), (6, _), (7, _), (8, _)]) C dL_law_235 rfl (by decide) (by decide) rfl ?_
      refine X_goto (pc := 238) C 145 dL_law_238 (by decide) ?_
      skip
      rw [← hT] at hw
      have hl2 : (us ++ [(u, j)]).length = us.length + 1 := by rw [List.length_append, lc3]
      rw [← hl2]
      refine ih (u + 1) (by omega) (us ++ [(u, j)]) w _ _ (by omega) (fun _ q => by rw [q] at hl2; exact absurd hl2 (by simp)) (fun q hq => ?_) ?_ ?_ ?_ ?_ (by omega) (by omega) C
      · rcases List.mem_append.mp hq with z | z
        · exact ⟨by have := (hus q z).1; omega, (hus q z).2⟩
        · rw [List.mem_singleton.mp z]; exact ⟨by show u < u + 1; omega, by show u / 3 < ln; omega, by show j ≤ 9; omega⟩
      · refine List.pairwise_append.mpr ⟨hpw, List.pairwise_singleton _ _, fun x hx y hy => ?_⟩
        rw [List.mem_singleton.mp hy]
        exact (hus x hx).1
      · rw [usT_snoc]
        unfold usrT
        simp only [← List.append_assoc] at hw ⊢
        exact hw
      · rw [usT_snoc, ← List.append_assoc]
        exact hok.app ((okC_tx (q := 14) (by decide)).app ((okC_1 (x := 97 + u) (by omega)).app ((okC_1 (x := 32) (by decide)).app ((okC_dg (x := u / 3) (by omega)).app ((okC_1 (x := 32) (by decide)).app ((okC_tx ul.2.2).app ((okC_1 (x := 32) (by decide)).app ((okC_dg (x := j) (by omega)).app (okC_1 (x := 59) (by decide))))))))))
      · rw [usT_snoc, hl2]
        unfold usrT
        simp only [List.length_append, lc] at hlen ⊢
        omega
    refine X_iload (pc := 145) C dL_law_145 rfl ?_
    refine X_iconst (pc := 147) (v := nI 3) C dL_law_147 (by decide) ?_
    refine X_iload (pc := 148) C dL_law_148 rfl ?_
    refine X_imul (pc := 150) C dL_law_150 ?_
    rw [nI_m]
    refine X_icmp_ge (pc := 151) C 241 dL_law_151 (by decide) (fun h => absurd h (nI_ge (by omega) (n31 (by omega)))) (fun h => ?_)
    refine X_iload (pc := 154) C dL_law_154 rfl ?_
    refine X_if_le (pc := 156) C 170 dL_law_156 (by decide) (fun h => add w hw C) (fun h => ?_)
    have hne1 : us ≠ [] := fun q => by rw [q] at h; exact h (by decide)
    refine X_aload_n (pc := 159) C 3 dL_law_159 rfl rfl ?_
    refine X_iconst (pc := 160) (v := nI 4) C dL_law_160 (by decide) ?_
    refine X_tbD (n := 4) (pc := 161) C hw (by decide) (by decide) ⟨by show _ ≤ 600086; omega, by show _ ≤ 7301442; omega⟩ (Nat.le_of_ble_eq_true rfl) dL_law_161 (fun j w hj hw C => ?_)
    refine X_if_ne (pc := 164) C 170 dL_law_164 (by decide) (fun h => add w hw C) (fun h => ?_)
    refine X_goto (pc := 167) C 235 dL_law_167 (by decide) ?_
    exact skip hne1 w cells slots hw (by omega) (by omega) C

end X96b

/-! CONSTRUCTORS: Reader and History -/
section XP83
variable {p : Program} {l : Launch} {e : Env} {R : Room} {s : State} {m : MethodId} {args : Array Value} {below : List Frame} {meth : Method} {c : Code} {P0 : XP} {A : Nat → Prop} {nL cells slots : Nat} {Q : State → Prop} {cc : ByteArray} {own : String} {σ : XS} {hs : va_W} {N : List XI} {ad : XI → Nat} {pc : Nat} {lv : List (Nat × Value)} {st : List Value}
theorem B_istore_n (C : BX p s m args meth c P0 A nL own cc) {k : Fin 4} (i : Nat) {x : Int32} {lv1 : List (Nat × Value)} (d : decode cc pc = .ok (.istore_n k, 1)) (hi : (k : Nat) = i) (hn : i < nL) (hl : xst lv i (.int x) = lv1) (k9 : BW p l e R s m args below meth c P0 A nL cells slots Q σ hs N ad (pc + 1) lv1 st) : BW p l e R s m args below meth c P0 A nL cells slots Q σ hs N ad pc lv (.int x :: st) := fun H locs ls hP hD hS hz => lv_istore_n C.1 C.2.1 d hi hz hn rfl (fun ls1 h1 => k9 H locs ls1 hP hD hS (hl ▸ xst_has h1))
theorem B_iincN (C : BX p s m args meth c P0 A nL own cc) {i : Nat} {n : Int} {j : Nat} {lv1 : List (Nat × Value)} (d : decode cc pc = .ok (.iinc i n, 3)) (hx : xlk lv i = some (.int (nI j))) (hv : Int32.ofInt n = 1) (hn : i < nL) (hl : xst lv i (.int (nI (j + 1))) = lv1) (k9 : BW p l e R s m args below meth c P0 A nL cells slots Q σ hs N ad (pc + 3) lv1 st) : BW p l e R s m args below meth c P0 A nL cells slots Q σ hs N ad pc lv st := fun H locs ls hP hD hS hz => by
  obtain ⟨k, hk⟩ := xlk_pl hx
  exact lv_iinc C.1 C.2.1 d hz hk (by rw [hv]) hn rfl (fun ls1 h1 => k9 H locs ls1 hP hD hS (hl ▸ xst_has (by rw [nI_1] at h1; exact h1)))
theorem B_icmp_ge (C : BX p s m args meth c P0 A nL own cc) {x y : Int32} {off : Int} (tgt : Nat) (d : decode cc pc = .ok (.if_icmp .ge off, 3)) (ht : (pc : Int) + off = (tgt : Int)) (kt : y ≤ x → BW p l e R s m args below meth c P0 A nL cells slots Q σ hs N ad tgt lv st) (kf : ¬ (y ≤ x) → BW p l e R s m args below meth c P0 A nL cells slots Q σ hs N ad (pc + 3) lv st) : BW p l e R s m args below meth c P0 A nL cells slots Q σ hs N ad pc lv (.int y :: .int x :: st) := fun H locs ls hP hD hS hl => lv_icmp_ge C.1 C.2.1 d ht (fun h => kt h H locs ls hP hD hS hl) (fun h => kf h H locs ls hP hD hS hl)
theorem B_goto (C : BX p s m args meth c P0 A nL own cc) {off : Int} (tgt : Nat) (d : decode cc pc = .ok (.goto off, 3)) (ht : (pc : Int) + off = (tgt : Int)) (k : BW p l e R s m args below meth c P0 A nL cells slots Q σ hs N ad tgt lv st) : BW p l e R s m args below meth c P0 A nL cells slots Q σ hs N ad pc lv st := fun H locs ls hP hD hS hl => lv_goto C.1 C.2.1 d ht (k H locs ls hP hD hS hl)
theorem BW.eq {hs' : va_W} {lv' : List (Nat × Value)} {st' : List Value} (h : hs = hs') (h1 : lv = lv') (h2 : st = st') (k : BW p l e R s m args below meth c P0 A nL cells slots Q σ hs' N ad pc lv' st') : BW p l e R s m args below meth c P0 A nL cells slots Q σ hs N ad pc lv st := by
  subst h
  subst h1
  subst h2
  exact k
theorem BW.widen {k n : Nat} (h1 : cells ≤ k) (h2 : slots ≤ n) (kk : BW p l e R s m args below meth c P0 A nL k n Q σ hs N ad pc lv st) : BW p l e R s m args below meth c P0 A nL cells slots Q σ hs N ad pc lv st := fun H locs ls hP hD hS hl => W.widen h1 h2 (kk H locs ls hP hD hS hl)
theorem M0_in {b : Nat} {i : XI} (h : i ∈ M0 b) : ∃ k, k < 20 ∧ i = .inl (b, k) := by
  simp only [M0, M1, M5, List.append_nil, List.cons_append, List.nil_append, List.mem_cons, List.not_mem_nil, or_false] at h
  rcases h with rfl | rfl | rfl | rfl | rfl | rfl | rfl | rfl | rfl | rfl | rfl | rfl | rfl | rfl | rfl | rfl | rfl | rfl | rfl | rfl <;> exact ⟨_, by decide, rfl⟩
theorem M0_has {b k : Nat} (h : k < 20) : (.inl (b, k) : XI) ∈ M0 b := by
  match k, h with
  | 0, _ => simp [M0, M1, M5]
  | 1, _ => simp [M0, M1, M5]
  | 2, _ => simp [M0, M1, M5]
  | 3, _ => simp [M0, M1, M5]
  | 4, _ => simp [M0, M1, M5]
  | 5, _ => simp [M0, M1, M5]
  | 6, _ => simp [M0, M1, M5]
  | 7, _ => simp [M0, M1, M5]
  | 8, _ => simp [M0, M1, M5]
  | 9, _ => simp [M0, M1, M5]
  | 10, _ => simp [M0, M1, M5]
  | 11, _ => simp [M0, M1, M5]
  | 12, _ => simp [M0, M1, M5]
  | 13, _ => simp [M0, M1, M5]
  | 14, _ => simp [M0, M1, M5]
  | 15, _ => simp [M0, M1, M5]
  | 16, _ => simp [M0, M1, M5]
  | 17, _ => simp [M0, M1, M5]
  | 18, _ => simp [M0, M1, M5]
  | 19, _ => simp [M0, M1, M5]
  | n + 20, h => exact absurd h (by omega)
theorem clo_add {M N : List XI} (hM : clo M) (hN : clo N) : clo (M ++ N) := clo_app (fun i hi j hj => List.mem_append_left _ (hM i hi j hj)) hN
abbrev M3 : List XI := [.inr 2, .inr 3]
theorem clo3 : clo M3 := fun i hi => by
  simp only [M3, List.mem_cons, List.not_mem_nil, or_false] at hi
  rcases hi with rfl | rfl <;> simp [rfs, xsh, M3]
abbrev M4 : List XI := [.inr 1] ++ (M0 1 ++ (M3 ++ []))
theorem clo4 : clo M4 := clo_app (fun k hk j hj => by
  obtain rfl := List.mem_singleton.mp hk
  simp only [rfs, xsh, List.filterMap_cons, id_eq, List.filterMap_nil, List.mem_cons, List.not_mem_nil, or_false] at hj
  rcases hj with rfl | rfl
  · simp [M3]
  · exact List.mem_append_right _ (List.mem_append_left _ (M0_has (by decide)))) (clo_add (clo0 1) (clo_add clo3 clo_nil))
abbrev rb_X4_init : Room := { frames := 3, cells := 40, slots := 2000, locals := 100 }
set_option maxRecDepth 100000 in
set_option maxHeartbeats 4000000 in
theorem b_X4_init (l : Launch) (P0 : XP) : BC l yX4_init cX4_init 1 rb_X4_init P0 s0 (.inr (4, fsX4)) (.inr 1) M4 := by
  refine BC.of (by decide +kernel) (by decide +kernel) (by decide) (fun q p e s m args below meth c A C => ?_)
  replace C : BX p s m args meth c P0 A 1 RX4 cX4_init := C
  refine B_aload_n (pc := 0) C 0 dX4_init_0 rfl rfl ?_
  refine B_obj (pc := 1) C m_m_X4_3 ⟨(Nat.le_of_ble_eq_true rfl), (Nat.le_of_ble_eq_true rfl)⟩ dX4_init_1 ?_
  refine B_aload_n (pc := 4) C 0 dX4_init_4 rfl rfl ?_
  refine B_new (pc := 5) (ci := 3) C tyX3 tyX3_ok inX3 m_l_X4_9 m_x_X3 m_n_X3 rfl dvX3 ⟨(Nat.le_of_ble_eq_true rfl), (Nat.le_of_ble_eq_true rfl)⟩ dX4_init_5 (fun q3 => ?_)
  refine B_dup (pc := 8) C dX4_init_8 ?_
  refine B_callN (pc := 9) (q := q3) (i0 := .inr 2) (M := M3) C (b_X3_init l P0) m_c_X3_init C.hN.2.2.2.2.1 m_i_X3_init m_n_X3 rfl ⟨by decide +kernel, by decide +kernel, by decide +kernel⟩ ⟨(Nat.le_of_ble_eq_true rfl), (Nat.le_of_ble_eq_true rfl)⟩ ⟨(Nat.le_of_ble_eq_true rfl), (Nat.le_of_ble_eq_true rfl)⟩ clo_nil clo3 (fun _ h => nomatch h) List.mem_cons_self (Nat.le_of_ble_eq_true rfl) dX4_init_9 (fun a0 w0 e0 => ?_)
  refine B_putF (pc := 12) C 0 0 tyX4 tyX4_ok nmX4 inX4 rfl rfl (by decide) m_f_X4_12 rfl rfl rfl rfl (Nat.le_of_ble_eq_true rfl) dX4_init_12 ?_
  refine B_aload_n (pc := 15) C 0 dX4_init_15 rfl rfl ?_
  refine B_new (pc := 16) (ci := 0) C tyX0 tyX0_ok inX0 m_l_X4_18 m_x_X0 m_n_X0 rfl dvX0 ⟨(Nat.le_of_ble_eq_true rfl), (Nat.le_of_ble_eq_true rfl)⟩ dX4_init_16 (fun qb => ?_)
  refine B_dup (pc := 19) C dX4_init_19 ?_
  refine B_callN (pc := 20) (q := qb) (i0 := .inl (1, 0)) (M := M0 1) C (b_X0_init l P0 1) m_c_X0_init C.hN.2.2.2.2.2.1 m_i_X0_init m_n_X0 rfl ⟨by decide +kernel, by decide +kernel, by decide +kernel⟩ ⟨(Nat.le_of_ble_eq_true rfl), (Nat.le_of_ble_eq_true rfl)⟩ ⟨(Nat.le_of_ble_eq_true rfl), (Nat.le_of_ble_eq_true rfl)⟩ (clo_add clo3 clo_nil) (clo0 1) (fun j hj => by
    simp only [M3, List.append_nil, List.mem_cons, List.not_mem_nil, or_false] at hj
    rcases hj with rfl | rfl <;> exact fun h => by obtain ⟨k, -, h⟩ := M0_in h; cases h) (M0_has (by decide)) (Nat.le_of_ble_eq_true rfl) dX4_init_20 (fun a1 w1 e1 => ?_)
  refine B_putF (pc := 23) C 0 1 tyX4 tyX4_ok nmX4 inX4 rfl rfl (by decide) m_f_X4_21 rfl rfl rfl rfl (Nat.le_of_ble_eq_true rfl) dX4_init_23 ?_
  refine B_aload_n (pc := 26) C 0 dX4_init_26 rfl rfl ?_
  refine B_iconst (pc := 27) (v := -1) C dX4_init_27 (by decide) ?_
  refine B_put (pc := 28) C 0 3 tyX4 tyX4_ok nmX4 inX4 rfl rfl (by decide) m_f_X4_25 rfl rfl rfl (Nat.le_of_ble_eq_true rfl) dX4_init_28 ?_
  refine B_end (pc := 31) C rfl (fun h => by
    rcases List.mem_append.mp h with h | h
    · obtain ⟨k, -, h⟩ := M0_in h
      cases h
    · simp [M3] at h) (clo_add (clo0 1) (clo_add clo3 clo_nil)) (fun ad1 _ e => ?_) (Nat.le_of_ble_eq_true rfl) (Nat.le_of_ble_eq_true rfl) dX4_init_31
  have f0 : ad1 (.inr 2) = q3 := ((e _ (by simp [M3])).trans (e1 _ (by simp [M3]))).trans w0
  have f1 : ad1 (.inl (1, 0)) = qb := (e _ (List.mem_append_left _ (M0_has (by decide)))).trans w1
  simp only [xfs, xv, f0, f1]
  rfl
/-! History: eight boards -/
def NB : Nat → List XI
  | 0 => []
  | j + 1 => M0 (2 + j) ++ NB j
theorem NB_in : ∀ {j : Nat} {i : XI}, i ∈ NB j → ∃ b k, i = .inl (b, k) ∧ 2 ≤ b ∧ b < 2 + j
  | 0, i, h => nomatch h
  | j + 1, i, h => by
    rcases List.mem_append.mp h with h | h
    · obtain ⟨k, -, rfl⟩ := M0_in h
      exact ⟨_, _, rfl, by omega, by omega⟩
    · obtain ⟨b, k, h1, h2, h3⟩ := NB_in h
      exact ⟨b, k, h1, h2, by omega⟩
theorem NB_has : ∀ {j b k : Nat}, b < j → k < 20 → (.inl (2 + b, k) : XI) ∈ NB j
  | 0, b, k, h, _ => absurd h (Nat.not_lt_zero _)
  | j + 1, b, k, h, hk => by
    by_cases g : b = j
    · subst g; exact List.mem_append_left _ (M0_has hk)
    · exact List.mem_append_right _ (NB_has (by omega) hk)
theorem NB_clo : ∀ j, clo (NB j)
  | 0 => clo_nil
  | j + 1 => clo_add (clo0 _) (NB_clo j)
theorem NB_dis {j : Nat} : ∀ i ∈ NB j, i ∉ M0 (2 + j) := fun i hi h => by
  obtain ⟨b, k, rfl, h2, h3⟩ := NB_in hi
  obtain ⟨k2, -, h4⟩ := M0_in h
  have := (Prod.mk.inj (Sum.inl.inj h4)).1
  omega
abbrev M2 : List XI := [.inr 4] ++ ([.inr 5] ++ NB 8)
theorem clo_5 : clo ([.inr 5] ++ NB 8) := clo_app (fun k hk j hj => by
  obtain rfl := List.mem_singleton.mp hk
  have hj2 : j ∈ (List.range 8).map (xrr (.inr 5)) := hj
  obtain ⟨b, hb, rfl⟩ := List.mem_map.mp hj2
  exact List.mem_append_right _ (NB_has (List.mem_range.mp hb) (by decide))) (NB_clo 8)
theorem clo2 : clo M2 := clo_app (fun k hk j hj => by
  obtain rfl := List.mem_singleton.mp hk
  simp only [rfs, xsh, List.filterMap_cons, id_eq, List.filterMap_nil, List.mem_cons, List.not_mem_nil, or_false] at hj
  subst hj
  simp) clo_5
abbrev rb_X2_init : Room := { frames := 3, cells := 260, slots := 7000, locals := 100 }
set_option maxRecDepth 100000 in
set_option maxHeartbeats 4000000 in
theorem L_X2_init {l : Launch} {q qa : Nat} (C : BX p s m args meth c P0 A 2 RX2 cX2_init)
    (kx : ∀ (ad : XI → Nat) (f : Nat → Option Nat), (∀ k, k < 8 → f k = some (ad (.inl (2 + k, 0)))) → BW p l e rb_X2_init s m args below meth c P0 A 2 260 7000 Q s0 [(q, .inr (2, [.ref qa, .int 0, .int 0])), (qa, qE P0 8 f)] (NB 8) ad 40 [(0, .ref q), (1, .int (nI 8))] []) :
    ∀ (fu j cells slots : Nat) (ad : XI → Nat) (f : Nat → Option Nat), j + fu = 8 → cells + 31 * fu ≤ 260 → slots + 807 * fu ≤ 7000 → (∀ k, k < j → f k = some (ad (.inl (2 + k, 0)))) → BW p l e rb_X2_init s m args below meth c P0 A 2 cells slots Q s0 [(q, .inr (2, [.ref qa, .int 0, .int 0])), (qa, qE P0 8 f)] (NB j) ad 15 [(0, .ref q), (1, .int (nI j))] [] := by
  intro fu
  induction fu with
  | zero =>
    intro j cells slots ad f hj hc hs hf
    obtain rfl : j = 8 := by omega
    refine B_iload_n (pc := 15) C 1 dX2_init_15 rfl rfl ?_
    refine B_bipush (pc := 16) (v := 8) C dX2_init_16 (by decide) ?_
    refine B_icmp_ge (pc := 18) C 40 dX2_init_18 (by decide) (fun _ => ?_) (fun h => absurd (show (8 : Int32) ≤ nI 8 by decide) h)
    exact BW.widen (by omega) (by omega) (kx ad f hf)
  | succ fu ih =>
    intro j cells slots ad f hj hc hs hf
    refine B_iload_n (pc := 15) C 1 dX2_init_15 rfl rfl ?_
    refine B_bipush (pc := 16) (v := 8) C dX2_init_16 (by decide) ?_
    refine B_icmp_ge (pc := 18) C 40 dX2_init_18 (by decide) (fun h => absurd (nle (a := 8) h (by omega) (by omega)) (by omega)) (fun _ => ?_)
    refine B_aload_n (pc := 21) C 0 dX2_init_21 rfl rfl ?_
    refine B_get (pc := 22) C 0 0 inX2 rfl rfl (by decide) m_f_X2_11 rfl dX2_init_22 ?_
    refine B_iload_n (pc := 25) C 1 dX2_init_25 rfl rfl ?_
    refine B_new (pc := 26) (ci := 0) C tyX0 tyX0_ok inX0 m_l_X2_9 m_x_X0 m_n_X0 rfl dvX0 ⟨show cells + 1 ≤ 260 by omega, show slots + 7 ≤ 7000 by omega⟩ dX2_init_26 (fun qb => ?_)
    refine B_dup (pc := 29) C dX2_init_29 ?_
    refine B_callN (pc := 30) (q := qb) (i0 := .inl (2 + j, 0)) (M := M0 (2 + j)) C (b_X0_init l P0 (2 + j)) m_c_X0_init C.hN.2.2.2.2.2.2.1 m_i_X0_init m_n_X0 rfl ⟨by decide +kernel, by decide +kernel, by decide +kernel⟩ ⟨(Nat.le_of_ble_eq_true rfl), (Nat.le_of_ble_eq_true rfl)⟩ ⟨show cells + 1 + 30 ≤ 260 by omega, show slots + 7 + 800 ≤ 7000 by omega⟩ (NB_clo j) (clo0 _) NB_dis (M0_has (by decide)) (Nat.le_of_ble_eq_true rfl) dX2_init_30 (fun a1 w1 e1 => ?_)
    subst w1
    refine B_astq (pc := 33) (n := 8) (j := j) (f := f) C 1 rfl (List.mem_append_left _ (M0_has (by decide))) (by omega) (by decide) dX2_init_33 ?_
    refine B_iincN (pc := 34) (lv1 := [(0, _), (1, _)]) C dX2_init_34 rfl (by decide) (by decide) rfl ?_
    refine B_goto (pc := 37) C 15 dX2_init_37 (by decide) ?_
    refine ih (j + 1) _ _ a1 _ (by omega) (by show cells + 1 + 30 + 31 * fu ≤ 260; omega) (by show slots + 7 + 800 + 807 * fu ≤ 7000; omega) (fun k hk => ?_)
    by_cases g : k = j
    · subst g; exact va_up_self _ _ _
    · rw [va_up_ne _ _ g, hf k (by omega), e1 _ (NB_has (by omega) (by decide))]
set_option maxRecDepth 100000 in
set_option maxHeartbeats 4000000 in
theorem b_X2_init (l : Launch) (P0 : XP) : BC l yX2_init cX2_init 2 rb_X2_init P0 s0 (.inr (2, fsX2)) (.inr 4) M2 := by
  refine BC.of (by decide +kernel) (by decide +kernel) (by decide) (fun q p e s m args below meth c A C => ?_)
  replace C : BX p s m args meth c P0 A 2 RX2 cX2_init := C
  refine B_aload_n (pc := 0) C 0 dX2_init_0 rfl rfl ?_
  refine B_obj (pc := 1) C m_m_X2_3 ⟨(Nat.le_of_ble_eq_true rfl), (Nat.le_of_ble_eq_true rfl)⟩ dX2_init_1 ?_
  refine B_aload_n (pc := 4) C 0 dX2_init_4 rfl rfl ?_
  refine B_bipush (pc := 5) (v := 8) C dX2_init_5 (by decide) ?_
  refine B_newq (pc := 7) (n := 8) C m_l_X2_9 rfl (by decide) ⟨(Nat.le_of_ble_eq_true rfl), (Nat.le_of_ble_eq_true rfl)⟩ dX2_init_7 (fun qa => ?_)
  refine B_putF (pc := 10) C 0 0 tyX2 tyX2_ok nmX2 inX2 rfl rfl (by decide) m_f_X2_11 rfl rfl rfl rfl (Nat.le_of_ble_eq_true rfl) dX2_init_10 ?_
  refine B_iconst (pc := 13) (v := nI 0) C dX2_init_13 (by decide) ?_
  refine B_istore_n (pc := 14) (lv1 := [(0, _), (1, _)]) C 1 dX2_init_14 rfl (by decide) rfl ?_
  refine L_X2_init (l := l) (q := q) (qa := qa) C (fun ad f hf => ?_) 8 0 _ _ _ _ (by decide) (by exact Nat.le_of_ble_eq_true rfl) (by exact Nat.le_of_ble_eq_true rfl) (fun k hk => absurd hk (Nat.not_lt_zero _))
  refine B_seal (hs := [(q, .inr (2, [.ref qa, .int 0, .int 0]))]) (.inr 5) (fun h => by obtain ⟨b, k, h, -⟩ := NB_in h; cases h) (NB_clo 8) (fun ad1 w1 e1 H h => ?_) (fun ad1 w1 e1 => ?_)
  · show H[qa]? = some (arrV (P0.2.1 3) 8 (fun k => va_rf (some (ad1 (xrr (.inr 5) k)))))
    have h1 : H[qa]? = some (arrV (P0.2.1 3) 8 (fun k => va_rf (f k))) := h
    rw [h1]
    refine congrArg some (arrV_cg (fun k hk => ?_))
    rw [hf k hk, ← e1 _ (NB_has hk (by decide))]
    rfl
  · refine B_end (pc := 40) C rfl (fun h => by
      rcases List.mem_append.mp h with h | h
      · simp at h
      · obtain ⟨b, k, h, -⟩ := NB_in h
        cases h) clo_5 (fun ad2 _ e => ?_) (Nat.le_of_ble_eq_true rfl) (Nat.le_of_ble_eq_true rfl) dX2_init_40
    have f0 : ad2 (.inr 5) = qa := (e _ (by simp)).trans w1
    simp only [xfs, xv, f0]
    rfl
end XP83

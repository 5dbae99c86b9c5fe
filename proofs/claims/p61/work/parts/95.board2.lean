/-! CONSTRUCTORS: CordBoard -/
/-- the world behind the class's constructor -/
noncomputable def sX0 : XS := uShort (uCopyB g3.2.1 0 1)
section XP85
variable {p : Program} {l : Launch} {e : Env} {R : Room} {s : State} {m : MethodId} {args : Array Value} {below : List Frame} {meth : Method} {c : Code} {P0 : XP} {A : Nat → Prop} {nL cells slots : Nat} {Q : State → Prop} {cc : ByteArray} {own : String} {σ : XS} {hs : va_W} {N : List XI} {ad : XI → Nat} {pc : Nat} {lv : List (Nat × Value)} {st : List Value}
theorem BX.x (C : BX p s m args meth c P0 A nL own cc) (hD : BD A [] N ad) : XC p s m args meth c (PN P0 N ad) A nL own cc none := ⟨C.1, C.2.1, C.2.2.1, C.2.2.2.1, C.hts, C.hK, fun _ => BD.d.mpr hD, C.hA, C.hr, C.hlk, C.hE⟩
/-- all is done: the walk goes on by names -/
theorem B_toX {σ1 : XS} (ag : ∀ i ∈ N, σ1.1 i = σ.1 i ∧ σ1.2 i = σ.2 i) (kk : BD A [] N ad → XW p l e R s m args below meth c (PN P0 N ad) A nL cells slots Q σ1 pc lv st) : BW p l e R s m args below meth c P0 A nL cells slots Q σ [] N ad pc lv st := fun H locs ls hP hD hS hl => kk hD H locs ls (BP.p.mpr ⟨hP.1, fun i hi => by
  rw [xce_cg (ag i hi).1 (ag i hi).2]
  exact hP.2 i hi⟩) hS hl
/-- the end of a constructor that is walked by names -/
theorem X_endB {mc ms q : Nat} {i0 : XI} (C : BX p s m args meth c P0 A nL own cc) (hD : BD A [] N ad) (e0 : ad i0 = q) (h1 : cells ≤ mc) (h2 : slots ≤ ms) (d : decode cc pc = .ok (.return_, 1)) : XW p l e R s m args below meth c (PN P0 N ad) A nL cells slots (MQ below (BQ P0 A q i0 N σ) args s mc ms A) σ pc lv [] := fun H locs ls hP hS _ => W.widen h1 h2 (W.vret C.1 C.2.1 C.hr (fun t ht _ => ⟨⟨rfl, ad, e0, by rw [ht]; exact BP.p.mp hP, hD⟩, hS.F ht⟩) hS.2.2 d C.hlk)
theorem BC.of2 {y : MethodName} {rm : Room} {x : va_E} {i0 : XI} {M : List XI} {σ1 : XS} (hy : plainName y.cls = true) (hy2 : y.name = "<init>") (hn : 1 ≤ nL)
    (body : ∀ (q : Nat) (p : Program) (e : Env) (s : State) (m : MethodId) (args : Array Value) (below : List Frame) (meth : Method) (c : Code) (A : Nat → Prop), BX p s m args meth c P0 A nL y.cls cc → BW p l e rm s m args below meth c P0 A nL 0 0 (MQ below (BQ P0 A q i0 M σ1) args s rm.cells rm.slots A) σ [(q, x)] [] (fun _ => 0) 0 (lv_args 0 [.ref q]) []) : BC l y cc nL rm P0 σ1 x i0 M := by
  intro q sz
  refine Met.ofW (cc := cc) (maxL := nL) (ret := none) hy rfl ?_
  intro p e s m args below meth c s₁ B hml hv
  obtain ⟨rfl, hsz, hP, hK, hE, hN⟩ := hv
  have hts := atoms_spec (ws := Cond.code y cc nL none :: xTB) B.pre
  have hown : s.vm.findClass y.cls = some m.cls := findClass_of_methodNamed B.named
  have hin : meth.name = "<init>" := (name_of_methodNamed B.named B.method).1.trans hy2
  subst hsz
  have hl := lv_entry [.ref q] (n := nL) (show 1 ≤ nL from hn)
  rw [lg_entry_eq]
  refine body q p e s m _ below meth c _ ⟨B.exec, B.bytes, hml, hown, fun w hw => hts w (List.mem_cons_of_mem _ hw), hK, fun q h => Or.inr h, B.returns, B.notSynchronized, hin, hE, hN⟩ s.heap [] _ ⟨hP.1, fun i hi => nomatch hi⟩ ⟨by simp, fun z hz => ?_, fun i hi => nomatch hi⟩ va_S.rf hl
  obtain rfl := List.mem_singleton.mp hz
  exact Or.inl ⟨0, x, rfl⟩
/-- the cells made before the saved boards -/
abbrev N6 : List XI := [.inr 8] ++ ([.inr 7] ++ (M2 ++ (M4 ++ (M0 0 ++ []))))
def NC : Nat → List XI
  | 0 => N6
  | j + 1 => M0 (10 + j) ++ NC j
abbrev M6 : List XI := [.inr 0] ++ ([.inr 6] ++ NC 2)
theorem M2_in {i : XI} (h : i ∈ M2) : i = .inr 4 ∨ i = .inr 5 ∨ ∃ b k, i = .inl (b, k) ∧ 2 ≤ b ∧ b < 10 := by
  rcases List.mem_append.mp h with h | h
  · exact Or.inl (List.mem_singleton.mp h)
  · rcases List.mem_append.mp h with h | h
    · exact Or.inr (Or.inl (List.mem_singleton.mp h))
    · obtain ⟨b, k, h1, h2, h3⟩ := NB_in h
      exact Or.inr (Or.inr ⟨b, k, h1, h2, by omega⟩)
theorem M4_in {i : XI} (h : i ∈ M4) : i = .inr 1 ∨ i = .inr 2 ∨ i = .inr 3 ∨ ∃ k, i = .inl (1, k) := by
  rcases List.mem_append.mp h with h | h
  · exact Or.inl (List.mem_singleton.mp h)
  · rcases List.mem_append.mp h with h | h
    · obtain ⟨k, -, h1⟩ := M0_in h
      exact Or.inr (Or.inr (Or.inr ⟨k, h1⟩))
    · simp only [M3, List.append_nil, List.mem_cons, List.not_mem_nil, or_false] at h
      rcases h with h | h
      · exact Or.inr (Or.inl h)
      · exact Or.inr (Or.inr (Or.inl h))
theorem M00_in {i : XI} (h : i ∈ M0 0 ++ []) : ∃ k, i = .inl (0, k) := by
  rw [List.append_nil] at h
  obtain ⟨k, -, h1⟩ := M0_in h
  exact ⟨k, h1⟩
theorem M24_in {i : XI} (h : i ∈ M2 ++ (M4 ++ (M0 0 ++ []))) : (∃ k, i = .inr k ∧ 1 ≤ k ∧ k < 6) ∨ ∃ b k, i = .inl (b, k) ∧ b < 10 := by
  rcases List.mem_append.mp h with h | h
  · rcases M2_in h with rfl | rfl | ⟨b, k, rfl, -, h3⟩
    · exact Or.inl ⟨4, rfl, by decide, by decide⟩
    · exact Or.inl ⟨5, rfl, by decide, by decide⟩
    · exact Or.inr ⟨b, k, rfl, h3⟩
  · rcases List.mem_append.mp h with h | h
    · rcases M4_in h with rfl | rfl | rfl | ⟨k, rfl⟩
      · exact Or.inl ⟨1, rfl, by decide, by decide⟩
      · exact Or.inl ⟨2, rfl, by decide, by decide⟩
      · exact Or.inl ⟨3, rfl, by decide, by decide⟩
      · exact Or.inr ⟨1, k, rfl, by decide⟩
    · obtain ⟨k, rfl⟩ := M00_in h
      exact Or.inr ⟨0, k, rfl, by decide⟩
theorem N6_in {i : XI} (h : i ∈ N6) : (∃ k, i = .inr k ∧ 1 ≤ k ∧ k < 9 ∧ k ≠ 6) ∨ ∃ b k, i = .inl (b, k) ∧ b < 10 := by
  rcases List.mem_append.mp h with h | h
  · exact Or.inl ⟨8, List.mem_singleton.mp h, by decide, by decide, by decide⟩
  · rcases List.mem_append.mp h with h | h
    · exact Or.inl ⟨7, List.mem_singleton.mp h, by decide, by decide, by decide⟩
    · rcases M24_in h with ⟨k, h1, h2, h3⟩ | h
      · exact Or.inl ⟨k, h1, h2, by omega, by omega⟩
      · exact Or.inr h
theorem NC_in : ∀ {j : Nat} {i : XI}, i ∈ NC j → (∃ k, i = .inr k ∧ 1 ≤ k ∧ k < 9 ∧ k ≠ 6) ∨ ∃ b k, i = .inl (b, k) ∧ b < 10 + j
  | 0, i, h => N6_in h
  | j + 1, i, h => by
    rcases List.mem_append.mp h with h | h
    · obtain ⟨k, -, rfl⟩ := M0_in h
      exact Or.inr ⟨_, _, rfl, by omega⟩
    · rcases NC_in h with h | ⟨b, k, h1, h2⟩
      · exact Or.inl h
      · exact Or.inr ⟨b, k, h1, by omega⟩
theorem clo_00 : clo (M0 0 ++ []) := clo_add (clo0 0) clo_nil
theorem clo_40 : clo (M4 ++ (M0 0 ++ [])) := clo_add clo4 clo_00
theorem clo_24 : clo (M2 ++ (M4 ++ (M0 0 ++ []))) := clo_add clo2 clo_40
theorem NC_clo : ∀ j, clo (NC j)
  | 0 => clo_arr rfl (clo_arr rfl clo_24)
  | j + 1 => clo_add (clo0 _) (NC_clo j)
theorem NC_dis {j : Nat} : ∀ i ∈ NC j, i ∉ M0 (10 + j) := fun i hi h => by
  obtain ⟨k2, -, h4⟩ := M0_in h
  rcases NC_in hi with ⟨k, rfl, -⟩ | ⟨b, k, rfl, h2⟩
  · cases h4
  · have := (Prod.mk.inj (Sum.inl.inj h4)).1
    omega
theorem N6_NC {i : XI} (h : i ∈ N6) : ∀ j, i ∈ NC j
  | 0 => h
  | j + 1 => List.mem_append_right _ (N6_NC h j)
theorem NC_has : ∀ {j b k : Nat}, b < j → k < 20 → (.inl (10 + b, k) : XI) ∈ NC j
  | 0, b, k, h, _ => absurd h (Nat.not_lt_zero _)
  | j + 1, b, k, h, hk => by
    by_cases g : b = j
    · subst g; exact List.mem_append_left _ (M0_has hk)
    · exact List.mem_append_right _ (NC_has (by omega) hk)
theorem M6_has {b k : Nat} (hb : b < 12) (hk : k < 20) : (.inl (b, k) : XI) ∈ M6 := by
  refine List.mem_append_right _ (List.mem_append_right _ ?_)
  by_cases g : 10 ≤ b
  · have := NC_has (j := 2) (b := b - 10) (k := k) (by omega) hk
    rw [show 10 + (b - 10) = b by omega] at this
    exact this
  · refine N6_NC ?_ 2
    refine List.mem_append_right _ (List.mem_append_right _ ?_)
    by_cases g2 : 2 ≤ b
    · refine List.mem_append_left _ (List.mem_append_right _ (List.mem_append_right _ ?_))
      have := NB_has (j := 8) (b := b - 2) (k := k) (by omega) hk
      rw [show 2 + (b - 2) = b by omega] at this
      exact this
    · refine List.mem_append_right _ ?_
      by_cases g3 : b = 1
      · subst g3
        exact List.mem_append_left _ (List.mem_append_right _ (List.mem_append_left _ (M0_has hk)))
      · obtain rfl : b = 0 := by omega
        exact List.mem_append_right _ (List.mem_append_left _ (M0_has hk))
theorem n6_1 : (.inr 1 : XI) ∈ N6 := List.mem_append_right _ (List.mem_append_right _ (List.mem_append_right _ (List.mem_append_left _ (List.mem_append_left _ (List.mem_singleton.mpr rfl)))))
theorem n6_2 : (.inr 2 : XI) ∈ N6 := List.mem_append_right _ (List.mem_append_right _ (List.mem_append_right _ (List.mem_append_left _ (List.mem_append_right _ (List.mem_append_right _ (List.mem_append_left _ List.mem_cons_self))))))
theorem n6_3 : (.inr 3 : XI) ∈ N6 := List.mem_append_right _ (List.mem_append_right _ (List.mem_append_right _ (List.mem_append_left _ (List.mem_append_right _ (List.mem_append_right _ (List.mem_append_left _ (List.mem_cons_of_mem _ List.mem_cons_self)))))))
theorem n6_4 : (.inr 4 : XI) ∈ N6 := List.mem_append_right _ (List.mem_append_right _ (List.mem_append_left _ (List.mem_append_left _ (List.mem_singleton.mpr rfl))))
theorem n6_5 : (.inr 5 : XI) ∈ N6 := List.mem_append_right _ (List.mem_append_right _ (List.mem_append_left _ (List.mem_append_right _ (List.mem_append_left _ (List.mem_singleton.mpr rfl)))))
theorem n6_7 : (.inr 7 : XI) ∈ N6 := List.mem_append_right _ (List.mem_append_left _ (List.mem_singleton.mpr rfl))
theorem n6_8 : (.inr 8 : XI) ∈ N6 := List.mem_append_left _ (List.mem_singleton.mpr rfl)
theorem M6_hasr {k : Nat} (hk : k < 9) : (.inr k : XI) ∈ M6 := by
  match k, hk with
  | 0, _ => exact List.mem_append_left _ (List.mem_singleton.mpr rfl)
  | 1, _ => exact List.mem_append_right _ (List.mem_append_right _ (N6_NC n6_1 2))
  | 2, _ => exact List.mem_append_right _ (List.mem_append_right _ (N6_NC n6_2 2))
  | 3, _ => exact List.mem_append_right _ (List.mem_append_right _ (N6_NC n6_3 2))
  | 4, _ => exact List.mem_append_right _ (List.mem_append_right _ (N6_NC n6_4 2))
  | 5, _ => exact List.mem_append_right _ (List.mem_append_right _ (N6_NC n6_5 2))
  | 6, _ => exact List.mem_append_right _ (List.mem_append_left _ (List.mem_singleton.mpr rfl))
  | 7, _ => exact List.mem_append_right _ (List.mem_append_right _ (N6_NC n6_7 2))
  | 8, _ => exact List.mem_append_right _ (List.mem_append_right _ (N6_NC n6_8 2))
  | n + 9, h => exact absurd h (by omega)
theorem M6_in {i : XI} (h : i ∈ M6) : (∃ k, i = .inr k ∧ k < 9) ∨ ∃ b k, i = .inl (b, k) ∧ b < 12 := by
  rcases List.mem_append.mp h with h | h
  · exact Or.inl ⟨0, List.mem_singleton.mp h, by decide⟩
  · rcases List.mem_append.mp h with h | h
    · exact Or.inl ⟨6, List.mem_singleton.mp h, by decide⟩
    · rcases NC_in h with ⟨k, h1, -, h3, -⟩ | h
      · exact Or.inl ⟨k, h1, h3⟩
      · exact Or.inr h
theorem clo_6 : clo ([.inr 6] ++ NC 2) := clo_app (fun k hk j hj => by
  obtain rfl := List.mem_singleton.mp hk
  have hj2 : j ∈ (List.range 2).map (xrr (.inr 6)) := hj
  obtain ⟨b, hb, rfl⟩ := List.mem_map.mp hj2
  exact List.mem_append_right _ (NC_has (List.mem_range.mp hb) (by decide))) (NC_clo 2)
theorem cloM6 : clo M6 := clo_app (fun k hk j hj => by
  obtain rfl := List.mem_singleton.mp hk
  simp only [rfs, xsh, List.filterMap_cons, id_eq, List.filterMap_nil, List.mem_cons, List.not_mem_nil, or_false] at hj
  rcases hj with rfl | rfl | rfl | rfl | rfl | rfl
  · exact M6_has (by decide) (by decide)
  · exact M6_hasr (by decide)
  · exact M6_hasr (by decide)
  · exact M6_hasr (by decide)
  · exact M6_hasr (by decide)
  · exact M6_hasr (by decide)) clo_6
abbrev rb_X6_init : Room := { frames := 8, cells := 420, slots := 13000, locals := 170 }
abbrev L6 (q qa : Nat) (a b c d e : Nat) (f : va_E) : va_W := [(q, .inr (6, [.ref a, .ref b, .ref c, .ref qa, .ref d, .ref e, .int 0])), (qa, f)]
set_option maxRecDepth 100000 in
set_option maxHeartbeats 4000000 in
theorem L_X6_init {l : Launch} {ad0 : XI → Nat} {q qa z0 z1 z2 z4 z5 : Nat} (C : BX p s m args meth c P0 A 2 RX6 cX6_init)
    (kx : ∀ (ad : XI → Nat) (f : Nat → Option Nat), (∀ k, k < 2 → f k = some (ad (.inl (10 + k, 0)))) → (∀ i ∈ N6, ad i = ad0 i) → BW p l e rb_X6_init s m args below meth c P0 A 2 420 13000 Q s0 (L6 q qa z0 z1 z2 z4 z5 (qE P0 2 f)) (NC 2) ad 87 [(0, .ref q), (1, .int (nI 2))] []) :
    ∀ (fu j cells slots : Nat) (ad : XI → Nat) (f : Nat → Option Nat), j + fu = 2 → cells + 31 * fu ≤ 420 → slots + 807 * fu ≤ 13000 → (∀ k, k < j → f k = some (ad (.inl (10 + k, 0)))) → (∀ i ∈ N6, ad i = ad0 i) → BW p l e rb_X6_init s m args below meth c P0 A 2 cells slots Q s0 (L6 q qa z0 z1 z2 z4 z5 (qE P0 2 f)) (NC j) ad 63 [(0, .ref q), (1, .int (nI j))] [] := by
  intro fu
  induction fu with
  | zero =>
    intro j cells slots ad f hj hc hs hf h6
    obtain rfl : j = 2 := by omega
    refine B_iload_n (pc := 63) C 1 dX6_init_63 rfl rfl ?_
    refine B_iconst (pc := 64) (v := 2) C dX6_init_64 (by decide) ?_
    refine B_icmp_ge (pc := 65) C 87 dX6_init_65 (by decide) (fun _ => ?_) (fun h => absurd (show (2 : Int32) ≤ nI 2 by decide) h)
    exact BW.widen (by omega) (by omega) (kx ad f hf h6)
  | succ fu ih =>
    intro j cells slots ad f hj hc hs hf h6
    refine B_iload_n (pc := 63) C 1 dX6_init_63 rfl rfl ?_
    refine B_iconst (pc := 64) (v := 2) C dX6_init_64 (by decide) ?_
    refine B_icmp_ge (pc := 65) C 87 dX6_init_65 (by decide) (fun h => absurd (nle (a := 2) h (by omega) (by omega)) (by omega)) (fun _ => ?_)
    refine B_aload_n (pc := 68) C 0 dX6_init_68 rfl rfl ?_
    refine B_get (pc := 69) C 0 3 inX6 rfl rfl (by decide) m_f_X6_30 rfl dX6_init_69 ?_
    refine B_iload_n (pc := 72) C 1 dX6_init_72 rfl rfl ?_
    refine B_new (pc := 73) (ci := 0) C tyX0 tyX0_ok inX0 m_l_X6_9 m_x_X0 m_n_X0 rfl dvX0 ⟨show cells + 1 ≤ 420 by omega, show slots + 7 ≤ 13000 by omega⟩ dX6_init_73 (fun qb => ?_)
    refine B_dup (pc := 76) C dX6_init_76 ?_
    refine B_callN (pc := 77) (q := qb) (i0 := .inl (10 + j, 0)) (M := M0 (10 + j)) C (b_X0_init l P0 (10 + j)) m_c_X0_init C.hN.1 m_i_X0_init m_n_X0 rfl ⟨by decide +kernel, by decide +kernel, by decide +kernel⟩ ⟨(Nat.le_of_ble_eq_true rfl), (Nat.le_of_ble_eq_true rfl)⟩ ⟨show cells + 1 + 30 ≤ 420 by omega, show slots + 7 + 800 ≤ 13000 by omega⟩ (NC_clo j) (clo0 _) NC_dis (M0_has (by decide)) (Nat.le_of_ble_eq_true rfl) dX6_init_77 (fun a1 w1 e1 => ?_)
    subst w1
    refine B_astq (pc := 80) (n := 2) (j := j) (f := f) C 1 rfl (List.mem_append_left _ (M0_has (by decide))) (by omega) (by decide) dX6_init_80 ?_
    refine B_iincN (pc := 81) (lv1 := [(0, _), (1, _)]) C dX6_init_81 rfl (by decide) (by decide) rfl ?_
    refine B_goto (pc := 84) C 63 dX6_init_84 (by decide) ?_
    refine ih (j + 1) _ _ a1 _ (by omega) (by show cells + 1 + 30 + 31 * fu ≤ 420; omega) (by show slots + 7 + 800 + 807 * fu ≤ 13000; omega) (fun k hk => ?_) (fun i hi => (e1 i (N6_NC hi j)).trans (h6 i hi))
    by_cases g : k = j
    · subst g; exact va_up_self _ _ _
    · rw [va_up_ne _ _ g, hf k (by omega), e1 _ (NC_has (by omega) (by decide))]
set_option maxRecDepth 100000 in
set_option maxHeartbeats 4000000 in
theorem first_fr : Fr 1 (uFill s0 8 121) g3.2.1 := by
  have t1 : Fr 1 (uFill s0 8 121) w1 := uText_fr
  have t2 : Fr 1 w1 g1.2.1 := rBrd_fr
  have t3 : Fr 1 g1.2.1 g2.2.1 := rTols_fr 5 _ _ _
  have t4 : Fr 1 g2.2.1 g3.2.1 := rUsers_fr
  exact ((t1.trans t2).trans t3).trans t4
set_option maxRecDepth 100000 in
set_option maxHeartbeats 4000000 in
/-- the walk behind the making: the first text is read -/
theorem T_X6_init {l : Launch} {q : Nat} (C : BX p s m args meth c P0 A 2 RX6 cX6_init) (hD : BD A [] M6 ad) (e0 : ad (.inr 0) = q) : XW p l e rb_X6_init s m args below meth c (PN P0 M6 ad) A 2 420 13000 (MQ below (BQ P0 A q (.inr 0) M6 sX0) args s 420 13000 A) s0 87 [(0, .ref q), (1, .int (nI 2))] [] := by
  subst e0
  obtain ⟨⟨a1, -⟩, ⟨b1, -⟩, c1, -, -⟩ := first_ok
  have a0 : ¬ g1.1 = 0 := by rw [a1]; decide
  have b0 : ¬ g2.1 = 0 := by rw [b1]; decide
  have r0at : At w1 121 0 := At_text fill_Tx
  obtain ⟨r1at, r1bd, r1nu, r1nt⟩ := (rBrd_ok r0at).2 a0
  obtain ⟨r2at, r2bd, r2nu⟩ := rTols_ok 5 0 g1.2.1 g1.2.2 rfl r1at r1bd rfl r1nt b0
  have D : XC p s m args meth c (PN P0 M6 ad) A 2 RX6 cX6_init none := C.x hD
  have h0 : xI0 (PN P0 M6 ad) := fun k hk => M6_hasr hk
  have hb : ∀ b, b < 12 → xIn (PN P0 M6 ad) b := fun b hb k hk => M6_has hb hk
  have hz : xZ g3.2.1 1 := first_fr.2.2 (fun k _ => by rw [uFill_o (by simp) (by simp), uFill_o (by simp) (by simp)]; exact ⟨rfl, rfl⟩)
  have k1 : XF l yX4_readBoard cX4_readBoard 3 (some .boolean) rm_X4_readBoard (PN P0 M6 ad) [.ref ((PN P0 M6 ad).2.2.1 (.inr 1))] w1 (some (.int g1.1)) g1.2.1 := c_X4_readBoard l _ w1 h0 (hb 1 (by decide)) 121 0 r0at
  have k2 : XF l yX4_readTrunks cX4_readTrunks 3 (some .boolean) rm_X4_readTrunks (PN P0 M6 ad) [.ref ((PN P0 M6 ad).2.2.1 (.inr 1))] g1.2.1 (some (.int g2.1)) g2.2.1 := c_X4_readTrunks l _ g1.2.1 h0 (hb 1 (by decide)) 121 g1.2.2 r1at r1bd _ ⟨rfl, r1nt⟩
  have k3 : XF l yX4_readSubscribers cX4_readSubscribers 2 (some .boolean) rm_X4_readSubscribers (PN P0 M6 ad) [.ref ((PN P0 M6 ad).2.2.1 (.inr 1))] g2.2.1 (some (.int g3.1)) g3.2.1 := c_X4_readSubscribers l _ g2.2.1 h0 (hb 1 (by decide)) 121 g2.2.2 r2at r2bd _ ⟨r2nu.trans r1nu, rfl⟩
  have k0 : XF l yX4_startText cX4_startText 1 none rm_X4_startText (PN P0 M6 ad) [.ref ((PN P0 M6 ad).2.2.1 (.inr 1))] (uFill s0 8 121) none w1 := c_X4_startText l _ (uFill s0 8 121) h0 121 (by decide) (fill_n 121) fill_Tx.2.2
  have hF : XF l yX3_fill cX3_fill 3 none rm_X3_fill (PN P0 M6 ad) [.ref ((PN P0 M6 ad).2.2.1 (.inr 2)), .ref (xK (PN P0 M6 ad) 8)] s0 none (uFill s0 8 121) := by
    have h := c_X3_fill l (PN P0 M6 ad) s0 h0 rfl 8 (by decide)
    rw [show xln 8 = 121 from rfl] at h
    exact h
  refine X_aload_n (pc := 87) D 0 dX6_init_87 rfl rfl ?_
  refine G_X6_19 (pc := 88) D h0 dX6_init_88 ?_
  refine G_X6_42 (pc := 91) D h0 dX6_init_91 ?_
  refine X_ldcS (pc := 94) (q := 8) D (List.mem_of_getElem? (i := 8) rfl) dX6_init_94 ?_
  refine X_fV (i := .inr 2) (ci := 3) (n := 1) (pc := 96) D [.ref _] hF m_c_X3_fill m_m_X6_48 m_i_X3_fill m_s_X3_fill m_n_X3 ⟨by decide +kernel, by decide +kernel, by decide +kernel⟩ ⟨(Nat.le_of_ble_eq_true rfl), (Nat.le_of_ble_eq_true rfl)⟩ ⟨rfl, rfl⟩ ⟨(Nat.le_of_ble_eq_true rfl), (Nat.le_of_ble_eq_true rfl)⟩ (h0 2 (by decide)) rfl rfl rfl rfl (Nat.le_of_ble_eq_true rfl) rfl dX6_init_96 ?_
  refine X_aload_n (pc := 99) D 0 dX6_init_99 rfl rfl ?_
  refine G_X6_19 (pc := 100) D h0 dX6_init_100 ?_
  refine K_X6_54 (pc := 103) D h0 k0 ⟨(Nat.le_of_ble_eq_true rfl), (Nat.le_of_ble_eq_true rfl)⟩ ⟨rfl, rfl⟩ ⟨(Nat.le_of_ble_eq_true rfl), (Nat.le_of_ble_eq_true rfl)⟩ (Nat.le_of_ble_eq_true rfl) dX6_init_103 ?_
  refine X_aload_n (pc := 106) D 0 dX6_init_106 rfl rfl ?_
  refine G_X6_19 (pc := 107) D h0 dX6_init_107 ?_
  refine K_X6_57 (pc := 110) D h0 k1 ⟨(Nat.le_of_ble_eq_true rfl), (Nat.le_of_ble_eq_true rfl)⟩ ⟨rfl, rfl⟩ ⟨(Nat.le_of_ble_eq_true rfl), (Nat.le_of_ble_eq_true rfl)⟩ (Nat.le_of_ble_eq_true rfl) dX6_init_110 ?_
  refine X_if_eq (pc := 113) D 150 dX6_init_113 (by decide) (fun h => absurd (a1.symm.trans h) (by decide)) (fun _ => ?_)
  refine X_aload_n (pc := 116) D 0 dX6_init_116 rfl rfl ?_
  refine G_X6_19 (pc := 117) D h0 dX6_init_117 ?_
  refine K_X6_61 (pc := 120) D h0 k2 ⟨(Nat.le_of_ble_eq_true rfl), (Nat.le_of_ble_eq_true rfl)⟩ ⟨rfl, rfl⟩ ⟨(Nat.le_of_ble_eq_true rfl), (Nat.le_of_ble_eq_true rfl)⟩ (Nat.le_of_ble_eq_true rfl) dX6_init_120 ?_
  refine X_if_eq (pc := 123) D 150 dX6_init_123 (by decide) (fun h => absurd (b1.symm.trans h) (by decide)) (fun _ => ?_)
  refine X_aload_n (pc := 126) D 0 dX6_init_126 rfl rfl ?_
  refine G_X6_19 (pc := 127) D h0 dX6_init_127 ?_
  refine K_X6_64 (pc := 130) D h0 k3 ⟨(Nat.le_of_ble_eq_true rfl), (Nat.le_of_ble_eq_true rfl)⟩ ⟨rfl, rfl⟩ ⟨(Nat.le_of_ble_eq_true rfl), (Nat.le_of_ble_eq_true rfl)⟩ (Nat.le_of_ble_eq_true rfl) dX6_init_130 ?_
  refine X_if_eq (pc := 133) D 150 dX6_init_133 (by decide) (fun h => absurd (c1.symm.trans h) (by decide)) (fun _ => ?_)
  refine X_aload_n (pc := 136) D 0 dX6_init_136 rfl rfl ?_
  refine G_X6_12 (pc := 137) D h0 dX6_init_137 ?_
  refine X_aload_n (pc := 140) D 0 dX6_init_140 rfl rfl ?_
  refine G_X6_19 (pc := 141) D h0 dX6_init_141 ?_
  refine G_X6_67 (pc := 144) D h0 dX6_init_144 ?_
  refine K_X6_70 (pc := 147) (b := 0) (a0 := .inl (1, 0)) D (hb 0 (by decide)) (c_X0_copyFrom l _ g3.2.1 0 1 (hb 0 (by decide)) (hb 1 (by decide)) hz) ⟨(Nat.le_of_ble_eq_true rfl), (Nat.le_of_ble_eq_true rfl)⟩ ⟨rfl, rfl⟩ ⟨(Nat.le_of_ble_eq_true rfl), (Nat.le_of_ble_eq_true rfl)⟩ (Nat.le_of_ble_eq_true rfl) dX6_init_147 ?_
  refine X_aload_n (pc := 150) D 0 dX6_init_150 rfl rfl ?_
  refine G_X6_19 (pc := 151) D h0 dX6_init_151 ?_
  refine G_X6_42 (pc := 154) D h0 dX6_init_154 ?_
  refine X_iconst (pc := 157) (v := 0) D dX6_init_157 (by decide) ?_
  refine K_X6_74 (pc := 158) D h0 (c_X3_shorten l _ (uCopyB g3.2.1 0 1) h0 0) ⟨(Nat.le_of_ble_eq_true rfl), (Nat.le_of_ble_eq_true rfl)⟩ ⟨rfl, rfl⟩ ⟨(Nat.le_of_ble_eq_true rfl), (Nat.le_of_ble_eq_true rfl)⟩ (Nat.le_of_ble_eq_true rfl) dX6_init_158 ?_
  exact X_endB (pc := 161) C hD rfl (Nat.le_refl _) (Nat.le_refl _) dX6_init_161
set_option maxRecDepth 100000 in
set_option maxHeartbeats 4000000 in
theorem b_X6_init (l : Launch) (P0 : XP) : BC l yX6_init cX6_init 2 rb_X6_init P0 sX0 (.inr (6, fsX6)) (.inr 0) M6 := by
  refine BC.of2 (σ := s0) (by decide +kernel) (by decide +kernel) (by decide) (fun q p e s m args below meth c A C => ?_)
  replace C : BX p s m args meth c P0 A 2 RX6 cX6_init := C
  refine B_aload_n (pc := 0) C 0 dX6_init_0 rfl rfl ?_
  refine B_obj (pc := 1) C m_m_X6_3 ⟨(Nat.le_of_ble_eq_true rfl), (Nat.le_of_ble_eq_true rfl)⟩ dX6_init_1 ?_
  refine B_aload_n (pc := 4) C 0 dX6_init_4 rfl rfl ?_
  refine B_new (pc := 5) (ci := 0) C tyX0 tyX0_ok inX0 m_l_X6_9 m_x_X0 m_n_X0 rfl dvX0 ⟨(Nat.le_of_ble_eq_true rfl), (Nat.le_of_ble_eq_true rfl)⟩ dX6_init_5 (fun q0 => ?_)
  refine B_dup (pc := 8) C dX6_init_8 ?_
  refine B_callN (pc := 9) (q := q0) (i0 := .inl (0, 0)) (M := M0 0) C (b_X0_init l P0 0) m_c_X0_init C.hN.1 m_i_X0_init m_n_X0 rfl ⟨by decide +kernel, by decide +kernel, by decide +kernel⟩ ⟨(Nat.le_of_ble_eq_true rfl), (Nat.le_of_ble_eq_true rfl)⟩ ⟨(Nat.le_of_ble_eq_true rfl), (Nat.le_of_ble_eq_true rfl)⟩ clo_nil (clo0 0) (fun _ h => nomatch h) (M0_has (by decide)) (Nat.le_of_ble_eq_true rfl) dX6_init_9 (fun a0 w0 e0 => ?_)
  refine B_putF (pc := 12) C 0 0 tyX6 tyX6_ok nmX6 inX6 rfl rfl (by decide) m_f_X6_12 rfl rfl rfl rfl (Nat.le_of_ble_eq_true rfl) dX6_init_12 ?_
  refine B_aload_n (pc := 15) C 0 dX6_init_15 rfl rfl ?_
  refine B_new (pc := 16) (ci := 4) C tyX4 tyX4_ok inX4 m_l_X6_16 m_x_X4 m_n_X4 rfl dvX4 ⟨(Nat.le_of_ble_eq_true rfl), (Nat.le_of_ble_eq_true rfl)⟩ dX6_init_16 (fun q1 => ?_)
  refine B_dup (pc := 19) C dX6_init_19 ?_
  refine B_callN (pc := 20) (q := q1) (i0 := .inr 1) (M := M4) C (b_X4_init l P0) m_c_X4_init C.hN.2.2.2.1 m_i_X4_init m_n_X4 rfl ⟨by decide +kernel, by decide +kernel, by decide +kernel⟩ ⟨(Nat.le_of_ble_eq_true rfl), (Nat.le_of_ble_eq_true rfl)⟩ ⟨(Nat.le_of_ble_eq_true rfl), (Nat.le_of_ble_eq_true rfl)⟩ clo_00 clo4 (fun j hj h => by
    obtain ⟨k, rfl⟩ := M00_in hj
    rcases M4_in h with h | h | h | ⟨k2, h⟩ <;> cases h) (List.mem_append_left _ (List.mem_singleton.mpr rfl)) (Nat.le_of_ble_eq_true rfl) dX6_init_20 (fun a1 w1 e1 => ?_)
  refine B_putF (pc := 23) C 0 1 tyX6 tyX6_ok nmX6 inX6 rfl rfl (by decide) m_f_X6_19 rfl rfl rfl rfl (Nat.le_of_ble_eq_true rfl) dX6_init_23 ?_
  refine B_aload_n (pc := 26) C 0 dX6_init_26 rfl rfl ?_
  refine B_new (pc := 27) (ci := 2) C tyX2 tyX2_ok inX2 m_l_X6_23 m_x_X2 m_n_X2 rfl dvX2 ⟨(Nat.le_of_ble_eq_true rfl), (Nat.le_of_ble_eq_true rfl)⟩ dX6_init_27 (fun q2 => ?_)
  refine B_dup (pc := 30) C dX6_init_30 ?_
  refine B_callI (pc := 31) (q := q2) (i0 := .inr 4) (M := M2) C (b_X2_init l P0) m_c_X2_init m_m_X6_25 m_i_X2_init m_n_X2 rfl ⟨by decide +kernel, by decide +kernel, by decide +kernel⟩ ⟨(Nat.le_of_ble_eq_true rfl), (Nat.le_of_ble_eq_true rfl)⟩ ⟨(Nat.le_of_ble_eq_true rfl), (Nat.le_of_ble_eq_true rfl)⟩ clo_40 clo2 (fun j hj h => by
    rcases List.mem_append.mp hj with hj | hj
    · rcases M4_in hj with rfl | rfl | rfl | ⟨k, rfl⟩ <;> rcases M2_in h with h | h | ⟨b, k2, h, h1, h2⟩ <;> first | (cases h; done) | (cases h; omega)
    · obtain ⟨k, rfl⟩ := M00_in hj
      rcases M2_in h with h | h | ⟨b, k2, h, h1, h2⟩ <;> first | (cases h; done) | (cases h; omega)) (List.mem_append_left _ (List.mem_singleton.mpr rfl)) (Nat.le_of_ble_eq_true rfl) dX6_init_31 (fun a2 w2 e2 => ?_)
  refine B_putF (pc := 34) C 0 2 tyX6 tyX6_ok nmX6 inX6 rfl rfl (by decide) m_f_X6_26 rfl rfl rfl rfl (Nat.le_of_ble_eq_true rfl) dX6_init_34 ?_
  refine B_aload_n (pc := 37) C 0 dX6_init_37 rfl rfl ?_
  refine B_iconst (pc := 38) (v := 2) C dX6_init_38 (by decide) ?_
  refine B_newq (pc := 39) (n := 2) C m_l_X6_9 rfl (by decide) ⟨(Nat.le_of_ble_eq_true rfl), (Nat.le_of_ble_eq_true rfl)⟩ dX6_init_39 (fun qa => ?_)
  refine B_putF (pc := 42) C 0 3 tyX6 tyX6_ok nmX6 inX6 rfl rfl (by decide) m_f_X6_30 rfl rfl rfl rfl (Nat.le_of_ble_eq_true rfl) dX6_init_42 ?_
  refine B_aload_n (pc := 45) C 0 dX6_init_45 rfl rfl ?_
  refine B_iconst (pc := 46) (v := 2) C dX6_init_46 (by decide) ?_
  refine B_newa (atype := .boolean) (ty := .boolean) (pc := 47) (n := 2) (t0 := 1) C (.inr 7) rfl m_a_boolean rfl (fun _ h => h) (2, .inl (fun _ => 0)) (fun _ => rfl) (fun _ => rfl) (fun h => by
    rcases M24_in h with ⟨k, h, -, h2⟩ | ⟨b, k, h, -⟩
    · cases h; omega
    · cases h) clo_24 rfl (by decide) (by decide) ⟨(Nat.le_of_ble_eq_true rfl), (Nat.le_of_ble_eq_true rfl)⟩ dX6_init_47 (fun a7 e7 => ?_)
  refine B_putF (pc := 49) C 0 4 tyX6 tyX6_ok nmX6 inX6 rfl rfl (by decide) m_f_X6_34 rfl rfl rfl rfl (Nat.le_of_ble_eq_true rfl) dX6_init_49 ?_
  refine B_aload_n (pc := 52) C 0 dX6_init_52 rfl rfl ?_
  refine B_sipush (pc := 53) (v := 560) C dX6_init_53 (by decide) ?_
  refine B_newa (atype := .int) (ty := .int) (pc := 56) (n := 560) (t0 := 0) C (.inr 8) rfl m_a_int rfl (fun _ h => h) (560, .inl (fun _ => 0)) (fun _ => rfl) (fun _ => rfl) (fun h => by
    rcases List.mem_append.mp h with h | h
    · simp at h
    · rcases M24_in h with ⟨k, h, -, h2⟩ | ⟨b, k, h, -⟩
      · cases h; omega
      · cases h) (clo_arr rfl clo_24) rfl (by decide) (by decide) ⟨(Nat.le_of_ble_eq_true rfl), (Nat.le_of_ble_eq_true rfl)⟩ dX6_init_56 (fun a8 e8 => ?_)
  refine B_putF (pc := 58) C 0 5 tyX6 tyX6_ok nmX6 inX6 rfl rfl (by decide) m_f_X6_38 rfl rfl rfl rfl (Nat.le_of_ble_eq_true rfl) dX6_init_58 ?_
  refine B_iconst (pc := 61) (v := nI 0) C dX6_init_61 (by decide) ?_
  refine B_istore_n (pc := 62) (lv1 := [(0, _), (1, _)]) C 1 dX6_init_62 rfl (by decide) rfl ?_
  refine L_X6_init (l := l) (q := q) (qa := qa) (ad0 := a8) C (fun ad f hf h6 => ?_) 2 0 _ _ _ _ (by decide) (by exact Nat.le_of_ble_eq_true rfl) (by exact Nat.le_of_ble_eq_true rfl) (fun k hk => absurd hk (Nat.not_lt_zero _)) (fun _ _ => rfl)
  refine B_seal (hs := [(q, _)]) (.inr 6) (fun h => by
    rcases NC_in h with ⟨k, h, -, -, h2⟩ | ⟨b, k, h, -⟩
    · cases h; exact h2 rfl
    · cases h) (NC_clo 2) (fun ad1 v0 v1 H h => ?_) (fun b6 w6 e6 => ?_)
  · show H[qa]? = some (arrV (P0.2.1 3) 2 (fun k => va_rf (some (ad1 (xrr (.inr 6) k)))))
    have h1 : H[qa]? = some (arrV (P0.2.1 3) 2 (fun k => va_rf (f k))) := h
    rw [h1]
    refine congrArg some (arrV_cg (fun k hk => ?_))
    rw [hf k hk, ← v1 _ (NC_has hk (by decide))]
    rfl
  · refine B_seal (hs := []) (.inr 0) (fun h => by
      rcases List.mem_append.mp h with h | h
      · simp at h
      · rcases NC_in h with ⟨k, h, h1, -, -⟩ | ⟨b, k, h, -⟩
        · cases h; omega
        · cases h) clo_6 (fun ad1 v0 v1 H h => ?_) (fun b0 x0 e9 => ?_)
    · have h6c : ∀ i ∈ N6, ad1 i = a8 i := fun i hi => ((v1 i (List.mem_append_right _ (N6_NC hi 2))).trans (e6 i (N6_NC hi 2))).trans (h6 i hi)
      have m0 : (.inl (0, 0) : XI) ∈ M0 0 ++ [] := List.mem_append_left _ (M0_has (by decide))
      have m1 : (.inl (0, 0) : XI) ∈ M4 ++ (M0 0 ++ []) := List.mem_append_right _ m0
      have m2 : (.inl (0, 0) : XI) ∈ M2 ++ (M4 ++ (M0 0 ++ [])) := List.mem_append_right _ m1
      have k1 : (.inr 1 : XI) ∈ M4 ++ (M0 0 ++ []) := List.mem_append_left _ (List.mem_append_left _ (List.mem_singleton.mpr rfl))
      have k2 : (.inr 1 : XI) ∈ M2 ++ (M4 ++ (M0 0 ++ [])) := List.mem_append_right _ k1
      have l2 : (.inr 4 : XI) ∈ M2 ++ (M4 ++ (M0 0 ++ [])) := List.mem_append_left _ (List.mem_append_left _ (List.mem_singleton.mpr rfl))
      have f0 : ad1 (.inl (0, 0)) = q0 := (((((h6c _ (List.mem_append_right _ (List.mem_append_right _ m2))).trans (e8 _ (List.mem_append_right _ m2))).trans (e7 _ m2)).trans (e2 _ m1)).trans (e1 _ m0)).trans w0
      have f1 : ad1 (.inr 1) = q1 := ((((h6c _ n6_1).trans (e8 _ (List.mem_append_right _ k2))).trans (e7 _ k2)).trans (e2 _ k1)).trans w1
      have f2 : ad1 (.inr 4) = q2 := (((h6c _ n6_4).trans (e8 _ (List.mem_append_right _ l2))).trans (e7 _ l2)).trans w2
      have f3 : ad1 (.inr 6) = qa := (v1 _ (List.mem_append_left _ (List.mem_singleton.mpr rfl))).trans w6
      have f4 : ad1 (.inr 7) = a7 (.inr 7) := (h6c _ n6_7).trans (e8 _ (List.mem_append_left _ (List.mem_singleton.mpr rfl)))
      have f5 : ad1 (.inr 8) = a8 (.inr 8) := h6c _ n6_8
      have ex : xce (PN P0 [.inr 0] ad1) s0 (.inr 0) = .inr (6, [.ref q0, .ref q1, .ref q2, .ref qa, .ref (a7 (.inr 7)), .ref (a8 (.inr 8)), .int 0]) := by
        rw [xce_o rfl]
        simp only [xfs, xv, f0, f1, f2, f3, f4, f5]
        rfl
      rw [ex]
      exact h
    · exact B_toX (σ1 := s0) (fun _ _ => ⟨rfl, rfl⟩) (fun hD => T_X6_init C hD x0)
end XP85

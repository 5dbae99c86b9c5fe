/-! acts, WALKED -/
def AV (σ : XS) (S : Nat → Int32) (T o ch : Nat) : Prop := GV σ S o ch ∧ PS S T ∧ PB S ∧ PE S T
def PA (P : XP) (w0 : va_W) (i a : Nat) (S0 : Nat → Int32) (T0 : Nat) (v : Option Value) (τ : XS) (w : va_W) : Prop := v = some (.int 1) ∧ ∃ (S1 : Nat → Int32) (T1 o1 ch1 : Nat) (f1 : Nat → Int32), w = w0.set i (iC P a f1) ∧ AV τ S1 T1 o1 ch1 ∧ T1 ≤ T0 + 200 ∧ mU S1 = mU S0
theorem of01 {n : Nat} (h : (if 0 < n then (1 : Int32) else 0) = 0) : n = 0 := by
  by_cases g : 0 < n
  · rw [if_pos g] at h; exact absurd h (by decide)
  · omega
section X83
variable {p : Program} {l : Launch} {e : Env} {R : Room} {s : State} {m : MethodId} {args : Array Value} {below : List Frame} {meth : Method} {c : Code} {P : XP} {A : Nat → Prop}  {Q : State → Prop} {cc : ByteArray} {ret : Option FieldType} {σ : XS} {pc : Nat} {lv : List (Nat × Value)} {st : List Value}
variable {S S0 : Nat → Int32} {o ch : Nat} {k T T0 u i a : Nat} {w0 : va_W} {f : Nat → Int32}

set_option maxRecDepth 100000 in
set_option maxHeartbeats 4000000 in
theorem aL {n : Nat} {due all : Int32} (hl0 : l.stackTraces = false) (C : XC p s m args meth c (xPR P (w0.set i (iC P a f))) A 11 RL cL_acts (some .boolean)) (hP : XA P) (hG : GV σ S o ch) (hn : n = mU S) (hd : ∀ j, j < mU S → bt due j = true → sU S 4 j &&& all = all ∧ ¬ sU S 2 j < 5) (hR : PA P w0 i a S0 T0 (some (.int 1)) σ (w0.set i (iC P a f))) (hk : k + 2 * n ≤ 100) : ∀ (q j : Nat), j + q = n → XW p l e rm_L_acts s m args below meth c (xPR P (w0.set i (iC P a f))) A 11 (k + 2 * j) (6 * (k + 2 * j)) (MQ below (XQB P A (PA P w0 i a S0 T0)) args s rm_L_acts.cells rm_L_acts.slots A) σ 293 [(0, .ref (P.2.2.1 (.inr 0))), (1, .ref a), (2, .int (nI n)), (7, .int due), (8, .int all), (10, .int (nI j))] [] := by
  have u15 := hG.b.x.i.u15
  intro q
  induction q with
  | zero =>
    intro j hj0
    obtain rfl : j = n := by omega
    refine X_iload (pc := 293) C dL_acts_293 rfl ?_
    refine X_iload_n (pc := 295) C 2 dL_acts_295 rfl rfl ?_
    refine X_icmp_ge (pc := 296) C 342 dL_acts_296 (by decide) (fun h => ?_) (fun h => absurd (Int32.le_refl _) h)
    refine X_iconst (pc := 342) (v := 1) C dL_acts_342 (by decide) ?_
    exact X_retIB (P := P) (pc := 343) C rfl (by show _ ≤ 100; omega) (by show _ ≤ 600; omega) dL_acts_343 hR
  | succ q ih =>
    intro j hj0
    have hj : j < mU S := by omega
    have m336 : XW p l e rm_L_acts s m args below meth c (xPR P (w0.set i (iC P a f))) A 11 (k + 2 * (j + 1)) (6 * (k + 2 * (j + 1))) (MQ below (XQB P A (PA P w0 i a S0 T0)) args s rm_L_acts.cells rm_L_acts.slots A) σ 336 [(0, .ref (P.2.2.1 (.inr 0))), (1, .ref a), (2, .int (nI n)), (7, .int due), (8, .int all), (10, .int (nI j))] [] := by
      first | refine X_iincN (pc := 336) (lv1 := [(0, _), (1, _), (2, _), (7, _), (8, _), (10, _)]) C dL_acts_336 rfl (by decide) (by decide) rfl ?_ | refine X_iinc (pc := 336) (kk := 1) (lv1 := [(0, _), (1, _), (2, _), (7, _), (8, _), (10, _)]) C dL_acts_336 rfl (by decide) (by decide) rfl ?_
      refine X_goto (pc := 339) C 293 dL_acts_339 (by decide) ?_
      exact ih (j + 1) (by omega)
    refine X_iload (pc := 293) C dL_acts_293 rfl ?_
    refine X_iload_n (pc := 295) C 2 dL_acts_295 rfl rfl ?_
    refine X_icmp_ge (pc := 296) C 342 dL_acts_296 (by decide) (fun h => absurd h (nI_ge (by omega) (n31 (by omega)))) (fun h => ?_)
    rcases Bool.eq_false_or_eq_true (bt due j) with g | g
    · have hq := hd j hj g
      refine X_iload (pc := 299) C dL_acts_299 rfl ?_
      refine X_iload (pc := 301) C dL_acts_301 rfl ?_
      refine X_ishr (pc := 303) C dL_acts_303 ?_
      refine X_iconst (pc := 304) (v := 1) C dL_acts_304 (by decide) ?_
      refine X_iand (pc := 305) C dL_acts_305 ?_
      refine X_iconst (pc := 306) (v := 1) C dL_acts_306 (by decide) ?_
      refine X_icmp_ne (pc := 307) C 336 dL_acts_307 (by decide) (fun h => XW.up (by omega) (by omega) m336) (fun h307 => ?_)
      refine X_aload_n (pc := 310) C 0 dL_acts_310 rfl rfl ?_
      refine X_iload (pc := 311) C dL_acts_311 rfl ?_
      refine X_ask (n := 2) (pc := 313) C [.ref _, .int _] (a_secretsKnown l hl0 _ (XA.pr hP) _ hG hj) ⟨rfl, rfl⟩ m_h_L_secretsKnown m_m_L_183 m_t_L_secretsKnown m_n_L ⟨by decide +kernel, by decide +kernel, by decide +kernel⟩ ⟨Nat.le_of_ble_eq_true rfl, Nat.le_of_ble_eq_true rfl⟩ ⟨by show _ ≤ 100; omega, by show _ ≤ 600; omega⟩ rfl (Nat.le_of_ble_eq_true rfl) rfl dL_acts_313 ?_
      refine X_iload (pc := 316) C dL_acts_316 rfl ?_
      refine X_iand (pc := 318) C dL_acts_318 ?_
      refine X_iload (pc := 319) C dL_acts_319 rfl ?_
      refine X_icmp_ne (pc := 321) C 334 dL_acts_321 (by decide) (fun h => absurd hq.1 h) (fun h => ?_)
      refine X_aload_n (pc := 324) C 0 dL_acts_324 rfl rfl ?_
      refine X_iload (pc := 325) C dL_acts_325 rfl ?_
      refine X_ask (n := 2) (pc := 327) C [.ref _, .int _] (a_curiosity l hl0 _ (XA.pr hP) _ hG hj) ⟨rfl, rfl⟩ m_h_L_curiosity m_m_L_213 m_t_L_curiosity m_n_L ⟨by decide +kernel, by decide +kernel, by decide +kernel⟩ ⟨Nat.le_of_ble_eq_true rfl, Nat.le_of_ble_eq_true rfl⟩ ⟨by show _ ≤ 100; omega, by show _ ≤ 600; omega⟩ rfl (Nat.le_of_ble_eq_true rfl) rfl dL_acts_327 ?_
      refine X_iconst (pc := 330) (v := 5) C dL_acts_330 (by decide) ?_
      refine X_icmp_ge (pc := 331) C 336 dL_acts_331 (by decide) (fun h => XW.up (by omega) (by omega) m336) (fun h => absurd (Int32.not_lt.mp hq.2) h)
    · have e0 : ¬ due >>> (nI j &&& 31) &&& 1 = 1 := by rw [zb_shr0 (by omega), if_neg (by rw [g]; decide)]; decide
      refine X_iload (pc := 299) C dL_acts_299 rfl ?_
      refine X_iload (pc := 301) C dL_acts_301 rfl ?_
      refine X_ishr (pc := 303) C dL_acts_303 ?_
      refine X_iconst (pc := 304) (v := 1) C dL_acts_304 (by decide) ?_
      refine X_iand (pc := 305) C dL_acts_305 ?_
      refine X_iconst (pc := 306) (v := 1) C dL_acts_306 (by decide) ?_
      refine X_icmp_ne (pc := 307) C 336 dL_acts_307 (by decide) (fun h => XW.up (by omega) (by omega) m336) (fun h => absurd h e0)

set_option maxRecDepth 100000 in
set_option maxHeartbeats 4000000 in
theorem a72 (hl0 : l.stackTraces = false) (hi : i < w0.length) (C : XC p s m args meth c (xPR P (w0.set i (iC P a f))) A 11 RL cL_acts (some .boolean)) (hP : XA P) (hA : AV σ S T o ch) (hU0 : mU S = mU S0) (hT0 : T ≤ T0) (hT9 : T0 + 200 ≤ 900000) (hu : u < mU S) (hk : k + 60 ≤ 100) : XW p l e rm_L_acts s m args below meth c (xPR P (w0.set i (iC P a f))) A 11 (k) (6 * (k)) (MQ below (XQB P A (PA P w0 i a S0 T0)) args s rm_L_acts.cells rm_L_acts.slots A) σ 72 [(0, .ref (P.2.2.1 (.inr 0))), (1, .ref a), (2, .int (nI (mU S))), (3, .int (nI u)), (4, .int (nI (mK S))), (5, .int (sU S 4 u))] [] := by
  obtain ⟨hG, hp, hb, he⟩ := hA
  have hM := hG.b.x.i
  have u15 := hM.u15
  have k40 := hM.k40
  have t4 := hM.t4
  refine X_aload_n (pc := 72) C 1 dL_acts_72 rfl rfl ?_
  refine X_iload_n (pc := 73) C 2 dL_acts_73 rfl rfl ?_
  refine X_drw (n := mU S) (pc := 74) C hi m_m_L_203 hG.u1 (by omega) ⟨Nat.le_of_ble_eq_true rfl, Nat.le_of_ble_eq_true rfl⟩ ⟨by show _ ≤ 100; omega, by show _ ≤ 600; omega⟩ (Nat.le_of_ble_eq_true rfl) dL_acts_74 (fun v f hv C => ?_)
  refine X_istore (pc := 77) (lv1 := [(0, _), (1, _), (2, _), (3, _), (4, _), (5, _), (6, _)]) C dL_acts_77 (by decide) rfl ?_
  refine X_iload_n (pc := 79) C 3 dL_acts_79 rfl rfl ?_
  refine X_iload (pc := 80) C dL_acts_80 rfl ?_
  refine X_icmp_ne (pc := 82) C 116 dL_acts_82 (by decide) (fun h82 => ?_) (fun h82 => ?_)
  · have hne : ¬ u = v := fun q => h82 (congrArg nI q)
    refine X_aload_n (pc := 116) C 0 dL_acts_116 rfl rfl ?_
    refine X_iload_n (pc := 117) C 3 dL_acts_117 rfl rfl ?_
    refine X_iload (pc := 118) C dL_acts_118 rfl ?_
    refine X_chg (n := 3) (nc := 3) (pc := 120) C [.ref _, .int _, .int _] (b_listenersBetween l hl0 _ (XA.pr hP) _ hG hu hv) ⟨rfl, rfl⟩ m_h_L_listenersBetween m_m_L_210 m_t_L_listenersBetween m_n_L ⟨by decide +kernel, by decide +kernel, by decide +kernel⟩ ⟨Nat.le_of_ble_eq_true rfl, Nat.le_of_ble_eq_true rfl⟩ ⟨by show _ ≤ 100; omega, by show _ ≤ 600; omega⟩ rfl (Nat.le_of_ble_eq_true rfl) rfl dL_acts_120 (fun v9 τ hq => ?_)
    obtain ⟨rfl, -, hq1⟩ := hq
    obtain rfl := hq1 hne
    refine X_istore (pc := 123) (lv1 := [(0, _), (1, _), (2, _), (3, _), (4, _), (5, _), (6, _), (7, _)]) C dL_acts_123 (by decide) rfl ?_
    refine X_iload (pc := 125) C dL_acts_125 rfl ?_
    refine X_aload_n (pc := 127) C 0 dL_acts_127 rfl rfl ?_
    refine X_iload (pc := 128) C dL_acts_128 rfl ?_
    refine X_ask (n := 2) (pc := 130) C [.ref _, .int _] (a_secretsKnown l hl0 _ (XA.pr hP) _ hG hv) ⟨rfl, rfl⟩ m_h_L_secretsKnown m_m_L_183 m_t_L_secretsKnown m_n_L ⟨by decide +kernel, by decide +kernel, by decide +kernel⟩ ⟨Nat.le_of_ble_eq_true rfl, Nat.le_of_ble_eq_true rfl⟩ ⟨by show _ ≤ 100; omega, by show _ ≤ 600; omega⟩ rfl (Nat.le_of_ble_eq_true rfl) rfl dL_acts_130 ?_
    refine X_ior (pc := 133) C dL_acts_133 ?_
    refine X_istore (pc := 134) (lv1 := [(0, _), (1, _), (2, _), (3, _), (4, _), (5, _), (6, _), (7, _), (8, _)]) C dL_acts_134 (by decide) rfl ?_
    refine X_aload_n (pc := 136) C 0 dL_acts_136 rfl rfl ?_
    refine X_iload_n (pc := 137) C 3 dL_acts_137 rfl rfl ?_
    refine X_iload (pc := 138) C dL_acts_138 rfl ?_
    refine X_aload_n (pc := 140) C 1 dL_acts_140 rfl rfl ?_
    refine X_iconst (pc := 141) (v := 3) C dL_acts_141 (by decide) ?_
    refine X_drw (n := 3) (pc := 142) C hi m_m_L_203 (by decide) (by decide) ⟨Nat.le_of_ble_eq_true rfl, Nat.le_of_ble_eq_true rfl⟩ ⟨by show _ ≤ 100; omega, by show _ ≤ 600; omega⟩ (Nat.le_of_ble_eq_true rfl) dL_acts_142 (fun dr f hdr C => ?_)
    skip
    have m153 : ∀ ur : Int32, ur = 0 ∨ ur = 1 → XW p l e rm_L_acts s m args below meth c (xPR P (w0.set i (iC P a f))) A 11 (k + 3 + 1) (6 * (k + 3 + 1)) (MQ below (XQB P A (PA P w0 i a S0 T0)) args s rm_L_acts.cells rm_L_acts.slots A) τ 153 [(0, .ref (P.2.2.1 (.inr 0))), (1, .ref a), (2, .int (nI (mU S))), (3, .int (nI u)), (4, .int (nI (mK S))), (5, .int (sU S 4 u)), (6, .int (nI v)), (7, .int (mEars S (nI u) (nI v))), (8, .int (sU S 4 u ||| sU S 4 v))] [.int ur, .int (nI v), .int (nI u), .ref (P.2.2.1 (.inr 0))] := by
      intro ur hur
      refine X_chg (n := 4) (nc := 4) (pc := 153) C [.ref _, .int _, .int _, .int _] (b_call l hl0 _ (XA.pr hP) _ hG (ur := ur) hu hv hur) ⟨rfl, rfl⟩ m_h_L_call m_m_L_207 m_t_L_call m_n_L ⟨by decide +kernel, by decide +kernel, by decide +kernel⟩ ⟨Nat.le_of_ble_eq_true rfl, Nat.le_of_ble_eq_true rfl⟩ ⟨by show _ ≤ 100; omega, by show _ ≤ 600; omega⟩ rfl (Nat.le_of_ble_eq_true rfl) rfl dL_acts_153 (fun v9 τ hq => ?_)
      replace hq := hq.2 hne
      rcases Nat.lt_or_ge (mK S) 40 with h40 | h40
      · obtain ⟨rfl, hG1⟩ := hq.2 h40
        have ou := xok_nI hu (by omega)
        have ov := xok_nI hv (by omega)
        have hyt : ((-1 : Int32) = -1 ∧ xok (nI v) (mU S)) ∨ (nI v = -1 ∧ xok (-1) (mT S)) := Or.inl ⟨rfl, ov⟩
        have hPQ := PReq hG.b hp hb h40 ou hyt hur
        have hE1 := PE.req (u := ur) hM h40 ou hyt he
        have eK := rq_K (ur := ur) hM h40 ou hyt
        have eU := mU_req (u := ur) hM h40 ou hyt
        have hc1 : mK S < mK (mReq S (nI u) (nI v) (-1) ur) := by rw [eK]; omega
        have hu1 : u < mU (mReq S (nI u) (nI v) (-1) ur) := by rw [eU]; exact hu
        have hv1 : v < mU (mReq S (nI u) (nI v) (-1) ur) := by rw [eU]; exact hv
        have hR : PA P w0 i a S0 T0 (some (.int 1)) τ (w0.set i (iC P a f)) := ⟨rfl, _, T, _, _, _, rfl, ⟨hG1, hPQ.1, hPQ.2, hE1⟩, by omega, eU.trans hU0⟩
        obtain ⟨F0, F1, ⟨F4, F3⟩ | ⟨F4, F7, FU, FV, F5, FA⟩⟩ := call_facts hG.b h40 hu hv hne hur
        · skip
          refine X_istore (pc := 156) (lv1 := [(0, _), (1, _), (2, _), (3, _), (4, _), (5, _), (6, _), (7, _), (8, _), (9, _)]) C dL_acts_156 (by decide) rfl ?_
          refine X_iload (pc := 158) C dL_acts_158 rfl ?_
          refine X_bipush (pc := 160) (v := 40) C dL_acts_160 (by decide) ?_
          refine X_icmp_ne (pc := 162) C 178 dL_acts_162 (by decide) (fun h => ?_) (fun h => absurd ((nI_eq (b := 40) (n31 (by omega)) (by decide)).mp h) (by omega))
          refine X_iload (pc := 178) C dL_acts_178 rfl ?_
          refine X_iload (pc := 180) C dL_acts_180 rfl ?_
          refine X_icmp_ne (pc := 182) C 206 dL_acts_182 (by decide) (fun h => absurd rfl h) (fun h => ?_)
          refine X_aload_n (pc := 185) C 0 dL_acts_185 rfl rfl ?_
          refine X_iload (pc := 186) C dL_acts_186 rfl ?_
          refine X_ask (n := 2) (pc := 188) C [.ref _, .int _] (a_callerOf l hl0 _ (XA.pr hP) _ hG1 hc1) ⟨rfl, rfl⟩ m_h_L_callerOf m_m_L_137 m_t_L_callerOf m_n_L ⟨by decide +kernel, by decide +kernel, by decide +kernel⟩ ⟨Nat.le_of_ble_eq_true rfl, Nat.le_of_ble_eq_true rfl⟩ ⟨by show _ ≤ 100; omega, by show _ ≤ 600; omega⟩ rfl (Nat.le_of_ble_eq_true rfl) rfl dL_acts_188 ?_
          refine X_iload_n (pc := 191) C 3 dL_acts_191 rfl rfl ?_
          refine X_icmp_ne (pc := 192) C 206 dL_acts_192 (by decide) (fun h => absurd F0 h) (fun h => ?_)
          refine X_aload_n (pc := 195) C 0 dL_acts_195 rfl rfl ?_
          refine X_iload (pc := 196) C dL_acts_196 rfl ?_
          refine X_ask (n := 2) (pc := 198) C [.ref _, .int _] (a_calledSubscriber l hl0 _ (XA.pr hP) _ hG1 hc1) ⟨rfl, rfl⟩ m_h_L_calledSubscriber m_m_L_139 m_t_L_calledSubscriber m_n_L ⟨by decide +kernel, by decide +kernel, by decide +kernel⟩ ⟨Nat.le_of_ble_eq_true rfl, Nat.le_of_ble_eq_true rfl⟩ ⟨by show _ ≤ 100; omega, by show _ ≤ 600; omega⟩ rfl (Nat.le_of_ble_eq_true rfl) rfl dL_acts_198 ?_
          refine X_iload (pc := 201) C dL_acts_201 rfl ?_
          refine X_icmp_eq (pc := 203) C 208 dL_acts_203 (by decide) (fun h => ?_) (fun h => absurd F1 h)
          refine X_aload_n (pc := 208) C 0 dL_acts_208 rfl rfl ?_
          refine X_iload (pc := 209) C dL_acts_209 rfl ?_
          refine X_ask (n := 2) (pc := 211) C [.ref _, .int _] (a_callState l hl0 _ (XA.pr hP) _ hG1 hc1) ⟨rfl, rfl⟩ m_h_L_callState m_m_L_133 m_t_L_callState m_n_L ⟨by decide +kernel, by decide +kernel, by decide +kernel⟩ ⟨Nat.le_of_ble_eq_true rfl, Nat.le_of_ble_eq_true rfl⟩ ⟨by show _ ≤ 100; omega, by show _ ≤ 600; omega⟩ rfl (Nat.le_of_ble_eq_true rfl) rfl dL_acts_211 ?_
          refine X_if_ne (pc := 214) C 233 dL_acts_214 (by decide) (fun h => absurd F4 h) (fun h => ?_)
          refine X_aload_n (pc := 217) C 0 dL_acts_217 rfl rfl ?_
          refine X_iload_n (pc := 218) C 3 dL_acts_218 rfl rfl ?_
          refine X_ask (n := 2) (pc := 219) C [.ref _, .int _] (a_secretsKnown l hl0 _ (XA.pr hP) _ hG1 hu1) ⟨rfl, rfl⟩ m_h_L_secretsKnown m_m_L_183 m_t_L_secretsKnown m_n_L ⟨by decide +kernel, by decide +kernel, by decide +kernel⟩ ⟨Nat.le_of_ble_eq_true rfl, Nat.le_of_ble_eq_true rfl⟩ ⟨by show _ ≤ 100; omega, by show _ ≤ 600; omega⟩ rfl (Nat.le_of_ble_eq_true rfl) rfl dL_acts_219 ?_
          refine X_iload (pc := 222) C dL_acts_222 rfl ?_
          refine X_icmp_ne (pc := 224) C 231 dL_acts_224 (by decide) (fun h => absurd F3 h) (fun h => ?_)
          refine X_iconst (pc := 227) (v := 1) C dL_acts_227 (by decide) ?_
          refine X_goto (pc := 228) C 232 dL_acts_228 (by decide) ?_
          exact X_retIB (P := P) (pc := 232) C rfl (by show _ ≤ 100; omega) (by show _ ≤ 600; omega) dL_acts_232 hR
        · skip
          refine X_istore (pc := 156) (lv1 := [(0, _), (1, _), (2, _), (3, _), (4, _), (5, _), (6, _), (7, _), (8, _), (9, _)]) C dL_acts_156 (by decide) rfl ?_
          refine X_iload (pc := 158) C dL_acts_158 rfl ?_
          refine X_bipush (pc := 160) (v := 40) C dL_acts_160 (by decide) ?_
          refine X_icmp_ne (pc := 162) C 178 dL_acts_162 (by decide) (fun h => ?_) (fun h => absurd ((nI_eq (b := 40) (n31 (by omega)) (by decide)).mp h) (by omega))
          refine X_iload (pc := 178) C dL_acts_178 rfl ?_
          refine X_iload (pc := 180) C dL_acts_180 rfl ?_
          refine X_icmp_ne (pc := 182) C 206 dL_acts_182 (by decide) (fun h => absurd rfl h) (fun h => ?_)
          refine X_aload_n (pc := 185) C 0 dL_acts_185 rfl rfl ?_
          refine X_iload (pc := 186) C dL_acts_186 rfl ?_
          refine X_ask (n := 2) (pc := 188) C [.ref _, .int _] (a_callerOf l hl0 _ (XA.pr hP) _ hG1 hc1) ⟨rfl, rfl⟩ m_h_L_callerOf m_m_L_137 m_t_L_callerOf m_n_L ⟨by decide +kernel, by decide +kernel, by decide +kernel⟩ ⟨Nat.le_of_ble_eq_true rfl, Nat.le_of_ble_eq_true rfl⟩ ⟨by show _ ≤ 100; omega, by show _ ≤ 600; omega⟩ rfl (Nat.le_of_ble_eq_true rfl) rfl dL_acts_188 ?_
          refine X_iload_n (pc := 191) C 3 dL_acts_191 rfl rfl ?_
          refine X_icmp_ne (pc := 192) C 206 dL_acts_192 (by decide) (fun h => absurd F0 h) (fun h => ?_)
          refine X_aload_n (pc := 195) C 0 dL_acts_195 rfl rfl ?_
          refine X_iload (pc := 196) C dL_acts_196 rfl ?_
          refine X_ask (n := 2) (pc := 198) C [.ref _, .int _] (a_calledSubscriber l hl0 _ (XA.pr hP) _ hG1 hc1) ⟨rfl, rfl⟩ m_h_L_calledSubscriber m_m_L_139 m_t_L_calledSubscriber m_n_L ⟨by decide +kernel, by decide +kernel, by decide +kernel⟩ ⟨Nat.le_of_ble_eq_true rfl, Nat.le_of_ble_eq_true rfl⟩ ⟨by show _ ≤ 100; omega, by show _ ≤ 600; omega⟩ rfl (Nat.le_of_ble_eq_true rfl) rfl dL_acts_198 ?_
          refine X_iload (pc := 201) C dL_acts_201 rfl ?_
          refine X_icmp_eq (pc := 203) C 208 dL_acts_203 (by decide) (fun h => ?_) (fun h => absurd F1 h)
          refine X_aload_n (pc := 208) C 0 dL_acts_208 rfl rfl ?_
          refine X_iload (pc := 209) C dL_acts_209 rfl ?_
          refine X_ask (n := 2) (pc := 211) C [.ref _, .int _] (a_callState l hl0 _ (XA.pr hP) _ hG1 hc1) ⟨rfl, rfl⟩ m_h_L_callState m_m_L_133 m_t_L_callState m_n_L ⟨by decide +kernel, by decide +kernel, by decide +kernel⟩ ⟨Nat.le_of_ble_eq_true rfl, Nat.le_of_ble_eq_true rfl⟩ ⟨by show _ ≤ 100; omega, by show _ ≤ 600; omega⟩ rfl (Nat.le_of_ble_eq_true rfl) rfl dL_acts_211 ?_
          refine X_if_ne (pc := 214) C 233 dL_acts_214 (by decide) (fun h => ?_) (fun h => absurd (F4.symm.trans h) (by decide))
          refine X_aload_n (pc := 233) C 0 dL_acts_233 rfl rfl ?_
          refine X_iload (pc := 234) C dL_acts_234 rfl ?_
          refine X_ask (n := 2) (pc := 236) C [.ref _, .int _] (a_callState l hl0 _ (XA.pr hP) _ hG1 hc1) ⟨rfl, rfl⟩ m_h_L_callState m_m_L_133 m_t_L_callState m_n_L ⟨by decide +kernel, by decide +kernel, by decide +kernel⟩ ⟨Nat.le_of_ble_eq_true rfl, Nat.le_of_ble_eq_true rfl⟩ ⟨by show _ ≤ 100; omega, by show _ ≤ 600; omega⟩ rfl (Nat.le_of_ble_eq_true rfl) rfl dL_acts_236 ?_
          refine X_iconst (pc := 239) (v := 1) C dL_acts_239 (by decide) ?_
          refine X_icmp_ne (pc := 240) C 288 dL_acts_240 (by decide) (fun h => absurd F4 h) (fun h => ?_)
          refine X_aload_n (pc := 243) C 0 dL_acts_243 rfl rfl ?_
          refine X_iload (pc := 244) C dL_acts_244 rfl ?_
          refine X_ask (n := 2) (pc := 246) C [.ref _, .int _] (a_listeners l hl0 _ (XA.pr hP) _ hG1 hc1) ⟨rfl, rfl⟩ m_h_L_listeners m_m_L_145 m_t_L_listeners m_n_L ⟨by decide +kernel, by decide +kernel, by decide +kernel⟩ ⟨Nat.le_of_ble_eq_true rfl, Nat.le_of_ble_eq_true rfl⟩ ⟨by show _ ≤ 100; omega, by show _ ≤ 600; omega⟩ rfl (Nat.le_of_ble_eq_true rfl) rfl dL_acts_246 ?_
          refine X_iload (pc := 249) C dL_acts_249 rfl ?_
          refine X_icmp_ne (pc := 251) C 288 dL_acts_251 (by decide) (fun h => absurd F7 h) (fun h => ?_)
          refine X_aload_n (pc := 254) C 0 dL_acts_254 rfl rfl ?_
          refine X_iload_n (pc := 255) C 3 dL_acts_255 rfl rfl ?_
          refine X_ask (n := 2) (pc := 256) C [.ref _, .int _] (a_secretsKnown l hl0 _ (XA.pr hP) _ hG1 hu1) ⟨rfl, rfl⟩ m_h_L_secretsKnown m_m_L_183 m_t_L_secretsKnown m_n_L ⟨by decide +kernel, by decide +kernel, by decide +kernel⟩ ⟨Nat.le_of_ble_eq_true rfl, Nat.le_of_ble_eq_true rfl⟩ ⟨by show _ ≤ 100; omega, by show _ ≤ 600; omega⟩ rfl (Nat.le_of_ble_eq_true rfl) rfl dL_acts_256 ?_
          refine X_iload (pc := 259) C dL_acts_259 rfl ?_
          refine X_icmp_ne (pc := 261) C 288 dL_acts_261 (by decide) (fun h => absurd FU h) (fun h => ?_)
          refine X_aload_n (pc := 264) C 0 dL_acts_264 rfl rfl ?_
          refine X_iload (pc := 265) C dL_acts_265 rfl ?_
          refine X_ask (n := 2) (pc := 267) C [.ref _, .int _] (a_secretsKnown l hl0 _ (XA.pr hP) _ hG1 hv1) ⟨rfl, rfl⟩ m_h_L_secretsKnown m_m_L_183 m_t_L_secretsKnown m_n_L ⟨by decide +kernel, by decide +kernel, by decide +kernel⟩ ⟨Nat.le_of_ble_eq_true rfl, Nat.le_of_ble_eq_true rfl⟩ ⟨by show _ ≤ 100; omega, by show _ ≤ 600; omega⟩ rfl (Nat.le_of_ble_eq_true rfl) rfl dL_acts_267 ?_
          refine X_iload (pc := 270) C dL_acts_270 rfl ?_
          refine X_icmp_ne (pc := 272) C 288 dL_acts_272 (by decide) (fun h => absurd FV h) (fun h => ?_)
          refine X_aload_n (pc := 275) C 0 dL_acts_275 rfl rfl ?_
          refine X_iload (pc := 276) C dL_acts_276 rfl ?_
          refine X_ask (n := 2) (pc := 278) C [.ref _, .int _] (a_startTime l hl0 _ (XA.pr hP) _ hG1 hc1) ⟨rfl, rfl⟩ m_h_L_startTime m_m_L_141 m_t_L_startTime m_n_L ⟨by decide +kernel, by decide +kernel, by decide +kernel⟩ ⟨Nat.le_of_ble_eq_true rfl, Nat.le_of_ble_eq_true rfl⟩ ⟨by show _ ≤ 100; omega, by show _ ≤ 600; omega⟩ rfl (Nat.le_of_ble_eq_true rfl) rfl dL_acts_278 ?_
          refine X_aload_n (pc := 281) C 0 dL_acts_281 rfl rfl ?_
          refine X_fV (i := .inr 0) (ci := 6) (n := 0) (pc := 282) C [] (d_clock l _ (XA.pr hP) _ hG1) m_c_X6_clock m_m_L_152 m_i_X6_clock m_s_X6_clock m_n_X6 ⟨by decide +kernel, by decide +kernel, by decide +kernel⟩ ⟨Nat.le_of_ble_eq_true rfl, Nat.le_of_ble_eq_true rfl⟩ ⟨rfl, rfl⟩ ⟨by show _ ≤ 100; omega, by show _ ≤ 600; omega⟩ (XA.n0 (XA.pr hP)) rfl rfl rfl rfl (Nat.le_of_ble_eq_true rfl) rfl dL_acts_282 ?_
          refine X_icmp_eq (pc := 285) C 290 dL_acts_285 (by decide) (fun h => ?_) (fun h => absurd (F5.trans (rq_m0 (S := S)).symm) h)
          refine X_iconst (pc := 290) (v := 0) C dL_acts_290 (by decide) ?_
          refine X_istore (pc := 291) (lv1 := [(0, _), (1, _), (2, _), (3, _), (4, _), (5, _), (6, _), (7, _), (8, _), (9, _), (10, _)]) C dL_acts_291 (by decide) rfl ?_
          refine XW.less [0, 1, 2, 7, 8, 10] rfl ?_
          exact aL (k := k + 3 + 1 + 4 + 1 + 1 + 1 + 1 + 1 + 1 + 1 + 1) hl0 C hP hG1 eU.symm (fun j hj hb1 => FA j (by rw [← eU]; exact hj) hb1) hR (by omega) (mU S) 0 (Nat.zero_add _)
      · have e40 : mK S = 40 := by omega
        obtain ⟨rfl, rfl⟩ := hq.1 e40
        refine X_istore (pc := 156) (lv1 := [(0, _), (1, _), (2, _), (3, _), (4, _), (5, _), (6, _), (7, _), (8, _), (9, _)]) C dL_acts_156 (by decide) rfl ?_
        refine X_iload (pc := 158) C dL_acts_158 rfl ?_
        refine X_bipush (pc := 160) (v := 40) C dL_acts_160 (by decide) ?_
        refine X_icmp_ne (pc := 162) C 178 dL_acts_162 (by decide) (fun h => absurd (by rw [e40]; rfl) h) (fun h => ?_)
        refine X_iload (pc := 165) C dL_acts_165 rfl ?_
        refine X_bipush (pc := 167) (v := (-19)) C dL_acts_167 (by decide) ?_
        refine X_icmp_ne (pc := 169) C 176 dL_acts_169 (by decide) (fun h => absurd rfl h) (fun h => ?_)
        refine X_iconst (pc := 172) (v := 1) C dL_acts_172 (by decide) ?_
        refine X_goto (pc := 173) C 177 dL_acts_173 (by decide) ?_
        exact X_retIB (P := P) (pc := 177) C rfl (by show _ ≤ 100; omega) (by show _ ≤ 600; omega) dL_acts_177 ⟨rfl, S, T, o, ch, _, rfl, ⟨hG, hp, hb, he⟩, by omega, hU0⟩
    refine X_if_ne (pc := 145) C 152 dL_acts_145 (by decide) (fun h => ?_) (fun h => ?_)
    · refine X_iconst (pc := 152) (v := 0) C dL_acts_152 (by decide) ?_
      exact m153 0 (Or.inl rfl)
    · refine X_iconst (pc := 148) (v := 1) C dL_acts_148 (by decide) ?_
      refine X_goto (pc := 149) C 153 dL_acts_149 (by decide) ?_
      exact m153 1 (Or.inr rfl)
  · have e : u = v := (nI_eq (n31 (by omega)) (n31 (by omega))).mp h82
    refine X_aload_n (pc := 85) C 0 dL_acts_85 rfl rfl ?_
    refine X_iload_n (pc := 86) C 3 dL_acts_86 rfl rfl ?_
    refine X_iload (pc := 87) C dL_acts_87 rfl ?_
    refine X_iconst (pc := 89) (v := 0) C dL_acts_89 (by decide) ?_
    refine X_chg (n := 4) (nc := 4) (pc := 90) C [.ref _, .int _, .int _, .int _] (b_call l hl0 _ (XA.pr hP) _ hG (ur := 0) hu hv (Or.inl rfl)) ⟨rfl, rfl⟩ m_h_L_call m_m_L_207 m_t_L_call m_n_L ⟨by decide +kernel, by decide +kernel, by decide +kernel⟩ ⟨Nat.le_of_ble_eq_true rfl, Nat.le_of_ble_eq_true rfl⟩ ⟨by show _ ≤ 100; omega, by show _ ≤ 600; omega⟩ rfl (Nat.le_of_ble_eq_true rfl) rfl dL_acts_90 (fun v9 τ hq => ?_)
    obtain ⟨rfl, rfl⟩ := hq.1 e
    refine X_bipush (pc := 93) (v := (-18)) C dL_acts_93 (by decide) ?_
    refine X_icmp_ne (pc := 95) C 114 dL_acts_95 (by decide) (fun h => absurd rfl h) (fun h => ?_)
    refine X_aload_n (pc := 98) C 0 dL_acts_98 rfl rfl ?_
    refine X_iload_n (pc := 99) C 3 dL_acts_99 rfl rfl ?_
    refine X_iload (pc := 100) C dL_acts_100 rfl ?_
    refine X_chg (n := 3) (nc := 3) (pc := 102) C [.ref _, .int _, .int _] (b_listenersBetween l hl0 _ (XA.pr hP) _ hG hu hv) ⟨rfl, rfl⟩ m_h_L_listenersBetween m_m_L_210 m_t_L_listenersBetween m_n_L ⟨by decide +kernel, by decide +kernel, by decide +kernel⟩ ⟨Nat.le_of_ble_eq_true rfl, Nat.le_of_ble_eq_true rfl⟩ ⟨by show _ ≤ 100; omega, by show _ ≤ 600; omega⟩ rfl (Nat.le_of_ble_eq_true rfl) rfl dL_acts_102 (fun v9 τ hq => ?_)
    obtain ⟨rfl, hq1, -⟩ := hq
    obtain rfl := hq1 e
    refine X_bipush (pc := 105) (v := (-18)) C dL_acts_105 (by decide) ?_
    refine X_icmp_ne (pc := 107) C 114 dL_acts_107 (by decide) (fun h => absurd rfl h) (fun h => ?_)
    refine X_iconst (pc := 110) (v := 1) C dL_acts_110 (by decide) ?_
    refine X_goto (pc := 111) C 115 dL_acts_111 (by decide) ?_
    exact X_retIB (P := P) (pc := 115) C rfl (by show _ ≤ 100; omega) (by show _ ≤ 600; omega) dL_acts_115 ⟨rfl, S, T, o, ch, _, rfl, ⟨hG, hp, hb, he⟩, by omega, hU0⟩

set_option maxRecDepth 100000 in
set_option maxHeartbeats 4000000 in
theorem a344 (hl0 : l.stackTraces = false) (hi : i < w0.length) (C : XC p s m args meth c (xPR P (w0.set i (iC P a f))) A 11 RL cL_acts (some .boolean)) (hP : XA P) (hA : AV σ S T o ch) (hU0 : mU S = mU S0) (hT0 : T ≤ T0) (hT9 : T0 + 200 ≤ 900000) (hu : u < mU S) (hk : k + 60 ≤ 100) : XW p l e rm_L_acts s m args below meth c (xPR P (w0.set i (iC P a f))) A 11 (k) (6 * (k)) (MQ below (XQB P A (PA P w0 i a S0 T0)) args s rm_L_acts.cells rm_L_acts.slots A) σ 344 [(0, .ref (P.2.2.1 (.inr 0))), (1, .ref a), (2, .int (nI (mU S))), (3, .int (nI u)), (4, .int (nI (mK S))), (5, .int (sU S 4 u))] [] := by
  obtain ⟨hG, hp, hb, he⟩ := hA
  have hM := hG.b.x.i
  have u15 := hM.u15
  have k40 := hM.k40
  have t4 := hM.t4
  refine X_aload_n (pc := 344) C 0 dL_acts_344 rfl rfl ?_
  refine X_fV (i := .inr 0) (ci := 6) (n := 0) (pc := 345) C [] (d_trunkCount l _ (XA.pr hP) _ hG) m_c_X6_trunkCount m_m_L_176 m_i_X6_trunkCount m_s_X6_trunkCount m_n_X6 ⟨by decide +kernel, by decide +kernel, by decide +kernel⟩ ⟨Nat.le_of_ble_eq_true rfl, Nat.le_of_ble_eq_true rfl⟩ ⟨rfl, rfl⟩ ⟨by show _ ≤ 100; omega, by show _ ≤ 600; omega⟩ (XA.n0 (XA.pr hP)) rfl rfl rfl rfl (Nat.le_of_ble_eq_true rfl) rfl dL_acts_345 ?_
  rw [hM.t]
  refine X_if_ne (pc := 348) C 369 dL_acts_348 (by decide) (fun h348 => ?_) (fun h348 => ?_)
  · have ht1 : 1 ≤ mT S := Nat.pos_of_ne_zero (fun q => h348 (by rw [q]; rfl))
    obtain ⟨la, hla, ea⟩ := xok_of (hG.b.x.u hu).1 (by have := hM.l6; omega)
    refine X_aload_n (pc := 369) C 1 dL_acts_369 rfl rfl ?_
    refine X_aload_n (pc := 370) C 0 dL_acts_370 rfl rfl ?_
    refine X_fV (i := .inr 0) (ci := 6) (n := 0) (pc := 371) C [] (d_trunkCount l _ (XA.pr hP) _ hG) m_c_X6_trunkCount m_m_L_176 m_i_X6_trunkCount m_s_X6_trunkCount m_n_X6 ⟨by decide +kernel, by decide +kernel, by decide +kernel⟩ ⟨Nat.le_of_ble_eq_true rfl, Nat.le_of_ble_eq_true rfl⟩ ⟨rfl, rfl⟩ ⟨by show _ ≤ 100; omega, by show _ ≤ 600; omega⟩ (XA.n0 (XA.pr hP)) rfl rfl rfl rfl (Nat.le_of_ble_eq_true rfl) rfl dL_acts_371 ?_
    rw [hM.t]
    refine X_drw (n := mT S) (pc := 374) C hi m_m_L_203 ht1 (by omega) ⟨Nat.le_of_ble_eq_true rfl, Nat.le_of_ble_eq_true rfl⟩ ⟨by show _ ≤ 100; omega, by show _ ≤ 600; omega⟩ (Nat.le_of_ble_eq_true rfl) dL_acts_374 (fun t f ht C => ?_)
    refine X_istore (pc := 377) (lv1 := [(0, _), (1, _), (2, _), (3, _), (4, _), (5, _), (6, _)]) C dL_acts_377 (by decide) rfl ?_
    skip
    have hcsz := hG.b.x.cs
    have hc6 := hG.b.x.c6
    have hfree : S 2 - nI (mCords S (mK S)) ≤ 0 ↔ nI (mCords S (mK S)) = S 2 := by
      rw [hG.b.x.c2, nI_sub hcsz]
      constructor
      · intro q
        have := (nI_leI (b := 0) (n31 (by omega)) (by decide)).mp q
        congr 1
        omega
      · intro q
        have := (nI_eq (n31 (by omega)) (n31 (by omega))).mp q
        rw [this, Nat.sub_self]
        decide
    have m412 : ∀ my : Int32, my = (if (mLine S (sU S 0 u) (mK S) = 0 ∧ mTrk S (nI t) (mK S) = 0 ∧ ¬ nI (mCords S (mK S)) = S 2) then 1 else 0) → XW p l e rm_L_acts s m args below meth c (xPR P (w0.set i (iC P a f))) A 11 (k + 3) (6 * (k + 3)) (MQ below (XQB P A (PA P w0 i a S0 T0)) args s rm_L_acts.cells rm_L_acts.slots A) σ 412 [(0, .ref (P.2.2.1 (.inr 0))), (1, .ref a), (2, .int (nI (mU S))), (3, .int (nI u)), (4, .int (nI (mK S))), (5, .int (sU S 4 u)), (6, .int (nI t))] [.int my] := by
      intro my hmy
      refine X_istore (pc := 412) (lv1 := [(0, _), (1, _), (2, _), (3, _), (4, _), (5, _), (6, _), (7, _)]) C dL_acts_412 (by decide) rfl ?_
      refine X_aload_n (pc := 414) C 0 dL_acts_414 rfl rfl ?_
      refine X_iload_n (pc := 415) C 3 dL_acts_415 rfl rfl ?_
      refine X_iload (pc := 416) C dL_acts_416 rfl ?_
      refine X_aload_n (pc := 418) C 1 dL_acts_418 rfl rfl ?_
      refine X_iconst (pc := 419) (v := 3) C dL_acts_419 (by decide) ?_
      refine X_drw (n := 3) (pc := 420) C hi m_m_L_203 (by decide) (by decide) ⟨Nat.le_of_ble_eq_true rfl, Nat.le_of_ble_eq_true rfl⟩ ⟨by show _ ≤ 100; omega, by show _ ≤ 600; omega⟩ (Nat.le_of_ble_eq_true rfl) dL_acts_420 (fun dr f hdr C => ?_)
      skip
      have m431 : ∀ ur : Int32, ur = 0 ∨ ur = 1 → XW p l e rm_L_acts s m args below meth c (xPR P (w0.set i (iC P a f))) A 11 (k + 3) (6 * (k + 3)) (MQ below (XQB P A (PA P w0 i a S0 T0)) args s rm_L_acts.cells rm_L_acts.slots A) σ 431 [(0, .ref (P.2.2.1 (.inr 0))), (1, .ref a), (2, .int (nI (mU S))), (3, .int (nI u)), (4, .int (nI (mK S))), (5, .int (sU S 4 u)), (6, .int (nI t)), (7, .int my)] [.int ur, .int (nI t), .int (nI u), .ref (P.2.2.1 (.inr 0))] := by
        intro ur hur
        refine X_chg (n := 4) (nc := 3) (pc := 431) C [.ref _, .int _, .int _, .int _] (b_callTrunk l hl0 _ (XA.pr hP) _ hG (t := t) (ur := ur) hu hur) ⟨rfl, rfl⟩ m_h_L_callTrunk m_m_L_215 m_t_L_callTrunk m_n_L ⟨by decide +kernel, by decide +kernel, by decide +kernel⟩ ⟨Nat.le_of_ble_eq_true rfl, Nat.le_of_ble_eq_true rfl⟩ ⟨by show _ ≤ 100; omega, by show _ ≤ 600; omega⟩ rfl (Nat.le_of_ble_eq_true rfl) rfl dL_acts_431 (fun v9 τ hq => ?_)
        replace hq := hq.2 ht
        rcases Nat.lt_or_ge (mK S) 40 with h40 | h40
        · obtain ⟨rfl, hG1⟩ := hq.2 h40
          have ou := xok_nI hu (by omega)
          have ov := xok_nI ht (by omega)
          have hyt : (nI t = -1 ∧ xok (-1) (mU S)) ∨ ((-1 : Int32) = -1 ∧ xok (nI t) (mT S)) := Or.inr ⟨rfl, ov⟩
          have hPQ := PReq hG.b hp hb h40 ou hyt hur
          have hE1 := PE.req (u := ur) hM h40 ou hyt he
          have eK := rq_K (ur := ur) hM h40 ou hyt
          have eU := mU_req (u := ur) hM h40 ou hyt
          have hc1 : mK S < mK (mReq S (nI u) (-1) (nI t) ur) := by rw [eK]; omega
          have hu1 : u < mU (mReq S (nI u) (-1) (nI t) ur) := by rw [eU]; exact hu
          have hR : PA P w0 i a S0 T0 (some (.int 1)) τ (w0.set i (iC P a f)) := ⟨rfl, _, T, _, _, _, rfl, ⟨hG1, hPQ.1, hPQ.2, hE1⟩, by omega, eU.trans hU0⟩
          obtain ⟨G2, GU, G4⟩ := trunk_facts hG.b h40 hu ht hur
          have hcs := G4.trans hmy.symm
          have h01 : my = 0 ∨ my = 1 := by
            rw [hmy]
            by_cases g : (mLine S (sU S 0 u) (mK S) = 0 ∧ mTrk S (nI t) (mK S) = 0 ∧ ¬ nI (mCords S (mK S)) = S 2)
            · exact Or.inr (if_pos g)
            · exact Or.inl (if_neg g)
          refine X_istore (pc := 434) (lv1 := [(0, _), (1, _), (2, _), (3, _), (4, _), (5, _), (6, _), (7, _), (8, _)]) C dL_acts_434 (by decide) rfl ?_
          refine X_iload (pc := 436) C dL_acts_436 rfl ?_
          refine X_bipush (pc := 438) (v := 40) C dL_acts_438 (by decide) ?_
          refine X_icmp_ne (pc := 440) C 456 dL_acts_440 (by decide) (fun h => ?_) (fun h => absurd ((nI_eq (b := 40) (n31 (by omega)) (by decide)).mp h) (by omega))
          refine X_iload (pc := 456) C dL_acts_456 rfl ?_
          refine X_iload (pc := 458) C dL_acts_458 rfl ?_
          refine X_icmp_ne (pc := 460) C 507 dL_acts_460 (by decide) (fun h => absurd rfl h) (fun h => ?_)
          refine X_aload_n (pc := 463) C 0 dL_acts_463 rfl rfl ?_
          refine X_iload (pc := 464) C dL_acts_464 rfl ?_
          refine X_ask (n := 2) (pc := 466) C [.ref _, .int _] (a_callState l hl0 _ (XA.pr hP) _ hG1 hc1) ⟨rfl, rfl⟩ m_h_L_callState m_m_L_133 m_t_L_callState m_n_L ⟨by decide +kernel, by decide +kernel, by decide +kernel⟩ ⟨Nat.le_of_ble_eq_true rfl, Nat.le_of_ble_eq_true rfl⟩ ⟨by show _ ≤ 100; omega, by show _ ≤ 600; omega⟩ rfl (Nat.le_of_ble_eq_true rfl) rfl dL_acts_466 ?_
          refine X_iload (pc := 469) C dL_acts_469 rfl ?_
          refine X_if_eq (pc := 471) C 478 dL_acts_471 (by decide) (fun h => ?_) (fun h => ?_)
          · skip
            refine X_iconst (pc := 478) (v := 0) C dL_acts_478 (by decide) ?_
            refine X_icmp_ne (pc := 479) C 507 dL_acts_479 (by decide) (fun h9 => absurd (hcs.trans h) h9) (fun h9 => ?_)
            refine X_aload_n (pc := 482) C 0 dL_acts_482 rfl rfl ?_
            refine X_iload (pc := 483) C dL_acts_483 rfl ?_
            refine X_ask (n := 2) (pc := 485) C [.ref _, .int _] (a_calledTrunk l hl0 _ (XA.pr hP) _ hG1 hc1) ⟨rfl, rfl⟩ m_h_L_calledTrunk m_m_L_135 m_t_L_calledTrunk m_n_L ⟨by decide +kernel, by decide +kernel, by decide +kernel⟩ ⟨Nat.le_of_ble_eq_true rfl, Nat.le_of_ble_eq_true rfl⟩ ⟨by show _ ≤ 100; omega, by show _ ≤ 600; omega⟩ rfl (Nat.le_of_ble_eq_true rfl) rfl dL_acts_485 ?_
            refine X_iload (pc := 488) C dL_acts_488 rfl ?_
            refine X_icmp_ne (pc := 490) C 507 dL_acts_490 (by decide) (fun h => absurd G2 h) (fun h => ?_)
            refine X_aload_n (pc := 493) C 0 dL_acts_493 rfl rfl ?_
            refine X_iload_n (pc := 494) C 3 dL_acts_494 rfl rfl ?_
            refine X_ask (n := 2) (pc := 495) C [.ref _, .int _] (a_secretsKnown l hl0 _ (XA.pr hP) _ hG1 hu1) ⟨rfl, rfl⟩ m_h_L_secretsKnown m_m_L_183 m_t_L_secretsKnown m_n_L ⟨by decide +kernel, by decide +kernel, by decide +kernel⟩ ⟨Nat.le_of_ble_eq_true rfl, Nat.le_of_ble_eq_true rfl⟩ ⟨by show _ ≤ 100; omega, by show _ ≤ 600; omega⟩ rfl (Nat.le_of_ble_eq_true rfl) rfl dL_acts_495 ?_
            refine X_iload (pc := 498) C dL_acts_498 rfl ?_
            refine X_icmp_ne (pc := 500) C 507 dL_acts_500 (by decide) (fun h => absurd GU h) (fun h => ?_)
            refine X_iconst (pc := 503) (v := 1) C dL_acts_503 (by decide) ?_
            refine X_goto (pc := 504) C 508 dL_acts_504 (by decide) ?_
            exact X_retIB (P := P) (pc := 508) C rfl (by show _ ≤ 100; omega) (by show _ ≤ 600; omega) dL_acts_508 hR
          · skip
            refine X_iconst (pc := 474) (v := 1) C dL_acts_474 (by decide) ?_
            refine X_goto (pc := 475) C 479 dL_acts_475 (by decide) ?_
            refine X_icmp_ne (pc := 479) C 507 dL_acts_479 (by decide) (fun h9 => absurd (hcs.trans (h01.resolve_left h)) h9) (fun h9 => ?_)
            refine X_aload_n (pc := 482) C 0 dL_acts_482 rfl rfl ?_
            refine X_iload (pc := 483) C dL_acts_483 rfl ?_
            refine X_ask (n := 2) (pc := 485) C [.ref _, .int _] (a_calledTrunk l hl0 _ (XA.pr hP) _ hG1 hc1) ⟨rfl, rfl⟩ m_h_L_calledTrunk m_m_L_135 m_t_L_calledTrunk m_n_L ⟨by decide +kernel, by decide +kernel, by decide +kernel⟩ ⟨Nat.le_of_ble_eq_true rfl, Nat.le_of_ble_eq_true rfl⟩ ⟨by show _ ≤ 100; omega, by show _ ≤ 600; omega⟩ rfl (Nat.le_of_ble_eq_true rfl) rfl dL_acts_485 ?_
            refine X_iload (pc := 488) C dL_acts_488 rfl ?_
            refine X_icmp_ne (pc := 490) C 507 dL_acts_490 (by decide) (fun h => absurd G2 h) (fun h => ?_)
            refine X_aload_n (pc := 493) C 0 dL_acts_493 rfl rfl ?_
            refine X_iload_n (pc := 494) C 3 dL_acts_494 rfl rfl ?_
            refine X_ask (n := 2) (pc := 495) C [.ref _, .int _] (a_secretsKnown l hl0 _ (XA.pr hP) _ hG1 hu1) ⟨rfl, rfl⟩ m_h_L_secretsKnown m_m_L_183 m_t_L_secretsKnown m_n_L ⟨by decide +kernel, by decide +kernel, by decide +kernel⟩ ⟨Nat.le_of_ble_eq_true rfl, Nat.le_of_ble_eq_true rfl⟩ ⟨by show _ ≤ 100; omega, by show _ ≤ 600; omega⟩ rfl (Nat.le_of_ble_eq_true rfl) rfl dL_acts_495 ?_
            refine X_iload (pc := 498) C dL_acts_498 rfl ?_
            refine X_icmp_ne (pc := 500) C 507 dL_acts_500 (by decide) (fun h => absurd GU h) (fun h => ?_)
            refine X_iconst (pc := 503) (v := 1) C dL_acts_503 (by decide) ?_
            refine X_goto (pc := 504) C 508 dL_acts_504 (by decide) ?_
            exact X_retIB (P := P) (pc := 508) C rfl (by show _ ≤ 100; omega) (by show _ ≤ 600; omega) dL_acts_508 hR
        · have e40 : mK S = 40 := by omega
          obtain ⟨rfl, rfl⟩ := hq.1 e40
          refine X_istore (pc := 434) (lv1 := [(0, _), (1, _), (2, _), (3, _), (4, _), (5, _), (6, _), (7, _), (8, _)]) C dL_acts_434 (by decide) rfl ?_
          refine X_iload (pc := 436) C dL_acts_436 rfl ?_
          refine X_bipush (pc := 438) (v := 40) C dL_acts_438 (by decide) ?_
          refine X_icmp_ne (pc := 440) C 456 dL_acts_440 (by decide) (fun h => absurd (by rw [e40]; rfl) h) (fun h => ?_)
          refine X_iload (pc := 443) C dL_acts_443 rfl ?_
          refine X_bipush (pc := 445) (v := (-19)) C dL_acts_445 (by decide) ?_
          refine X_icmp_ne (pc := 447) C 454 dL_acts_447 (by decide) (fun h => absurd rfl h) (fun h => ?_)
          refine X_iconst (pc := 450) (v := 1) C dL_acts_450 (by decide) ?_
          refine X_goto (pc := 451) C 455 dL_acts_451 (by decide) ?_
          exact X_retIB (P := P) (pc := 455) C rfl (by show _ ≤ 100; omega) (by show _ ≤ 600; omega) dL_acts_455 ⟨rfl, S, T, o, ch, _, rfl, ⟨hG, hp, hb, he⟩, by omega, hU0⟩
      refine X_if_ne (pc := 423) C 430 dL_acts_423 (by decide) (fun h => ?_) (fun h => ?_)
      · refine X_iconst (pc := 430) (v := 0) C dL_acts_430 (by decide) ?_
        exact m431 0 (Or.inl rfl)
      · refine X_iconst (pc := 426) (v := 1) C dL_acts_426 (by decide) ?_
        refine X_goto (pc := 427) C 431 dL_acts_427 (by decide) ?_
        exact m431 1 (Or.inr rfl)
    have n411 : ¬ (mLine S (sU S 0 u) (mK S) = 0 ∧ mTrk S (nI t) (mK S) = 0 ∧ ¬ nI (mCords S (mK S)) = S 2) → XW p l e rm_L_acts s m args below meth c (xPR P (w0.set i (iC P a f))) A 11 (k + 3) (6 * (k + 3)) (MQ below (XQB P A (PA P w0 i a S0 T0)) args s rm_L_acts.cells rm_L_acts.slots A) σ 411 [(0, .ref (P.2.2.1 (.inr 0))), (1, .ref a), (2, .int (nI (mU S))), (3, .int (nI u)), (4, .int (nI (mK S))), (5, .int (sU S 4 u)), (6, .int (nI t))] [] := by
      intro q
      refine X_iconst (pc := 411) (v := 0) C dL_acts_411 (by decide) ?_
      exact XW.up (by omega) (by omega) (m412 0 (if_neg q).symm)
    refine X_aload_n (pc := 379) C 0 dL_acts_379 rfl rfl ?_
    refine X_aload_n (pc := 380) C 0 dL_acts_380 rfl rfl ?_
    refine X_iload_n (pc := 381) C 3 dL_acts_381 rfl rfl ?_
    refine X_ask (n := 2) (pc := 382) C [.ref _, .int _] (a_lineOfN l hl0 _ (XA.pr hP) _ hG hu ea) ⟨rfl, rfl⟩ m_h_L_lineOf m_m_L_166 m_t_L_lineOf m_n_L ⟨by decide +kernel, by decide +kernel, by decide +kernel⟩ ⟨Nat.le_of_ble_eq_true rfl, Nat.le_of_ble_eq_true rfl⟩ ⟨by show _ ≤ 100; omega, by show _ ≤ 600; omega⟩ rfl (Nat.le_of_ble_eq_true rfl) rfl dL_acts_382 ?_
    refine X_ask (n := 2) (pc := 385) C [.ref _, .int _] (a_isLineBusy l hl0 _ (XA.pr hP) _ hG hla) ⟨rfl, rfl⟩ m_h_L_isLineBusy m_m_L_168 m_t_L_isLineBusy m_n_L ⟨by decide +kernel, by decide +kernel, by decide +kernel⟩ ⟨Nat.le_of_ble_eq_true rfl, Nat.le_of_ble_eq_true rfl⟩ ⟨by show _ ≤ 100; omega, by show _ ≤ 600; omega⟩ rfl (Nat.le_of_ble_eq_true rfl) rfl dL_acts_385 ?_
    refine X_if_ne (pc := 388) C 411 dL_acts_388 (by decide) (fun h => XW.up (by omega) (by omega) (n411 (fun q => h (if_neg (by rw [← ea, q.1]; exact Nat.lt_irrefl 0))))) (fun h388 => ?_)
    refine X_aload_n (pc := 391) C 0 dL_acts_391 rfl rfl ?_
    refine X_iload (pc := 392) C dL_acts_392 rfl ?_
    refine X_ask (n := 2) (pc := 394) C [.ref _, .int _] (a_isTrunkBusy l hl0 _ (XA.pr hP) _ hG ht) ⟨rfl, rfl⟩ m_h_L_isTrunkBusy m_m_L_179 m_t_L_isTrunkBusy m_n_L ⟨by decide +kernel, by decide +kernel, by decide +kernel⟩ ⟨Nat.le_of_ble_eq_true rfl, Nat.le_of_ble_eq_true rfl⟩ ⟨by show _ ≤ 100; omega, by show _ ≤ 600; omega⟩ rfl (Nat.le_of_ble_eq_true rfl) rfl dL_acts_394 ?_
    refine X_if_ne (pc := 397) C 411 dL_acts_397 (by decide) (fun h => XW.up (by omega) (by omega) (n411 (fun q => h (if_neg (by rw [q.2.1]; exact Nat.lt_irrefl 0))))) (fun h397 => ?_)
    refine X_aload_n (pc := 400) C 0 dL_acts_400 rfl rfl ?_
    refine X_fV (i := .inr 0) (ci := 6) (n := 0) (pc := 401) C [] (d_freeCords l _ (XA.pr hP) _ hG) m_c_X6_freeCords m_m_L_170 m_i_X6_freeCords m_s_X6_freeCords m_n_X6 ⟨by decide +kernel, by decide +kernel, by decide +kernel⟩ ⟨Nat.le_of_ble_eq_true rfl, Nat.le_of_ble_eq_true rfl⟩ ⟨rfl, rfl⟩ ⟨by show _ ≤ 100; omega, by show _ ≤ 600; omega⟩ (XA.n0 (XA.pr hP)) rfl rfl rfl rfl (Nat.le_of_ble_eq_true rfl) rfl dL_acts_401 ?_
    refine X_if_le (pc := 404) C 411 dL_acts_404 (by decide) (fun h => XW.up (by omega) (by omega) (n411 (fun q => q.2.2 (hfree.mp h)))) (fun h404 => ?_)
    refine X_iconst (pc := 407) (v := 1) C dL_acts_407 (by decide) ?_
    refine X_goto (pc := 408) C 412 dL_acts_408 (by decide) ?_
    exact XW.up (by omega) (by omega) (m412 1 (if_pos ⟨by have q := of01 h388; rw [← ea] at q; exact q, of01 h397, fun q => h404 (hfree.mpr q)⟩).symm)
  · have e0 : mT S = 0 := (nI_eq (b := 0) (n31 (by omega)) (by decide)).mp h348
    refine X_aload_n (pc := 351) C 0 dL_acts_351 rfl rfl ?_
    refine X_iload_n (pc := 352) C 3 dL_acts_352 rfl rfl ?_
    refine X_iconst (pc := 353) (v := 0) C dL_acts_353 (by decide) ?_
    refine X_iconst (pc := 354) (v := 0) C dL_acts_354 (by decide) ?_
    refine X_chg (n := 4) (nc := 3) (pc := 355) C [.ref _, .int _, .int _, .int _] (b_callTrunk l hl0 _ (XA.pr hP) _ hG (t := 0) (ur := 0) hu (Or.inl rfl)) ⟨rfl, rfl⟩ m_h_L_callTrunk m_m_L_215 m_t_L_callTrunk m_n_L ⟨by decide +kernel, by decide +kernel, by decide +kernel⟩ ⟨Nat.le_of_ble_eq_true rfl, Nat.le_of_ble_eq_true rfl⟩ ⟨by show _ ≤ 100; omega, by show _ ≤ 600; omega⟩ rfl (Nat.le_of_ble_eq_true rfl) rfl dL_acts_355 (fun v9 τ hq => ?_)
    obtain ⟨rfl, rfl⟩ := hq.1 e0
    refine X_bipush (pc := 358) (v := (-17)) C dL_acts_358 (by decide) ?_
    refine X_icmp_ne (pc := 360) C 367 dL_acts_360 (by decide) (fun h => absurd rfl h) (fun h => ?_)
    refine X_iconst (pc := 363) (v := 1) C dL_acts_363 (by decide) ?_
    refine X_goto (pc := 364) C 368 dL_acts_364 (by decide) ?_
    exact X_retIB (P := P) (pc := 368) C rfl (by show _ ≤ 100; omega) (by show _ ≤ 600; omega) dL_acts_368 ⟨rfl, S, T, o, ch, _, rfl, ⟨hG, hp, hb, he⟩, by omega, hU0⟩

set_option maxRecDepth 100000 in
set_option maxHeartbeats 4000000 in
theorem a509 (hl0 : l.stackTraces = false) (hi : i < w0.length) (C : XC p s m args meth c (xPR P (w0.set i (iC P a f))) A 11 RL cL_acts (some .boolean)) (hP : XA P) (hA : AV σ S T o ch) (hU0 : mU S = mU S0) (hT0 : T ≤ T0) (hT9 : T0 + 200 ≤ 900000) (hu : u < mU S) (hk : k + 60 ≤ 100) : XW p l e rm_L_acts s m args below meth c (xPR P (w0.set i (iC P a f))) A 11 (k) (6 * (k)) (MQ below (XQB P A (PA P w0 i a S0 T0)) args s rm_L_acts.cells rm_L_acts.slots A) σ 509 [(0, .ref (P.2.2.1 (.inr 0))), (1, .ref a), (2, .int (nI (mU S))), (3, .int (nI u)), (4, .int (nI (mK S))), (5, .int (sU S 4 u))] [] := by
  obtain ⟨hG, hp, hb, he⟩ := hA
  have hM := hG.b.x.i
  have u15 := hM.u15
  have k40 := hM.k40
  have t4 := hM.t4
  refine X_iload (pc := 509) C dL_acts_509 rfl ?_
  refine X_if_ne (pc := 511) C 530 dL_acts_511 (by decide) (fun h511 => ?_) (fun h511 => ?_)
  · have hk1 : 1 ≤ mK S := Nat.pos_of_ne_zero (fun q => h511 (by rw [q]; rfl))
    refine X_aload_n (pc := 530) C 1 dL_acts_530 rfl rfl ?_
    refine X_iload (pc := 531) C dL_acts_531 rfl ?_
    refine X_drw (n := mK S) (pc := 533) C hi m_m_L_203 hk1 (by omega) ⟨Nat.le_of_ble_eq_true rfl, Nat.le_of_ble_eq_true rfl⟩ ⟨by show _ ≤ 100; omega, by show _ ≤ 600; omega⟩ (Nat.le_of_ble_eq_true rfl) dL_acts_533 (fun cl f hcl C => ?_)
    refine X_istore (pc := 536) (lv1 := [(0, _), (1, _), (2, _), (3, _), (4, _), (5, _), (6, _)]) C dL_acts_536 (by decide) rfl ?_
    skip
    have hst : (sC S 4 cl = 0 ∨ sC S 4 cl = 1) ∨ (sC S 4 cl = 2 ∨ sC S 4 cl = 3) := by
      rcases st_of hG.b.x hcl with q | q | q | q
      · exact Or.inl (Or.inl q)
      · exact Or.inl (Or.inr q)
      · exact Or.inr (Or.inl q)
      · exact Or.inr (Or.inr q)
    refine X_aload_n (pc := 538) C 0 dL_acts_538 rfl rfl ?_
    refine X_iload (pc := 539) C dL_acts_539 rfl ?_
    refine X_ask (n := 2) (pc := 541) C [.ref _, .int _] (a_callState l hl0 _ (XA.pr hP) _ hG hcl) ⟨rfl, rfl⟩ m_h_L_callState m_m_L_133 m_t_L_callState m_n_L ⟨by decide +kernel, by decide +kernel, by decide +kernel⟩ ⟨Nat.le_of_ble_eq_true rfl, Nat.le_of_ble_eq_true rfl⟩ ⟨by show _ ≤ 100; omega, by show _ ≤ 600; omega⟩ rfl (Nat.le_of_ble_eq_true rfl) rfl dL_acts_541 ?_
    refine X_istore (pc := 544) (lv1 := [(0, _), (1, _), (2, _), (3, _), (4, _), (5, _), (6, _), (7, _)]) C dL_acts_544 (by decide) rfl ?_
    refine X_aload_n (pc := 546) C 0 dL_acts_546 rfl rfl ?_
    refine X_iload (pc := 547) C dL_acts_547 rfl ?_
    refine X_chg (n := 2) (nc := 1) (pc := 549) C [.ref _, .int _] (b_startsIfEnded l hl0 _ (XA.pr hP) _ hG hcl) ⟨rfl, rfl⟩ m_h_L_startsIfEnded m_m_L_219 m_t_L_startsIfEnded m_n_L ⟨by decide +kernel, by decide +kernel, by decide +kernel⟩ ⟨Nat.le_of_ble_eq_true rfl, Nat.le_of_ble_eq_true rfl⟩ ⟨by show _ ≤ 100; omega, by show _ ≤ 600; omega⟩ rfl (Nat.le_of_ble_eq_true rfl) rfl dL_acts_549 (fun v9 τ hq => ?_)
    obtain ⟨hG2, hq2, hq0⟩ := hq
    rcases hst with hs | hs
    · obtain rfl := hq0 hs
      obtain ⟨p1, p2, F4, F6, FC⟩ := PFin hG.b hp hb hcl hs
      have hF := mFin_fx hM hcl
      have eK : mK (mFin S cl).1 = mK S := mK_fx hF
      have F0 : (mFin S cl).1 0 = S 0 := hF 0 (Or.inl (by decide))
      have hc1 : cl < mK (mFin S cl).1 := by rw [eK]; exact hcl
      have hE1 := PE.fin hM hcl hp.t he
      have FT : nI (cCnt (fun c => sC (mFin S cl).1 4 c = 1) (mK (mFin S cl).1)) = nI (cCnt (fun c => sC S 4 c = 1) (mK S)) - sC S 4 cl + nI (mFin S cl).2 := by
        rw [eK]
        have hx : sC S 4 cl = nI (if sC S 4 cl = 1 then 1 else 0) := by
          rcases hs with q | q <;> rw [q] <;> decide
        refine i32_cancel (b := sC S 4 cl) ?_
        rw [Int32.add_assoc, Int32.add_comm (nI (mFin S cl).2), ← Int32.add_assoc, Int32.sub_add_cancel, nI_add]
        rw [← FC, ← nI_add]
        exact congrArg _ hx
      refine X_istore (pc := 552) (lv1 := [(0, _), (1, _), (2, _), (3, _), (4, _), (5, _), (6, _), (7, _), (8, _)]) C dL_acts_552 (by decide) rfl ?_
      refine X_aload_n (pc := 554) C 0 dL_acts_554 rfl rfl ?_
      refine X_fV (i := .inr 0) (ci := 6) (n := 0) (pc := 555) C [] (d_talkingCalls l _ (XA.pr hP) _ hG2) m_c_X6_talkingCalls m_m_L_193 m_i_X6_talkingCalls m_s_X6_talkingCalls m_n_X6 ⟨by decide +kernel, by decide +kernel, by decide +kernel⟩ ⟨Nat.le_of_ble_eq_true rfl, Nat.le_of_ble_eq_true rfl⟩ ⟨rfl, rfl⟩ ⟨by show _ ≤ 100; omega, by show _ ≤ 600; omega⟩ (XA.n0 (XA.pr hP)) rfl rfl rfl rfl (Nat.le_of_ble_eq_true rfl) rfl dL_acts_555 ?_
      refine X_istore (pc := 558) (lv1 := [(0, _), (1, _), (2, _), (3, _), (4, _), (5, _), (6, _), (7, _), (8, _), (9, _)]) C dL_acts_558 (by decide) rfl ?_
      refine X_aload_n (pc := 560) C 0 dL_acts_560 rfl rfl ?_
      refine X_iload (pc := 561) C dL_acts_561 rfl ?_
      refine X_chg (n := 2) (nc := 2) (pc := 563) C [.ref _, .int _] (b_end l hl0 _ (XA.pr hP) _ hG2 cl (by omega)) ⟨rfl, rfl⟩ m_h_L_end m_m_L_217 m_t_L_end m_n_L ⟨by decide +kernel, by decide +kernel, by decide +kernel⟩ ⟨Nat.le_of_ble_eq_true rfl, Nat.le_of_ble_eq_true rfl⟩ ⟨by show _ ≤ 100; omega, by show _ ≤ 600; omega⟩ rfl (Nat.le_of_ble_eq_true rfl) rfl dL_acts_563 (fun v9 υ hq => ?_)
      obtain ⟨rfl, hG1⟩ := (hq.2 hcl).2 hs
      skip
      have hR : PA P w0 i a S0 T0 (some (.int 1)) υ (w0.set i (iC P a f)) := ⟨rfl, _, T, _, _, _, rfl, ⟨hG1, p1, p2, hE1⟩, by omega, (mU_fin hM hcl).trans hU0⟩
      refine X_istore (pc := 566) (lv1 := [(0, _), (1, _), (2, _), (3, _), (4, _), (5, _), (6, _), (7, _), (8, _), (9, _), (10, _)]) C dL_acts_566 (by decide) rfl ?_
      refine X_iload (pc := 568) C dL_acts_568 rfl ?_
      refine X_iconst (pc := 570) (v := 1) C dL_acts_570 (by decide) ?_
      refine X_icmp_le (pc := 571) C 592 dL_acts_571 (by decide) (fun h => ?_) (fun h => absurd (by rcases hs with q | q <;> rw [q] <;> decide) h)
      refine X_iload (pc := 592) C dL_acts_592 rfl ?_
      refine X_iload (pc := 594) C dL_acts_594 rfl ?_
      refine X_icmp_ne (pc := 596) C 651 dL_acts_596 (by decide) (fun h => absurd rfl h) (fun h => ?_)
      refine X_aload_n (pc := 599) C 0 dL_acts_599 rfl rfl ?_
      refine X_iload (pc := 600) C dL_acts_600 rfl ?_
      refine X_ask (n := 2) (pc := 602) C [.ref _, .int _] (a_callState l hl0 _ (XA.pr hP) _ hG1 hc1) ⟨rfl, rfl⟩ m_h_L_callState m_m_L_133 m_t_L_callState m_n_L ⟨by decide +kernel, by decide +kernel, by decide +kernel⟩ ⟨Nat.le_of_ble_eq_true rfl, Nat.le_of_ble_eq_true rfl⟩ ⟨by show _ ≤ 100; omega, by show _ ≤ 600; omega⟩ rfl (Nat.le_of_ble_eq_true rfl) rfl dL_acts_602 ?_
      refine X_iload (pc := 605) C dL_acts_605 rfl ?_
      refine X_iconst (pc := 607) (v := 1) C dL_acts_607 (by decide) ?_
      refine X_icmp_ne (pc := 608) C 615 dL_acts_608 (by decide) (fun h608 => ?_) (fun h608 => ?_)
      · skip
        refine X_iconst (pc := 615) (v := 3) C dL_acts_615 (by decide) ?_
        refine X_icmp_ne (pc := 616) C 651 dL_acts_616 (by decide) (fun h => absurd (F4.trans (if_neg h608)) h) (fun h => ?_)
        refine X_aload_n (pc := 619) C 0 dL_acts_619 rfl rfl ?_
        refine X_iload (pc := 620) C dL_acts_620 rfl ?_
        refine X_ask (n := 2) (pc := 622) C [.ref _, .int _] (a_endTime l hl0 _ (XA.pr hP) _ hG1 hc1) ⟨rfl, rfl⟩ m_h_L_endTime m_m_L_143 m_t_L_endTime m_n_L ⟨by decide +kernel, by decide +kernel, by decide +kernel⟩ ⟨Nat.le_of_ble_eq_true rfl, Nat.le_of_ble_eq_true rfl⟩ ⟨by show _ ≤ 100; omega, by show _ ≤ 600; omega⟩ rfl (Nat.le_of_ble_eq_true rfl) rfl dL_acts_622 ?_
        refine X_aload_n (pc := 625) C 0 dL_acts_625 rfl rfl ?_
        refine X_fV (i := .inr 0) (ci := 6) (n := 0) (pc := 626) C [] (d_clock l _ (XA.pr hP) _ hG1) m_c_X6_clock m_m_L_152 m_i_X6_clock m_s_X6_clock m_n_X6 ⟨by decide +kernel, by decide +kernel, by decide +kernel⟩ ⟨Nat.le_of_ble_eq_true rfl, Nat.le_of_ble_eq_true rfl⟩ ⟨rfl, rfl⟩ ⟨by show _ ≤ 100; omega, by show _ ≤ 600; omega⟩ (XA.n0 (XA.pr hP)) rfl rfl rfl rfl (Nat.le_of_ble_eq_true rfl) rfl dL_acts_626 ?_
        refine X_icmp_ne (pc := 629) C 651 dL_acts_629 (by decide) (fun h => absurd (F6.trans F0.symm) h) (fun h => ?_)
        refine X_aload_n (pc := 632) C 0 dL_acts_632 rfl rfl ?_
        refine X_fV (i := .inr 0) (ci := 6) (n := 0) (pc := 633) C [] (d_talkingCalls l _ (XA.pr hP) _ hG1) m_c_X6_talkingCalls m_m_L_193 m_i_X6_talkingCalls m_s_X6_talkingCalls m_n_X6 ⟨by decide +kernel, by decide +kernel, by decide +kernel⟩ ⟨Nat.le_of_ble_eq_true rfl, Nat.le_of_ble_eq_true rfl⟩ ⟨rfl, rfl⟩ ⟨by show _ ≤ 100; omega, by show _ ≤ 600; omega⟩ (XA.n0 (XA.pr hP)) rfl rfl rfl rfl (Nat.le_of_ble_eq_true rfl) rfl dL_acts_633 ?_
        refine X_iload (pc := 636) C dL_acts_636 rfl ?_
        refine X_iload (pc := 638) C dL_acts_638 rfl ?_
        refine X_isub (pc := 640) C dL_acts_640 ?_
        refine X_iload (pc := 641) C dL_acts_641 rfl ?_
        refine X_iadd (pc := 643) C dL_acts_643 ?_
        refine X_icmp_ne (pc := 644) C 651 dL_acts_644 (by decide) (fun h => absurd FT h) (fun h => ?_)
        refine X_iconst (pc := 647) (v := 1) C dL_acts_647 (by decide) ?_
        refine X_goto (pc := 648) C 652 dL_acts_648 (by decide) ?_
        exact X_retIB (P := P) (pc := 652) C rfl (by show _ ≤ 100; omega) (by show _ ≤ 600; omega) dL_acts_652 hR
      · skip
        refine X_iconst (pc := 611) (v := 2) C dL_acts_611 (by decide) ?_
        refine X_goto (pc := 612) C 616 dL_acts_612 (by decide) ?_
        refine X_icmp_ne (pc := 616) C 651 dL_acts_616 (by decide) (fun h => absurd (F4.trans (if_pos h608)) h) (fun h => ?_)
        refine X_aload_n (pc := 619) C 0 dL_acts_619 rfl rfl ?_
        refine X_iload (pc := 620) C dL_acts_620 rfl ?_
        refine X_ask (n := 2) (pc := 622) C [.ref _, .int _] (a_endTime l hl0 _ (XA.pr hP) _ hG1 hc1) ⟨rfl, rfl⟩ m_h_L_endTime m_m_L_143 m_t_L_endTime m_n_L ⟨by decide +kernel, by decide +kernel, by decide +kernel⟩ ⟨Nat.le_of_ble_eq_true rfl, Nat.le_of_ble_eq_true rfl⟩ ⟨by show _ ≤ 100; omega, by show _ ≤ 600; omega⟩ rfl (Nat.le_of_ble_eq_true rfl) rfl dL_acts_622 ?_
        refine X_aload_n (pc := 625) C 0 dL_acts_625 rfl rfl ?_
        refine X_fV (i := .inr 0) (ci := 6) (n := 0) (pc := 626) C [] (d_clock l _ (XA.pr hP) _ hG1) m_c_X6_clock m_m_L_152 m_i_X6_clock m_s_X6_clock m_n_X6 ⟨by decide +kernel, by decide +kernel, by decide +kernel⟩ ⟨Nat.le_of_ble_eq_true rfl, Nat.le_of_ble_eq_true rfl⟩ ⟨rfl, rfl⟩ ⟨by show _ ≤ 100; omega, by show _ ≤ 600; omega⟩ (XA.n0 (XA.pr hP)) rfl rfl rfl rfl (Nat.le_of_ble_eq_true rfl) rfl dL_acts_626 ?_
        refine X_icmp_ne (pc := 629) C 651 dL_acts_629 (by decide) (fun h => absurd (F6.trans F0.symm) h) (fun h => ?_)
        refine X_aload_n (pc := 632) C 0 dL_acts_632 rfl rfl ?_
        refine X_fV (i := .inr 0) (ci := 6) (n := 0) (pc := 633) C [] (d_talkingCalls l _ (XA.pr hP) _ hG1) m_c_X6_talkingCalls m_m_L_193 m_i_X6_talkingCalls m_s_X6_talkingCalls m_n_X6 ⟨by decide +kernel, by decide +kernel, by decide +kernel⟩ ⟨Nat.le_of_ble_eq_true rfl, Nat.le_of_ble_eq_true rfl⟩ ⟨rfl, rfl⟩ ⟨by show _ ≤ 100; omega, by show _ ≤ 600; omega⟩ (XA.n0 (XA.pr hP)) rfl rfl rfl rfl (Nat.le_of_ble_eq_true rfl) rfl dL_acts_633 ?_
        refine X_iload (pc := 636) C dL_acts_636 rfl ?_
        refine X_iload (pc := 638) C dL_acts_638 rfl ?_
        refine X_isub (pc := 640) C dL_acts_640 ?_
        refine X_iload (pc := 641) C dL_acts_641 rfl ?_
        refine X_iadd (pc := 643) C dL_acts_643 ?_
        refine X_icmp_ne (pc := 644) C 651 dL_acts_644 (by decide) (fun h => absurd FT h) (fun h => ?_)
        refine X_iconst (pc := 647) (v := 1) C dL_acts_647 (by decide) ?_
        refine X_goto (pc := 648) C 652 dL_acts_648 (by decide) ?_
        exact X_retIB (P := P) (pc := 652) C rfl (by show _ ≤ 100; omega) (by show _ ≤ 600; omega) dL_acts_652 hR
    · obtain rfl := hq2 hs
      refine X_istore (pc := 552) (lv1 := [(0, _), (1, _), (2, _), (3, _), (4, _), (5, _), (6, _), (7, _), (8, _)]) C dL_acts_552 (by decide) rfl ?_
      refine X_aload_n (pc := 554) C 0 dL_acts_554 rfl rfl ?_
      refine X_fV (i := .inr 0) (ci := 6) (n := 0) (pc := 555) C [] (d_talkingCalls l _ (XA.pr hP) _ hG2) m_c_X6_talkingCalls m_m_L_193 m_i_X6_talkingCalls m_s_X6_talkingCalls m_n_X6 ⟨by decide +kernel, by decide +kernel, by decide +kernel⟩ ⟨Nat.le_of_ble_eq_true rfl, Nat.le_of_ble_eq_true rfl⟩ ⟨rfl, rfl⟩ ⟨by show _ ≤ 100; omega, by show _ ≤ 600; omega⟩ (XA.n0 (XA.pr hP)) rfl rfl rfl rfl (Nat.le_of_ble_eq_true rfl) rfl dL_acts_555 ?_
      refine X_istore (pc := 558) (lv1 := [(0, _), (1, _), (2, _), (3, _), (4, _), (5, _), (6, _), (7, _), (8, _), (9, _)]) C dL_acts_558 (by decide) rfl ?_
      refine X_aload_n (pc := 560) C 0 dL_acts_560 rfl rfl ?_
      refine X_iload (pc := 561) C dL_acts_561 rfl ?_
      refine X_chg (n := 2) (nc := 2) (pc := 563) C [.ref _, .int _] (b_end l hl0 _ (XA.pr hP) _ hG2 cl (by omega)) ⟨rfl, rfl⟩ m_h_L_end m_m_L_217 m_t_L_end m_n_L ⟨by decide +kernel, by decide +kernel, by decide +kernel⟩ ⟨Nat.le_of_ble_eq_true rfl, Nat.le_of_ble_eq_true rfl⟩ ⟨by show _ ≤ 100; omega, by show _ ≤ 600; omega⟩ rfl (Nat.le_of_ble_eq_true rfl) rfl dL_acts_563 (fun v9 υ hq => ?_)
      obtain ⟨rfl, rfl⟩ := (hq.2 hcl).1 hs
      refine X_istore (pc := 566) (lv1 := [(0, _), (1, _), (2, _), (3, _), (4, _), (5, _), (6, _), (7, _), (8, _), (9, _), (10, _)]) C dL_acts_566 (by decide) rfl ?_
      refine X_iload (pc := 568) C dL_acts_568 rfl ?_
      refine X_iconst (pc := 570) (v := 1) C dL_acts_570 (by decide) ?_
      refine X_icmp_le (pc := 571) C 592 dL_acts_571 (by decide) (fun h => absurd h (by rcases hs with q | q <;> rw [q] <;> decide)) (fun h => ?_)
      refine X_iload (pc := 574) C dL_acts_574 rfl ?_
      refine X_bipush (pc := 576) (v := (-19)) C dL_acts_576 (by decide) ?_
      refine X_icmp_ne (pc := 578) C 590 dL_acts_578 (by decide) (fun h => absurd rfl h) (fun h => ?_)
      refine X_iload (pc := 581) C dL_acts_581 rfl ?_
      refine X_if_ne (pc := 583) C 590 dL_acts_583 (by decide) (fun h => absurd rfl h) (fun h => ?_)
      refine X_iconst (pc := 586) (v := 1) C dL_acts_586 (by decide) ?_
      refine X_goto (pc := 587) C 591 dL_acts_587 (by decide) ?_
      exact X_retIB (P := P) (pc := 591) C rfl (by show _ ≤ 100; omega) (by show _ ≤ 600; omega) dL_acts_591 ⟨rfl, S, T, o, ch, _, rfl, ⟨hG2, hp, hb, he⟩, by omega, hU0⟩
  · have e0 : mK S = 0 := (nI_eq (b := 0) (n31 (by omega)) (by decide)).mp h511
    refine X_aload_n (pc := 514) C 0 dL_acts_514 rfl rfl ?_
    refine X_iconst (pc := 515) (v := 0) C dL_acts_515 (by decide) ?_
    refine X_chg (n := 2) (nc := 2) (pc := 516) C [.ref _, .int _] (b_end l hl0 _ (XA.pr hP) _ hG 0 (by decide)) ⟨rfl, rfl⟩ m_h_L_end m_m_L_217 m_t_L_end m_n_L ⟨by decide +kernel, by decide +kernel, by decide +kernel⟩ ⟨Nat.le_of_ble_eq_true rfl, Nat.le_of_ble_eq_true rfl⟩ ⟨by show _ ≤ 100; omega, by show _ ≤ 600; omega⟩ rfl (Nat.le_of_ble_eq_true rfl) rfl dL_acts_516 (fun v9 τ hq => ?_)
    obtain ⟨rfl, rfl⟩ := hq.1 e0
    refine X_bipush (pc := 519) (v := (-17)) C dL_acts_519 (by decide) ?_
    refine X_icmp_ne (pc := 521) C 528 dL_acts_521 (by decide) (fun h => absurd rfl h) (fun h => ?_)
    refine X_iconst (pc := 524) (v := 1) C dL_acts_524 (by decide) ?_
    refine X_goto (pc := 525) C 529 dL_acts_525 (by decide) ?_
    exact X_retIB (P := P) (pc := 529) C rfl (by show _ ≤ 100; omega) (by show _ ≤ 600; omega) dL_acts_529 ⟨rfl, S, T, o, ch, _, rfl, ⟨hG, hp, hb, he⟩, by omega, hU0⟩

set_option maxRecDepth 100000 in
set_option maxHeartbeats 4000000 in
theorem a653 (hl0 : l.stackTraces = false) (hi : i < w0.length) (C : XC p s m args meth c (xPR P (w0.set i (iC P a f))) A 11 RL cL_acts (some .boolean)) (hP : XA P) (hA : AV σ S T o ch) (hU0 : mU S = mU S0) (hT0 : T ≤ T0) (hT9 : T0 + 200 ≤ 900000) (hu : u < mU S) (hk : k + 60 ≤ 100) : XW p l e rm_L_acts s m args below meth c (xPR P (w0.set i (iC P a f))) A 11 (k) (6 * (k)) (MQ below (XQB P A (PA P w0 i a S0 T0)) args s rm_L_acts.cells rm_L_acts.slots A) σ 653 [(0, .ref (P.2.2.1 (.inr 0))), (1, .ref a), (2, .int (nI (mU S))), (3, .int (nI u)), (4, .int (nI (mK S))), (5, .int (sU S 4 u))] [] := by
  obtain ⟨hG, hp, hb, he⟩ := hA
  have hM := hG.b.x.i
  have u15 := hM.u15
  have k40 := hM.k40
  have t4 := hM.t4
  refine X_iconst (pc := 653) (v := 1) C dL_acts_653 (by decide) ?_
  refine X_aload_n (pc := 654) C 1 dL_acts_654 rfl rfl ?_
  refine X_sipush (pc := 655) (v := 200) C dL_acts_655 (by decide) ?_
  refine X_drw (n := 200) (pc := 658) C hi m_m_L_203 (by decide) (by decide) ⟨Nat.le_of_ble_eq_true rfl, Nat.le_of_ble_eq_true rfl⟩ ⟨by show _ ≤ 100; omega, by show _ ≤ 600; omega⟩ (Nat.le_of_ble_eq_true rfl) dL_acts_658 (fun j f hj C => ?_)
  refine X_iadd (pc := 661) C dL_acts_661 ?_
  rw [show (1 : Int32) + nI j = nI (1 + j) from nI_add 1 j]
  refine X_istore (pc := 662) (lv1 := [(0, _), (1, _), (2, _), (3, _), (4, _), (5, _), (6, _)]) C dL_acts_662 (by decide) rfl ?_
  refine X_aload_n (pc := 664) C 0 dL_acts_664 rfl rfl ?_
  refine X_fV (i := .inr 0) (ci := 6) (n := 0) (pc := 665) C [] (d_clock l _ (XA.pr hP) _ hG) m_c_X6_clock m_m_L_152 m_i_X6_clock m_s_X6_clock m_n_X6 ⟨by decide +kernel, by decide +kernel, by decide +kernel⟩ ⟨Nat.le_of_ble_eq_true rfl, Nat.le_of_ble_eq_true rfl⟩ ⟨rfl, rfl⟩ ⟨by show _ ≤ 100; omega, by show _ ≤ 600; omega⟩ (XA.n0 (XA.pr hP)) rfl rfl rfl rfl (Nat.le_of_ble_eq_true rfl) rfl dL_acts_665 ?_
  refine X_istore (pc := 668) (lv1 := [(0, _), (1, _), (2, _), (3, _), (4, _), (5, _), (6, _), (7, _)]) C dL_acts_668 (by decide) rfl ?_
  refine X_aload_n (pc := 670) C 0 dL_acts_670 rfl rfl ?_
  refine X_iload (pc := 671) C dL_acts_671 rfl ?_
  refine X_chg (n := 2) (nc := 2) (pc := 673) C [.ref _, .int _] (b_waitFor l hl0 _ (XA.pr hP) _ hG (T := T) hp.t (by omega) (by omega) (by omega)) ⟨rfl, rfl⟩ m_h_L_waitFor m_m_L_221 m_t_L_waitFor m_n_L ⟨by decide +kernel, by decide +kernel, by decide +kernel⟩ ⟨Nat.le_of_ble_eq_true rfl, Nat.le_of_ble_eq_true rfl⟩ ⟨by show _ ≤ 100; omega, by show _ ≤ 600; omega⟩ rfl (Nat.le_of_ble_eq_true rfl) rfl dL_acts_673 (fun v9 τ hq => ?_)
  obtain ⟨rfl, rfl⟩ := hq
  refine X_iload (pc := 676) C dL_acts_676 rfl ?_
  refine X_iload (pc := 678) C dL_acts_678 rfl ?_
  refine X_iadd (pc := 680) C dL_acts_680 ?_
  refine X_icmp_ne (pc := 681) C 688 dL_acts_681 (by decide) (fun h => absurd rfl h) (fun h => ?_)
  refine X_iconst (pc := 684) (v := 1) C dL_acts_684 (by decide) ?_
  refine X_goto (pc := 685) C 689 dL_acts_685 (by decide) ?_
  exact X_retIB (P := P) (pc := 689) C rfl (by show _ ≤ 100; omega) (by show _ ≤ 600; omega) dL_acts_689 ⟨rfl, _, T + (1 + j), _, _, _, rfl, ⟨hG.wait, (PClk hG.b.x hp hb (by omega)).1, (PClk hG.b.x hp hb (by omega)).2, he.up (by omega) (by decide) (by decide)⟩, by omega, by rw [mU, upd_ne (by decide)]; exact hU0⟩

set_option maxRecDepth 100000 in
set_option maxHeartbeats 4000000 in
theorem a690 (hl0 : l.stackTraces = false) (hi : i < w0.length) (C : XC p s m args meth c (xPR P (w0.set i (iC P a f))) A 11 RL cL_acts (some .boolean)) (hP : XA P) (hA : AV σ S T o ch) (hU0 : mU S = mU S0) (hT0 : T ≤ T0) (hT9 : T0 + 200 ≤ 900000) (hu : u < mU S) (hk : k + 60 ≤ 100) : XW p l e rm_L_acts s m args below meth c (xPR P (w0.set i (iC P a f))) A 11 (k) (6 * (k)) (MQ below (XQB P A (PA P w0 i a S0 T0)) args s rm_L_acts.cells rm_L_acts.slots A) σ 690 [(0, .ref (P.2.2.1 (.inr 0))), (1, .ref a), (2, .int (nI (mU S))), (3, .int (nI u)), (4, .int (nI (mK S))), (5, .int (sU S 4 u))] [] := by
  obtain ⟨hG, hp, hb, he⟩ := hA
  have hM := hG.b.x.i
  have u15 := hM.u15
  have k40 := hM.k40
  have t4 := hM.t4
  refine X_aload_n (pc := 690) C 0 dL_acts_690 rfl rfl ?_
  refine X_iload_n (pc := 691) C 3 dL_acts_691 rfl rfl ?_
  refine X_ask (n := 2) (pc := 692) C [.ref _, .int _] (a_curiosity l hl0 _ (XA.pr hP) _ hG hu) ⟨rfl, rfl⟩ m_h_L_curiosity m_m_L_213 m_t_L_curiosity m_n_L ⟨by decide +kernel, by decide +kernel, by decide +kernel⟩ ⟨Nat.le_of_ble_eq_true rfl, Nat.le_of_ble_eq_true rfl⟩ ⟨by show _ ≤ 100; omega, by show _ ≤ 600; omega⟩ rfl (Nat.le_of_ble_eq_true rfl) rfl dL_acts_692 ?_
  refine X_istore (pc := 695) (lv1 := [(0, _), (1, _), (2, _), (3, _), (4, _), (5, _), (6, _)]) C dL_acts_695 (by decide) rfl ?_
  refine X_aload_n (pc := 697) C 1 dL_acts_697 rfl rfl ?_
  refine X_bipush (pc := 698) (v := 10) C dL_acts_698 (by decide) ?_
  refine X_drw (n := 10) (pc := 700) C hi m_m_L_203 (by decide) (by decide) ⟨Nat.le_of_ble_eq_true rfl, Nat.le_of_ble_eq_true rfl⟩ ⟨by show _ ≤ 100; omega, by show _ ≤ 600; omega⟩ (Nat.le_of_ble_eq_true rfl) dL_acts_700 (fun j f hj C => ?_)
  refine X_istore (pc := 703) (lv1 := [(0, _), (1, _), (2, _), (3, _), (4, _), (5, _), (6, _), (7, _)]) C dL_acts_703 (by decide) rfl ?_
  refine X_aload_n (pc := 705) C 0 dL_acts_705 rfl rfl ?_
  refine X_iload_n (pc := 706) C 3 dL_acts_706 rfl rfl ?_
  refine X_iload (pc := 707) C dL_acts_707 rfl ?_
  refine X_chg (n := 3) (nc := 2) (pc := 709) C [.ref _, .int _, .int _] (b_setCuriosity l hl0 _ (XA.pr hP) _ hG hu (n := j) (by omega)) ⟨rfl, rfl⟩ m_h_L_setCuriosity m_m_L_223 m_t_L_setCuriosity m_n_L ⟨by decide +kernel, by decide +kernel, by decide +kernel⟩ ⟨Nat.le_of_ble_eq_true rfl, Nat.le_of_ble_eq_true rfl⟩ ⟨by show _ ≤ 100; omega, by show _ ≤ 600; omega⟩ rfl (Nat.le_of_ble_eq_true rfl) rfl dL_acts_709 (fun v9 τ hq => ?_)
  obtain ⟨rfl, hG1⟩ := hq
  have hu1 : u < mU (upd S (10 + 12 * u + 2) (nI j)) := by rw [mU, upd_ne (by omega)]; exact hu
  have e2 : sU (upd S (10 + 12 * u + 2) (nI j)) 2 u = nI j := upd_at
  have e4 : sU (upd S (10 + 12 * u + 2) (nI j)) 4 u = sU S 4 u := upd_ne (by omega)
  refine X_iload (pc := 712) C dL_acts_712 rfl ?_
  refine X_icmp_ne (pc := 714) C 741 dL_acts_714 (by decide) (fun h => absurd rfl h) (fun h => ?_)
  refine X_aload_n (pc := 717) C 0 dL_acts_717 rfl rfl ?_
  refine X_iload_n (pc := 718) C 3 dL_acts_718 rfl rfl ?_
  refine X_ask (n := 2) (pc := 719) C [.ref _, .int _] (a_curiosity l hl0 _ (XA.pr hP) _ hG1 hu1) ⟨rfl, rfl⟩ m_h_L_curiosity m_m_L_213 m_t_L_curiosity m_n_L ⟨by decide +kernel, by decide +kernel, by decide +kernel⟩ ⟨Nat.le_of_ble_eq_true rfl, Nat.le_of_ble_eq_true rfl⟩ ⟨by show _ ≤ 100; omega, by show _ ≤ 600; omega⟩ rfl (Nat.le_of_ble_eq_true rfl) rfl dL_acts_719 ?_
  refine X_iload (pc := 722) C dL_acts_722 rfl ?_
  refine X_icmp_ne (pc := 724) C 741 dL_acts_724 (by decide) (fun h => absurd e2 h) (fun h => ?_)
  refine X_aload_n (pc := 727) C 0 dL_acts_727 rfl rfl ?_
  refine X_iload_n (pc := 728) C 3 dL_acts_728 rfl rfl ?_
  refine X_ask (n := 2) (pc := 729) C [.ref _, .int _] (a_secretsKnown l hl0 _ (XA.pr hP) _ hG1 hu1) ⟨rfl, rfl⟩ m_h_L_secretsKnown m_m_L_183 m_t_L_secretsKnown m_n_L ⟨by decide +kernel, by decide +kernel, by decide +kernel⟩ ⟨Nat.le_of_ble_eq_true rfl, Nat.le_of_ble_eq_true rfl⟩ ⟨by show _ ≤ 100; omega, by show _ ≤ 600; omega⟩ rfl (Nat.le_of_ble_eq_true rfl) rfl dL_acts_729 ?_
  refine X_iload (pc := 732) C dL_acts_732 rfl ?_
  refine X_icmp_ne (pc := 734) C 741 dL_acts_734 (by decide) (fun h => absurd e4 h) (fun h => ?_)
  refine X_iconst (pc := 737) (v := 1) C dL_acts_737 (by decide) ?_
  refine X_goto (pc := 738) C 742 dL_acts_738 (by decide) ?_
  exact X_retIB (P := P) (pc := 742) C rfl (by show _ ≤ 100; omega) (by show _ ≤ 600; omega) dL_acts_742 ⟨rfl, _, T, _, _, _, rfl, ⟨hG1, (PMood hG.b.x hp hb (by omega)).1, (PMood hG.b.x hp hb (by omega)).2, he.up (Nat.le_refl _) (by omega) (by omega)⟩, by omega, by rw [mU, upd_ne (by omega)]; exact hU0⟩

set_option maxRecDepth 100000 in
set_option maxHeartbeats 4000000 in
theorem c_L_acts (l : Launch) (hl0 : l.stackTraces = false) (P : XP) (hP : XA P) (σ : XS) {S : Nat → Int32} {T o ch i a : Nat} {f : Nat → Int32} (hA : AV σ S T o ch) (hf : (xRaw P)[i]? = some (iC P a f)) (hT9 : T + 200 ≤ 900000) : XMB l yL_acts cL_acts 11 (some .boolean) rm_L_acts P [.ref (P.2.2.1 (.inr 0)), .ref a] σ (PA P (xRaw P) i a S T) := by
  refine XMB.of (by decide +kernel) (Nat.le_of_ble_eq_true rfl) (fun p e s m args below meth c A C => ?_)
  have hi : i < (xRaw P).length := (List.getElem?_eq_some_iff.mp hf).1
  have eP : P = xPR P ((xRaw P).set i (iC P a f)) := by rw [set_id hf]
  replace C : XC p s m args meth c (xPR P ((xRaw P).set i (iC P a f))) A 11 RL cL_acts (some .boolean) := (congrArg (fun z => XC p s m args meth c z A 11 RL cL_acts (some .boolean)) eP).mp C
  refine XW.cP eP ?_
  generalize hw0 : xRaw P = w0 at hi C ⊢
  have hA0 := hA
  obtain ⟨hG, hp, hb, he⟩ := hA
  have hM := hG.b.x.i
  have u15 := hM.u15
  refine XW.eq (lv' := [(0, .ref (P.2.2.1 (.inr 0))), (1, .ref a)]) rfl rfl rfl ?_
  refine XW.up (c1 := 0) (s1 := 6 * 0) (by omega) (by omega) ?_
  refine X_aload_n (pc := 0) C 0 dL_acts_0 rfl rfl ?_
  refine X_fV (i := .inr 0) (ci := 6) (n := 0) (pc := 1) C [] (d_subscriberCount l _ (XA.pr hP) _ hG) m_c_X6_subscriberCount m_m_L_127 m_i_X6_subscriberCount m_s_X6_subscriberCount m_n_X6 ⟨by decide +kernel, by decide +kernel, by decide +kernel⟩ ⟨Nat.le_of_ble_eq_true rfl, Nat.le_of_ble_eq_true rfl⟩ ⟨rfl, rfl⟩ ⟨by show _ ≤ 100; omega, by show _ ≤ 600; omega⟩ (XA.n0 (XA.pr hP)) rfl rfl rfl rfl (Nat.le_of_ble_eq_true rfl) rfl dL_acts_1 ?_
  rw [hM.u]
  refine X_istore_n (pc := 4) (lv1 := [(0, _), (1, _), (2, _)]) C 2 dL_acts_4 rfl (by decide) rfl ?_
  refine X_aload_n (pc := 5) C 1 dL_acts_5 rfl rfl ?_
  refine X_iload_n (pc := 6) C 2 dL_acts_6 rfl rfl ?_
  refine X_drw (n := mU S) (pc := 7) C hi m_m_L_203 hG.u1 (by omega) ⟨Nat.le_of_ble_eq_true rfl, Nat.le_of_ble_eq_true rfl⟩ ⟨by show _ ≤ 100; omega, by show _ ≤ 600; omega⟩ (Nat.le_of_ble_eq_true rfl) dL_acts_7 (fun u f hu C => ?_)
  refine X_istore_n (pc := 10) (lv1 := [(0, _), (1, _), (2, _), (3, _)]) C 3 dL_acts_10 rfl (by decide) rfl ?_
  refine X_aload_n (pc := 11) C 0 dL_acts_11 rfl rfl ?_
  refine X_fV (i := .inr 0) (ci := 6) (n := 0) (pc := 12) C [] (d_callCount l _ (XA.pr hP) _ hG) m_c_X6_callCount m_m_L_130 m_i_X6_callCount m_s_X6_callCount m_n_X6 ⟨by decide +kernel, by decide +kernel, by decide +kernel⟩ ⟨Nat.le_of_ble_eq_true rfl, Nat.le_of_ble_eq_true rfl⟩ ⟨rfl, rfl⟩ ⟨by show _ ≤ 100; omega, by show _ ≤ 600; omega⟩ (XA.n0 (XA.pr hP)) rfl rfl rfl rfl (Nat.le_of_ble_eq_true rfl) rfl dL_acts_12 ?_
  rw [hM.k]
  refine X_istore (pc := 15) (lv1 := [(0, _), (1, _), (2, _), (3, _), (4, _)]) C dL_acts_15 (by decide) rfl ?_
  refine X_aload_n (pc := 17) C 0 dL_acts_17 rfl rfl ?_
  refine X_iload_n (pc := 18) C 3 dL_acts_18 rfl rfl ?_
  refine X_ask (n := 2) (pc := 19) C [.ref _, .int _] (a_secretsKnown l hl0 _ (XA.pr hP) _ hG hu) ⟨rfl, rfl⟩ m_h_L_secretsKnown m_m_L_183 m_t_L_secretsKnown m_n_L ⟨by decide +kernel, by decide +kernel, by decide +kernel⟩ ⟨Nat.le_of_ble_eq_true rfl, Nat.le_of_ble_eq_true rfl⟩ ⟨by show _ ≤ 100; omega, by show _ ≤ 600; omega⟩ rfl (Nat.le_of_ble_eq_true rfl) rfl dL_acts_19 ?_
  refine X_istore (pc := 22) (lv1 := [(0, _), (1, _), (2, _), (3, _), (4, _), (5, _)]) C dL_acts_22 (by decide) rfl ?_
  refine X_aload_n (pc := 24) C 1 dL_acts_24 rfl rfl ?_
  refine X_bipush (pc := 25) (v := 8) C dL_acts_25 (by decide) ?_
  refine X_drw (n := 8) (pc := 27) C hi m_m_L_203 (by decide) (by decide) ⟨Nat.le_of_ble_eq_true rfl, Nat.le_of_ble_eq_true rfl⟩ ⟨by show _ ≤ 100; omega, by show _ ≤ 600; omega⟩ (Nat.le_of_ble_eq_true rfl) dL_acts_27 (fun j f hj C => ?_)
  skip
  have go : ∀ (j tgt : Nat) (off : Int), j < 7 → (#[42, 42, 42, 314, 479, 479, 623] : Array Int)[j]? = some off → (30 : Int) + off = (tgt : Int) → XW p l e rm_L_acts s m args below meth c (xPR P (w0.set i (iC P a f))) A 11 (0 + 1) (6 * (0 + 1)) (MQ below (XQB P A (PA P w0 i a S T)) args s rm_L_acts.cells rm_L_acts.slots A) σ tgt [(0, .ref (P.2.2.1 (.inr 0))), (1, .ref a), (2, .int (nI (mU S))), (3, .int (nI u)), (4, .int (nI (mK S))), (5, .int (sU S 4 u))] [] → XW p l e rm_L_acts s m args below meth c (xPR P (w0.set i (iC P a f))) A 11 (0 + 1) (6 * (0 + 1)) (MQ below (XQB P A (PA P w0 i a S T)) args s rm_L_acts.cells rm_L_acts.slots A) σ 30 [(0, .ref (P.2.2.1 (.inr 0))), (1, .ref a), (2, .int (nI (mU S))), (3, .int (nI u)), (4, .int (nI (mK S))), (5, .int (sU S 4 u))] [.int (nI j)] := by
    intro j tgt off h1 h2 h3 kk
    have e := nI_toInt (n := j) (n31 (by omega))
    exact X_tabIn C tgt dL_acts_30 (by rw [e]; omega) (by rw [e]; omega) (by rw [e]; simpa using h2) h3 kk
  have hT0 : T ≤ T := Nat.le_refl _
  match j, hj with
  | 0, _ => exact go 0 72 42 (by decide) rfl (by decide) (a72 hl0 hi C hP hA0 rfl hT0 hT9 hu (by omega))
  | 1, _ => exact go 1 72 42 (by decide) rfl (by decide) (a72 hl0 hi C hP hA0 rfl hT0 hT9 hu (by omega))
  | 2, _ => exact go 2 72 42 (by decide) rfl (by decide) (a72 hl0 hi C hP hA0 rfl hT0 hT9 hu (by omega))
  | 3, _ => exact go 3 344 314 (by decide) rfl (by decide) (a344 hl0 hi C hP hA0 rfl hT0 hT9 hu (by omega))
  | 4, _ => exact go 4 509 479 (by decide) rfl (by decide) (a509 hl0 hi C hP hA0 rfl hT0 hT9 hu (by omega))
  | 5, _ => exact go 5 509 479 (by decide) rfl (by decide) (a509 hl0 hi C hP hA0 rfl hT0 hT9 hu (by omega))
  | 6, _ => exact go 6 653 623 (by decide) rfl (by decide) (a653 hl0 hi C hP hA0 rfl hT0 hT9 hu (by omega))
  | 7, _ => exact X_tabOut C 690 dL_acts_30 (Or.inr (by decide)) (by decide) (a690 hl0 hi C hP hA0 rfl hT0 hT9 hu (by omega))
  | n + 8, h => exact absurd h (by omega)
end X83

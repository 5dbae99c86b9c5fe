/-! CONSTRUCTORS: the leaves -/
/-- the first world: all zero but the places of errors -/
def s0 : XS := (fun i => match i with
  | .inr 1 => fun k => if k = 3 then -1 else 0
  | .inr 9 => fun k => if k = 13 then -1 else 0
  | _ => fun _ => 0, fun _ _ => 0)
section XP80

abbrev rb_X5_init : Room := { frames := 1, cells := 6, slots := 90, locals := 40 }
set_option maxRecDepth 100000 in
set_option maxHeartbeats 4000000 in
theorem b_X5_init (l : Launch) (P0 : XP) (b : Nat) : BC l yX5_init cX5_init 1 rb_X5_init P0 s0 (.inr (5, [.null, .null, .null, .null, .null, .null, .int 0])) (.inl (b, 1)) [.inl (b, 1), .inl (b, 7), .inl (b, 6), .inl (b, 5), .inl (b, 4), .inl (b, 3), .inl (b, 2)] := by
  refine BC.of (by decide +kernel) (by decide +kernel) (by decide) (fun q p e s m args below meth c A C => ?_)
  replace C : BX p s m args meth c P0 A 1 RX5 cX5_init := C
  refine B_aload_n (pc := 0) C 0 dX5_init_0 rfl rfl ?_
  refine B_obj (pc := 1) C m_m_X5_3 ⟨(Nat.le_of_ble_eq_true rfl), (Nat.le_of_ble_eq_true rfl)⟩ dX5_init_1 ?_
  refine B_aload_n (pc := 4) C 0 dX5_init_4 rfl rfl ?_
  refine B_bipush (pc := 5) (v := 15) C dX5_init_5 (by decide) ?_
  refine B_newa (atype := .long) (ty := .long) (pc := 7) (n := 15) (t0 := 2) C (.inl (b, 2)) rfl m_a_long rfl (fun _ h => h) (15, .inr (.inl (fun _ => 0))) (fun _ => rfl) (fun _ => rfl) (by simp) (fun _ h => nomatch h) rfl (by decide) (by decide) ⟨(Nat.le_of_ble_eq_true rfl), (Nat.le_of_ble_eq_true rfl)⟩ dX5_init_7 (fun a0 e0 => ?_)
  have z0 : clo ([.inl (b, 2)] ++ []) := clo_app (fun i hi j hj => by obtain rfl := List.mem_singleton.mp hi; have hj0 : j ∈ ([] : List XI) := hj; exact absurd hj0 List.not_mem_nil) (fun _ h => nomatch h)
  refine B_putF (pc := 9) C 0 0 tyX5 tyX5_ok nmX5 inX5 rfl rfl (by decide) m_f_X5_9 rfl rfl rfl rfl (Nat.le_of_ble_eq_true rfl) dX5_init_9 ?_
  refine B_aload_n (pc := 12) C 0 dX5_init_12 rfl rfl ?_
  refine B_bipush (pc := 13) (v := 15) C dX5_init_13 (by decide) ?_
  refine B_newa (atype := .int) (ty := .int) (pc := 15) (n := 15) (t0 := 0) C (.inl (b, 3)) rfl m_a_int rfl (fun _ h => h) (15, .inl (fun _ => 0)) (fun _ => rfl) (fun _ => rfl) (by simp) z0 rfl (by decide) (by decide) ⟨(Nat.le_of_ble_eq_true rfl), (Nat.le_of_ble_eq_true rfl)⟩ dX5_init_15 (fun a1 e1 => ?_)
  have z1 : clo ([.inl (b, 3)] ++ ([.inl (b, 2)] ++ [])) := clo_app (fun i hi j hj => by obtain rfl := List.mem_singleton.mp hi; have hj0 : j ∈ ([] : List XI) := hj; exact absurd hj0 List.not_mem_nil) z0
  refine B_putF (pc := 17) C 0 1 tyX5 tyX5_ok nmX5 inX5 rfl rfl (by decide) m_f_X5_15 rfl rfl rfl rfl (Nat.le_of_ble_eq_true rfl) dX5_init_17 ?_
  refine B_aload_n (pc := 20) C 0 dX5_init_20 rfl rfl ?_
  refine B_bipush (pc := 21) (v := 15) C dX5_init_21 (by decide) ?_
  refine B_newa (atype := .int) (ty := .int) (pc := 23) (n := 15) (t0 := 0) C (.inl (b, 4)) rfl m_a_int rfl (fun _ h => h) (15, .inl (fun _ => 0)) (fun _ => rfl) (fun _ => rfl) (by simp) z1 rfl (by decide) (by decide) ⟨(Nat.le_of_ble_eq_true rfl), (Nat.le_of_ble_eq_true rfl)⟩ dX5_init_23 (fun a2 e2 => ?_)
  have z2 : clo ([.inl (b, 4)] ++ ([.inl (b, 3)] ++ ([.inl (b, 2)] ++ []))) := clo_app (fun i hi j hj => by obtain rfl := List.mem_singleton.mp hi; have hj0 : j ∈ ([] : List XI) := hj; exact absurd hj0 List.not_mem_nil) z1
  refine B_putF (pc := 25) C 0 2 tyX5 tyX5_ok nmX5 inX5 rfl rfl (by decide) m_f_X5_19 rfl rfl rfl rfl (Nat.le_of_ble_eq_true rfl) dX5_init_25 ?_
  refine B_aload_n (pc := 28) C 0 dX5_init_28 rfl rfl ?_
  refine B_bipush (pc := 29) (v := 15) C dX5_init_29 (by decide) ?_
  refine B_newa (atype := .int) (ty := .int) (pc := 31) (n := 15) (t0 := 0) C (.inl (b, 5)) rfl m_a_int rfl (fun _ h => h) (15, .inl (fun _ => 0)) (fun _ => rfl) (fun _ => rfl) (by simp) z2 rfl (by decide) (by decide) ⟨(Nat.le_of_ble_eq_true rfl), (Nat.le_of_ble_eq_true rfl)⟩ dX5_init_31 (fun a3 e3 => ?_)
  have z3 : clo ([.inl (b, 5)] ++ ([.inl (b, 4)] ++ ([.inl (b, 3)] ++ ([.inl (b, 2)] ++ [])))) := clo_app (fun i hi j hj => by obtain rfl := List.mem_singleton.mp hi; have hj0 : j ∈ ([] : List XI) := hj; exact absurd hj0 List.not_mem_nil) z2
  refine B_putF (pc := 33) C 0 3 tyX5 tyX5_ok nmX5 inX5 rfl rfl (by decide) m_f_X5_22 rfl rfl rfl rfl (Nat.le_of_ble_eq_true rfl) dX5_init_33 ?_
  refine B_aload_n (pc := 36) C 0 dX5_init_36 rfl rfl ?_
  refine B_bipush (pc := 37) (v := 15) C dX5_init_37 (by decide) ?_
  refine B_newa (atype := .int) (ty := .int) (pc := 39) (n := 15) (t0 := 0) C (.inl (b, 6)) rfl m_a_int rfl (fun _ h => h) (15, .inl (fun _ => 0)) (fun _ => rfl) (fun _ => rfl) (by simp) z3 rfl (by decide) (by decide) ⟨(Nat.le_of_ble_eq_true rfl), (Nat.le_of_ble_eq_true rfl)⟩ dX5_init_39 (fun a4 e4 => ?_)
  have z4 : clo ([.inl (b, 6)] ++ ([.inl (b, 5)] ++ ([.inl (b, 4)] ++ ([.inl (b, 3)] ++ ([.inl (b, 2)] ++ []))))) := clo_app (fun i hi j hj => by obtain rfl := List.mem_singleton.mp hi; have hj0 : j ∈ ([] : List XI) := hj; exact absurd hj0 List.not_mem_nil) z3
  refine B_putF (pc := 41) C 0 4 tyX5 tyX5_ok nmX5 inX5 rfl rfl (by decide) m_f_X5_25 rfl rfl rfl rfl (Nat.le_of_ble_eq_true rfl) dX5_init_41 ?_
  refine B_aload_n (pc := 44) C 0 dX5_init_44 rfl rfl ?_
  refine B_bipush (pc := 45) (v := 15) C dX5_init_45 (by decide) ?_
  refine B_newa (atype := .int) (ty := .int) (pc := 47) (n := 15) (t0 := 0) C (.inl (b, 7)) rfl m_a_int rfl (fun _ h => h) (15, .inl (fun _ => 0)) (fun _ => rfl) (fun _ => rfl) (by simp) z4 rfl (by decide) (by decide) ⟨(Nat.le_of_ble_eq_true rfl), (Nat.le_of_ble_eq_true rfl)⟩ dX5_init_47 (fun a5 e5 => ?_)
  have z5 : clo ([.inl (b, 7)] ++ ([.inl (b, 6)] ++ ([.inl (b, 5)] ++ ([.inl (b, 4)] ++ ([.inl (b, 3)] ++ ([.inl (b, 2)] ++ [])))))) := clo_app (fun i hi j hj => by obtain rfl := List.mem_singleton.mp hi; have hj0 : j ∈ ([] : List XI) := hj; exact absurd hj0 List.not_mem_nil) z4
  refine B_putF (pc := 49) C 0 5 tyX5 tyX5_ok nmX5 inX5 rfl rfl (by decide) m_f_X5_28 rfl rfl rfl rfl (Nat.le_of_ble_eq_true rfl) dX5_init_49 ?_
  refine B_end (pc := 52) C rfl (by simp) z5 (fun ad1 _ e => ?_) (Nat.le_of_ble_eq_true rfl) (Nat.le_of_ble_eq_true rfl) dX5_init_52
  have f0 : ad1 (.inl (b, 2)) = a0 (.inl (b, 2)) := (((((e _ (by simp)).trans (e5 _ (by simp))).trans (e4 _ (by simp))).trans (e3 _ (by simp))).trans (e2 _ (by simp))).trans (e1 _ (by simp))
  have f1 : ad1 (.inl (b, 3)) = a1 (.inl (b, 3)) := ((((e _ (by simp)).trans (e5 _ (by simp))).trans (e4 _ (by simp))).trans (e3 _ (by simp))).trans (e2 _ (by simp))
  have f2 : ad1 (.inl (b, 4)) = a2 (.inl (b, 4)) := (((e _ (by simp)).trans (e5 _ (by simp))).trans (e4 _ (by simp))).trans (e3 _ (by simp))
  have f3 : ad1 (.inl (b, 5)) = a3 (.inl (b, 5)) := ((e _ (by simp)).trans (e5 _ (by simp))).trans (e4 _ (by simp))
  have f4 : ad1 (.inl (b, 6)) = a4 (.inl (b, 6)) := (e _ (by simp)).trans (e5 _ (by simp))
  have f5 : ad1 (.inl (b, 7)) = a5 (.inl (b, 7)) := e _ (by simp)
  simp only [xfs, xv, f0, f1, f2, f3, f4, f5]
  rfl

abbrev rb_X1_init : Room := { frames := 1, cells := 10, slots := 400, locals := 40 }
set_option maxRecDepth 100000 in
set_option maxHeartbeats 4000000 in
theorem b_X1_init (l : Launch) (P0 : XP) (b : Nat) : BC l yX1_init cX1_init 1 rb_X1_init P0 s0 (.inr (1, [.null, .null, .null, .null, .null, .null, .null, .null, .null, .null, .int 0])) (.inl (b, 8)) [.inl (b, 8), .inl (b, 18), .inl (b, 17), .inl (b, 16), .inl (b, 15), .inl (b, 14), .inl (b, 13), .inl (b, 12), .inl (b, 11), .inl (b, 10), .inl (b, 9)] := by
  refine BC.of (by decide +kernel) (by decide +kernel) (by decide) (fun q p e s m args below meth c A C => ?_)
  replace C : BX p s m args meth c P0 A 1 RX1 cX1_init := C
  refine B_aload_n (pc := 0) C 0 dX1_init_0 rfl rfl ?_
  refine B_obj (pc := 1) C m_m_X1_3 ⟨(Nat.le_of_ble_eq_true rfl), (Nat.le_of_ble_eq_true rfl)⟩ dX1_init_1 ?_
  refine B_aload_n (pc := 4) C 0 dX1_init_4 rfl rfl ?_
  refine B_bipush (pc := 5) (v := 40) C dX1_init_5 (by decide) ?_
  refine B_newa (atype := .int) (ty := .int) (pc := 7) (n := 40) (t0 := 0) C (.inl (b, 9)) rfl m_a_int rfl (fun _ h => h) (40, .inl (fun _ => 0)) (fun _ => rfl) (fun _ => rfl) (by simp) (fun _ h => nomatch h) rfl (by decide) (by decide) ⟨(Nat.le_of_ble_eq_true rfl), (Nat.le_of_ble_eq_true rfl)⟩ dX1_init_7 (fun a0 e0 => ?_)
  have z0 : clo ([.inl (b, 9)] ++ []) := clo_app (fun i hi j hj => by obtain rfl := List.mem_singleton.mp hi; have hj0 : j ∈ ([] : List XI) := hj; exact absurd hj0 List.not_mem_nil) (fun _ h => nomatch h)
  refine B_putF (pc := 9) C 0 0 tyX1 tyX1_ok nmX1 inX1 rfl rfl (by decide) m_f_X1_9 rfl rfl rfl rfl (Nat.le_of_ble_eq_true rfl) dX1_init_9 ?_
  refine B_aload_n (pc := 12) C 0 dX1_init_12 rfl rfl ?_
  refine B_bipush (pc := 13) (v := 40) C dX1_init_13 (by decide) ?_
  refine B_newa (atype := .int) (ty := .int) (pc := 15) (n := 40) (t0 := 0) C (.inl (b, 10)) rfl m_a_int rfl (fun _ h => h) (40, .inl (fun _ => 0)) (fun _ => rfl) (fun _ => rfl) (by simp) z0 rfl (by decide) (by decide) ⟨(Nat.le_of_ble_eq_true rfl), (Nat.le_of_ble_eq_true rfl)⟩ dX1_init_15 (fun a1 e1 => ?_)
  have z1 : clo ([.inl (b, 10)] ++ ([.inl (b, 9)] ++ [])) := clo_app (fun i hi j hj => by obtain rfl := List.mem_singleton.mp hi; have hj0 : j ∈ ([] : List XI) := hj; exact absurd hj0 List.not_mem_nil) z0
  refine B_putF (pc := 17) C 0 1 tyX1 tyX1_ok nmX1 inX1 rfl rfl (by decide) m_f_X1_15 rfl rfl rfl rfl (Nat.le_of_ble_eq_true rfl) dX1_init_17 ?_
  refine B_aload_n (pc := 20) C 0 dX1_init_20 rfl rfl ?_
  refine B_bipush (pc := 21) (v := 40) C dX1_init_21 (by decide) ?_
  refine B_newa (atype := .int) (ty := .int) (pc := 23) (n := 40) (t0 := 0) C (.inl (b, 11)) rfl m_a_int rfl (fun _ h => h) (40, .inl (fun _ => 0)) (fun _ => rfl) (fun _ => rfl) (by simp) z1 rfl (by decide) (by decide) ⟨(Nat.le_of_ble_eq_true rfl), (Nat.le_of_ble_eq_true rfl)⟩ dX1_init_23 (fun a2 e2 => ?_)
  have z2 : clo ([.inl (b, 11)] ++ ([.inl (b, 10)] ++ ([.inl (b, 9)] ++ []))) := clo_app (fun i hi j hj => by obtain rfl := List.mem_singleton.mp hi; have hj0 : j ∈ ([] : List XI) := hj; exact absurd hj0 List.not_mem_nil) z1
  refine B_putF (pc := 25) C 0 2 tyX1 tyX1_ok nmX1 inX1 rfl rfl (by decide) m_f_X1_18 rfl rfl rfl rfl (Nat.le_of_ble_eq_true rfl) dX1_init_25 ?_
  refine B_aload_n (pc := 28) C 0 dX1_init_28 rfl rfl ?_
  refine B_bipush (pc := 29) (v := 40) C dX1_init_29 (by decide) ?_
  refine B_newa (atype := .int) (ty := .int) (pc := 31) (n := 40) (t0 := 0) C (.inl (b, 12)) rfl m_a_int rfl (fun _ h => h) (40, .inl (fun _ => 0)) (fun _ => rfl) (fun _ => rfl) (by simp) z2 rfl (by decide) (by decide) ⟨(Nat.le_of_ble_eq_true rfl), (Nat.le_of_ble_eq_true rfl)⟩ dX1_init_31 (fun a3 e3 => ?_)
  have z3 : clo ([.inl (b, 12)] ++ ([.inl (b, 11)] ++ ([.inl (b, 10)] ++ ([.inl (b, 9)] ++ [])))) := clo_app (fun i hi j hj => by obtain rfl := List.mem_singleton.mp hi; have hj0 : j ∈ ([] : List XI) := hj; exact absurd hj0 List.not_mem_nil) z2
  refine B_putF (pc := 33) C 0 3 tyX1 tyX1_ok nmX1 inX1 rfl rfl (by decide) m_f_X1_21 rfl rfl rfl rfl (Nat.le_of_ble_eq_true rfl) dX1_init_33 ?_
  refine B_aload_n (pc := 36) C 0 dX1_init_36 rfl rfl ?_
  refine B_bipush (pc := 37) (v := 40) C dX1_init_37 (by decide) ?_
  refine B_newa (atype := .boolean) (ty := .boolean) (pc := 39) (n := 40) (t0 := 1) C (.inl (b, 13)) rfl m_a_boolean rfl (fun _ h => h) (40, .inl (fun _ => 0)) (fun _ => rfl) (fun _ => rfl) (by simp) z3 rfl (by decide) (by decide) ⟨(Nat.le_of_ble_eq_true rfl), (Nat.le_of_ble_eq_true rfl)⟩ dX1_init_39 (fun a4 e4 => ?_)
  have z4 : clo ([.inl (b, 13)] ++ ([.inl (b, 12)] ++ ([.inl (b, 11)] ++ ([.inl (b, 10)] ++ ([.inl (b, 9)] ++ []))))) := clo_app (fun i hi j hj => by obtain rfl := List.mem_singleton.mp hi; have hj0 : j ∈ ([] : List XI) := hj; exact absurd hj0 List.not_mem_nil) z3
  refine B_putF (pc := 41) C 0 4 tyX1 tyX1_ok nmX1 inX1 rfl rfl (by decide) m_f_X1_24 rfl rfl rfl rfl (Nat.le_of_ble_eq_true rfl) dX1_init_41 ?_
  refine B_aload_n (pc := 44) C 0 dX1_init_44 rfl rfl ?_
  refine B_bipush (pc := 45) (v := 40) C dX1_init_45 (by decide) ?_
  refine B_newa (atype := .int) (ty := .int) (pc := 47) (n := 40) (t0 := 0) C (.inl (b, 14)) rfl m_a_int rfl (fun _ h => h) (40, .inl (fun _ => 0)) (fun _ => rfl) (fun _ => rfl) (by simp) z4 rfl (by decide) (by decide) ⟨(Nat.le_of_ble_eq_true rfl), (Nat.le_of_ble_eq_true rfl)⟩ dX1_init_47 (fun a5 e5 => ?_)
  have z5 : clo ([.inl (b, 14)] ++ ([.inl (b, 13)] ++ ([.inl (b, 12)] ++ ([.inl (b, 11)] ++ ([.inl (b, 10)] ++ ([.inl (b, 9)] ++ [])))))) := clo_app (fun i hi j hj => by obtain rfl := List.mem_singleton.mp hi; have hj0 : j ∈ ([] : List XI) := hj; exact absurd hj0 List.not_mem_nil) z4
  refine B_putF (pc := 49) C 0 5 tyX1 tyX1_ok nmX1 inX1 rfl rfl (by decide) m_f_X1_28 rfl rfl rfl rfl (Nat.le_of_ble_eq_true rfl) dX1_init_49 ?_
  refine B_aload_n (pc := 52) C 0 dX1_init_52 rfl rfl ?_
  refine B_bipush (pc := 53) (v := 40) C dX1_init_53 (by decide) ?_
  refine B_newa (atype := .boolean) (ty := .boolean) (pc := 55) (n := 40) (t0 := 1) C (.inl (b, 15)) rfl m_a_boolean rfl (fun _ h => h) (40, .inl (fun _ => 0)) (fun _ => rfl) (fun _ => rfl) (by simp) z5 rfl (by decide) (by decide) ⟨(Nat.le_of_ble_eq_true rfl), (Nat.le_of_ble_eq_true rfl)⟩ dX1_init_55 (fun a6 e6 => ?_)
  have z6 : clo ([.inl (b, 15)] ++ ([.inl (b, 14)] ++ ([.inl (b, 13)] ++ ([.inl (b, 12)] ++ ([.inl (b, 11)] ++ ([.inl (b, 10)] ++ ([.inl (b, 9)] ++ []))))))) := clo_app (fun i hi j hj => by obtain rfl := List.mem_singleton.mp hi; have hj0 : j ∈ ([] : List XI) := hj; exact absurd hj0 List.not_mem_nil) z5
  refine B_putF (pc := 57) C 0 6 tyX1 tyX1_ok nmX1 inX1 rfl rfl (by decide) m_f_X1_31 rfl rfl rfl rfl (Nat.le_of_ble_eq_true rfl) dX1_init_57 ?_
  refine B_aload_n (pc := 60) C 0 dX1_init_60 rfl rfl ?_
  refine B_bipush (pc := 61) (v := 40) C dX1_init_61 (by decide) ?_
  refine B_newa (atype := .int) (ty := .int) (pc := 63) (n := 40) (t0 := 0) C (.inl (b, 16)) rfl m_a_int rfl (fun _ h => h) (40, .inl (fun _ => 0)) (fun _ => rfl) (fun _ => rfl) (by simp) z6 rfl (by decide) (by decide) ⟨(Nat.le_of_ble_eq_true rfl), (Nat.le_of_ble_eq_true rfl)⟩ dX1_init_63 (fun a7 e7 => ?_)
  have z7 : clo ([.inl (b, 16)] ++ ([.inl (b, 15)] ++ ([.inl (b, 14)] ++ ([.inl (b, 13)] ++ ([.inl (b, 12)] ++ ([.inl (b, 11)] ++ ([.inl (b, 10)] ++ ([.inl (b, 9)] ++ [])))))))) := clo_app (fun i hi j hj => by obtain rfl := List.mem_singleton.mp hi; have hj0 : j ∈ ([] : List XI) := hj; exact absurd hj0 List.not_mem_nil) z6
  refine B_putF (pc := 65) C 0 7 tyX1 tyX1_ok nmX1 inX1 rfl rfl (by decide) m_f_X1_34 rfl rfl rfl rfl (Nat.le_of_ble_eq_true rfl) dX1_init_65 ?_
  refine B_aload_n (pc := 68) C 0 dX1_init_68 rfl rfl ?_
  refine B_bipush (pc := 69) (v := 40) C dX1_init_69 (by decide) ?_
  refine B_newa (atype := .int) (ty := .int) (pc := 71) (n := 40) (t0 := 0) C (.inl (b, 17)) rfl m_a_int rfl (fun _ h => h) (40, .inl (fun _ => 0)) (fun _ => rfl) (fun _ => rfl) (by simp) z7 rfl (by decide) (by decide) ⟨(Nat.le_of_ble_eq_true rfl), (Nat.le_of_ble_eq_true rfl)⟩ dX1_init_71 (fun a8 e8 => ?_)
  have z8 : clo ([.inl (b, 17)] ++ ([.inl (b, 16)] ++ ([.inl (b, 15)] ++ ([.inl (b, 14)] ++ ([.inl (b, 13)] ++ ([.inl (b, 12)] ++ ([.inl (b, 11)] ++ ([.inl (b, 10)] ++ ([.inl (b, 9)] ++ []))))))))) := clo_app (fun i hi j hj => by obtain rfl := List.mem_singleton.mp hi; have hj0 : j ∈ ([] : List XI) := hj; exact absurd hj0 List.not_mem_nil) z7
  refine B_putF (pc := 73) C 0 8 tyX1 tyX1_ok nmX1 inX1 rfl rfl (by decide) m_f_X1_37 rfl rfl rfl rfl (Nat.le_of_ble_eq_true rfl) dX1_init_73 ?_
  refine B_aload_n (pc := 76) C 0 dX1_init_76 rfl rfl ?_
  refine B_bipush (pc := 77) (v := 40) C dX1_init_77 (by decide) ?_
  refine B_newa (atype := .int) (ty := .int) (pc := 79) (n := 40) (t0 := 0) C (.inl (b, 18)) rfl m_a_int rfl (fun _ h => h) (40, .inl (fun _ => 0)) (fun _ => rfl) (fun _ => rfl) (by simp) z8 rfl (by decide) (by decide) ⟨(Nat.le_of_ble_eq_true rfl), (Nat.le_of_ble_eq_true rfl)⟩ dX1_init_79 (fun a9 e9 => ?_)
  have z9 : clo ([.inl (b, 18)] ++ ([.inl (b, 17)] ++ ([.inl (b, 16)] ++ ([.inl (b, 15)] ++ ([.inl (b, 14)] ++ ([.inl (b, 13)] ++ ([.inl (b, 12)] ++ ([.inl (b, 11)] ++ ([.inl (b, 10)] ++ ([.inl (b, 9)] ++ [])))))))))) := clo_app (fun i hi j hj => by obtain rfl := List.mem_singleton.mp hi; have hj0 : j ∈ ([] : List XI) := hj; exact absurd hj0 List.not_mem_nil) z8
  refine B_putF (pc := 81) C 0 9 tyX1 tyX1_ok nmX1 inX1 rfl rfl (by decide) m_f_X1_40 rfl rfl rfl rfl (Nat.le_of_ble_eq_true rfl) dX1_init_81 ?_
  refine B_end (pc := 84) C rfl (by simp) z9 (fun ad1 _ e => ?_) (Nat.le_of_ble_eq_true rfl) (Nat.le_of_ble_eq_true rfl) dX1_init_84
  have f0 : ad1 (.inl (b, 9)) = a0 (.inl (b, 9)) := (((((((((e _ (by simp)).trans (e9 _ (by simp))).trans (e8 _ (by simp))).trans (e7 _ (by simp))).trans (e6 _ (by simp))).trans (e5 _ (by simp))).trans (e4 _ (by simp))).trans (e3 _ (by simp))).trans (e2 _ (by simp))).trans (e1 _ (by simp))
  have f1 : ad1 (.inl (b, 10)) = a1 (.inl (b, 10)) := ((((((((e _ (by simp)).trans (e9 _ (by simp))).trans (e8 _ (by simp))).trans (e7 _ (by simp))).trans (e6 _ (by simp))).trans (e5 _ (by simp))).trans (e4 _ (by simp))).trans (e3 _ (by simp))).trans (e2 _ (by simp))
  have f2 : ad1 (.inl (b, 11)) = a2 (.inl (b, 11)) := (((((((e _ (by simp)).trans (e9 _ (by simp))).trans (e8 _ (by simp))).trans (e7 _ (by simp))).trans (e6 _ (by simp))).trans (e5 _ (by simp))).trans (e4 _ (by simp))).trans (e3 _ (by simp))
  have f3 : ad1 (.inl (b, 12)) = a3 (.inl (b, 12)) := ((((((e _ (by simp)).trans (e9 _ (by simp))).trans (e8 _ (by simp))).trans (e7 _ (by simp))).trans (e6 _ (by simp))).trans (e5 _ (by simp))).trans (e4 _ (by simp))
  have f4 : ad1 (.inl (b, 13)) = a4 (.inl (b, 13)) := (((((e _ (by simp)).trans (e9 _ (by simp))).trans (e8 _ (by simp))).trans (e7 _ (by simp))).trans (e6 _ (by simp))).trans (e5 _ (by simp))
  have f5 : ad1 (.inl (b, 14)) = a5 (.inl (b, 14)) := ((((e _ (by simp)).trans (e9 _ (by simp))).trans (e8 _ (by simp))).trans (e7 _ (by simp))).trans (e6 _ (by simp))
  have f6 : ad1 (.inl (b, 15)) = a6 (.inl (b, 15)) := (((e _ (by simp)).trans (e9 _ (by simp))).trans (e8 _ (by simp))).trans (e7 _ (by simp))
  have f7 : ad1 (.inl (b, 16)) = a7 (.inl (b, 16)) := ((e _ (by simp)).trans (e9 _ (by simp))).trans (e8 _ (by simp))
  have f8 : ad1 (.inl (b, 17)) = a8 (.inl (b, 17)) := (e _ (by simp)).trans (e9 _ (by simp))
  have f9 : ad1 (.inl (b, 18)) = a9 (.inl (b, 18)) := e _ (by simp)
  simp only [xfs, xv, f0, f1, f2, f3, f4, f5, f6, f7, f8, f9]
  rfl

abbrev rb_X3_init : Room := { frames := 1, cells := 1, slots := 700, locals := 40 }
set_option maxRecDepth 100000 in
set_option maxHeartbeats 4000000 in
theorem b_X3_init (l : Launch) (P0 : XP) : BC l yX3_init cX3_init 1 rb_X3_init P0 s0 (.inr (3, [.null, .int 0, .int 0, .int 0, .int 0, .int 0])) (.inr 2) [.inr 2, .inr 3] := by
  refine BC.of (by decide +kernel) (by decide +kernel) (by decide) (fun q p e s m args below meth c A C => ?_)
  replace C : BX p s m args meth c P0 A 1 RX3 cX3_init := C
  refine B_aload_n (pc := 0) C 0 dX3_init_0 rfl rfl ?_
  refine B_obj (pc := 1) C m_m_X3_3 ⟨(Nat.le_of_ble_eq_true rfl), (Nat.le_of_ble_eq_true rfl)⟩ dX3_init_1 ?_
  refine B_aload_n (pc := 4) C 0 dX3_init_4 rfl rfl ?_
  refine B_sipush (pc := 5) (v := 700) C dX3_init_5 (by decide) ?_
  refine B_newa (atype := .int) (ty := .int) (pc := 8) (n := 700) (t0 := 0) C (.inr 3) rfl m_a_int rfl (fun _ h => h) (700, .inl (fun _ => 0)) (fun _ => rfl) (fun _ => rfl) (by simp) (fun _ h => nomatch h) rfl (by decide) (by decide) ⟨(Nat.le_of_ble_eq_true rfl), (Nat.le_of_ble_eq_true rfl)⟩ dX3_init_8 (fun a0 e0 => ?_)
  have z0 : clo ([.inr 3] ++ []) := clo_app (fun i hi j hj => by obtain rfl := List.mem_singleton.mp hi; have hj0 : j ∈ ([] : List XI) := hj; exact absurd hj0 List.not_mem_nil) (fun _ h => nomatch h)
  refine B_putF (pc := 10) C 0 0 tyX3 tyX3_ok nmX3 inX3 rfl rfl (by decide) m_f_X3_9 rfl rfl rfl rfl (Nat.le_of_ble_eq_true rfl) dX3_init_10 ?_
  refine B_end (pc := 13) C rfl (by simp) z0 (fun ad1 _ e => ?_) (Nat.le_of_ble_eq_true rfl) (Nat.le_of_ble_eq_true rfl) dX3_init_13
  have f0 : ad1 (.inr 3) = a0 (.inr 3) := e _ (by simp)
  simp only [xfs, xv, f0]
  rfl

end XP80

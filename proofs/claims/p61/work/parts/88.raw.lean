/-! WORLDS IN THE MAKING: raw things (hs), and cells that are done (N, by their names; ad: where) -/
theorem va_P_mem {D : va_G} {cl : List vw_C} {ws : va_W} {H : Heap} : va_P D cl ws H ↔ ∀ q ∈ ws, va_at D cl q H := by
  constructor
  · intro h q hq
    obtain ⟨k, hk⟩ := List.getElem?_of_mem hq
    exact h k q hk
  · intro h k q hq
    exact h q (List.mem_of_getElem? hq)
theorem va_D_nd {A : Nat → Prop} {ws : va_W} : va_D A ws ↔ (ws.map (fun q => q.1)).Nodup ∧ ∀ q ∈ ws, A q.1 := by
  constructor
  · intro h
    refine ⟨?_, fun q hq => ?_⟩
    · unfold List.Nodup
      rw [List.pairwise_iff_getElem]
      intro i j hi hj hij e
      rw [List.length_map] at hi hj
      rw [List.getElem_map, List.getElem_map] at e
      have := h.1 i j ws[i] ws[j] (List.getElem?_eq_getElem hi) (List.getElem?_eq_getElem hj) e
      omega
    · obtain ⟨k, hk⟩ := List.getElem?_of_mem hq
      exact h.2 k q hk
  · intro h
    refine ⟨fun i j x y hx hy e => ?_, fun k q hq => h.2 q (List.mem_of_getElem? hq)⟩
    obtain ⟨hi, rfl⟩ := List.getElem?_eq_some_iff.mp hx
    obtain ⟨hj, rfl⟩ := List.getElem?_eq_some_iff.mp hy
    have hp := h.1
    unfold List.Nodup at hp
    rw [List.pairwise_iff_getElem] at hp
    rcases Nat.lt_trichotomy i j with g | g | g
    · have := hp i j (by rw [List.length_map]; exact hi) (by rw [List.length_map]; exact hj) g
      rw [List.getElem_map, List.getElem_map] at this
      exact absurd e this
    · exact g
    · have := hp j i (by rw [List.length_map]; exact hj) (by rw [List.length_map]; exact hi) g
      rw [List.getElem_map, List.getElem_map] at this
      exact absurd e.symm this
theorem va_P.perm {D : va_G} {cl : List vw_C} {ws w1 : va_W} {H : Heap} (h : va_P D cl ws H) (hp : ∀ q ∈ w1, q ∈ ws) : va_P D cl w1 H := va_P_mem.mpr (fun q hq => va_P_mem.mp h q (hp q hq))
theorem va_D.perm {A : Nat → Prop} {ws w1 : va_W} (h : va_D A ws) (hp : ws.Perm w1) : va_D A w1 := by
  rw [va_D_nd] at h ⊢
  exact ⟨(hp.map _).nodup_iff.mp h.1, fun q hq => h.2 q (hp.mem_iff.mpr hq)⟩
/-- what a cell refers to -/
def rfs (i : XI) : List XI := match xsh i with
  | .inl q => q.2.filterMap id
  | .inr (0, _) => []
  | .inr (1, _) => []
  | .inr (2, _) => []
  | .inr (_, n) => (List.range n).map (xrr i)
theorem xfs_ad {P P1 : XP} {σ : XS} {i : XI} : ∀ (tm : List (Option XI)) (k : Nat), (∀ j ∈ tm.filterMap id, P1.2.2.1 j = P.2.2.1 j) → xfs P1 σ i k tm = xfs P σ i k tm
  | [], _, _ => rfl
  | none :: ts, k, h => by
    rw [xfs, xfs, xfs_ad ts (k + 1) (fun j hj => h j (by simpa using hj))]
    rfl
  | some j :: ts, k, h => by
    rw [xfs, xfs, xfs_ad ts (k + 1) (fun j9 hj => h j9 (by simp only [List.filterMap_cons, id_eq]; exact List.mem_cons_of_mem _ hj))]
    congr 1
    exact congrArg Value.ref (h j (by simp))
theorem arrV_cg {cI : ClassId} {n : Nat} {f g : Nat → Value} (h : ∀ k, k < n → f k = g k) : arrV cI n f = arrV cI n g := by
  unfold arrV
  congr 1
  exact congrArg _ (funext fun k => h k.val k.isLt)
/-- what lies there is told by the addresses of what it refers to -/
theorem at_ad {D : va_G} {cl : List vw_C} {P P1 : XP} {σ : XS} {i : XI} {a : Nat} {H : Heap} (hc : P1.2.1 = P.2.1) (h : ∀ j ∈ rfs i, P1.2.2.1 j = P.2.2.1 j) (h0 : va_at D cl (a, xce P σ i) H) : va_at D cl (a, xce P1 σ i) H := by
  unfold rfs at h
  unfold xce at h0 ⊢
  cases e : xsh i with
  | inl q =>
    rw [e] at h h0
    show va_at D cl (a, .inr (q.1, xfs P1 σ i 0 q.2)) H
    rw [xfs_ad q.2 0 h]
    exact h0
  | inr q =>
    obtain ⟨kd, n⟩ := q
    rw [e] at h h0
    match kd with
    | 0 => unfold xar at h0 ⊢; rw [hc]; exact h0
    | 1 => unfold xar at h0 ⊢; rw [hc]; exact h0
    | 2 => unfold xar at h0 ⊢; rw [hc]; exact h0
    | kd + 3 =>
      have h1 : H[a]? = some (arrV (P.2.1 3) n (fun k => va_rf (some (P.2.2.1 (xrr i k))))) := h0
      show H[a]? = some (arrV (P1.2.1 3) n (fun k => va_rf (some (P1.2.2.1 (xrr i k)))))
      rw [hc, h1]
      refine congrArg some (arrV_cg (fun k hk => ?_))
      rw [h (xrr i k) (List.mem_map.mpr ⟨k, List.mem_range.mpr hk, rfl⟩)]
/-- P0 with the cells N at ad -/
abbrev PN (P0 : XP) (N : List XI) (ad : XI → Nat) : XP := (P0.1, P0.2.1, ad, N, P0.2.2.2.2.1, P0.2.2.2.2.2.1, [])
abbrev xwN (P0 : XP) (N : List XI) (ad : XI → Nat) (σ : XS) : va_W := xw (PN P0 N ad) σ
theorem xwN_eq {P0 : XP} {N : List XI} {ad : XI → Nat} {σ : XS} : xwN P0 N ad σ = N.map (fun i => (ad i, xce (PN P0 N ad) σ i)) := List.append_nil _
/-- N refers to nothing but itself -/
def clo (N : List XI) : Prop := ∀ i ∈ N, ∀ j ∈ rfs i, j ∈ N
theorem xwN_mem {P0 : XP} {N : List XI} {ad : XI → Nat} {σ : XS} {q : Nat × va_E} : q ∈ xwN P0 N ad σ ↔ ∃ i ∈ N, q = (ad i, xce (PN P0 N ad) σ i) := by
  rw [xwN_eq, List.mem_map]
  constructor
  · rintro ⟨i, hi, rfl⟩; exact ⟨i, hi, rfl⟩
  · rintro ⟨i, hi, rfl⟩; exact ⟨i, hi, rfl⟩
theorem xwN_fst {P0 : XP} {N : List XI} {ad : XI → Nat} {σ : XS} : (xwN P0 N ad σ).map (fun q => q.1) = N.map ad := by
  rw [xwN_eq, List.map_map]
  rfl
/-- the world, said by its things -/
def BP (P0 : XP) (hs : va_W) (N : List XI) (ad : XI → Nat) (σ : XS) (H : Heap) : Prop := (∀ q ∈ hs, va_at P0.1 vwCl q H) ∧ ∀ i ∈ N, va_at P0.1 vwCl (ad i, xce (PN P0 N ad) σ i) H
def BD (A : Nat → Prop) (hs : va_W) (N : List XI) (ad : XI → Nat) : Prop := (hs.map (fun q => q.1) ++ N.map ad).Nodup ∧ (∀ q ∈ hs, A q.1) ∧ ∀ i ∈ N, A (ad i)
theorem BP.p {P0 : XP} {hs : va_W} {N : List XI} {ad : XI → Nat} {σ : XS} {H : Heap} : va_P P0.1 vwCl (hs ++ xwN P0 N ad σ) H ↔ BP P0 hs N ad σ H := by
  rw [va_P_mem]
  constructor
  · intro h
    exact ⟨fun q hq => h q (List.mem_append_left _ hq), fun i hi => h _ (List.mem_append_right _ (xwN_mem.mpr ⟨i, hi, rfl⟩))⟩
  · intro h q hq
    rcases List.mem_append.mp hq with hq | hq
    · exact h.1 q hq
    · obtain ⟨i, hi, rfl⟩ := xwN_mem.mp hq
      exact h.2 i hi
theorem BD.d {P0 : XP} {A : Nat → Prop} {hs : va_W} {N : List XI} {ad : XI → Nat} {σ : XS} : va_D A (hs ++ xwN P0 N ad σ) ↔ BD A hs N ad := by
  rw [va_D_nd, List.map_append, xwN_fst]
  constructor
  · intro h
    exact ⟨h.1, fun q hq => h.2 q (List.mem_append_left _ hq), fun i hi => h.2 _ (List.mem_append_right _ (xwN_mem (P0 := P0) (σ := σ).mpr ⟨i, hi, rfl⟩))⟩
  · intro h
    refine ⟨h.1, fun q hq => ?_⟩
    rcases List.mem_append.mp hq with hq | hq
    · exact h.2.1 q hq
    · obtain ⟨i, hi, rfl⟩ := xwN_mem.mp hq
      exact h.2.2 i hi
/-- other addresses elsewhere -/
theorem BP.ad {P0 : XP} {hs : va_W} {N : List XI} {ad a1 : XI → Nat} {σ : XS} {H : Heap} (h : BP P0 hs N ad σ H) (hc : clo N) (e : ∀ i ∈ N, a1 i = ad i) : BP P0 hs N a1 σ H := by
  refine ⟨h.1, fun i hi => ?_⟩
  rw [e i hi]
  exact at_ad (P := PN P0 N ad) (P1 := PN P0 N a1) rfl (fun j hj => e j (hc i hi j hj)) (h.2 i hi)
theorem BD.ad {A : Nat → Prop} {hs : va_W} {N : List XI} {ad a1 : XI → Nat} (h : BD A hs N ad) (e : ∀ i ∈ N, a1 i = ad i) : BD A hs N a1 := by
  refine ⟨?_, h.2.1, fun i hi => by rw [e i hi]; exact h.2.2 i hi⟩
  rw [List.map_congr_left e]
  exact h.1
/-- more things that are done -/
theorem BP.cons {P0 : XP} {hs hs1 : va_W} {N : List XI} {ad a1 : XI → Nat} {σ : XS} {H : Heap} {M : List XI} (h : BP P0 hs N ad σ H) (hc : clo N) (e : ∀ i ∈ N, a1 i = ad i) (h1 : ∀ q ∈ hs1, va_at P0.1 vwCl q H) (hm : ∀ i ∈ M, va_at P0.1 vwCl (a1 i, xce (PN P0 M a1) σ i) H) : BP P0 hs1 (M ++ N) a1 σ H := by
  refine ⟨h1, fun i hi => ?_⟩
  rcases List.mem_append.mp hi with hi | hi
  · exact at_ad (P := PN P0 M a1) (P1 := PN P0 (M ++ N) a1) rfl (fun j hj => rfl) (hm i hi)
  · rw [e i hi]
    exact at_ad (P := PN P0 N ad) (P1 := PN P0 (M ++ N) a1) rfl (fun j hj => e j (hc i hi j hj)) (h.2 i hi)
theorem clo_app {M N : List XI} (hM : ∀ i ∈ M, ∀ j ∈ rfs i, j ∈ M ++ N) (hN : clo N) : clo (M ++ N) := fun i hi j hj => by
  rcases List.mem_append.mp hi with h | h
  · exact hM i h j hj
  · exact List.mem_append_right _ (hN i h j hj)

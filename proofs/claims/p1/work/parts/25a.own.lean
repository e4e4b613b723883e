/-! ===== printed by wip/tools/gen.py: the pools are the tables' ===== -/
theorem cx_clo : px_clo cx_cl cx_fty lw_tbl := by
  refine ⟨fun ci r h => ?_, tw537, tw538, tw539, tw808⟩
  match ci, h with
  | 0, h => cases h; exact cx_c0
  | 1, h => cases h; exact cx_c1
  | 2, h => cases h; exact cx_c2
  | 3, h => cases h; exact cx_c3
  | 4, h => cases h; exact cx_c4
  | 5, h => cases h; exact cx_c5
  | 6, h => cases h; exact cx_c6
  | 7, h => cases h; exact cx_c7
  | 8, h => cases h; exact cx_c8
  | 9, h => cases h; exact cx_c9
  | 10, h => cases h; exact cx_c10
  | 11, h => cases h; exact cx_c11
  | 12, h => cases h; exact cx_c12
  | 13, h => cases h; exact cx_c13
  | 14, h => cases h; exact cx_c14
  | 15, h => cases h; exact cx_c15
  | k + 16, h => simp [cx_cl] at h
theorem cx_one {mi : Nat} {M : px_M} (h : cx_PM[mi]? = some M) {P : px_M → Prop} (hp : P M) : ∀ N, cx_PM[mi]? = some N → P N := fun N hN => by cases h.symm.trans hN; exact hp
theorem cx_cls {ci : Nat} {r : vw_C} (h : cx_cl[ci]? = some r) {P : vw_C → Prop} (hp : P r) : ∀ q, cx_cl[ci]? = some q → P q := fun q hq => by cases h.symm.trans hq; exact hp
theorem cx_own (own : String) (idx : Nat) {ci : Nat} {r : vw_C} (h : cx_cl[ci]? = some r) (hp : ∀ w ∈ Bundle.ownAtoms own idx r.1 px_ups, w ∈ lw_tbl ∨ w ∈ px_two) : ∀ q, cx_cl[ci]? = some q → ∀ w ∈ Bundle.ownAtoms own idx q.1 px_ups, w ∈ lw_tbl ∨ w ∈ px_two := fun q hq => by cases h.symm.trans hq; exact hp
theorem cx_ownc {l : List Cond} (h : (l.all fun w => (List.range 17).any (fun j => decide (w ∈ cx_sub j)) || decide (w ∈ px_two)) = true) : ∀ w ∈ l, w ∈ lw_tbl ∨ w ∈ px_two := by
  intro w hw
  have h1 := List.all_eq_true.mp h w hw
  rw [Bool.or_eq_true] at h1
  rcases h1 with h1 | h1
  · obtain ⟨j, -, hj⟩ := List.any_eq_true.mp h1
    exact Or.inl (cx_subin j w (of_decide_eq_true hj))
  · exact Or.inr (of_decide_eq_true h1)
set_option maxRecDepth 100000 in
theorem ow_AlgolHouse_113 : ∀ w ∈ Bundle.ownAtoms "AlgolHouse" 113 "java/lang/IllegalStateException" px_ups, w ∈ lw_tbl ∨ w ∈ px_two := cx_ownc (by decide +kernel)
set_option maxRecDepth 100000 in
theorem ow_AlgolHouse_179 : ∀ w ∈ Bundle.ownAtoms "AlgolHouse" 179 "java/lang/IllegalArgumentException" px_ups, w ∈ lw_tbl ∨ w ∈ px_two := cx_ownc (by decide +kernel)
set_option maxRecDepth 100000 in
theorem ow_AlgolHouse_184 : ∀ w ∈ Bundle.ownAtoms "AlgolHouse" 184 "java/lang/IndexOutOfBoundsException" px_ups, w ∈ lw_tbl ∨ w ∈ px_two := cx_ownc (by decide +kernel)
set_option maxRecDepth 100000 in
theorem ow_AlgolHouse_Reader_115 : ∀ w ∈ Bundle.ownAtoms "AlgolHouse$Reader" 115 "java/lang/IllegalStateException" px_ups, w ∈ lw_tbl ∨ w ∈ px_two := cx_ownc (by decide +kernel)

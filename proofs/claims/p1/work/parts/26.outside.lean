/-! ===== printed by wip/tools/gen2.py: what lies outside, at the law's start ===== -/
def cx_str : List (List Int32) := [[73, 70, 32, 84, 72, 69, 78, 32, 69, 76, 83, 69, 32, 70, 73, 32, 67, 65, 83, 69, 32, 73, 78, 32, 79, 85, 84, 32, 69, 83, 65, 67, 32, 87, 72, 69, 78, 32, 70, 79, 82, 32, 70, 82, 79, 77, 32, 66, 89, 32, 84, 79, 32, 87, 72, 73, 76, 69, 32, 68, 79, 32, 79, 68, 32, 80, 82, 73, 78, 84, 32, 73, 78, 84, 32, 66, 79, 79, 76, 32, 86, 79, 73, 68, 32, 82, 69, 70, 32, 80, 82, 79, 67, 32, 83, 84, 82, 85, 67, 84, 32, 85, 78, 73, 79, 78, 32], [77, 79, 68, 69, 32, 80, 82, 73, 79, 32, 79, 80, 32, 76, 79, 67, 32, 72, 69, 65, 80, 32, 83, 75, 73, 80, 32, 73, 83, 32, 73, 83, 78, 84, 32, 78, 73, 76, 32, 76, 87, 66, 32, 85, 80, 66, 32, 79, 70, 32, 76, 79, 78, 71, 32, 84, 82, 85, 69, 32, 70, 65, 76, 83, 69, 32, 66, 69, 71, 73, 78, 32, 69, 78, 68, 32]]
def cx_wds : List Int32 := [77, 79, 68, 69, 32, 80, 82, 73, 79, 32, 79, 80, 32, 76, 79, 67, 32, 72, 69, 65, 80, 32, 83, 75, 73, 80, 32, 78, 73, 76, 32, 73, 83, 32, 73, 83, 78, 84, 32, 76, 87, 66, 32, 85, 80, 66, 32, 79, 70, 32, 76, 79, 78, 71, 32, 84, 82, 85, 69, 32, 70, 65, 76, 83, 69, 32, 66, 69, 71, 73, 78, 32, 69, 78, 68, 32, 73, 70, 32, 84, 72, 69, 78, 32, 69, 76, 83, 69, 32, 70, 73, 32, 67, 65, 83, 69, 32, 73, 78, 32, 79, 85, 84, 32, 69, 83, 65, 67, 32, 87, 72, 69, 78, 32, 70, 79, 82, 32, 70, 82, 79, 77, 32, 66, 89, 32, 84, 79, 32, 87, 72, 73, 76, 69, 32, 68, 79, 32, 79, 68, 32, 80, 82, 73, 78, 84, 32, 73, 78, 84, 32, 66, 79, 79, 76, 32, 86, 79, 73, 68, 32, 82, 69, 70, 32, 80, 82, 79, 67, 32, 83, 84, 82, 85, 67, 84, 32, 85, 78, 73, 79, 78, 32]
def cx_refs : List (String × Nat × String × Nat) := [("AlgolHouse$Tokens", 37, "IF THEN ELSE FI CASE IN OUT ESAC WHEN FOR FROM BY TO WHILE DO OD PRINT INT BOOL VOID REF PROC STRUCT UNION ", 1), ("AlgolHouse$Tokens", 39, "MODE PRIO OP LOC HEAP SKIP IS ISNT NIL LWB UPB OF LONG TRUE FALSE BEGIN END ", 2)]
def cx_na (a b : Nat) : Bool := Nat.ble 13 a && Nat.ble a 15 && Nat.ble 13 b && Nat.ble b 15 && !(Nat.beq a b)
abbrev cx_V (w : Option (Nat × (Nat → Int32))) (b : Bool) : px_V := (w, cx_str, cx_wds, cx_refs, b)
def px_gw (w : Cond) : Bool := (w.onTables && w.keeps) || (match w with
  | .arrayClass _ => true
  | .methodLinkNest .. => true
  | .arrayOver (.object _) => true
  | .stringRef .. => true
  | .declares _ => true
  | .privateMethod _ => true
  | .castable .. => true
  | .laysStatic .. => true
  | _ => false)
theorem px_gw_ok {w : Cond} (h : px_gw w = true) : ∀ (s : State) (a a' : Array Value) (U : State), s.WarmedH U.vm → px_shp s U → w.before a s = true → w.before a' U = true := by
  intro s a a' U hW hS hb
  simp only [px_gw, Bool.or_eq_true] at h
  rcases h with h | h
  · exact word_at hW (Or.inl h) hb
  · split at h
    · exact word_at hW (Or.inr ⟨_, rfl⟩) hb
    · exact va_tabs rfl (rfl : (s.setVm U.vm).vm = U.vm) (Cond.methodLinkNest_warmed (args := a) hW hb)
    · exact va_AO.use (va_AO.moved hW.alike (va_AO.of hb))
    · have h1 := Cond.stringRef_warmed (args := a) hW hb
      first
        | exact va_tabs rfl (rfl : (s.setVm U.vm).vm = U.vm) h1
        | (simp only [Cond.before, Cond.holds, Cond.value, State.names, State.poolOf?, State.resolvedAt?] at h1 ⊢; exact h1)
    · exact va_tabs rfl (rfl : (s.setVm U.vm).vm = U.vm) (Cond.faceAtom_setVm (args := a) hW.alike _ rfl hb)
    · exact va_tabs rfl (rfl : (s.setVm U.vm).vm = U.vm) (Cond.faceAtom_setVm (args := a) hW.alike _ rfl hb)
    · exact va_tabs rfl (rfl : (s.setVm U.vm).vm = U.vm) (Cond.faceAtom_setVm (args := a) hW.alike _ rfl hb)
    · have h1 := Cond.laysStatic_setVm (args := a) hW.alike hb
      obtain ⟨c, k, i, fd, ad, cell, hc, hf, hst, hsta, hcell, hiss, hcls, hlt, hty⟩ := Cond.laysStatic_spec h1
      obtain ⟨c', q1, q2, q3⟩ := hS ad cell hcell
      exact Cond.laysStatic_of (s := U) hc (by simpa only [State.fieldFound?, State.vm_setVm] using hf) hst hsta q1 (by rw [q2]; exact hiss) (by rw [q2]; exact hcls) (by rw [q3]; exact hlt) hty
    · cases h
theorem cx_gs (ys : List (MethodName × Nat)) : ∀ w ∈ k2_sels ys, px_gw w = true := by
  intro w hw
  obtain ⟨q, -, rfl⟩ := List.mem_map.mp hw
  rfl

set_option maxRecDepth 100000 in
theorem gw_1 : ∀ w ∈ tables_1_1, px_gw w = true := List.all_eq_true.mp (by decide +kernel)
set_option maxRecDepth 100000 in
theorem gw_2 : ∀ w ∈ tables_1_2, px_gw w = true := List.all_eq_true.mp (by decide +kernel)
set_option maxRecDepth 100000 in
theorem gw_3 : ∀ w ∈ tables_1_3, px_gw w = true := List.all_eq_true.mp (by decide +kernel)
set_option maxRecDepth 100000 in
theorem gw_4 : ∀ w ∈ tables_1_4, px_gw w = true := List.all_eq_true.mp (by decide +kernel)
set_option maxRecDepth 100000 in
theorem gw_5 : ∀ w ∈ tables_1_5, px_gw w = true := List.all_eq_true.mp (by decide +kernel)
set_option maxRecDepth 100000 in
theorem gw_6 : ∀ w ∈ tables_1_6, px_gw w = true := List.all_eq_true.mp (by decide +kernel)
set_option maxRecDepth 100000 in
theorem gw_7 : ∀ w ∈ tables_1_7, px_gw w = true := List.all_eq_true.mp (by decide +kernel)
set_option maxRecDepth 100000 in
theorem gw_8 : ∀ w ∈ tables_1_8, px_gw w = true := List.all_eq_true.mp (by decide +kernel)
set_option maxRecDepth 100000 in
theorem gw_9 : ∀ w ∈ tables_1_9, px_gw w = true := List.all_eq_true.mp (by decide +kernel)
set_option maxRecDepth 100000 in
theorem gw_10 : ∀ w ∈ tables_1_10, px_gw w = true := List.all_eq_true.mp (by decide +kernel)
set_option maxRecDepth 100000 in
theorem gw_11 : ∀ w ∈ tables_1_11, px_gw w = true := List.all_eq_true.mp (by decide +kernel)
set_option maxRecDepth 100000 in
theorem gw_12 : ∀ w ∈ tables_1_12, px_gw w = true := List.all_eq_true.mp (by decide +kernel)
set_option maxRecDepth 100000 in
theorem gw_13 : ∀ w ∈ tables_1_13, px_gw w = true := List.all_eq_true.mp (by decide +kernel)
set_option maxRecDepth 100000 in
theorem gw_14 : ∀ w ∈ tables_1_14, px_gw w = true := List.all_eq_true.mp (by decide +kernel)
set_option maxRecDepth 100000 in
theorem gw_15 : ∀ w ∈ tables_1_15, px_gw w = true := List.all_eq_true.mp (by decide +kernel)
set_option maxRecDepth 100000 in
theorem gw_16 : ∀ w ∈ tables_1_16, px_gw w = true := List.all_eq_true.mp (by decide +kernel)
theorem cx_good : px_good lw_tbl := fun w hw s a a' U => px_gw_ok ((List.forall_mem_append.mpr ⟨cx_gs lw_privs, (List.forall_mem_append.mpr ⟨gw_1, List.forall_mem_append.mpr ⟨gw_2, List.forall_mem_append.mpr ⟨gw_3, List.forall_mem_append.mpr ⟨gw_4, List.forall_mem_append.mpr ⟨gw_5, List.forall_mem_append.mpr ⟨gw_6, List.forall_mem_append.mpr ⟨gw_7, List.forall_mem_append.mpr ⟨gw_8, List.forall_mem_append.mpr ⟨gw_9, List.forall_mem_append.mpr ⟨gw_10, List.forall_mem_append.mpr ⟨gw_11, List.forall_mem_append.mpr ⟨gw_12, List.forall_mem_append.mpr ⟨gw_13, List.forall_mem_append.mpr ⟨gw_14, List.forall_mem_append.mpr ⟨gw_15, gw_16⟩⟩⟩⟩⟩⟩⟩⟩⟩⟩⟩⟩⟩⟩⟩ : ∀ w ∈ tables_1, px_gw w = true)⟩ : ∀ w ∈ lw_tbl, px_gw w = true) w hw) s a a' U
set_option maxRecDepth 100000 in
theorem cx_inst : ∀ (ci : Nat) (r : vw_C), cx_cl[ci]? = some r → ∃ n, Cond.instantiable r.1 n ∈ lw_tbl := by
  intro ci r h
  match ci, h with
  | 0, h => cases h; exact ⟨13, (tin_1 _ (List.mem_of_getElem? (i := 29) (by decide +kernel)))⟩
  | 1, h => cases h; exact ⟨10, (tin_3 _ (List.mem_of_getElem? (i := 74) (by decide +kernel)))⟩
  | 2, h => cases h; exact ⟨6, (tin_2 _ (List.mem_of_getElem? (i := 179) (by decide +kernel)))⟩
  | 3, h => cases h; exact ⟨16, (tin_2 _ (List.mem_of_getElem? (i := 206) (by decide +kernel)))⟩
  | 4, h => cases h; exact ⟨11, (tin_2 _ (List.mem_of_getElem? (i := 218) (by decide +kernel)))⟩
  | 5, h => cases h; exact ⟨8, (tin_1 _ (List.mem_of_getElem? (i := 156) (by decide +kernel)))⟩
  | 6, h => cases h; exact ⟨19, (tin_1 _ (List.mem_of_getElem? (i := 150) (by decide +kernel)))⟩
  | 7, h => cases h; exact ⟨19, (tin_1 _ (List.mem_of_getElem? (i := 37) (by decide +kernel)))⟩
  | 8, h => cases h; exact ⟨11, (tin_2 _ (List.mem_of_getElem? (i := 212) (by decide +kernel)))⟩
  | 9, h => cases h; exact ⟨9, (tin_3 _ (List.mem_of_getElem? (i := 164) (by decide +kernel)))⟩
  | 10, h => cases h; exact ⟨11, (tin_1 _ (List.mem_of_getElem? (i := 43) (by decide +kernel)))⟩
  | 11, h => cases h; exact ⟨9, (tin_2 _ (List.mem_of_getElem? (i := 142) (by decide +kernel)))⟩
  | 12, h => cases h; exact ⟨213, (tin_9 _ (List.mem_of_getElem? (i := 207) (by decide +kernel)))⟩
  | 13, h => cases h; exact ⟨6, (tin_4 _ (List.mem_of_getElem? (i := 43) (by decide +kernel)))⟩
  | 14, h => cases h; exact ⟨6, (tin_7 _ (List.mem_of_getElem? (i := 107) (by decide +kernel)))⟩
  | 15, h => cases h; exact ⟨6, (tin_7 _ (List.mem_of_getElem? (i := 135) (by decide +kernel)))⟩
  | k + 16, h => simp [cx_cl] at h
/-- an array class, by the tables -/
theorem cx_arr {s : State} {args : Array Value} {ty : FieldType} (hp : ∀ C, ty ≠ .object C) (h : (Cond.arrayClass ty).before args s = true) : ∃ cA, ArrOfT s cA ty ∧ va_RA s cA ty := by
  obtain ⟨c, k, comp, h1, h2, h3⟩ := Cond.arrayClass_spec h
  refine ⟨c, fun n z => ⟨fun k h => (by cases h), k, h2, comp, h3⟩, ?_⟩
  cases ty <;> first | exact h1 | exact absurd rfl (hp _)
theorem cx_arrO {s : State} {args : Array Value} {C : String} (h : (Cond.arrayOver (.object C)).before args s = true) : ∃ cA, ArrOfT s cA (.object C) ∧ va_RA s cA (.object C) := by
  obtain ⟨comp, c, k, h1, h2, h3, h4, h5⟩ := Cond.arrayOver_spec h
  exact ⟨c, fun n z => ⟨fun k h => (by cases h), k, h3, comp, h4⟩, k, comp, h3, h4, h1, h5⟩
theorem cx_nocast {s : State} {args : Array Value} {A B : String} {a b : ClassId} (h : (Cond.not (Cond.castable A B)).before args s = true) (ha : s.vm.findClass A = some a) (hb : s.vm.findClass B = some b) : s.vm.assignable a b = false := by
  simp only [Cond.before, Cond.holds, Cond.value, ha, hb] at h
  cases hq : s.vm.assignable a b with
  | false => rfl
  | true => simp [hq] at h
section
set_option maxRecDepth 100000
set_option maxHeartbeats 4000000
def cx_nar : List Cond := flatC (Jvm.Cond.and given_1 narrow_1)
theorem cx_cut {n o : Nat} {L M : List Cond} (h : (L.drop o).take n = M) {w : Cond} (hw : w ∈ M) : w ∈ L := List.mem_of_mem_drop (List.mem_of_mem_take (h ▸ hw))
def cx_tm (i : Nat) : Term := if i = 0 then (.string "AlgolHouse$Tokens" 37) else (.string "AlgolHouse$Tokens" 39)
theorem cx_sh : (cx_nar.drop 4).take 10 = [Cond.eq (.static "java/lang/String" "COMPACT_STRINGS" "Z") (.int 1), Cond.isRef (.static "jdk/internal/util/Preconditions" "SIOOBE_FORMATTER" "Ljava/util/function/BiFunction;"), Cond.eq (.static "java/lang/StringUTF16" "$assertionsDisabled" "Z") (.int 1), Cond.eq (.static "java/lang/StringUTF16" "HI_BYTE_SHIFT" "I") (.int 0), Cond.eq (.static "java/lang/StringUTF16" "LO_BYTE_SHIFT" "I") (.int 8), Cond.isRef (.static Bundle.tN "UNASSIGNED_STACK" Bundle.steD), Cond.isRef (.static Bundle.tN "SUPPRESSED_SENTINEL" Bundle.listD), Cond.isRef (.static "AlgolHouseModel" "WORDS" "[C"), Cond.arrayOf (.static "AlgolHouseModel" "WORDS" "[C") .char, Cond.eq (.length (.static "AlgolHouseModel" "WORDS" "[C")) (.int 183)] := rfl
def cx_fs (t : Term) (L : List Int32) : List Cond := [Cond.exactly t "java/lang/String", Cond.eq (.field t "java/lang/String" "coder" "B") (.int 0), Cond.arrayOf (.field t "java/lang/String" "value" "[B") .byte, Cond.eq (.length (.field t "java/lang/String" "value" "[B")) (.int (Int32.ofNat L.length))]
def cx_es (t : Term) (L : List Int32) : List Cond := (List.range L.length).map fun j => Cond.eq (.elem t (.int (Int32.ofNat j))) (.int (L.getD j 0))
theorem cx_sa : (cx_nar.drop 242).take 4 = cx_fs (.string "AlgolHouse$Tokens" 37) (cx_str.getD 0 []) := rfl
theorem cx_sb : (cx_nar.drop 353).take 4 = cx_fs (.string "AlgolHouse$Tokens" 39) (cx_str.getD 1 []) := rfl
theorem cx_sc : (cx_nar.drop 246).take 107 = cx_es (.field (.string "AlgolHouse$Tokens" 37) "java/lang/String" "value" "[B") (cx_str.getD 0 []) := rfl
theorem cx_sd : (cx_nar.drop 357).take 76 = cx_es (.field (.string "AlgolHouse$Tokens" 39) "java/lang/String" "value" "[B") (cx_str.getD 1 []) := rfl
theorem cx_se : (cx_nar.drop 14).take 183 = cx_es (.static "AlgolHouseModel" "WORDS" "[C") cx_wds := rfl
theorem cx_sf : (cx_nar.drop 433).take 1 = [Cond.not (Cond.eq (.string "AlgolHouse$Tokens" 37) (.string "AlgolHouse$Tokens" 39))] := rfl
theorem cx_sg : (cx_nar.drop 210).take 2 = [Cond.not (Cond.castable "java/lang/IllegalArgumentException" "java/lang/IllegalStateException"), Cond.not (Cond.castable "java/lang/IndexOutOfBoundsException" "java/lang/IllegalStateException")] := rfl
theorem cx_sg2 : (cx_nar.drop 225).take 2 = [Cond.not (Cond.castable "java/lang/IllegalStateException" "java/lang/IllegalArgumentException"), Cond.not (Cond.castable "java/lang/IndexOutOfBoundsException" "java/lang/IllegalArgumentException")] := rfl
theorem cx_sg3 : (cx_nar.drop 240).take 2 = [Cond.not (Cond.castable "java/lang/IllegalStateException" "java/lang/IndexOutOfBoundsException"), Cond.not (Cond.castable "java/lang/IllegalArgumentException" "java/lang/IndexOutOfBoundsException")] := rfl
theorem cx_at {n o k : Nat} {L M : List Cond} (h : (L.drop o).take n = M) {w : Cond} (hw : M[k]? = some w) : w ∈ L := cx_cut h (List.mem_of_getElem? hw)
theorem cx_s1 : ∀ i, i < 2 → Cond.exactly (cx_tm i) "java/lang/String" ∈ cx_nar ∧ Cond.eq (.field (cx_tm i) "java/lang/String" "coder" "B") (.int 0) ∈ cx_nar ∧ Cond.arrayOf (.field (cx_tm i) "java/lang/String" "value" "[B") .byte ∈ cx_nar ∧ Cond.eq (.length (.field (cx_tm i) "java/lang/String" "value" "[B")) (.int (Int32.ofNat ((cx_str.getD i []).length))) ∈ cx_nar := by
  intro i hi
  rcases (by omega : i = 0 ∨ i = 1) with rfl | rfl
  · exact ⟨cx_at (k := 0) cx_sa rfl, cx_at (k := 1) cx_sa rfl, cx_at (k := 2) cx_sa rfl, cx_at (k := 3) cx_sa rfl⟩
  · exact ⟨cx_at (k := 0) cx_sb rfl, cx_at (k := 1) cx_sb rfl, cx_at (k := 2) cx_sb rfl, cx_at (k := 3) cx_sb rfl⟩
theorem cx_es_mem {t : Term} {L : List Int32} {j : Nat} (h : j < L.length) : Cond.eq (.elem t (.int (Int32.ofNat j))) (.int (L.getD j 0)) ∈ cx_es t L := List.mem_map.mpr ⟨j, List.mem_range.mpr h, rfl⟩
theorem cx_s2 : ∀ i, i < 2 → ∀ j, j < (cx_str.getD i []).length → Cond.eq (.elem (.field (cx_tm i) "java/lang/String" "value" "[B") (.int (Int32.ofNat j))) (.int ((cx_str.getD i []).getD j 0)) ∈ cx_nar := by
  intro i hi j hj
  rcases (by omega : i = 0 ∨ i = 1) with rfl | rfl
  · exact cx_cut cx_sc (cx_es_mem hj)
  · exact cx_cut cx_sd (cx_es_mem hj)
theorem cx_s3 : Cond.not (Cond.eq (cx_tm 0) (cx_tm 1)) ∈ cx_nar := cx_at (k := 0) cx_sf rfl
theorem cx_s4 : Cond.arrayOf (.static "AlgolHouseModel" "WORDS" "[C") .char ∈ cx_nar ∧ Cond.eq (.length (.static "AlgolHouseModel" "WORDS" "[C")) (.int (Int32.ofNat cx_wds.length)) ∈ cx_nar ∧ ∀ j, j < cx_wds.length → Cond.eq (.elem (.static "AlgolHouseModel" "WORDS" "[C") (.int (Int32.ofNat j))) (.int (cx_wds.getD j 0)) ∈ cx_nar :=
  ⟨cx_at (k := 8) cx_sh rfl, cx_at (k := 9) cx_sh rfl, fun j hj => cx_cut cx_se (cx_es_mem hj)⟩
theorem cx_s5 : Cond.eq (.static "java/lang/String" "COMPACT_STRINGS" "Z") (.int 1) ∈ cx_nar ∧ Cond.isRef (.static "jdk/internal/util/Preconditions" "SIOOBE_FORMATTER" "Ljava/util/function/BiFunction;") ∈ cx_nar ∧ Cond.isRef (.static Bundle.tN "UNASSIGNED_STACK" Bundle.steD) ∈ cx_nar ∧ Cond.isRef (.static Bundle.tN "SUPPRESSED_SENTINEL" Bundle.listD) ∈ cx_nar :=
  ⟨cx_at (k := 0) cx_sh rfl, cx_at (k := 1) cx_sh rfl, cx_at (k := 5) cx_sh rfl, cx_at (k := 6) cx_sh rfl⟩
theorem cx_s6 : ∀ a, a < 16 → ∀ b, b < 16 → cx_na a b = true → Cond.not (Cond.castable (cx_cl.getD a ("", cx_TE, 0)).1 (cx_cl.getD b ("", cx_TE, 0)).1) ∈ cx_nar := by
  intro a ha b hb h
  have h1 : 13 ≤ a := by
    simp only [cx_na, Bool.and_eq_true] at h
    exact Nat.le_of_ble_eq_true h.1.1.1.1
  have h2 : 13 ≤ b := by
    simp only [cx_na, Bool.and_eq_true] at h
    exact Nat.le_of_ble_eq_true h.1.1.2
  rcases (by omega : a = 13 ∨ a = 14 ∨ a = 15) with rfl | rfl | rfl <;> rcases (by omega : b = 13 ∨ b = 14 ∨ b = 15) with rfl | rfl | rfl <;>
    first
      | exact Bool.noConfusion h
      | exact cx_at (k := 0) cx_sg rfl
      | exact cx_at (k := 1) cx_sg rfl
      | exact cx_at (k := 0) cx_sg2 rfl
      | exact cx_at (k := 1) cx_sg2 rfl
      | exact cx_at (k := 0) cx_sg3 rfl
      | exact cx_at (k := 1) cx_sg3 rfl

end
/-- a static that is a reference or null -/
theorem cx_ref {args : Array Value} {s : State} {C n d : String} {A : Nat → Prop} (hl : (Cond.laysStatic C n d).before args s = true) (hini : (Cond.initialized C).before args s = true) (h : (Cond.isRef (.static C n d)).before args s = true) (hA : ∀ a : Nat, a < s.heap.size → ¬ A a) : ∃ v : Value, v.isRef = true ∧ va_Z C n d v A s s.heap := by
  cases hv : (Term.static C n d).eval args s none [] s with
  | none => simp [Cond.before, Cond.holds, Cond.value, hv] at h
  | some v =>
    refine ⟨v, ?_, va_Zof hl hini hv hA⟩
    simp only [Cond.before, Cond.holds, Cond.value, hv] at h
    cases v <;> simp_all [Value.isRef]
set_option maxHeartbeats 4000000 in
set_option maxRecDepth 100000 in
theorem cx_env {s : State} {b L : Nat} {xs : Nat → Int32} (hts : ∀ w ∈ lw_tbl, w.before #[Value.ref b] s = true) (hX : va_X b L xs s s.heap) (hbl : b < s.heap.size) (hgv : (Jvm.Cond.and given_1 narrow_1).before #[Value.ref b] s = true) :
    ∃ (ext : UInt32 → Nat) (tA : Nat → ClassId) (D : va_G) (bb : Bool), px_Ev s.heap.size ext tA D cx_cl cx_na (cx_V (some (L, xs)) bb) s.heap s ∧ ext 0 = b := by
  have hs : ∀ w ∈ cx_nar, w.before #[Value.ref b] s = true := flat_of_before _ hgv
  have hA : ∀ a : Nat, a < s.heap.size → ¬ (fun q : Nat => s.heap.size ≤ q) a := fun a h => Nat.not_le.mpr h
  -- the classes' numbers
  have hex : ∀ ci : Nat, ∃ q : ClassId × (Nat → Nat), ∀ r, cx_cl[ci]? = some r → u_Kn s r.1 r.2.1 r.2.2 q.1 q.2 := by
    intro ci
    cases hc : cx_cl[ci]? with
    | none => exact ⟨(0, fun _ => 0), fun r h => by cases h⟩
    | some r =>
      obtain ⟨n, hn⟩ := cx_inst ci r hc
      obtain ⟨cC, iS, hK⟩ := u_known (n := n) hts (cx_clo.1 ci r hc).1 (hts _ hn)
      exact ⟨(cC, iS), fun r' h => by cases h; exact hK⟩
  obtain ⟨f, hf⟩ := Classical.axiomOfChoice hex
  -- the array classes
  obtain ⟨a0, ha0⟩ := cx_arr (ty := .int) (fun _ h => by cases h) (hts _ cx_clo.2.1)
  obtain ⟨a1, ha1⟩ := cx_arr (ty := .long) (fun _ h => by cases h) (hts _ cx_clo.2.2.1)
  obtain ⟨a2, ha2⟩ := cx_arr (ty := .byte) (fun _ h => by cases h) (hts _ cx_clo.2.2.2.1)
  obtain ⟨a3, ha3⟩ := cx_arr (ty := .boolean) (fun _ h => by cases h) (hts _ cx_clo.2.2.2.2)
  obtain ⟨a4, ha4⟩ := cx_arrO (C := "AlgolHouse$Program") (hts _ (tin_3 _ (List.mem_of_getElem? (i := 162) (by decide +kernel))))
  obtain ⟨a5, ha5⟩ := cx_arrO (C := "AlgolHouse$Tale") (hts _ (tin_3 _ (List.mem_of_getElem? (i := 211) (by decide +kernel))))
  -- the texts
  obtain ⟨adK, adV, hvk, hev⟩ := vk_Sof (args := #[Value.ref b]) (s := s) (N := 2) (tm := cx_tm) (len := cx_str.map List.length) (byt := cx_str) (A := fun q : Nat => s.heap.size ≤ q)
    (by decide +kernel) (fun i hi => hs _ (cx_s1 i hi).1) (fun i hi => hs _ (cx_s1 i hi).2.1) (fun i hi => hs _ (cx_s1 i hi).2.2.1)
    (fun i hi => by
      have := hs _ (cx_s1 i hi).2.2.2
      rcases (by omega : i = 0 ∨ i = 1) with rfl | rfl <;> exact this)
    (fun i hi j hj => by
      rcases (by omega : i = 0 ∨ i = 1) with rfl | rfl
      · exact hs _ (cx_s2 0 hi j hj)
      · exact hs _ (cx_s2 1 hi j hj))
    (fun i j hi hj hij => by
      rcases (by omega : i = 0 ∨ i = 1) with rfl | rfl <;> rcases (by omega : j = 0 ∨ j = 1) with rfl | rfl
      · exact absurd rfl hij
      · exact Or.inl (hs _ cx_s3)
      · exact Or.inr (hs _ cx_s3)
      · exact absurd rfl hij) hA
  -- the table of chars
  obtain ⟨tw, htw, hTw⟩ := va_Tof (args := #[Value.ref b]) (s := s) (tm := .static "AlgolHouseModel" "WORDS" "[C") (ty := .char) (N := cx_wds.length) (f := fun j => .int (cx_wds.getD j 0)) (A := fun q : Nat => s.heap.size ≤ q) (by decide) (hs _ cx_s4.1) (va_eqt (hs _ cx_s4.2.1)) (fun j hj => va_eqt (hs _ (cx_s4.2.2 j hj))) hA
  have hZw := va_Zref (A := fun q : Nat => s.heap.size ≤ q) (hts (.laysStatic "AlgolHouseModel" "WORDS" "[C") (tin_12 _ (List.mem_of_getElem? (i := 169) (by decide +kernel)))) (hts (.initialized "AlgolHouseModel") (tin_1 _ (List.mem_of_getElem? (i := 17) (by decide +kernel)))) htw hA
  have hZc := va_Zof (A := fun q : Nat => s.heap.size ≤ q) (hts (.laysStatic "java/lang/String" "COMPACT_STRINGS" "Z") (tin_1 _ (List.mem_of_getElem? (i := 63) (by decide +kernel)))) (hts (.initialized "java/lang/String") (tin_1 _ (List.mem_of_getElem? (i := 4) (by decide +kernel)))) (va_eqi (hs _ cx_s5.1)) hA
  obtain ⟨vf, hvf, hZf⟩ := cx_ref (A := fun q : Nat => s.heap.size ≤ q) (hts (.laysStatic "jdk/internal/util/Preconditions" "SIOOBE_FORMATTER" "Ljava/util/function/BiFunction;") (tin_1 _ (List.mem_of_getElem? (i := 79) (by decide +kernel)))) (hts (.initialized "jdk/internal/util/Preconditions") (tin_1 _ (List.mem_of_getElem? (i := 6) (by decide +kernel)))) (hs _ cx_s5.2.1) hA
  obtain ⟨v1, hv1, hZ1⟩ := cx_ref (A := fun q : Nat => s.heap.size ≤ q) (hts (.laysStatic Bundle.tN "UNASSIGNED_STACK" Bundle.steD) (tin_4 _ (List.mem_of_getElem? (i := 69) (by decide +kernel)))) (hts (.initialized Bundle.tN) (tin_1 _ (List.mem_of_getElem? (i := 18) (by decide +kernel)))) (hs _ cx_s5.2.2.1) hA
  obtain ⟨v2, hv2, hZ2⟩ := cx_ref (A := fun q : Nat => s.heap.size ≤ q) (hts (.laysStatic Bundle.tN "SUPPRESSED_SENTINEL" Bundle.listD) (tin_4 _ (List.mem_of_getElem? (i := 71) (by decide +kernel)))) (hts (.initialized Bundle.tN) (tin_1 _ (List.mem_of_getElem? (i := 18) (by decide +kernel)))) (hs _ cx_s5.2.2.2) hA
  have hfmt : ∃ (bb : Bool) (af : Nat), vf = (bif bb then .null else .ref af) := by
    cases vf with
    | null => exact ⟨true, 0, rfl⟩
    | ref a => exact ⟨false, a, rfl⟩
    | _ => simp [Value.isRef] at hvf
  obtain ⟨bb, af, rfl⟩ := hfmt
  refine ⟨fun j => if j = 0 then b else if j = 1 then adK 0 else if j = 2 then adK 1 else if j = 101 then adV 0 else if j = 102 then adV 1 else if j = 200 then tw else af,
    fun t => if t = 0 then a0 else if t = 1 then a1 else if t = 2 then a2 else if t = 3 then a3 else if t = 4 then a4 else a5, (fun ci => (f ci).1, fun ci => (f ci).2), bb, ⟨⟨fun c q hq => hf c q hq, ?_⟩, ⟨?_, hbl, ?_, ?_, hZc, ⟨hZw, hTw⟩, hZf, ?_⟩, ⟨v1, v2, hv1, hv2, hZ1, hZ2⟩, ?_⟩, rfl⟩
  · intro k q hk
    have hk6 : k < 6 := (List.getElem?_eq_some_iff.mp hk).1
    rcases (by omega : k = 0 ∨ k = 1 ∨ k = 2 ∨ k = 3 ∨ k = 4 ∨ k = 5) with rfl | rfl | rfl | rfl | rfl | rfl <;> cases hk
    · exact ha0
    · exact ha1
    · exact ha2
    · exact ha3
    · exact ha4
    · exact ha5
  · intro w hw
    cases hw
    exact hX
  · intro j bs hj
    unfold px_str at hj
    split at hj
    · cases hj
    · rename_i hj0
      have hlt : j.toNat - 1 < 2 := (List.getElem?_eq_some_iff.mp hj).1
      have hj1 : j = 1 ∨ j = 2 := by
        have h1 : j.toNat ≠ 0 := fun z => hj0 (UInt32.toNat_inj.mp z)
        rcases (by omega : j.toNat = 1 ∨ j.toNat = 2) with z | z
        · exact Or.inl (UInt32.toNat_inj.mp z)
        · exact Or.inr (UInt32.toNat_inj.mp z)
      rcases hj1 with rfl | rfl
      · exact ⟨(hvk.1 0 (by decide)).1, (hvk.1 0 (by decide)).2.1, (hvk.1 0 (by decide)).2.2.1⟩
      · exact ⟨(hvk.1 1 (by decide)).1, (hvk.1 1 (by decide)).2.1, (hvk.1 1 (by decide)).2.2.1⟩
  · intro j bs hj
    unfold px_arr at hj
    split at hj
    · cases hj
    · rename_i hj0
      have hlt : j.toNat - 101 < 2 := (List.getElem?_eq_some_iff.mp hj).1
      have hj1 : j = 101 ∨ j = 102 := by
        rcases (by omega : j.toNat = 101 ∨ j.toNat = 102) with z | z
        · exact Or.inl (UInt32.toNat_inj.mp z)
        · exact Or.inr (UInt32.toNat_inj.mp z)
      rcases hj1 with rfl | rfl
      · cases hj
        exact (hvk.1 0 (by decide)).2.2.2
      · cases hj
        exact (hvk.1 1 (by decide)).2.2.2
  · intro q hq
    rcases List.mem_cons.mp hq with rfl | hq
    · exact vk_R.of (hts _ (tin_1 _ (List.mem_of_getElem? (i := 48) (by decide +kernel)))) (hev 0 (by decide))
    · rcases List.mem_cons.mp hq with rfl | hq
      · exact vk_R.of (hts _ (tin_1 _ (List.mem_of_getElem? (i := 49) (by decide +kernel)))) (hev 1 (by decide))
      · cases hq
  · intro ci cj hc
    have h16 : ci < 16 ∧ cj < 16 := by
      simp only [cx_na, Bool.and_eq_true] at hc
      exact ⟨by have := Nat.le_of_ble_eq_true hc.1.1.1.2; omega, by have := Nat.le_of_ble_eq_true hc.1.2; omega⟩
    have hw := hs _ (cx_s6 ci h16.1 cj h16.2 hc)
    have e1 : ∀ k : Nat, k < 16 → cx_cl[k]? = some (cx_cl.getD k ("", cx_TE, 0)) := by
      intro k hk
      have : k < cx_cl.length := hk
      simp [List.getD_eq_getElem?_getD, List.getElem?_eq_getElem this]
    exact cx_nocast hw (hf ci _ (e1 ci h16.1)).2.1 (hf cj _ (e1 cj h16.2)).2.1


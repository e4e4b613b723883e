/-! ===== the pure machine's heap instructions are the machine's ===== -/
/-- what the tables must say of an entry of a class's pool -/
def px_wd (cl : List vw_C) (TB : List Cond) (own : String) (idx : Nat) (x : px_X) : Prop := match x with
  | (0, ci, k, _) => ∃ r, cl[ci]? = some r ∧ k < r.2.2 ∧ Cond.fieldLink own idx (r.2.1 k).1 (r.2.1 k).2.1 (r.2.1 k).2.2.1 ∈ TB
  | (2, ci, t, _) => (∀ r, cl[ci]? = some r → Cond.classLink own idx r.1 ∈ TB ∧ Cond.instantiable r.1 r.2.2 ∈ TB ∧ Cond.initialized r.1 ∈ TB) ∧ (¬ t = 0 → (t = 4 ∨ t = 5) ∧ ∃ C, px_ty t = .object C ∧ Cond.classLink own idx C ∈ TB ∧ Cond.arrayOver (.object C) ∈ TB)
  | (3, _, _, v) => Cond.constant own idx v.toInt32 ∈ TB
  | (5, _, _, v) => Cond.constantLong own idx v ∈ TB
  | (14, _, _, _) => Cond.fieldLink own idx "java/lang/String" "COMPACT_STRINGS" "Z" ∈ TB
  | (15, _, _, _) => Cond.fieldLink own idx "AlgolHouseModel" "WORDS" "[C" ∈ TB
  | (17, _, _, _) => Cond.fieldLink own idx "jdk/internal/util/Preconditions" "SIOOBE_FORMATTER" "Ljava/util/function/BiFunction;" ∈ TB
  | (18, _, _, _) => Cond.methodLink own idx Lib.Math.min.name ∈ TB ∧ Cond.static Lib.Math.min.name ∈ TB ∧ Cond.initialized "java/lang/Math" ∈ TB ∧ Cond.code Lib.Math.min.name Lib.Math.min.code 2 (some .int) ∈ TB
  | (19, _, _, _) => Cond.methodLink own idx Lib.Math.max.name ∈ TB ∧ Cond.static Lib.Math.max.name ∈ TB ∧ Cond.initialized "java/lang/Math" ∈ TB ∧ Cond.code Lib.Math.max.name Lib.Math.max.code 2 (some .int) ∈ TB
  | (16, f, _, _) => (f = 0 → Cond.fieldLink own idx "java/lang/String" "value" "[B" ∈ TB) ∧ (f = 1 → Cond.fieldLink own idx "java/lang/String" "coder" "B" ∈ TB)
  | (8, _, _, _) => Cond.methodLink own idx Lib.objectInit ∈ TB ∧ Cond.instanceMethod Lib.objectInit ∈ TB ∧ Cond.code Lib.objectInit ⟨#[0xb1]⟩ 1 none ∈ TB
  | _ => True
/-- what the tables must say of the classes -/
def px_clo (cl : List vw_C) (fty : Nat → Nat → FieldType) (TB : List Cond) : Prop :=
  (∀ (ci : Nat) (r : vw_C), cl[ci]? = some r → (∀ w ∈ u_ws r.1 r.2.1 r.2.2, w ∈ TB) ∧ (∀ k, k < r.2.2 → parseFieldDescriptor (r.2.1 k).2.2.1 = some (fty ci k)) ∧ (∀ a, a < r.2.2 → ∀ b, b < r.2.2 → a ≠ b → (r.2.1 a).2.1 ≠ (r.2.1 b).2.1) ∧ ∀ k, k < r.2.2 → defaultValue (fty ci k) = px_dv (fty ci k)) ∧
  Cond.arrayClass .int ∈ TB ∧ Cond.arrayClass .long ∈ TB ∧ Cond.arrayClass .byte ∈ TB ∧ Cond.arrayClass .boolean ∈ TB
/-- the world: the pure heap at its addresses; what was there before is as it was -/
def px_I (base : Nat) (ext : UInt32 → Nat) (tA : Nat → ClassId) (D : va_G) (cl : List vw_C) (H0 : Heap) (G : px_G) (H : Heap) (locs : List Loc) : Prop :=
  H0.size = base ∧ va_P D cl (px_ws base ext tA G.1) H ∧ va_S (fun q : Nat => base ≤ q) H0 H locs
/-- the counts: a method begins with n0 cells of s0 slots -/
def px_N (base n0 s0 : Nat) (G : px_G) (s : State) (cells slots : Nat) : Prop := s.heap.size = base + n0 ∧ cells + n0 = G.1.length ∧ slots + s0 = G.2
/-- what a row needs of the method that it stands in -/
def px_C (TB : List Cond) (M : px_M) (p : Program) (s : State) (m : MethodId) (args : Array Value) (meth : Method) (c : Code) : Prop :=
  p.tables.exec = Jvm.exec ∧ c.code = px_mb M ∧ meth.sig.returnType = px_mr M ∧ c.maxLocals = px_ml M ∧ s.vm.findClass (px_my M).cls = some m.cls ∧ (∀ w ∈ TB, w.before args s = true) ∧ meth.locks = false ∧ meth.name = (px_my M).name ∧
    c.exceptionTable.toList.map (fun h => (h.startPc, h.endPc, h.handlerPc, h.catchType)) = px_mh M
/-- the script, the texts, the table lie outside, and are as they were -/
def px_Xt (ext : UInt32 → Nat) (V : px_V) (H0 : Heap) (s : State) : Prop := (∀ w, V.1 = some w → va_X (ext 0) w.1 w.2 s H0) ∧ ext 0 < H0.size ∧
  (∀ j bs, px_str V j = some bs → va_O "java/lang/String" (ext j) (fun q : Nat => H0.size ≤ q) s H0 ∧ va_OF "java/lang/String" "coder" "B" (.int 0) (ext j) (fun q : Nat => H0.size ≤ q) s H0 ∧ va_OF "java/lang/String" "value" "[B" (.ref (ext (j + 100))) (ext j) (fun q : Nat => H0.size ≤ q) s H0) ∧
  (∀ j bs, px_arr V j = some bs → va_T .byte (ext j) bs.length (fun i => .int (bs.getD i 0)) (fun q : Nat => H0.size ≤ q) s H0) ∧
  va_Z "java/lang/String" "COMPACT_STRINGS" "Z" (.int 1) (fun q : Nat => H0.size ≤ q) s H0 ∧
  (va_Z "AlgolHouseModel" "WORDS" "[C" (.ref (ext 200)) (fun q : Nat => H0.size ≤ q) s H0 ∧ va_T .char (ext 200) V.2.2.1.length (fun i => .int (V.2.2.1.getD i 0)) (fun q : Nat => H0.size ≤ q) s H0) ∧
  va_Z "jdk/internal/util/Preconditions" "SIOOBE_FORMATTER" "Ljava/util/function/BiFunction;" (bif V.2.2.2.2 then .null else .ref (ext 201)) (fun q : Nat => H0.size ≤ q) s H0 ∧
  ∀ q ∈ V.2.2.2.1, vk_R q.1 q.2.1 q.2.2.1 (ext (UInt32.ofNat q.2.2.2)) s
theorem px_Xt.warm {ext : UInt32 → Nat} {V : px_V} {H0 : Heap} {s U : State} (h : px_Xt ext V H0 s) (hW : s.WarmedH U.vm) : px_Xt ext V H0 U := by
  obtain ⟨h1, h2, h3, h4, h5, ⟨h6, h7⟩, h9, h8⟩ := h
  have hvm := hW.alike
  exact ⟨fun w hw => va_X.moved hvm (h1 w hw), h2, fun j bs hj => ⟨va_O.moved hvm (h3 j bs hj).1, va_OF.moved hvm (h3 j bs hj).2.1, va_OF.moved hvm (h3 j bs hj).2.2⟩, fun j bs hj => va_T.moved hvm (h4 j bs hj), va_Z.moved hvm h5, ⟨va_Z.moved hvm h6, va_T.moved hvm h7⟩, va_Z.moved hvm h9, fun q hq => vk_R.warm hW (h8 q hq)⟩
theorem px_dv_rv (base : Nat) (ext : UInt32 → Nat) (ty : FieldType) : px_rv base ext (px_dv ty) = px_dv ty := by cases ty <;> rfl
theorem px_ra_len (base : Nat) (a : px_A) : (px_ra base a).1 = a.1 := by
  obtain ⟨n, f | f | f⟩ := a <;> rfl
section PXH
variable {p : Program} {l : Launch} {e : Env} {R : Room} {s : State} {m : MethodId} {args : Array Value} {below : List Frame} {meth : Method} {c : Code} {H : Heap} {locs : List Loc} {cells slots : Nat} {Q : State → Prop}
variable {pc : Nat} {ls : Array Slot} {base : Nat} {ext : UInt32 → Nat} {tA : Nat → ClassId} {D : va_G} {cl : List vw_C} {fty : Nat → Nat → FieldType} {TB : List Cond} {H0 : Heap} {V : px_V} {M : px_M} {lv : px_L} {st : List Value} {G : px_G} {r : px_S × px_G} {n0 s0 : Nat}
/-- a cell of the world changed in its place -/
theorem px_I_set (hI : px_I base ext tA D cl H0 G H locs) (k : Nat) (y : px_E) {H1 : Heap} {locs1 : List Loc}
    (hP : va_P D cl ((px_ws base ext tA G.1).set k (base + k, px_ce base ext tA y)) H1) (hS : va_S (fun q : Nat => base ≤ q) H0 H1 locs1) : px_I base ext tA D cl H0 (G.1.set k y, G.2) H1 locs1 := by
  rw [px_ws_set] at hP
  exact ⟨hI.1, hP, hS⟩
theorem px_N_set (hN : px_N base n0 s0 G s cells slots) (k : Nat) (y : px_E) : px_N base n0 s0 (G.1.set k y, G.2) s cells slots := ⟨hN.1, by rw [List.length_set]; exact hN.2.1, hN.2.2⟩
/-- how many cells there are -/
theorem px_size {T : State} (X : Stand p l e R s m args below meth c T locs cells slots) (hT : T.heap = H) (hI : px_I base ext tA D cl H0 G H locs) (hN : px_N base n0 s0 G s cells slots) : H.size = base + G.1.length := by
  have h1 := X.heapSize
  rw [hT] at h1
  obtain ⟨e1, e2, -⟩ := hN
  have h2 : base + G.1.length ≤ H.size := by
    cases hg : G.1.length with
    | zero => have := hI.2.2.1; have := hI.1; omega
    | succ n =>
      have hk : G.1[n]? = some (G.1[n]'(by omega)) := List.getElem?_eq_getElem (by omega)
      have := (hI.2.1 n _ (px_ws_at hk)).lt
      have h3 : base + n < H.size := this
      omega
  omega

theorem px_get_ok (C : px_C TB M p s m args meth c) (hX : px_Xt ext V H0 s) (hcl : px_clo cl fty TB) (hw : ∀ idx x, px_mx M idx = some x → px_wd cl TB (px_my M).cls idx x) (hK : va_K D cl (px_tys tA) s) (hI : px_I base ext tA D cl H0 G H locs)
    {idx : Nat} (hd : decode (px_mb M) pc = .ok (.getfield idx, 3)) (h : px_get V M pc lv st G idx = some r)
    (kk : r.1.2.1 = lv → r.2 = G → W p l e R s m args below meth c H locs cells slots Q (F0 m r.1.1 ls (r.1.2.2.map (px_rv base ext)))) : W p l e R s m args below meth c H locs cells slots Q (F0 m pc ls (st.map (px_rv base ext))) := by
  obtain ⟨hx, hb, -, -, hown, hts, -, -, -⟩ := C
  unfold px_get at h
  split at h
  · rename_i f z1 z2 j q hm
    split at h
    · rename_i bs hs
      obtain ⟨k1, k2, k3⟩ := hX.2.2.1 j bs hs
      have hS := hI.2.2
      rw [← hI.1] at hS
      split at h
      · rename_i hf
        cases h
        have w1 := (hw _ _ hm).1 hf
        obtain ⟨cf, kc, fi, fl, cell, g1, g2, g3, g4, g5, g6⟩ := k3.kept hS.2.1
        exact W.getf hx hb hown (hts _ w1) g1 g2 g3 g4 (v := .ref (ext (j + 100))) g5 rfl rfl hd (kk rfl rfl)
      · split at h
        · rename_i hf
          cases h
          have w1 := (hw _ _ hm).2 hf
          obtain ⟨cf, kc, fi, fl, cell, g1, g2, g3, g4, g5, g6⟩ := k2.kept hS.2.1
          exact W.getf hx hb hown (hts _ w1) g1 g2 g3 g4 (v := .int 0) g5 rfl rfl hd (kk rfl rfl)
        · cases h
    · cases h
  · rename_i ci k z a q hm
    split at h
    · rename_i cj fs hg
      split at h
      · rename_i hc
        subst hc
        split at h
        · rename_i v hv
          cases h
          obtain ⟨rr, h1, h2, h3⟩ := hw _ _ hm
          refine va_get hx hb hts (hcl.1 _ _ h1).1 hown hK hI.2.1 a (px_ws_at hg) h1 k h2 (hts _ h3) (fun _ z => z) (v := px_rv base ext v) ?_ hd (kk rfl rfl)
          rw [List.getElem?_map, hv]
          rfl
        · cases h
      · cases h
    · cases h
  · cases h
theorem px_put_ok (C : px_C TB M p s m args meth c) (hcl : px_clo cl fty TB) (hw : ∀ idx x, px_mx M idx = some x → px_wd cl TB (px_my M).cls idx x) (hK : va_K D cl (px_tys tA) s) (hI : px_I base ext tA D cl H0 G H locs) (hN : px_N base n0 s0 G s cells slots)
    {idx : Nat} (hd : decode (px_mb M) pc = .ok (.putfield idx, 3)) (h : px_put cl fty M pc lv st G idx = some r)
    (kk : ∀ (H1 : Heap) (locs1 : List Loc), r.1.2.1 = lv → px_I base ext tA D cl H0 r.2 H1 locs1 → px_N base n0 s0 r.2 s cells slots → W p l e R s m args below meth c H1 locs1 cells slots Q (F0 m r.1.1 ls (r.1.2.2.map (px_rv base ext)))) : W p l e R s m args below meth c H locs cells slots Q (F0 m pc ls (st.map (px_rv base ext))) := by
  obtain ⟨hx, hb, -, -, hown, hts, -, hnm, -⟩ := C
  unfold px_put at h
  split at h
  · rename_i ci k z v a q hm
    split at h
    · rename_i cj fs hg
      split at h
      · rename_i hc
        obtain ⟨hc, hk, hfit, hfin⟩ := hc
        subst hc
        cases h
        obtain ⟨rr, h1, h2, h3⟩ := hw _ _ hm
        obtain ⟨g1, g2, g3, -⟩ := hcl.1 _ _ h1
        obtain ⟨f1, f2⟩ := px_fit_ok (base := base) (ext := ext) hfit
        have hset : (fs.map (px_rv base ext)).set k (px_rv base ext v) = (fs.set k v).map (px_rv base ext) := by rw [List.map_set]
        have hkk : ∀ (H1 : Heap) (locs1 : List Loc), va_P D cl ((px_ws base ext tA G.1).set a (base + a, .inr (cj, (fs.map (px_rv base ext)).set k (px_rv base ext v)))) H1 → va_D (fun q : Nat => base ≤ q) ((px_ws base ext tA G.1).set a (base + a, .inr (cj, (fs.map (px_rv base ext)).set k (px_rv base ext v)))) → va_S (fun q : Nat => base ≤ q) H0 H1 locs1 → W p l e R s m args below meth c H1 locs1 cells slots Q (F0 m (pc + 3) ls (q.map (px_rv base ext))) := by
          intro H1 locs1 hP1 _ hS1
          rw [hset] at hP1
          exact kk H1 locs1 rfl (px_I_set hI a (.inr (cj, fs.set k v)) hP1 hS1) (px_N_set hN _ _)
        unfold px_fin at hfin
        rw [h1] at hfin
        simp only [Bool.and_eq_true, decide_eq_true_eq, Bool.or_eq_true, Bool.not_eq_true', beq_iff_eq] at hfin
        rcases hfin.2 with z1 | z1
        · exact va_put hx hb hts g1 (fty cj) g2 g3 hown hK hI.2.1 px_ws_D hI.2.2 a (px_ws_at hg) h1 k h2 (hts _ h3) (fun _ z => z) z1 (g2 k h2) f1 f2 (by rw [List.length_map]; exact hk) hd hkk
        · by_cases z0 : (rr.2.1 k).2.2.2 = false
          · exact va_put hx hb hts g1 (fty cj) g2 g3 hown hK hI.2.1 px_ws_D hI.2.2 a (px_ws_at hg) h1 k h2 (hts _ h3) (fun _ z => z) z0 (g2 k h2) f1 f2 (by rw [List.length_map]; exact hk) hd hkk
          · exact va_putF hx hb hts g1 (fty cj) g2 g3 hown hK hI.2.1 px_ws_D hI.2.2 a (px_ws_at hg) h1 k h2 (hts _ h3) (fun _ z => z) (by simpa using z0) (hnm.trans z1.1) z1.2 (g2 k h2) f1 f2 (by rw [List.length_map]; exact hk) hd hkk
      · cases h
    · cases h
  · cases h
theorem px_ldi_ok (C : px_C TB M p s m args meth c) (hX : px_Xt ext V H0 s) (hK : va_K D cl (px_tys tA) s) (hI : px_I base ext tA D cl H0 G H locs)
    (hd : decode (px_mb M) pc = .ok (.iaload, 1)) (h : px_ldi V pc lv st G = some r)
    (kk : r.1.2.1 = lv → r.2 = G → W p l e R s m args below meth c H locs cells slots Q (F0 m r.1.1 ls (r.1.2.2.map (px_rv base ext)))) : W p l e R s m args below meth c H locs cells slots Q (F0 m pc ls (st.map (px_rv base ext))) := by
  obtain ⟨hx, hb, -, -, -, -, -, -, -⟩ := C
  unfold px_ldi at h
  split at h
  · split at h
    · rename_i hg
      split at h
      · cases h
      · rename_i hin
        cases h
        exact va_iald hx hb hK hI.2.1 _ 0 (px_ws_at hg) (px_tys_at tA (by decide)) hin hd (kk rfl rfl)
    · cases h
  · rename_i i j q
    split at h
    · rename_i hj
      subst hj
      split at h
      · rename_i w hV
        split at h
        · cases h
        · rename_i hin
          cases h
          exact va_sld hx hb (hX.1 w hV) hX.2.1 (A := fun q : Nat => base ≤ q) (by have := hX.2.1; have := hI.1; omega) hI.2.2 hin hd (kk rfl rfl)
      · cases h
    · cases h
  · cases h
theorem px_ldl_ok (C : px_C TB M p s m args meth c) (hK : va_K D cl (px_tys tA) s) (hI : px_I base ext tA D cl H0 G H locs)
    (hd : decode (px_mb M) pc = .ok (.laload, 1)) (h : px_ldl pc lv st G = some r)
    (kk : r.1.2.1 = lv → r.2 = G → W p l e R s m args below meth c H locs cells slots Q (F0 m r.1.1 ls (r.1.2.2.map (px_rv base ext)))) : W p l e R s m args below meth c H locs cells slots Q (F0 m pc ls (st.map (px_rv base ext))) := by
  obtain ⟨hx, hb, -, -, -, -, -, -, -⟩ := C
  unfold px_ldl at h
  split at h
  · split at h
    · rename_i hg
      split at h
      · cases h
      · rename_i hin
        cases h
        exact va_lald hx hb hK hI.2.1 _ 1 (px_ws_at hg) (px_tys_at tA (by decide)) hin hd (kk rfl rfl)
    · cases h
  · cases h
theorem px_ldb_ok (C : px_C TB M p s m args meth c) (hX : px_Xt ext V H0 s) (hK : va_K D cl (px_tys tA) s) (hI : px_I base ext tA D cl H0 G H locs)
    (hd : decode (px_mb M) pc = .ok (.baload, 1)) (h : px_ldb V pc lv st G = some r)
    (kk : r.1.2.1 = lv → r.2 = G → W p l e R s m args below meth c H locs cells slots Q (F0 m r.1.1 ls (r.1.2.2.map (px_rv base ext)))) : W p l e R s m args below meth c H locs cells slots Q (F0 m pc ls (st.map (px_rv base ext))) := by
  obtain ⟨hx, hb, -, -, -, -, -, -, -⟩ := C
  unfold px_ldb at h
  split at h
  · split at h
    · rename_i hg
      split at h
      · cases h
      · rename_i hin
        cases h
        exact va_bald hx hb hK hI.2.1 _ 2 (px_ws_at hg) (px_tys_at tA (by decide)) hin hd (kk rfl rfl)
    · rename_i hg
      split at h
      · cases h
      · rename_i hin
        cases h
        exact va_zald hx hb hK hI.2.1 _ 3 (px_ws_at hg) (px_tys_at tA (by decide)) hin hd (kk rfl rfl)
    · cases h
  · rename_i i j q
    split at h
    · rename_i bs hs
      split at h
      · cases h
      · rename_i hin
        cases h
        have hS := hI.2.2
        rw [← hI.1] at hS
        obtain ⟨cell, g1, g2, g3, g4, g5, g6, g7⟩ := (hX.2.2.2.1 j bs hs).kept hS.2.1
        have hlt : i.toNatClampNeg < bs.length := Nat.not_le.mp fun z => hin (Or.inr z)
        exact W.bald (v := .int (bs.getD i.toNatClampNeg 0)) hx hb g1 g2 g3 (fun z => hin (z.elim Or.inl (fun z => Or.inr (Nat.le_trans g4 z)))) (g6 _ hlt) rfl rfl hd (kk rfl rfl)
    · cases h
  · cases h
theorem px_ldc_ok (C : px_C TB M p s m args meth c) (hX : px_Xt ext V H0 s) (hI : px_I base ext tA D cl H0 G H locs)
    (hd : decode (px_mb M) pc = .ok (.caload, 1)) (h : px_ldc V pc lv st G = some r)
    (kk : r.1.2.1 = lv → r.2 = G → W p l e R s m args below meth c H locs cells slots Q (F0 m r.1.1 ls (r.1.2.2.map (px_rv base ext)))) : W p l e R s m args below meth c H locs cells slots Q (F0 m pc ls (st.map (px_rv base ext))) := by
  obtain ⟨hx, hb, -, -, -, -, -, -, -⟩ := C
  unfold px_ldc at h
  split at h
  · rename_i i j q
    split at h
    · rename_i hin
      obtain ⟨hj, hin⟩ := hin
      subst hj
      cases h
      have hS := hI.2.2
      rw [← hI.1] at hS
      obtain ⟨cell, g1, g2, g3, g4, g5, g6, g7⟩ := hX.2.2.2.2.2.1.2.kept hS.2.1
      have hlt : i.toNatClampNeg < V.2.2.1.length := Nat.not_le.mp fun z => hin (Or.inr z)
      exact W.cald (v := .int (V.2.2.1.getD i.toNatClampNeg 0)) hx hb g1 g2 g3 (fun z => hin (z.elim Or.inl (fun z => Or.inr (Nat.le_trans g4 z)))) (g6 _ hlt) rfl rfl hd (kk rfl rfl)
    · cases h
  · cases h
theorem px_gst_ok (C : px_C TB M p s m args meth c) (hX : px_Xt ext V H0 s) (hw : ∀ idx x, px_mx M idx = some x → px_wd cl TB (px_my M).cls idx x) (hI : px_I base ext tA D cl H0 G H locs)
    {idx : Nat} (hd : decode (px_mb M) pc = .ok (.getstatic idx, 3)) (h : px_gst V M pc lv st G idx = some r)
    (kk : r.1.2.1 = lv → r.2 = G → W p l e R s m args below meth c H locs cells slots Q (F0 m r.1.1 ls (r.1.2.2.map (px_rv base ext)))) : W p l e R s m args below meth c H locs cells slots Q (F0 m pc ls (st.map (px_rv base ext))) := by
  obtain ⟨hx, hb, -, -, hown, hts, -, -, -⟩ := C
  have hS := hI.2.2
  rw [← hI.1] at hS
  unfold px_gst at h
  split at h
  · rename_i z1 z2 z3 hm
    cases h
    obtain ⟨cf, kf, fi, f, a, cell, h1, h2, h3, h4, h5, h6, h7, h8⟩ := hX.2.2.2.2.1.kept hS.2.1
    exact W.gets hx hb hown (hts _ (hw _ _ hm)) h1 h2 h3 h4 h5 (fun e => by rw [e] at h6; cases h6) h7 rfl hd (kk rfl rfl)
  · rename_i z1 z2 z3 hm
    cases h
    obtain ⟨cf, kf, fi, f, a, cell, h1, h2, h3, h4, h5, h6, h7, h8⟩ := hX.2.2.2.2.2.1.1.kept hS.2.1
    exact W.gets hx hb hown (hts _ (hw _ _ hm)) h1 h2 h3 h4 h5 (fun e => by rw [e] at h6; cases h6) h7 rfl hd (kk rfl rfl)
  · rename_i z1 z2 z3 hm
    cases h
    obtain ⟨cf, kf, fi, f, a, cell, h1, h2, h3, h4, h5, h6, h7, h8⟩ := hX.2.2.2.2.2.2.1.kept hS.2.1
    have k2 := kk rfl rfl
    have e1 : px_rv base ext (bif V.2.2.2.2 then .null else .float 201) = (bif V.2.2.2.2 then .null else .ref (ext 201)) := by cases V.2.2.2.2 <;> rfl
    simp only [List.map_cons] at k2
    rw [e1] at k2
    exact W.gets hx hb hown (hts _ (hw _ _ hm)) h1 h2 h3 h4 h5 (fun e => by rw [e] at h6; cases h6) h7 rfl hd k2
  · cases h
theorem px_lda_ok (C : px_C TB M p s m args meth c) (hK : va_K D cl (px_tys tA) s) (hI : px_I base ext tA D cl H0 G H locs)
    (hd : decode (px_mb M) pc = .ok (.aaload, 1)) (h : px_lda pc lv st G = some r)
    (kk : r.1.2.1 = lv → r.2 = G → W p l e R s m args below meth c H locs cells slots Q (F0 m r.1.1 ls (r.1.2.2.map (px_rv base ext)))) : W p l e R s m args below meth c H locs cells slots Q (F0 m pc ls (st.map (px_rv base ext))) := by
  obtain ⟨hx, hb, -, -, -, -, -, -, -⟩ := C
  unfold px_lda at h
  split at h
  · rename_i i a q
    split at h
    · rename_i t n f hg
      split at h
      · rename_i hin
        obtain ⟨ht, hin⟩ := hin
        split at h
        · rename_i k hf
          cases h
          have h4 := kk rfl rfl
          have hv : va_rf ((px_fd1 f i.toNatClampNeg).map (fun k => base + k)) = .ref (base + k) := by rw [hf]; rfl
          rcases ht with rfl | rfl
          · exact va_aldq (f := fun j => (px_fd1 f j).map (fun k => base + k)) hx hb hK hI.2.1 a 4 (px_ws_at hg) (px_tys_at tA (by decide)) hin hd (by rw [hv]; exact h4)
          · exact va_aldq (f := fun j => (px_fd1 f j).map (fun k => base + k)) hx hb hK hI.2.1 a 5 (px_ws_at hg) (px_tys_at tA (by decide)) hin hd (by rw [hv]; exact h4)
        · cases h
      · cases h
    · cases h
  · cases h
theorem px_sti_ok (C : px_C TB M p s m args meth c) (hK : va_K D cl (px_tys tA) s) (hI : px_I base ext tA D cl H0 G H locs) (hN : px_N base n0 s0 G s cells slots)
    (hd : decode (px_mb M) pc = .ok (.iastore, 1)) (h : px_sti pc lv st G = some r)
    (kk : ∀ (H1 : Heap) (locs1 : List Loc), r.1.2.1 = lv → px_I base ext tA D cl H0 r.2 H1 locs1 → px_N base n0 s0 r.2 s cells slots → W p l e R s m args below meth c H1 locs1 cells slots Q (F0 m r.1.1 ls (r.1.2.2.map (px_rv base ext)))) : W p l e R s m args below meth c H locs cells slots Q (F0 m pc ls (st.map (px_rv base ext))) := by
  obtain ⟨hx, hb, -, -, -, -, -, -, -⟩ := C
  unfold px_sti at h
  split at h
  · split at h
    · rename_i hg
      split at h
      · cases h
      · rename_i hin
        cases h
        exact va_iast hx hb hK hI.2.1 px_ws_D hI.2.2 _ 0 (px_ws_at hg) (px_tys_at tA (by decide)) hin hd (fun H1 locs1 hP1 _ hS1 => by rw [px_gi_wr] at hP1; exact kk H1 locs1 rfl (px_I_set hI _ (.inl (0, _, .inl _)) hP1 hS1) (px_N_set hN _ _))
    · cases h
  · cases h
theorem px_stl_ok (C : px_C TB M p s m args meth c) (hK : va_K D cl (px_tys tA) s) (hI : px_I base ext tA D cl H0 G H locs) (hN : px_N base n0 s0 G s cells slots)
    (hd : decode (px_mb M) pc = .ok (.lastore, 1)) (h : px_stl pc lv st G = some r)
    (kk : ∀ (H1 : Heap) (locs1 : List Loc), r.1.2.1 = lv → px_I base ext tA D cl H0 r.2 H1 locs1 → px_N base n0 s0 r.2 s cells slots → W p l e R s m args below meth c H1 locs1 cells slots Q (F0 m r.1.1 ls (r.1.2.2.map (px_rv base ext)))) : W p l e R s m args below meth c H locs cells slots Q (F0 m pc ls (st.map (px_rv base ext))) := by
  obtain ⟨hx, hb, -, -, -, -, -, -, -⟩ := C
  unfold px_stl at h
  split at h
  · split at h
    · rename_i hg
      split at h
      · cases h
      · rename_i hin
        cases h
        exact va_last hx hb hK hI.2.1 px_ws_D hI.2.2 _ 1 (px_ws_at hg) (px_tys_at tA (by decide)) hin hd (fun H1 locs1 hP1 _ hS1 => by rw [px_gl_wr] at hP1; exact kk H1 locs1 rfl (px_I_set hI _ (.inl (1, _, .inr (.inl _))) hP1 hS1) (px_N_set hN _ _))
    · cases h
  · cases h
theorem px_stb_ok (C : px_C TB M p s m args meth c) (hK : va_K D cl (px_tys tA) s) (hI : px_I base ext tA D cl H0 G H locs) (hN : px_N base n0 s0 G s cells slots)
    (hd : decode (px_mb M) pc = .ok (.bastore, 1)) (h : px_stb pc lv st G = some r)
    (kk : ∀ (H1 : Heap) (locs1 : List Loc), r.1.2.1 = lv → px_I base ext tA D cl H0 r.2 H1 locs1 → px_N base n0 s0 r.2 s cells slots → W p l e R s m args below meth c H1 locs1 cells slots Q (F0 m r.1.1 ls (r.1.2.2.map (px_rv base ext)))) : W p l e R s m args below meth c H locs cells slots Q (F0 m pc ls (st.map (px_rv base ext))) := by
  obtain ⟨hx, hb, -, -, -, -, -, -, -⟩ := C
  unfold px_stb at h
  split at h
  · split at h
    · rename_i hg
      split at h
      · cases h
      · rename_i hin
        cases h
        exact va_bast hx hb hK hI.2.1 px_ws_D hI.2.2 _ 2 (px_ws_at hg) (px_tys_at tA (by decide)) hin hd (fun H1 locs1 hP1 _ hS1 => by rw [px_gi_wr] at hP1; exact kk H1 locs1 rfl (px_I_set hI _ (.inl (2, _, .inl _)) hP1 hS1) (px_N_set hN _ _))
    · rename_i hg
      split at h
      · cases h
      · rename_i hin
        cases h
        exact va_zast hx hb hK hI.2.1 px_ws_D hI.2.2 _ 3 (px_ws_at hg) (px_tys_at tA (by decide)) hin hd (fun H1 locs1 hP1 _ hS1 => by rw [px_gi_wr] at hP1; exact kk H1 locs1 rfl (px_I_set hI _ (.inl (3, _, .inl _)) hP1 hS1) (px_N_set hN _ _))
    · cases h
  · cases h
theorem px_sta_ok (C : px_C TB M p s m args meth c) (hK : va_K D cl (px_tys tA) s) (hI : px_I base ext tA D cl H0 G H locs) (hN : px_N base n0 s0 G s cells slots)
    (hd : decode (px_mb M) pc = .ok (.aastore, 1)) (h : px_sta cl pc lv st G = some r)
    (kk : ∀ (H1 : Heap) (locs1 : List Loc), r.1.2.1 = lv → px_I base ext tA D cl H0 r.2 H1 locs1 → px_N base n0 s0 r.2 s cells slots → W p l e R s m args below meth c H1 locs1 cells slots Q (F0 m r.1.1 ls (r.1.2.2.map (px_rv base ext)))) : W p l e R s m args below meth c H locs cells slots Q (F0 m pc ls (st.map (px_rv base ext))) := by
  obtain ⟨hx, hb, -, -, -, -, -, -, -⟩ := C
  unfold px_sta at h
  split at h
  · rename_i v i a q
    split at h
    · rename_i t n f ci vs hg hv
      split at h
      · rename_i w hc
        split at h
        · rename_i hin
          obtain ⟨ht, hty, hin⟩ := hin
          cases h
          have hkk : ∀ (H1 : Heap) (locs1 : List Loc), va_P D cl ((px_ws base ext tA G.1).set a (base + a, .inl (tA t, n, .inr (.inr (.inr (.inr (va_up (fun j => (px_fd1 f j).map (fun k => base + k)) i.toNatClampNeg (some (base + v))))))))) H1 → va_D (fun q : Nat => base ≤ q) ((px_ws base ext tA G.1).set a (base + a, .inl (tA t, n, .inr (.inr (.inr (.inr (va_up (fun j => (px_fd1 f j).map (fun k => base + k)) i.toNatClampNeg (some (base + v))))))))) → va_S (fun q : Nat => base ≤ q) H0 H1 locs1 → W p l e R s m args below meth c H1 locs1 cells slots Q (F0 m (pc + 1) ls (q.map (px_rv base ext))) := by
            intro H1 locs1 hP1 _ hS1
            rw [px_gr_wr] at hP1
            exact kk H1 locs1 rfl (px_I_set hI a (.inl (t, n, .inr (.inr (px_wr f i.toNatClampNeg v)))) hP1 hS1) (px_N_set hN _ _)
          have htt : (px_tys tA)[t]? = some (tA t, .object w.1) := by
            rw [← hty]
            exact px_tys_at tA (by rcases ht with rfl | rfl <;> decide)
          exact va_astq hx hb hK hI.2.1 px_ws_D hI.2.2 a t v ci (px_ws_at hg) htt (px_ws_at hv) hc hin hd hkk
        · cases h
      · cases h
    · cases h
  · cases h
theorem px_aln_ok (C : px_C TB M p s m args meth c) (hX : px_Xt ext V H0 s) (hK : va_K D cl (px_tys tA) s) (hI : px_I base ext tA D cl H0 G H locs)
    (hd : decode (px_mb M) pc = .ok (.arraylength, 1)) (h : px_aln V pc lv st G = some r)
    (kk : r.1.2.1 = lv → r.2 = G → W p l e R s m args below meth c H locs cells slots Q (F0 m r.1.1 ls (r.1.2.2.map (px_rv base ext)))) : W p l e R s m args below meth c H locs cells slots Q (F0 m pc ls (st.map (px_rv base ext))) := by
  obtain ⟨hx, hb, -, -, -, -, -, -, -⟩ := C
  unfold px_aln at h
  split at h
  · split at h
    · rename_i t x hg
      split at h
      · rename_i ht
        cases h
        exact va_alen hx hb hK hI.2.1 _ t (px_ws_at hg) (px_tys_at tA ht) (by rw [px_ra_len]) hd (kk rfl rfl)
      · cases h
    · cases h
  · split at h
    · rename_i hj
      subst hj
      split at h
      · rename_i w hV
        cases h
        exact va_slen hx hb (hX.1 w hV) hX.2.1 (A := fun q : Nat => base ≤ q) (by have := hX.2.1; have := hI.1; omega) hI.2.2 hd (kk rfl rfl)
      · cases h
    · have hS := hI.2.2
      rw [← hI.1] at hS
      split at h
      · rename_i hj
        subst hj
        cases h
        obtain ⟨cell, g1, g2, g3, g4, g5, g6, g7⟩ := hX.2.2.2.2.2.1.2.kept hS.2.1
        exact W.alen (n := Int32.ofNat V.2.2.1.length) hx hb g1 g2 g5 rfl rfl hd (kk rfl rfl)
      · split at h
        · rename_i bs hs
          cases h
          obtain ⟨cell, g1, g2, g3, g4, g5, g6, g7⟩ := (hX.2.2.2.1 _ bs hs).kept hS.2.1
          exact W.alen (n := Int32.ofNat bs.length) hx hb g1 g2 g5 rfl rfl hd (kk rfl rfl)
        · cases h
  · cases h
end PXH

/-! ===== the pure machine's heap ===== -/
/-- the kinds of arrays -/
def px_ty : Nat → FieldType
  | 0 => .int
  | 1 => .long
  | 2 => .byte
  | 3 => .boolean
  | 4 => .object "AlgolHouse$Program"
  | _ => .object "AlgolHouse$Tale"
def px_tys (tA : Nat → ClassId) : List (ClassId × FieldType) := [(tA 0, px_ty 0), (tA 1, px_ty 1), (tA 2, px_ty 2), (tA 3, px_ty 3), (tA 4, px_ty 4), (tA 5, px_ty 5)]
theorem px_tys_at (tA : Nat → ClassId) {t : Nat} (h : t < 6) : (px_tys tA)[t]? = some (tA t, px_ty t) := by
  rcases (by omega : t = 0 ∨ t = 1 ∨ t = 2 ∨ t = 3 ∨ t = 4 ∨ t = 5) with rfl | rfl | rfl | rfl | rfl | rfl <;> rfl
/-- the heap, and how many slots it has -/
abbrev px_G : Type := px_H × Nat
def px_fd1 {α : Type} (l : List (Nat × α)) (j : Nat) : Option α := (l.find? (fun q => q.1 == j)).map (fun q => q.2)
def px_gi (l : List (Nat × Int32)) (j : Nat) : Int32 := (px_fd1 l j).getD 0
def px_gl (l : List (Nat × Int64)) (j : Nat) : Int64 := (px_fd1 l j).getD 0
/-- a place written -/
def px_wr {α : Type} (l : List (Nat × α)) (k : Nat) (x : α) : List (Nat × α) := (k, x) :: l.filter (fun q => !(q.1 == k))
theorem px_fd1_wr {α : Type} (l : List (Nat × α)) (k : Nat) (x : α) (j : Nat) : px_fd1 (px_wr l k x) j = if j = k then some x else px_fd1 l j := by
  unfold px_fd1 px_wr
  by_cases hj : j = k
  · subst hj
    simp
  · rw [if_neg hj, List.find?_cons_of_neg (by simpa using fun h => hj h.symm)]
    congr 1
    rw [List.find?_filter]
    congr 1
    funext q
    by_cases hq : q.1 = j
    · have : ¬ q.1 = k := fun z => hj (hq.symm.trans z)
      simp [hq, hj]
    · simp [hq]
theorem px_gi_wr (l : List (Nat × Int32)) (k : Nat) (x : Int32) : upd (px_gi l) k x = px_gi (px_wr l k x) := by
  funext j
  unfold px_gi upd
  rw [px_fd1_wr]
  by_cases hj : j = k <;> simp [hj]
theorem px_gl_wr (l : List (Nat × Int64)) (k : Nat) (x : Int64) : vp_updL (px_gl l) k x = px_gl (px_wr l k x) := by
  funext j
  unfold px_gl vp_updL
  rw [px_fd1_wr]
  by_cases hj : j = k <;> simp [hj]
def px_ra (base : Nat) (a : px_A) : vp_A := match a with
  | (n, .inl l) => (n, .inl (px_gi l))
  | (n, .inr (.inl l)) => (n, .inr (.inl (px_gl l)))
  | (n, .inr (.inr l)) => (n, .inr (.inr (.inr (.inr (fun j => (px_fd1 l j).map (fun k => base + k))))))
theorem px_gr_wr (base : Nat) (l : List (Nat × Nat)) (k v : Nat) : va_up (fun j => (px_fd1 l j).map (fun k => base + k)) k (some (base + v)) = fun j => (px_fd1 (px_wr l k v) j).map (fun k => base + k) := by
  funext j
  unfold va_up
  rw [px_fd1_wr]
  by_cases hj : j = k <;> simp [hj]
def px_ce (base : Nat) (ext : UInt32 → Nat) (tA : Nat → ClassId) : px_E → va_E
  | .inl (t, a) => .inl (tA t, px_ra base a)
  | .inr (ci, fs) => .inr (ci, fs.map (px_rv base ext))
def px_ws (base : Nat) (ext : UInt32 → Nat) (tA : Nat → ClassId) (h : px_H) : va_W := h.mapIdx (fun k x => (base + k, px_ce base ext tA x))
section PXW
variable {base : Nat} {ext : UInt32 → Nat} {tA : Nat → ClassId} {h : px_H}
theorem px_ws_at {k : Nat} {x : px_E} (hk : h[k]? = some x) : (px_ws base ext tA h)[k]? = some (base + k, px_ce base ext tA x) := by
  simp [px_ws, List.getElem?_mapIdx, hk]
theorem px_ws_of {k : Nat} {q : Nat × va_E} (hq : (px_ws base ext tA h)[k]? = some q) : ∃ x, h[k]? = some x ∧ q = (base + k, px_ce base ext tA x) := by
  simp only [px_ws, List.getElem?_mapIdx] at hq
  cases hk : h[k]? with
  | none => rw [hk] at hq; cases hq
  | some x =>
    rw [hk] at hq
    cases hq
    exact ⟨x, rfl, rfl⟩
theorem px_ws_set (k : Nat) (x : px_E) : (px_ws base ext tA h).set k (base + k, px_ce base ext tA x) = px_ws base ext tA (h.set k x) := by
  apply List.ext_getElem?
  intro j
  rw [List.getElem?_set]
  by_cases hj : k = j
  · subst hj
    rw [if_pos rfl]
    by_cases hl : k < h.length
    · rw [if_pos (by simpa [px_ws] using hl)]
      symm
      exact px_ws_at (by rw [List.getElem?_set_self hl])
    · rw [if_neg (by simpa [px_ws] using hl)]
      symm
      rw [List.getElem?_eq_none_iff]
      simpa [px_ws] using hl
  · rw [if_neg hj]
    simp only [px_ws, List.getElem?_mapIdx, List.getElem?_set, if_neg hj]
theorem px_ws_push (x : px_E) : px_ws base ext tA h ++ [(base + h.length, px_ce base ext tA x)] = px_ws base ext tA (h ++ [x]) := by
  simp [px_ws, List.mapIdx_append]
theorem px_ws_D : va_D (fun q : Nat => base ≤ q) (px_ws base ext tA h) := by
  refine ⟨fun i j a b ha hb hab => ?_, fun k q hq => ?_⟩
  · obtain ⟨x, -, rfl⟩ := px_ws_of ha
    obtain ⟨y, -, rfl⟩ := px_ws_of hb
    have hab : base + i = base + j := hab
    omega
  · obtain ⟨x, -, rfl⟩ := px_ws_of hq
    exact Nat.le_add_right _ _
end PXW
/-- a value for a field of a type -/
def px_fit : FieldType → Value → Bool
  | .int, .int _ => true
  | .long, .long _ => true
  | .boolean, .int x => x == 0 || x == 1
  | .object _, .ref _ => true
  | .object _, .float _ => true
  | .object _, .null => true
  | .array _, .ref _ => true
  | .array _, .null => true
  | _, _ => false
theorem px_fit_ok {base : Nat} {ext : UInt32 → Nat} {ty : FieldType} {v : Value} (h : px_fit ty v = true) : narrow ty (px_rv base ext v) = px_rv base ext v ∧ fits ty (px_rv base ext v) = true := by
  cases ty <;> cases v <;> simp [px_fit] at h <;> first | exact ⟨rfl, rfl⟩ | skip
  rcases h with rfl | rfl <;> exact ⟨rfl, rfl⟩
/-- what a field holds at first -/
def px_dv : FieldType → Value
  | .long => .long 0
  | .object _ => .null
  | .array _ => .null
  | _ => .int 0
def px_my (M : px_M) : MethodName := M.1
def px_mb (M : px_M) : ByteArray := M.2.1
def px_ml (M : px_M) : Nat := M.2.2.1
def px_mr (M : px_M) : Option FieldType := M.2.2.2.1
def px_mh (M : px_M) : List (Nat × Nat × Nat × Nat) := M.2.2.2.2.1
def px_mi (M : px_M) : Nat → Option Instr := M.2.2.2.2.2.1
def px_mx (M : px_M) : Nat → Option px_X := M.2.2.2.2.2.2
/-- may this method write this field -/
def px_fin (cl : List vw_C) (ci k : Nat) (M : px_M) : Bool := match cl[ci]? with
  | some r => decide (k < r.2.2) && (!(r.2.1 k).2.2.2 || ((px_my M).name == "<init>" && (r.2.1 k).1 == (px_my M).cls))
  | none => false
/-- what lies outside: the script's length and ints; the bytes of the texts; a table of chars; which pool entries are texts -/
abbrev px_V : Type := Option (Nat × (Nat → Int32)) × List (List Int32) × List Int32 × List (String × Nat × String × Nat) × Bool
/-- a text outside: 1, 2 ..; its array: 101, 102 ..; the table: 200 -/
def px_str (V : px_V) (j : UInt32) : Option (List Int32) := if j = 0 then none else V.2.1[j.toNat - 1]?
def px_arr (V : px_V) (j : UInt32) : Option (List Int32) := if j.toNat < 101 then none else V.2.1[j.toNat - 101]?
def px_get (V : px_V) (M : px_M) (pc : Nat) (lv : px_L) (st : List Value) (G : px_G) (idx : Nat) : Option (px_S × px_G) := match px_mx M idx, st with
  | some (16, f, _, _), .float j :: r => match px_str V j with
    | some _ => if f = 0 then some ((pc + 3, lv, .float (j + 100) :: r), G) else if f = 1 then some ((pc + 3, lv, .int 0 :: r), G) else none
    | none => none
  | some (0, ci, k, _), .ref a :: r => match G.1[a]? with
    | some (.inr (cj, fs)) => if cj = ci then match fs[k]? with
      | some v => some ((pc + 3, lv, v :: r), G)
      | none => none
      else none
    | _ => none
  | _, _ => none
def px_put (cl : List vw_C) (fty : Nat → Nat → FieldType) (M : px_M) (pc : Nat) (lv : px_L) (st : List Value) (G : px_G) (idx : Nat) : Option (px_S × px_G) := match px_mx M idx, st with
  | some (0, ci, k, _), v :: .ref a :: r => match G.1[a]? with
    | some (.inr (cj, fs)) => if cj = ci ∧ k < fs.length ∧ px_fit (fty ci k) v = true ∧ px_fin cl ci k M = true then some ((pc + 3, lv, r), (G.1.set a (.inr (ci, fs.set k v)), G.2)) else none
    | _ => none
  | _, _ => none
def px_ldi (V : px_V) (pc : Nat) (lv : px_L) (st : List Value) (G : px_G) : Option (px_S × px_G) := match st with
  | .int i :: .ref a :: r => match G.1[a]? with
    | some (.inl (0, n, .inl f)) => if i < 0 ∨ n ≤ i.toNatClampNeg then none else some ((pc + 1, lv, .int (px_gi f i.toNatClampNeg) :: r), G)
    | _ => none
  | .int i :: .float j :: r => if j = 0 then match V.1 with
    | some w => if i < 0 ∨ w.1 ≤ i.toNatClampNeg then none else some ((pc + 1, lv, .int (w.2 i.toNatClampNeg) :: r), G)
    | none => none
    else none
  | _ => none
def px_ldl (pc : Nat) (lv : px_L) (st : List Value) (G : px_G) : Option (px_S × px_G) := match st with
  | .int i :: .ref a :: r => match G.1[a]? with
    | some (.inl (1, n, .inr (.inl f))) => if i < 0 ∨ n ≤ i.toNatClampNeg then none else some ((pc + 1, lv, .long (px_gl f i.toNatClampNeg) :: r), G)
    | _ => none
  | _ => none
def px_ldb (V : px_V) (pc : Nat) (lv : px_L) (st : List Value) (G : px_G) : Option (px_S × px_G) := match st with
  | .int i :: .ref a :: r => match G.1[a]? with
    | some (.inl (2, n, .inl f)) => if i < 0 ∨ n ≤ i.toNatClampNeg then none else some ((pc + 1, lv, .int (px_gi f i.toNatClampNeg) :: r), G)
    | some (.inl (3, n, .inl f)) => if i < 0 ∨ n ≤ i.toNatClampNeg then none else some ((pc + 1, lv, .int (px_gi f i.toNatClampNeg) :: r), G)
    | _ => none
  | .int i :: .float j :: r => match px_arr V j with
    | some bs => if i < 0 ∨ bs.length ≤ i.toNatClampNeg then none else some ((pc + 1, lv, .int (bs.getD i.toNatClampNeg 0) :: r), G)
    | none => none
  | _ => none
def px_ldc (V : px_V) (pc : Nat) (lv : px_L) (st : List Value) (G : px_G) : Option (px_S × px_G) := match st with
  | .int i :: .float j :: r => if j = 200 ∧ ¬ (i < 0 ∨ V.2.2.1.length ≤ i.toNatClampNeg) then some ((pc + 1, lv, .int (V.2.2.1.getD i.toNatClampNeg 0) :: r), G) else none
  | _ => none
/-- of an array of references: what is read isn't null -/
def px_lda (pc : Nat) (lv : px_L) (st : List Value) (G : px_G) : Option (px_S × px_G) := match st with
  | .int i :: .ref a :: r => match G.1[a]? with
    | some (.inl (t, n, .inr (.inr f))) => if (t = 4 ∨ t = 5) ∧ ¬ (i < 0 ∨ n ≤ i.toNatClampNeg) then match px_fd1 f i.toNatClampNeg with
      | some k => some ((pc + 1, lv, .ref k :: r), G)
      | none => none
      else none
    | _ => none
  | _ => none
def px_sti (pc : Nat) (lv : px_L) (st : List Value) (G : px_G) : Option (px_S × px_G) := match st with
  | .int x :: .int i :: .ref a :: r => match G.1[a]? with
    | some (.inl (0, n, .inl f)) => if i < 0 ∨ n ≤ i.toNatClampNeg then none else some ((pc + 1, lv, r), (G.1.set a (.inl (0, n, .inl (px_wr f i.toNatClampNeg x))), G.2))
    | _ => none
  | _ => none
def px_stl (pc : Nat) (lv : px_L) (st : List Value) (G : px_G) : Option (px_S × px_G) := match st with
  | .long x :: .int i :: .ref a :: r => match G.1[a]? with
    | some (.inl (1, n, .inr (.inl f))) => if i < 0 ∨ n ≤ i.toNatClampNeg then none else some ((pc + 1, lv, r), (G.1.set a (.inl (1, n, .inr (.inl (px_wr f i.toNatClampNeg x)))), G.2))
    | _ => none
  | _ => none
def px_stb (pc : Nat) (lv : px_L) (st : List Value) (G : px_G) : Option (px_S × px_G) := match st with
  | .int x :: .int i :: .ref a :: r => match G.1[a]? with
    | some (.inl (2, n, .inl f)) => if i < 0 ∨ n ≤ i.toNatClampNeg then none else some ((pc + 1, lv, r), (G.1.set a (.inl (2, n, .inl (px_wr f i.toNatClampNeg (vp_nar .byte x)))), G.2))
    | some (.inl (3, n, .inl f)) => if i < 0 ∨ n ≤ i.toNatClampNeg then none else some ((pc + 1, lv, r), (G.1.set a (.inl (3, n, .inl (px_wr f i.toNatClampNeg (vp_nar .boolean x)))), G.2))
    | _ => none
  | _ => none
def px_sta (cl : List vw_C) (pc : Nat) (lv : px_L) (st : List Value) (G : px_G) : Option (px_S × px_G) := match st with
  | .ref v :: .int i :: .ref a :: r => match G.1[a]?, G.1[v]? with
    | some (.inl (t, n, .inr (.inr f))), some (.inr (ci, _)) => match cl[ci]? with
      | some w => if (t = 4 ∨ t = 5) ∧ px_ty t = .object w.1 ∧ ¬ (i < 0 ∨ n ≤ i.toNatClampNeg) then some ((pc + 1, lv, r), (G.1.set a (.inl (t, n, .inr (.inr (px_wr f i.toNatClampNeg v)))), G.2)) else none
      | none => none
    | _, _ => none
  | _ => none
def px_aln (V : px_V) (pc : Nat) (lv : px_L) (st : List Value) (G : px_G) : Option (px_S × px_G) := match st with
  | .ref a :: r => match G.1[a]? with
    | some (.inl (t, x)) => if t < 6 then some ((pc + 1, lv, .int (Int32.ofNat x.1) :: r), G) else none
    | _ => none
  | .float j :: r => if j = 0 then match V.1 with
    | some w => some ((pc + 1, lv, .int (Int32.ofNat w.1) :: r), G)
    | none => none
    else if j = 200 then some ((pc + 1, lv, .int (Int32.ofNat V.2.2.1.length) :: r), G) else match px_arr V j with
    | some bs => some ((pc + 1, lv, .int (Int32.ofNat bs.length) :: r), G)
    | none => none
  | _ => none
/-- the kind of a primitive array, its contents at first -/
def px_at : ArrayType → Option (Nat × (Nat → px_A))
  | .int => some (0, fun n => (n, .inl []))
  | .long => some (1, fun n => (n, .inr (.inl [])))
  | .byte => some (2, fun n => (n, .inl []))
  | .boolean => some (3, fun n => (n, .inl []))
  | _ => none
def px_nwa (pc : Nat) (lv : px_L) (st : List Value) (G : px_G) (ty : ArrayType) : Option (px_S × px_G) := match px_at ty, st with
  | some q, .int n :: r => if n < 0 ∨ 60000000 < n.toNatClampNeg then none else some ((pc + 2, lv, .ref G.1.length :: r), (G.1 ++ [.inl (q.1, q.2 n.toNatClampNeg)], G.2 + n.toNatClampNeg))
  | _, _ => none
def px_nwr (M : px_M) (pc : Nat) (lv : px_L) (st : List Value) (G : px_G) (idx : Nat) : Option (px_S × px_G) := match px_mx M idx, st with
  | some (2, _, t, _), .int n :: r => if t = 0 ∨ n < 0 ∨ 60000000 < n.toNatClampNeg then none else some ((pc + 3, lv, .ref G.1.length :: r), (G.1 ++ [.inl (t, n.toNatClampNeg, .inr (.inr []))], G.2 + n.toNatClampNeg))
  | _, _ => none
def px_new (cl : List vw_C) (fty : Nat → Nat → FieldType) (M : px_M) (pc : Nat) (lv : px_L) (st : List Value) (G : px_G) (idx : Nat) : Option (px_S × px_G) := match px_mx M idx with
  | some (2, ci, _, _) => match cl[ci]? with
    | some w => some ((pc + 3, lv, .ref G.1.length :: st), (G.1 ++ [.inr (ci, (List.range w.2.2).map (fun k => px_dv (fty ci k)))], G.2 + w.2.2))
    | none => none
  | _ => none
def px_cst (V : px_V) (n : Nat) (M : px_M) (pc : Nat) (lv : px_L) (st : List Value) (G : px_G) (idx : Nat) : Option (px_S × px_G) := match px_mx M idx with
  | some (3, _, _, v) => some ((pc + n, lv, .int v.toInt32 :: st), G)
  | some (4, 1, _, _) => match V.2.2.2.1.find? (fun q => q.1 == (px_my M).cls && q.2.1 == idx) with
    | some q => if n = 2 then some ((pc + n, lv, .float (UInt32.ofNat q.2.2.2) :: st), G) else none
    | none => none
  | _ => none
/-- a static: a number, or the table -/
def px_gst (V : px_V) (M : px_M) (pc : Nat) (lv : px_L) (st : List Value) (G : px_G) (idx : Nat) : Option (px_S × px_G) := match px_mx M idx with
  | some (14, _, _, _) => some ((pc + 3, lv, .int 1 :: st), G)
  | some (15, _, _, _) => some ((pc + 3, lv, .float 200 :: st), G)
  | some (17, _, _, _) => some ((pc + 3, lv, (bif V.2.2.2.2 then .null else .float 201) :: st), G)
  | _ => none
def px_csl (M : px_M) (pc : Nat) (lv : px_L) (st : List Value) (G : px_G) (idx : Nat) : Option (px_S × px_G) := match px_mx M idx with
  | some (5, _, _, v) => some ((pc + 3, lv, .long v :: st), G)
  | _ => none
/-- Object's own constructor -/
def px_obj (M : px_M) (pc : Nat) (lv : px_L) (st : List Value) (G : px_G) (idx : Nat) : Option (px_S × px_G) := match px_mx M idx, st with
  | some (8, _, _, _), .ref _ :: r => if (r.map fun v => v.category).sum ≤ 8 then some ((pc + 3, lv, r), G) else none
  | _, _ => none
/-- Math.min, Math.max -/
def px_mm (M : px_M) (pc : Nat) (lv : px_L) (st : List Value) (G : px_G) (idx : Nat) : Option (px_S × px_G) := match px_mx M idx, st with
  | some (18, _, _, _), .int y :: .int x :: r => if (r.map fun v => v.category).sum ≤ 8 then some ((pc + 3, lv, .int (if y < x then y else x) :: r), G) else none
  | some (19, _, _, _), .int y :: .int x :: r => if (r.map fun v => v.category).sum ≤ 8 then some ((pc + 3, lv, .int (if x < y then y else x) :: r), G) else none
  | _, _ => none
/-- the instructions that see the heap, and no other frame -/
def px_heap (cl : List vw_C) (fty : Nat → Nat → FieldType) (V : px_V) (M : px_M) (i : Instr) (pc : Nat) (lv : px_L) (st : List Value) (G : px_G) : Option (px_S × px_G) := match i with
  | .getfield idx => px_get V M pc lv st G idx
  | .putfield idx => px_put cl fty M pc lv st G idx
  | .iaload => px_ldi V pc lv st G
  | .laload => px_ldl pc lv st G
  | .baload => px_ldb V pc lv st G
  | .aaload => px_lda pc lv st G
  | .iastore => px_sti pc lv st G
  | .lastore => px_stl pc lv st G
  | .bastore => px_stb pc lv st G
  | .aastore => px_sta cl pc lv st G
  | .arraylength => px_aln V pc lv st G
  | .newarray ty => px_nwa pc lv st G ty
  | .anewarray idx => px_nwr M pc lv st G idx
  | .new idx => px_new cl fty M pc lv st G idx
  | .ldc idx => px_cst V 2 M pc lv st G idx
  | .ldc_w idx => px_cst V 3 M pc lv st G idx
  | .ldc2_w idx => px_csl M pc lv st G idx
  | .invokespecial idx => px_obj M pc lv st G idx
  | .caload => px_ldc V pc lv st G
  | .invokestatic idx => px_mm M pc lv st G idx
  | .getstatic idx => px_gst V M pc lv st G idx
  | _ => none

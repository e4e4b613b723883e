/-! ===== the pure machine's frame instructions are the machine's ===== -/
/-- a pure value at its address: the cells made since the law began lie from 'base' on -/
def px_rv (base : Nat) (ext : UInt32 → Nat) : Value → Value
  | .ref k => .ref (base + k)
  | .float j => .ref (ext j)
  | v => v
def px_rl (base : Nat) (ext : UInt32 → Nat) (lv : px_L) : List (Nat × Value) := lv.map (fun q => (q.1, px_rv base ext q.2))
theorem px_rv_cat (base : Nat) (ext : UInt32 → Nat) (v : Value) : (px_rv base ext v).category = v.category := by cases v <;> rfl
theorem px_rv_isr {base : Nat} {ext : UInt32 → Nat} {v : Value} (h : px_isr v = true) : ∃ a, px_rv base ext v = .ref a := by
  cases v <;> simp [px_isr] at h <;> exact ⟨_, rfl⟩
theorem px_ld_mem {lv : px_L} {i : Nat} {v : Value} (h : px_ld lv i = some v) : (i, v) ∈ lv := by
  unfold px_ld at h
  cases hf : lv.find? (fun q => q.1 == i) with
  | none => rw [hf] at h; cases h
  | some q =>
    rw [hf] at h
    have h1 := List.mem_of_find?_eq_some hf
    have h2 := List.find?_some hf
    simp only [beq_iff_eq] at h2
    simp only [Option.map_some, Option.some.injEq] at h
    obtain ⟨a, b⟩ := q
    dsimp only at h h2
    subst h; subst h2
    exact h1
theorem px_rl_at {base : Nat} {ext : UInt32 → Nat} {ls : Array Slot} {nL : Nat} {lv : px_L} (h : lv_has ls nL (px_rl base ext lv)) {i : Nat} {v : Value} (hq : px_ld lv i = some v) : ls[i]? = some (.val (px_rv base ext v)) :=
  h.2.2 (i, px_rv base ext v) (List.mem_map.mpr ⟨(i, v), px_ld_mem hq, rfl⟩)
theorem px_rl_s1 (base : Nat) (ext : UInt32 → Nat) (lv : px_L) (i : Nat) (v : Value) : (i, px_rv base ext v) :: (px_rl base ext lv).filter (fun q => !(q.1 == i) && !(q.1 + 1 == i && q.2.category == 2)) = px_rl base ext (px_s1 lv i v) := by
  simp only [px_rl, px_s1, List.map_cons, List.filter_map]
  congr 2
  refine List.filter_congr (fun q _ => ?_)
  simp [Function.comp, px_rv_cat]
theorem px_rl_s2 (base : Nat) (ext : UInt32 → Nat) (lv : px_L) (i : Nat) (v : Value) : (i, px_rv base ext v) :: (px_rl base ext lv).filter (fun q => !(q.1 == i) && (!(q.1 == i + 1) && !(q.1 + 1 == i && q.2.category == 2))) = px_rl base ext (px_s2 lv i v) := by
  simp only [px_rl, px_s2, List.map_cons, List.filter_map]
  congr 2
  refine List.filter_congr (fun q _ => ?_)
  simp [Function.comp, px_rv_cat]
theorem px_to_ok {pc t : Nat} {off : Int} (h : px_to pc off = some t) : (pc : Int) + off = (t : Int) := by
  unfold px_to at h
  split at h
  · rename_i h0
    cases h
    exact (Int.toNat_of_nonneg h0).symm
  · cases h
section PXF
variable {p : Program} {l : Launch} {e : Env} {R : Room} {s : State} {m : MethodId} {args : Array Value} {below : List Frame} {meth : Method} {c : Code} {H : Heap} {locs : List Loc} {cells slots : Nat} {Q : State → Prop}
variable {cc : ByteArray} {pc nL : Nat} {ls : Array Slot} {base : Nat} {ext : UInt32 → Nat} {lv : px_L} {st : List Value} {r : px_S}
theorem px_jump_ok {off : Int} (h : px_jump pc lv st off = some r) : ∃ t : Nat, (pc : Int) + off = (t : Int) ∧ r = (t, lv, st) := by
  unfold px_jump at h
  split at h
  · rename_i t ht
    cases h
    exact ⟨t, px_to_ok ht, rfl⟩
  · cases h
theorem px_if_ok {b : Int32 → Bool} {off : Int} (h : px_if b pc lv st off = some r) : ∃ (x : Int32) (q : List Value) (t : Nat), st = .int x :: q ∧ (pc : Int) + off = (t : Int) ∧ r = (bif b x then t else pc + 3, lv, q) := by
  unfold px_if at h
  split at h
  · rename_i x q t ht
    cases h
    exact ⟨x, q, t, rfl, px_to_ok ht, rfl⟩
  · cases h
theorem px_ic_ok {b : Int32 → Int32 → Bool} {off : Int} (h : px_ic b pc lv st off = some r) : ∃ (x y : Int32) (q : List Value) (t : Nat), st = .int y :: .int x :: q ∧ (pc : Int) + off = (t : Int) ∧ r = (bif b x y then t else pc + 3, lv, q) := by
  unfold px_ic at h
  split at h
  · rename_i y x q t ht
    cases h
    exact ⟨x, y, q, t, rfl, px_to_ok ht, rfl⟩
  · cases h
theorem px_ii_ok {f : Int32 → Int32 → Int32} (h : px_ii f pc lv st = some r) : ∃ x y q, st = .int y :: .int x :: q ∧ r = (pc + 1, lv, .int (f x y) :: q) := by
  unfold px_ii at h
  split at h
  · cases h; exact ⟨_, _, _, rfl, rfl⟩
  · cases h
theorem px_iq_ok {f : Int32 → Int32 → Int32} (h : px_iq f pc lv st = some r) : ∃ x y q, st = .int y :: .int x :: q ∧ ¬ y = 0 ∧ r = (pc + 1, lv, .int (f x y) :: q) := by
  unfold px_iq at h
  split at h
  · split at h
    · cases h
    · rename_i hy
      cases h; exact ⟨_, _, _, rfl, hy, rfl⟩
  · cases h
theorem px_ll_ok {f : Int64 → Int64 → Int64} (h : px_ll f pc lv st = some r) : ∃ x y q, st = .long y :: .long x :: q ∧ r = (pc + 1, lv, .long (f x y) :: q) := by
  unfold px_ll at h
  split at h
  · cases h; exact ⟨_, _, _, rfl, rfl⟩
  · cases h
theorem px_lq_ok {f : Int64 → Int64 → Int64} (h : px_lq f pc lv st = some r) : ∃ x y q, st = .long y :: .long x :: q ∧ ¬ y = 0 ∧ r = (pc + 1, lv, .long (f x y) :: q) := by
  unfold px_lq at h
  split at h
  · split at h
    · cases h
    · rename_i hy
      cases h; exact ⟨_, _, _, rfl, hy, rfl⟩
  · cases h
theorem px_li_ok {f : Int64 → Int32 → Int64} (h : px_li f pc lv st = some r) : ∃ x y q, st = .int y :: .long x :: q ∧ r = (pc + 1, lv, .long (f x y) :: q) := by
  unfold px_li at h
  split at h
  · cases h; exact ⟨_, _, _, rfl, rfl⟩
  · cases h
theorem px_i1_ok {f : Int32 → Int32} (h : px_i1 f pc lv st = some r) : ∃ x q, st = .int x :: q ∧ r = (pc + 1, lv, .int (f x) :: q) := by
  unfold px_i1 at h
  split at h
  · cases h; exact ⟨_, _, rfl, rfl⟩
  · cases h
theorem px_ldI_ok {n i : Nat} (h : px_ldI n pc lv st i = some r) : ∃ x, px_ld lv i = some (.int x) ∧ r = (pc + n, lv, .int x :: st) := by
  unfold px_ldI at h
  split at h
  · rename_i x hx
    cases h; exact ⟨x, hx, rfl⟩
  · cases h
theorem px_ldL_ok {n i : Nat} (h : px_ldL n pc lv st i = some r) : ∃ x, px_ld lv i = some (.long x) ∧ r = (pc + n, lv, .long x :: st) := by
  unfold px_ldL at h
  split at h
  · rename_i x hx
    cases h; exact ⟨x, hx, rfl⟩
  · cases h
theorem px_ldA_ok {n i : Nat} (h : px_ldA n pc lv st i = some r) : ∃ v, px_ld lv i = some v ∧ px_isr v = true ∧ r = (pc + n, lv, v :: st) := by
  unfold px_ldA at h
  split at h
  · rename_i v hv
    split at h
    · rename_i hr
      cases h; exact ⟨v, hv, hr, rfl⟩
    · cases h
  · cases h
theorem px_stI_ok {n i : Nat} (h : px_stI nL n pc lv st i = some r) : ∃ x q, st = .int x :: q ∧ i < nL ∧ r = (pc + n, px_s1 lv i (.int x), q) := by
  unfold px_stI at h
  split at h
  · split at h
    · rename_i hi
      cases h; exact ⟨_, _, rfl, hi, rfl⟩
    · cases h
  · cases h
theorem px_stL_ok {n i : Nat} (h : px_stL nL n pc lv st i = some r) : ∃ x q, st = .long x :: q ∧ i + 1 < nL ∧ r = (pc + n, px_s2 lv i (.long x), q) := by
  unfold px_stL at h
  split at h
  · split at h
    · rename_i hi
      cases h; exact ⟨_, _, rfl, hi, rfl⟩
    · cases h
  · cases h
theorem px_stA_ok {n i : Nat} (h : px_stA nL n pc lv st i = some r) : ∃ v q, st = v :: q ∧ px_isr v = true ∧ i < nL ∧ r = (pc + n, px_s1 lv i v, q) := by
  unfold px_stA at h
  split at h
  · split at h
    · rename_i hi
      cases h; exact ⟨_, _, rfl, hi.1, hi.2, rfl⟩
    · cases h
  · cases h
set_option maxHeartbeats 4000000 in
/-- ONE FRAME INSTRUCTION -/
theorem px_pure_ok (hx : p.tables.exec = Jvm.exec) (hb : c.code = cc) {i : Instr} {n : Nat} (hd : decode cc pc = .ok (i, n)) (hn : px_sw i = false → n = px_len i) (hl : lv_has ls nL (px_rl base ext lv)) (h : px_pure nL i pc lv st = some r)
    (kk : ∀ ls' : Array Slot, lv_has ls' nL (px_rl base ext r.2.1) → W p l e R s m args below meth c H locs cells slots Q (F0 m r.1 ls' (r.2.2.map (px_rv base ext)))) : W p l e R s m args below meth c H locs cells slots Q (F0 m pc ls (st.map (px_rv base ext))) := by
  unfold px_pure at h
  split at h
  · cases (hn rfl); cases h; exact lv_iconst hx hb hd rfl (kk _ hl)
  · cases (hn rfl); cases h; exact lv_bipush hx hb hd rfl (kk _ hl)
  · cases (hn rfl); cases h; exact lv_sipush hx hb hd rfl (kk _ hl)
  · cases (hn rfl); cases h; exact lv_lconst hx hb hd rfl (kk _ hl)
  · cases (hn rfl); obtain ⟨x, h1, rfl⟩ := px_ldI_ok h; exact lv_iload_n hx hb hd rfl (px_rl_at hl h1) (kk _ hl)
  · cases (hn rfl); obtain ⟨x, h1, rfl⟩ := px_ldI_ok h; exact lv_iload hx hb hd (px_rl_at hl h1) (kk _ hl)
  · cases (hn rfl); obtain ⟨x, h1, rfl⟩ := px_ldL_ok h; exact lv_lload_n hx hb hd rfl (px_rl_at hl h1) (kk _ hl)
  · cases (hn rfl); obtain ⟨x, h1, rfl⟩ := px_ldL_ok h; exact lv_lload hx hb hd (px_rl_at hl h1) (kk _ hl)
  · cases (hn rfl); obtain ⟨v, h1, h2, rfl⟩ := px_ldA_ok h
    obtain ⟨a, ha⟩ := px_rv_isr (base := base) (ext := ext) h2
    have h3 := px_rl_at hl h1
    have h4 := kk _ hl
    simp only [List.map_cons] at h4
    rw [ha] at h3 h4
    exact lv_aload_n hx hb hd rfl h3 h4
  · cases (hn rfl); obtain ⟨v, h1, h2, rfl⟩ := px_ldA_ok h
    obtain ⟨a, ha⟩ := px_rv_isr (base := base) (ext := ext) h2
    have h3 := px_rl_at hl h1
    have h4 := kk _ hl
    simp only [List.map_cons] at h4
    rw [ha] at h3 h4
    exact lv_aload hx hb hd h3 h4
  · cases (hn rfl); obtain ⟨x, q, rfl, h1, rfl⟩ := px_stI_ok h; exact lv_istore_n hx hb hd rfl hl h1 (px_rl_s1 base ext lv _ (.int x)) kk
  · cases (hn rfl); obtain ⟨x, q, rfl, h1, rfl⟩ := px_stI_ok h; exact lv_istore hx hb hd hl h1 (px_rl_s1 base ext lv _ (.int x)) kk
  · cases (hn rfl); obtain ⟨x, q, rfl, h1, rfl⟩ := px_stL_ok h; exact lv_lstore_n hx hb hd rfl hl h1 (px_rl_s2 base ext lv _ (.long x)) kk
  · cases (hn rfl); obtain ⟨x, q, rfl, h1, rfl⟩ := px_stL_ok h; exact lv_lstore hx hb hd hl h1 (px_rl_s2 base ext lv _ (.long x)) kk
  · cases (hn rfl); obtain ⟨v, q, rfl, h2, h1, rfl⟩ := px_stA_ok h
    obtain ⟨a, ha⟩ := px_rv_isr (base := base) (ext := ext) h2
    rename_i k0
    have h3 := px_rl_s1 base ext lv (k0 : Nat) v
    simp only [List.map_cons]
    rw [ha] at h3 ⊢
    exact lv_astore_n hx hb hd rfl hl h1 h3 kk
  · cases (hn rfl); obtain ⟨v, q, rfl, h2, h1, rfl⟩ := px_stA_ok h
    obtain ⟨a, ha⟩ := px_rv_isr (base := base) (ext := ext) h2
    rename_i k0
    have h3 := px_rl_s1 base ext lv k0 v
    simp only [List.map_cons]
    rw [ha] at h3 ⊢
    exact lv_astore hx hb hd hl h1 h3 kk
  · cases (hn rfl)
    unfold px_inc at h
    split at h
    · rename_i x hx1
      split at h
      · rename_i hi
        cases h
        obtain ⟨k, hk⟩ := List.getElem?_of_mem (List.mem_map.mpr ⟨_, px_ld_mem hx1, rfl⟩ : (_, px_rv base ext (.int x)) ∈ px_rl base ext lv)
        exact lv_iinc hx hb hd hl hk rfl hi (px_rl_s1 base ext lv _ (.int _)) kk
      · cases h
    · cases h
  · cases (hn rfl); obtain ⟨x, y, q, rfl, rfl⟩ := px_ii_ok h; exact lv_iadd hx hb hd (kk _ hl)
  · cases (hn rfl); obtain ⟨x, y, q, rfl, rfl⟩ := px_ii_ok h; exact lv_isub hx hb hd (kk _ hl)
  · cases (hn rfl); obtain ⟨x, y, q, rfl, rfl⟩ := px_ii_ok h; exact lv_imul hx hb hd (kk _ hl)
  · cases (hn rfl); obtain ⟨x, y, q, rfl, rfl⟩ := px_ii_ok h; exact lv_iand hx hb hd (kk _ hl)
  · cases (hn rfl); obtain ⟨x, y, q, rfl, rfl⟩ := px_ii_ok h; exact lv_ior hx hb hd (kk _ hl)
  · cases (hn rfl); obtain ⟨x, y, q, rfl, rfl⟩ := px_ii_ok h; exact lv_ixor hx hb hd (kk _ hl)
  · cases (hn rfl); obtain ⟨x, y, q, rfl, rfl⟩ := px_ii_ok h; exact lv_ishl hx hb hd (kk _ hl)
  · cases (hn rfl); obtain ⟨x, y, q, rfl, rfl⟩ := px_ii_ok h; exact lv_ishr hx hb hd (kk _ hl)
  · cases (hn rfl); obtain ⟨x, y, q, rfl, rfl⟩ := px_ii_ok h; exact lv_iushr hx hb hd rfl (kk _ hl)
  · cases (hn rfl); obtain ⟨x, y, q, rfl, h1, rfl⟩ := px_iq_ok h; exact lv_idiv hx hb hd h1 (kk _ hl)
  · cases (hn rfl); obtain ⟨x, y, q, rfl, h1, rfl⟩ := px_iq_ok h; exact lv_irem hx hb hd h1 (kk _ hl)
  · cases (hn rfl); obtain ⟨x, q, rfl, rfl⟩ := px_i1_ok h; exact lv_ineg hx hb hd (kk _ hl)
  · cases (hn rfl); obtain ⟨x, q, rfl, rfl⟩ := px_i1_ok h; exact lv_i2b hx hb hd rfl (kk _ hl)
  · cases (hn rfl); obtain ⟨x, q, rfl, rfl⟩ := px_i1_ok h; exact lv_i2c hx hb hd rfl (kk _ hl)
  · cases (hn rfl); obtain ⟨x, y, q, rfl, rfl⟩ := px_ll_ok h; exact lv_ladd hx hb hd (kk _ hl)
  · cases (hn rfl); obtain ⟨x, y, q, rfl, rfl⟩ := px_ll_ok h; exact lv_lsub hx hb hd (kk _ hl)
  · cases (hn rfl); obtain ⟨x, y, q, rfl, rfl⟩ := px_ll_ok h; exact lv_lmul hx hb hd (kk _ hl)
  · cases (hn rfl); obtain ⟨x, y, q, rfl, rfl⟩ := px_ll_ok h; exact lv_land hx hb hd (kk _ hl)
  · cases (hn rfl); obtain ⟨x, y, q, rfl, rfl⟩ := px_ll_ok h; exact lv_lor hx hb hd (kk _ hl)
  · cases (hn rfl); obtain ⟨x, y, q, rfl, rfl⟩ := px_ll_ok h; exact lv_lxor hx hb hd (kk _ hl)
  · cases (hn rfl); obtain ⟨x, y, q, rfl, h1, rfl⟩ := px_lq_ok h; exact lv_ldiv hx hb hd h1 (kk _ hl)
  · cases (hn rfl); obtain ⟨x, y, q, rfl, h1, rfl⟩ := px_lq_ok h; exact lv_lrem hx hb hd h1 (kk _ hl)
  · cases (hn rfl)
    unfold px_lneg at h
    split at h
    · cases h; exact lv_lneg hx hb hd (kk _ hl)
    · cases h
  · cases (hn rfl); obtain ⟨x, y, q, rfl, rfl⟩ := px_li_ok h; exact lv_lshl hx hb hd rfl (kk _ hl)
  · cases (hn rfl); obtain ⟨x, y, q, rfl, rfl⟩ := px_li_ok h; exact lv_lshr hx hb hd rfl (kk _ hl)
  · cases (hn rfl); obtain ⟨x, y, q, rfl, rfl⟩ := px_li_ok h; exact lv_lushr hx hb hd rfl (kk _ hl)
  · cases (hn rfl)
    unfold px_i2l at h
    split at h
    · cases h; exact lv_i2l hx hb hd rfl (kk _ hl)
    · cases h
  · cases (hn rfl)
    unfold px_l2i at h
    split at h
    · cases h; exact lv_l2i hx hb hd rfl (kk _ hl)
    · cases h
  · cases (hn rfl)
    unfold px_cmpL at h
    split at h
    · cases h; exact W.lcmp hx hb hd (kk _ hl)
    · cases h
  · cases (hn rfl)
    unfold px_dup at h
    split at h
    · split at h
      · rename_i hc
        cases h; exact lv_dup hx hb hd (by rw [px_rv_cat]; exact hc) (kk _ hl)
      · cases h
    · cases h
  · cases (hn rfl)
    unfold px_pop at h
    split at h
    · split at h
      · rename_i hc
        cases h; exact lv_pop hx hb hd (by rw [px_rv_cat]; exact hc) (kk _ hl)
      · cases h
    · cases h
  · cases (hn rfl)
    unfold px_dup2 at h
    split at h
    · split at h
      · rename_i hc
        cases h; exact lv_dup2_11 hx hb hd (by rw [px_rv_cat]; exact hc.1) (by rw [px_rv_cat]; exact hc.2) (kk _ hl)
      · cases h
    · cases h
  · cases (hn rfl); obtain ⟨t, h1, rfl⟩ := px_jump_ok h; exact lv_goto hx hb hd h1 (kk _ hl)
  · cases (hn rfl); obtain ⟨x, q, t, rfl, h1, rfl⟩ := px_if_ok h; exact lv_if_eq hx hb hd h1 (fun hc => by simpa [hc] using kk _ hl) (fun hc => by simpa [hc] using kk _ hl)
  · cases (hn rfl); obtain ⟨x, q, t, rfl, h1, rfl⟩ := px_if_ok h; exact lv_if_ne hx hb hd h1 (fun hc => by simpa [hc] using kk _ hl) (fun hc => by simpa [hc] using kk _ hl)
  · cases (hn rfl); obtain ⟨x, q, t, rfl, h1, rfl⟩ := px_if_ok h; exact lv_if_lt hx hb hd h1 (fun hc => by simpa [hc] using kk _ hl) (fun hc => by simpa [hc] using kk _ hl)
  · cases (hn rfl); obtain ⟨x, q, t, rfl, h1, rfl⟩ := px_if_ok h; exact lv_if_ge hx hb hd h1 (fun hc => by simpa [hc] using kk _ hl) (fun hc => by simpa [hc] using kk _ hl)
  · cases (hn rfl); obtain ⟨x, q, t, rfl, h1, rfl⟩ := px_if_ok h; exact lv_if_gt hx hb hd h1 (fun hc => by simpa [hc] using kk _ hl) (fun hc => by simpa [hc] using kk _ hl)
  · cases (hn rfl); obtain ⟨x, q, t, rfl, h1, rfl⟩ := px_if_ok h; exact lv_if_le hx hb hd h1 (fun hc => by simpa [hc] using kk _ hl) (fun hc => by simpa [hc] using kk _ hl)
  · cases (hn rfl); obtain ⟨x, y, q, t, rfl, h1, rfl⟩ := px_ic_ok h; exact lv_icmp_eq hx hb hd h1 (fun hc => by simpa [hc] using kk _ hl) (fun hc => by simpa [hc] using kk _ hl)
  · cases (hn rfl); obtain ⟨x, y, q, t, rfl, h1, rfl⟩ := px_ic_ok h; exact lv_icmp_ne hx hb hd h1 (fun hc => by simpa [hc] using kk _ hl) (fun hc => by simpa [hc] using kk _ hl)
  · cases (hn rfl); obtain ⟨x, y, q, t, rfl, h1, rfl⟩ := px_ic_ok h; exact lv_icmp_lt hx hb hd h1 (fun hc => by simpa [hc] using kk _ hl) (fun hc => by simpa [hc] using kk _ hl)
  · cases (hn rfl); obtain ⟨x, y, q, t, rfl, h1, rfl⟩ := px_ic_ok h; exact lv_icmp_ge hx hb hd h1 (fun hc => by simpa [hc] using kk _ hl) (fun hc => by simpa [hc] using kk _ hl)
  · cases (hn rfl); obtain ⟨x, y, q, t, rfl, h1, rfl⟩ := px_ic_ok h; exact lv_icmp_gt hx hb hd h1 (fun hc => by simpa [hc] using kk _ hl) (fun hc => by simpa [hc] using kk _ hl)
  · cases (hn rfl); obtain ⟨x, y, q, t, rfl, h1, rfl⟩ := px_ic_ok h; exact lv_icmp_le hx hb hd h1 (fun hc => by simpa [hc] using kk _ hl) (fun hc => by simpa [hc] using kk _ hl)
  · unfold px_tsw at h
    split at h
    · split at h
      · rename_i ho
        obtain ⟨t, h1, rfl⟩ := px_jump_ok h
        exact lv_tableOut hx hb hd ho h1 (kk _ hl)
      · rename_i ho
        split at h
        · rename_i off hof
          obtain ⟨t, h1, rfl⟩ := px_jump_ok h
          exact lv_tableIn hx hb hd (fun z => ho (Or.inl z)) (fun z => ho (Or.inr z)) hof h1 (kk _ hl)
        · cases h
    · cases h
  · unfold px_lsw at h
    split at h
    · split at h
      · rename_i ho
        obtain ⟨t, h1, rfl⟩ := px_jump_ok h
        exact lv_lookup hx hb hd ho rfl h1 (kk _ hl)
      · cases h
    · cases h
  · cases h
end PXF

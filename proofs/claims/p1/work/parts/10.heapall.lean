/-! ===== one instruction that sees the heap ===== -/
theorem px_mono {p : Program} {l : Launch} {e : Env} {R : Room} {s : State} {m : MethodId} {args : Array Value} {below : List Frame} {meth : Method} {c : Code} {H : Heap} {locs : List Loc} {cells slots : Nat} {Q Q' : State → Prop} {g : JFrame}
    (h : ∀ t, Q t → Q' t) (k : W p l e R s m args below meth c H locs cells slots Q g) : W p l e R s m args below meth c H locs cells slots Q' g := by
  intro T hT X
  obtain ⟨t, a, b⟩ := k T hT X
  exact ⟨t, a, h t b⟩
section PXL
variable {p : Program} {l : Launch} {e : Env} {R : Room} {s : State} {m : MethodId} {args : Array Value} {below : List Frame} {meth : Method} {c : Code} {H : Heap} {locs : List Loc} {cells slots : Nat} {Q : State → Prop}
variable {pc : Nat} {ls : Array Slot} {base : Nat} {ext : UInt32 → Nat} {tA : Nat → ClassId} {D : va_G} {cl : List vw_C} {fty : Nat → Nat → FieldType} {TB : List Cond} {H0 : Heap} {V : px_V} {M : px_M} {lv : px_L} {st : List Value} {G : px_G} {r : px_S × px_G} {n0 s0 : Nat}
theorem px_heap_ok (C : px_C TB M p s m args meth c) (hcl : px_clo cl fty TB) (hw : ∀ idx x, px_mx M idx = some x → px_wd cl TB (px_my M).cls idx x) (hX : px_Xt ext V H0 s) (hK : va_K D cl (px_tys tA) s) (hI : px_I base ext tA D cl H0 G H locs) (hN : px_N base n0 s0 G s cells slots) (hls : ls.size = c.maxLocals) (hR : 1 ≤ R.frames ∧ 25 ≤ R.locals)
    {i : Instr} {n : Nat} (hd : decode (px_mb M) pc = .ok (i, n)) (hn : px_sw i = false → n = px_len i) (h : px_heap cl fty V M i pc lv st G = some r) (hRc : r.2.1.length ≤ R.cells + n0) (hRs : r.2.2 ≤ R.slots + s0)
    (kk : ∀ (H1 : Heap) (locs1 : List Loc) (cells1 slots1 : Nat), r.1.2.1 = lv → px_I base ext tA D cl H0 r.2 H1 locs1 → px_N base n0 s0 r.2 s cells1 slots1 → W p l e R s m args below meth c H1 locs1 cells1 slots1 Q (F0 m r.1.1 ls (r.1.2.2.map (px_rv base ext)))) : W p l e R s m args below meth c H locs cells slots Q (F0 m pc ls (st.map (px_rv base ext))) := by
  have same : ∀ (h1 : r.1.2.1 = lv) (h2 : r.2 = G), W p l e R s m args below meth c H locs cells slots Q (F0 m r.1.1 ls (r.1.2.2.map (px_rv base ext))) := fun h1 h2 => kk H locs cells slots h1 (by rw [h2]; exact hI) (by rw [h2]; exact hN)
  unfold px_heap at h
  split at h
  · cases (hn rfl); exact px_get_ok C hX hcl hw hK hI hd h same
  · cases (hn rfl); exact px_put_ok C hcl hw hK hI hN hd h (fun H1 locs1 => kk H1 locs1 cells slots)
  · cases (hn rfl); exact px_ldi_ok C hX hK hI hd h same
  · cases (hn rfl); exact px_ldl_ok C hK hI hd h same
  · cases (hn rfl); exact px_ldb_ok C hX hK hI hd h same
  · cases (hn rfl); exact px_lda_ok C hK hI hd h same
  · cases (hn rfl); exact px_sti_ok C hK hI hN hd h (fun H1 locs1 => kk H1 locs1 cells slots)
  · cases (hn rfl); exact px_stl_ok C hK hI hN hd h (fun H1 locs1 => kk H1 locs1 cells slots)
  · cases (hn rfl); exact px_stb_ok C hK hI hN hd h (fun H1 locs1 => kk H1 locs1 cells slots)
  · cases (hn rfl); exact px_sta_ok C hK hI hN hd h (fun H1 locs1 => kk H1 locs1 cells slots)
  · cases (hn rfl); exact px_aln_ok C hX hK hI hd h same
  · cases (hn rfl); exact px_nwa_ok C hcl hK hI hN hd h hRc hRs (fun H1 cells1 slots1 => kk H1 locs cells1 slots1)
  · cases (hn rfl); exact px_nwr_ok C hw hK hI hN hd h hRc hRs (fun H1 cells1 slots1 => kk H1 locs cells1 slots1)
  · cases (hn rfl); exact px_new_ok C hcl hw hK hI hN hd h hRc hRs (fun H1 cells1 slots1 => kk H1 locs cells1 slots1)
  · cases (hn rfl); exact px_cst_ok C hX hw (Or.inl ⟨rfl, hd⟩) h same
  · cases (hn rfl); exact px_cst_ok C hX hw (Or.inr ⟨rfl, hd⟩) h same
  · cases (hn rfl); exact px_csl_ok C hw hd h same
  · cases (hn rfl); exact px_obj_ok C hw hls ⟨hR.1, by omega⟩ hd h same
  · cases (hn rfl); exact px_ldc_ok C hX hI hd h same
  · cases (hn rfl)
    have hle : px_le G r.2 := px_heap_le (cl := cl) (fty := fty) (V := V) (M := M) (i := .invokestatic _) h
    obtain ⟨e1, e2, e3⟩ := hN
    have := hle.1
    have := hle.2
    exact px_mm_ok C hw hls hR (by omega) (by omega) hd h same
  · cases (hn rfl); exact px_gst_ok C hX hw hI hd h same
  · cases h
end PXL
def px_o (base : Nat) (ext : UInt32 → Nat) : px_Out → Outcome
  | .inl v => .returned (v.map (px_rv base ext))
  | .inr x => .threw (base + x)
/-- how a method that began with n0 cells of s0 slots ends -/
def px_Qn (base : Nat) (ext : UInt32 → Nat) (tA : Nat → ClassId) (D : va_G) (cl : List vw_C) (H0 : Heap) (below : List Frame) (s : State) (out : px_Out) (G' : px_G) (n0 s0 : Nat) : State → Prop := fun t =>
  t.status = .running ∧ Ended t below (px_o base ext out) ∧ (∃ L, px_End s t L (G'.1.length - n0) (G'.2 - s0) ∧ ∀ q ∈ L, base ≤ q.base) ∧ px_I base ext tA D cl H0 G' t.heap []
section PXR
variable {p : Program} {l : Launch} {e : Env} {R : Room} {s : State} {m : MethodId} {args : Array Value} {below : List Frame} {meth : Method} {c : Code} {H : Heap} {locs : List Loc} {cells slots : Nat}
variable {pc : Nat} {ls : Array Slot} {base : Nat} {ext : UInt32 → Nat} {tA : Nat → ClassId} {D : va_G} {cl : List vw_C} {TB : List Cond} {H0 : Heap} {M : px_M} {st : List Value} {G : px_G} {n0 s0 : Nat}
theorem px_I.bare (hI : px_I base ext tA D cl H0 G H locs) : px_I base ext tA D cl H0 G H [] := ⟨hI.1, hI.2.1, hI.2.2.1, hI.2.2.2.1, fun _ h => by cases h⟩
theorem px_I.dress (hI : px_I base ext tA D cl H0 G H []) (hL : ∀ q ∈ locs, base ≤ q.base) : px_I base ext tA D cl H0 G H locs := ⟨hI.1, hI.2.1, hI.2.2.1, hI.2.2.2.1, hL⟩
theorem px_nar_ok {ty : FieldType} {v : Int32} (h : px_nar ty v = true) : narrow ty (.int v) = .int v := by
  cases ty <;> simp [px_nar] at h <;> first | rfl | skip
  · subst h; rfl
  · obtain ⟨k, hk, rfl⟩ : ∃ k : Nat, k < 65536 ∧ v = nI k := by
      obtain ⟨j, hj, rfl⟩ := nI_of (x := v) (by have := Int32.not_lt.mpr h.1; exact this)
      refine ⟨j, ?_, rfl⟩
      have h2 : nI j ≤ nI 65535 := h.2
      have := (nI_leI hj (by decide)).mp h2
      omega
    exact (pk_charN hk).1
  · rcases h with rfl | rfl <;> rfl
/-- an answer -/
theorem px_ret_ok (C : px_C TB M p s m args meth c) (hI : px_I base ext tA D cl H0 G H locs) (hN : px_N base n0 s0 G s cells slots) {i : Instr} {n : Nat} (hd : decode (px_mb M) pc = .ok (i, n)) (hn : px_sw i = false → n = px_len i) {v : Option Value} (h : px_ret M i st = some v) :
    W p l e R s m args below meth c H locs cells slots (px_Qn base ext tA D cl H0 below s (.inl v) G n0 s0) (F0 m pc ls (st.map (px_rv base ext))) := by
  obtain ⟨hx, hb, hr, -, -, -, hlk, -, -⟩ := C
  obtain ⟨e1, e2, e3⟩ := hN
  have fin : ∀ t, MQ below (fun _ _ o t => o = px_o base ext (.inl v) ∧ px_I base ext tA D cl H0 G t.heap []) args s cells slots (fun q => base ≤ q) t → px_Qn base ext tA D cl H0 below s (.inl v) G n0 s0 t := by
    rintro t ⟨o, q1, q2, ⟨rfl, q3⟩, L, ⟨-, q4, q5⟩, q6⟩
    refine ⟨q1, q2, ⟨L, ⟨q4, ?_⟩, q6⟩, q3⟩
    rw [show G.1.length - n0 = cells by omega, show G.2 - s0 = slots by omega]
    exact q5
  have hq : ∀ t : State, t.heap = H → px_I base ext tA D cl H0 G t.heap [] := fun t ht => by rw [ht]; exact hI.bare
  unfold px_ret at h
  split at h
  · cases (hn rfl)
    split at h
    · rename_i hm
      cases h
      exact px_mono fin (W.vret hx hb (hr.trans hm) (fun t ht _ => ⟨rfl, hq t ht⟩) hI.2.2.2.2 hd)
    · cases h
  · cases (hn rfl)
    split at h
    · rename_i w ty hm
      split at h
      · rename_i hty
        cases h
        exact px_mono fin (W.zret hx hb (hr.trans hm) (px_nar_ok hty) (fun t ht _ => ⟨rfl, hq t ht⟩) hI.2.2.2.2 hd)
      · cases h
    · cases h
  · cases (hn rfl)
    split at h
    · rename_i w hm
      cases h
      exact px_mono fin (W.lret hx hb (hr.trans hm) (fun t ht _ => ⟨rfl, hq t ht⟩) hI.2.2.2.2 hd)
    · cases h
  · cases (hn rfl)
    split at h
    · rename_i w
      split at h
      · rename_i hw
        cases h
        obtain ⟨a, ha⟩ := px_rv_isr (base := base) (ext := ext) hw.1
        have hrt : ∃ rt, px_mr M = some rt ∧ ((∃ n, rt = .object n) ∨ ∃ t, rt = .array t) := by
          have h2 := hw.2
          unfold px_ref at h2
          split at h2
          · rename_i nm hm
            exact ⟨_, hm, Or.inl ⟨_, rfl⟩⟩
          · rename_i nm hm
            exact ⟨_, hm, Or.inr ⟨_, rfl⟩⟩
          · cases h2
        obtain ⟨rt, h3, h4⟩ := hrt
        exact px_mono fin (W.aret (v := px_rv base ext w) hx hb (hr.trans h3) h4 (Or.inr ⟨a, ha⟩) (fun t ht _ => ⟨rfl, hq t ht⟩) hI.2.2.2.2 hd)
      · cases h
    · cases h
  · cases h
end PXR

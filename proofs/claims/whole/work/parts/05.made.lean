/-! ===== new cells, constants, the first constructor ===== -/
section PXA
variable {p : Program} {l : Launch} {e : Env} {R : Room} {s : State} {m : MethodId} {args : Array Value} {below : List Frame} {meth : Method} {c : Code} {H : Heap} {locs : List Loc} {cells slots : Nat} {Q : State → Prop}
variable {pc : Nat} {ls : Array Slot} {base : Nat} {ext : UInt32 → Nat} {tA : Nat → ClassId} {D : va_G} {cl : List vw_C} {fty : Nat → Nat → FieldType} {TB : List Cond} {H0 : Heap} {V : px_V} {M : px_M} {lv : px_L} {st : List Value} {G : px_G} {r : px_S × px_G} {n0 s0 : Nat}
/-- a new cell behind the others -/
theorem px_I_push (hI : px_I base ext tA D cl H0 G H locs) (hz : H.size = base + G.1.length) (y : px_E) (w : Nat) {H1 : Heap} (o1 : ∀ q : Nat, q < H.size → H1[q]? = H[q]?) (z1 : H1.size = H.size + 1) (hy : va_at D cl (base + G.1.length, px_ce base ext tA y) H1) : px_I base ext tA D cl H0 (G.1 ++ [y], w) H1 locs := by
  obtain ⟨h1, h2, h3⟩ := hI
  refine ⟨h1, ?_, Nat.le_trans h3.1 (by omega), fun q q1 q2 => (o1 q (Nat.lt_of_lt_of_le q1 h3.1)).trans (h3.2.1 q q1 q2), h3.2.2⟩
  show va_P D cl (px_ws base ext tA (G.1 ++ [y])) H1
  rw [← px_ws_push]
  refine va_P.app (h2.kept (fun k x hx => o1 x.1 ((h2 k x hx).lt))) (fun k x hx => ?_)
  have hk : k < 1 := (List.getElem?_eq_some_iff.mp hx).1
  rw [show k = 0 by omega] at hx
  cases hx
  exact hy
theorem px_nwa_ok (C : px_C TB M p s m args meth c) (hcl : px_clo cl fty TB) (hK : va_K D cl (px_tys tA) s) (hI : px_I base ext tA D cl H0 G H locs) (hN : px_N base n0 s0 G s cells slots)
    {ty : ArrayType} (hd : decode (px_mb M) pc = .ok (.newarray ty, 2)) (h : px_nwa pc lv st G ty = some r) (hRc : r.2.1.length ≤ R.cells + n0) (hRs : r.2.2 ≤ R.slots + s0)
    (kk : ∀ (H1 : Heap) (cells1 slots1 : Nat), r.1.2.1 = lv → px_I base ext tA D cl H0 r.2 H1 locs → px_N base n0 s0 r.2 s cells1 slots1 → W p l e R s m args below meth c H1 locs cells1 slots1 Q (F0 m r.1.1 ls (r.1.2.2.map (px_rv base ext)))) : W p l e R s m args below meth c H locs cells slots Q (F0 m pc ls (st.map (px_rv base ext))) := by
  obtain ⟨hx, hb, -, -, hown, hts, -, -, -⟩ := C
  unfold px_nwa at h
  split at h
  · rename_i q n rr hq
    split at h
    · cases h
    · rename_i hn
      cases h
      have hn0 : ¬ n < 0 := fun z => hn (Or.inl z)
      have hn1 : ¬ 60000000 < n.toNatClampNeg := fun z => hn (Or.inr z)
      obtain ⟨e1, e2, e3⟩ := hN
      simp only [List.length_append, List.length_cons, List.length_nil] at hRc
      have key : ∀ (t : Nat) (a0 : px_A) (F : FieldType), newarray.typeOf ty = F → t < 4 → px_ty t = F → (∀ cA : ClassId, vp_cell cA (px_ra base a0) = arrV cA n.toNatClampNeg (fun _ => defaultValue F)) → Cond.arrayClass F ∈ TB → componentBytes F ≤ 8 → (∀ cA : ClassId, va_RA s cA F → s.vm.findClass ("[" ++ F.toString) = some cA) → q = (t, q.2) → q.2 n.toNatClampNeg = a0 → W p l e R s m args below meth c H locs cells slots Q (F0 m pc ls ((Value.int n :: rr).map (px_rv base ext))) := by
        intro t a0 F hF ht htF ha hw hcb hfind hqt hqa T hT X
        have hz := px_size X hT hI ⟨e1, e2, e3⟩
        subst hF
        refine va_newaK (g := F0 m pc ls (.int n :: rr.map (px_rv base ext))) hx hb (hts _ hw) rfl hd rfl hn0 rfl ?_ (by omega) (by have : G.2 + n.toNatClampNeg ≤ R.slots + s0 := hRs; omega) hz (fun H1 cA g1 g2 g3 g4 g5 => ?_) T hT X
        · have : n.toNatClampNeg * componentBytes (newarray.typeOf ty) ≤ 60000000 * 8 := Nat.mul_le_mul (by omega) hcb
          omega
        · have hAt := hK.2 t _ (px_tys_at tA (by omega))
          rw [htF] at hAt
          have hcA : cA = tA t := Option.some.inj (g5.symm.trans (hfind _ hAt.2))
          subst hcA
          refine kk H1 _ _ rfl ?_ ?_
          · rw [hqt]
            refine px_I_push hI hz (.inl (t, q.2 n.toNatClampNeg)) _ (fun x hx1 => g3 x (by omega)) (by omega) ?_
            show H1[base + G.1.length]? = some (vp_cell (tA t) (px_ra base (q.2 n.toNatClampNeg)))
            rw [hqa, ha]
            exact g1
          · refine ⟨e1, ?_, ?_⟩
            · show cells + 1 + n0 = (G.1 ++ [_]).length
              simp only [List.length_append, List.length_cons, List.length_nil]
              omega
            · show slots + n.toNatClampNeg + s0 = G.2 + n.toNatClampNeg
              omega
      cases ty <;> simp only [px_at, Option.some.injEq, reduceCtorEq] at hq <;> subst hq
      all_goals first
        | exact key 0 (n.toNatClampNeg, .inl []) .int rfl (by decide) rfl (fun _ => rfl) hcl.2.1 (by decide) (fun _ z => z) rfl rfl
        | exact key 1 (n.toNatClampNeg, .inr (.inl [])) .long rfl (by decide) rfl (fun _ => rfl) hcl.2.2.1 (by decide) (fun _ z => z) rfl rfl
        | exact key 2 (n.toNatClampNeg, .inl []) .byte rfl (by decide) rfl (fun _ => rfl) hcl.2.2.2.1 (by decide) (fun _ z => z) rfl rfl
        | exact key 3 (n.toNatClampNeg, .inl []) .boolean rfl (by decide) rfl (fun _ => rfl) hcl.2.2.2.2 (by decide) (fun _ z => z) rfl rfl
  · cases h
theorem px_nwr_ok (C : px_C TB M p s m args meth c) (hw : ∀ idx x, px_mx M idx = some x → px_wd cl TB (px_my M).cls idx x) (hK : va_K D cl (px_tys tA) s) (hI : px_I base ext tA D cl H0 G H locs) (hN : px_N base n0 s0 G s cells slots)
    {idx : Nat} (hd : decode (px_mb M) pc = .ok (.anewarray idx, 3)) (h : px_nwr M pc lv st G idx = some r) (hRc : r.2.1.length ≤ R.cells + n0) (hRs : r.2.2 ≤ R.slots + s0)
    (kk : ∀ (H1 : Heap) (cells1 slots1 : Nat), r.1.2.1 = lv → px_I base ext tA D cl H0 r.2 H1 locs → px_N base n0 s0 r.2 s cells1 slots1 → W p l e R s m args below meth c H1 locs cells1 slots1 Q (F0 m r.1.1 ls (r.1.2.2.map (px_rv base ext)))) : W p l e R s m args below meth c H locs cells slots Q (F0 m pc ls (st.map (px_rv base ext))) := by
  obtain ⟨hx, hb, -, -, hown, hts, -, -, -⟩ := C
  unfold px_nwr at h
  split at h
  · rename_i z1 t z2 n rr hm
    split at h
    · cases h
    · rename_i hn
      cases h
      have hn0 : ¬ n < 0 := fun z => hn (Or.inr (Or.inl z))
      have hn1 : ¬ 60000000 < n.toNatClampNeg := fun z => hn (Or.inr (Or.inr z))
      obtain ⟨e1, e2, e3⟩ := hN
      simp only [List.length_append, List.length_cons, List.length_nil] at hRc
      obtain ⟨ht, C0, hC0, w1, w2⟩ := (hw _ _ hm).2 (fun z => hn (Or.inl z))
      intro T hT X
      have hz := px_size X hT hI ⟨e1, e2, e3⟩
      refine W.anew (g := F0 m pc ls (.int n :: rr.map (px_rv base ext))) hx hb hown (hts _ w1) (hts _ w2) rfl hd rfl hn0 (by omega) (by omega) (by have : G.2 + n.toNatClampNeg ≤ R.slots + s0 := hRs; omega) (fun cA kA comp f1 f2 f3 f4 => ?_) T hT X
      generalize hH1 : H.push ({ cls := cA, slots := Array.replicate n.toNatClampNeg .null, vm := .none } : Cell) = H1
      have y1 : H1.size = H.size + 1 := by rw [← hH1, Array.size_push]
      have y2 : H1[H.size]? = some (arrV cA n.toNatClampNeg (fun _ => .null)) := by rw [← hH1, Array.getElem?_push_size, ← arrV_new]
      have y3 : ∀ q : Nat, q < H.size → H1[q]? = H[q]? := fun q hq => by rw [← hH1, Array.getElem?_push, if_neg (Nat.ne_of_lt hq)]
      have hAt := hK.2 t _ (px_tys_at tA (by rcases ht with rfl | rfl <;> decide))
      rw [hC0] at hAt
      obtain ⟨-, kA', comp', -, -, -, k4⟩ := hAt
      have hcA : cA = tA t := Option.some.inj (f1.symm.trans k4)
      subst hcA
      have hst : (Value.ref H.size :: rr.map (px_rv base ext)) = ((Value.ref G.1.length :: rr).map (px_rv base ext)) := by rw [hz]; rfl
      show W p l e R s m args below meth c H1 locs (cells + 1) (slots + n.toNatClampNeg) Q (F0 m (pc + 3) ls (Value.ref H.size :: rr.map (px_rv base ext)))
      rw [hst]
      refine kk H1 _ _ rfl ?_ ?_
      · refine px_I_push hI hz (.inl (t, n.toNatClampNeg, .inr (.inr []))) _ y3 y1 ?_
        show H1[base + G.1.length]? = some (vp_cell (tA t) _)
        rw [← hz, y2]
        rfl
      · refine ⟨e1, ?_, ?_⟩
        · show cells + 1 + n0 = (G.1 ++ [_]).length
          simp only [List.length_append, List.length_cons, List.length_nil]
          omega
        · show slots + n.toNatClampNeg + s0 = G.2 + n.toNatClampNeg
          omega
  · cases h
theorem px_new_ok (C : px_C TB M p s m args meth c) (hcl : px_clo cl fty TB) (hw : ∀ idx x, px_mx M idx = some x → px_wd cl TB (px_my M).cls idx x) (hK : va_K D cl (px_tys tA) s) (hI : px_I base ext tA D cl H0 G H locs) (hN : px_N base n0 s0 G s cells slots)
    {idx : Nat} (hd : decode (px_mb M) pc = .ok (.new idx, 3)) (h : px_new cl fty M pc lv st G idx = some r) (hRc : r.2.1.length ≤ R.cells + n0) (hRs : r.2.2 ≤ R.slots + s0)
    (kk : ∀ (H1 : Heap) (cells1 slots1 : Nat), r.1.2.1 = lv → px_I base ext tA D cl H0 r.2 H1 locs → px_N base n0 s0 r.2 s cells1 slots1 → W p l e R s m args below meth c H1 locs cells1 slots1 Q (F0 m r.1.1 ls (r.1.2.2.map (px_rv base ext)))) : W p l e R s m args below meth c H locs cells slots Q (F0 m pc ls (st.map (px_rv base ext))) := by
  obtain ⟨hx, hb, -, -, hown, hts, -, -, -⟩ := C
  unfold px_new at h
  split at h
  · rename_i ci z1 z2 hm
    split at h
    · rename_i w hc
      cases h
      obtain ⟨e1, e2, e3⟩ := hN
      simp only [List.length_append, List.length_cons, List.length_nil] at hRc
      obtain ⟨w1, w2, w3⟩ := (hw _ _ hm).1 w hc
      obtain ⟨g1, g2, -, g4⟩ := hcl.1 _ _ hc
      have hKn := hK.1 ci _ hc
      intro T hT X
      have hz := px_size X hT hI ⟨e1, e2, e3⟩
      refine W.newcK (g := F0 m pc ls (st.map (px_rv base ext))) hx hb hown (hts _ w1) (hts _ w2) (hts _ w3) rfl hd (by omega) (by have : G.2 + w.2.2 ≤ R.slots + s0 := hRs; omega) hKn.2.1 hz (fun H1 kC y0 y1 y2 y3 => ?_) T hT X
      refine kk H1 _ _ rfl ?_ ?_
      · refine px_I_push hI hz (.inr (ci, (List.range w.2.2).map (fun k => px_dv (fty ci k)))) _ (fun x hx1 => y3 x (by omega)) (by omega) ?_
        refine ⟨_, hc, (u_born (fty ci) hts g1 hKn y0 y1 g2).to (fun k hk => ?_)⟩
        rw [g4 k hk]
        simp only [vp_V, List.getD_eq_getElem?_getD, List.getElem?_map, List.getElem?_range hk, Option.map_some, Option.getD_some]
        exact (px_dv_rv base ext _).symm
      · refine ⟨e1, ?_, ?_⟩
        · show cells + 1 + n0 = (G.1 ++ [_]).length
          simp only [List.length_append, List.length_cons, List.length_nil]
          omega
        · show slots + w.2.2 + s0 = G.2 + w.2.2
          omega
    · cases h
  · cases h
theorem px_cst_ok (C : px_C TB M p s m args meth c) (hX : px_Xt ext V H0 s) (hw : ∀ idx x, px_mx M idx = some x → px_wd cl TB (px_my M).cls idx x) {n idx : Nat}
    (hd : (n = 2 ∧ decode (px_mb M) pc = .ok (.ldc idx, 2)) ∨ (n = 3 ∧ decode (px_mb M) pc = .ok (.ldc_w idx, 3))) (h : px_cst V n M pc lv st G idx = some r)
    (kk : r.1.2.1 = lv → r.2 = G → W p l e R s m args below meth c H locs cells slots Q (F0 m r.1.1 ls (r.1.2.2.map (px_rv base ext)))) : W p l e R s m args below meth c H locs cells slots Q (F0 m pc ls (st.map (px_rv base ext))) := by
  obtain ⟨hx, hb, -, -, hown, hts, -, -, -⟩ := C
  unfold px_cst at h
  split at h
  · rename_i z1 z2 v hm
    cases h
    rcases hd with ⟨rfl, hd⟩ | ⟨rfl, hd⟩
    · exact lv_ldc hx hb hown (hts _ (hw _ _ hm)) hd (kk rfl rfl)
    · exact lv_ldcw hx hb hown (hts _ (hw _ _ hm)) hd (kk rfl rfl)
  · rename_i z1 z2 hm
    split at h
    · rename_i q hf
      split at h
      · rename_i hn2
        cases h
        have hmem := List.mem_of_find?_eq_some hf
        have hq := List.find?_some hf
        simp only [Bool.and_eq_true, beq_iff_eq] at hq
        have hR := hX.2.2.2.2.2.2.2 q hmem
        rw [hq.1, hq.2] at hR
        rcases hd with ⟨rfl, hd⟩ | ⟨rfl, hd⟩
        · exact va_ldcS hx hb hown hR hd (kk rfl rfl)
        · cases hn2
      · cases h
    · cases h
  · cases h
theorem px_csl_ok (C : px_C TB M p s m args meth c) (hw : ∀ idx x, px_mx M idx = some x → px_wd cl TB (px_my M).cls idx x) {idx : Nat}
    (hd : decode (px_mb M) pc = .ok (.ldc2_w idx, 3)) (h : px_csl M pc lv st G idx = some r)
    (kk : r.1.2.1 = lv → r.2 = G → W p l e R s m args below meth c H locs cells slots Q (F0 m r.1.1 ls (r.1.2.2.map (px_rv base ext)))) : W p l e R s m args below meth c H locs cells slots Q (F0 m pc ls (st.map (px_rv base ext))) := by
  obtain ⟨hx, hb, -, -, hown, hts, -, -, -⟩ := C
  unfold px_csl at h
  split at h
  · rename_i z1 z2 v hm
    cases h
    exact lv_ldc2 hx hb hown (hts _ (hw _ _ hm)) hd (kk rfl rfl)
  · cases h
theorem px_cats (base : Nat) (ext : UInt32 → Nat) (st : List Value) : ((st.map (px_rv base ext)).map fun v => v.category).sum = (st.map fun v => v.category).sum := by
  rw [List.map_map]
  congr 1
  exact List.map_congr_left (fun v _ => px_rv_cat base ext v)
theorem px_obj_ok (C : px_C TB M p s m args meth c) (hw : ∀ idx x, px_mx M idx = some x → px_wd cl TB (px_my M).cls idx x) (hls : ls.size = c.maxLocals) (hR : 1 ≤ R.frames ∧ 20 ≤ R.locals) {idx : Nat}
    (hd : decode (px_mb M) pc = .ok (.invokespecial idx, 3)) (h : px_obj M pc lv st G idx = some r)
    (kk : r.1.2.1 = lv → r.2 = G → W p l e R s m args below meth c H locs cells slots Q (F0 m r.1.1 ls (r.1.2.2.map (px_rv base ext)))) : W p l e R s m args below meth c H locs cells slots Q (F0 m pc ls (st.map (px_rv base ext))) := by
  obtain ⟨hx, hb, -, -, hown, hts, -, -, -⟩ := C
  unfold px_obj at h
  split at h
  · rename_i z0 z1 z2 a q hm
    split at h
    · rename_i hq
      cases h
      obtain ⟨w1, w2, w3⟩ := hw _ _ hm
      refine W.objInit (g := F0 m pc ls (.ref (base + a) :: q.map (px_rv base ext))) hx hb hown (hts _ w1) (hts _ w2) (hts _ w3) rfl hls rfl hd hR.1 ?_ (kk rfl rfl)
      show 2 * 0 + _ + 12 ≤ _
      rw [px_cats]
      omega
    · cases h
  · cases h
theorem px_mm_ok (C : px_C TB M p s m args meth c) (hw : ∀ idx x, px_mx M idx = some x → px_wd cl TB (px_my M).cls idx x) (hls : ls.size = c.maxLocals) (hR : 1 ≤ R.frames ∧ 25 ≤ R.locals) (hc : cells ≤ R.cells) (hs : slots ≤ R.slots) {idx : Nat}
    (hd : decode (px_mb M) pc = .ok (.invokestatic idx, 3)) (h : px_mm M pc lv st G idx = some r)
    (kk : r.1.2.1 = lv → r.2 = G → W p l e R s m args below meth c H locs cells slots Q (F0 m r.1.1 ls (r.1.2.2.map (px_rv base ext)))) : W p l e R s m args below meth c H locs cells slots Q (F0 m pc ls (st.map (px_rv base ext))) := by
  obtain ⟨hx, hb, -, -, hown, hts, -, -, -⟩ := C
  unfold px_mm at h
  split at h
  · rename_i z0 z1 z2 y x q hm
    split at h
    · rename_i hq
      cases h
      obtain ⟨w1, w2, w3, w4⟩ := hw _ _ hm
      exact va_mmin hx hb hls.symm hown (hts _ w1) (hts _ w2) (hts _ w3) (hts _ w4) hR.1 (by rw [px_cats]; omega) hc hs hd (kk rfl rfl)
    · cases h
  · rename_i z0 z1 z2 y x q hm
    split at h
    · rename_i hq
      cases h
      obtain ⟨w1, w2, w3, w4⟩ := hw _ _ hm
      exact va_mmax hx hb hls.symm hown (hts _ w1) (hts _ w2) (hts _ w3) (hts _ w4) hR.1 (by rw [px_cats]; omega) hc hs hd (kk rfl rfl)
    · cases h
  · cases h
end PXA

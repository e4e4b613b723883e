/-! ===== runs with numbers that aren't known: rules, an instruction or a call each ===== -/
theorem hx_app {h : px_H} {k : Nat} {e x : px_E} (hk : h[k]? = some e) : (h ++ [x])[k]? = some e := by
  rw [List.getElem?_append_left (List.getElem?_eq_some_iff.mp hk).1]
  exact hk
theorem hx_end {h : px_H} {x : px_E} {n : Nat} (hn : h.length = n) : (h ++ [x])[n]? = some x := by
  subst hn
  simp
theorem hx_set {h : px_H} {k j : Nat} {e y : px_E} (hk : h[k]? = some e) (hj : j ≠ k) : (h.set j y)[k]? = some e := by
  rw [List.getElem?_set_ne hj]
  exact hk
theorem hx_self {h : px_H} {k : Nat} {e y : px_E} (hk : h[k]? = some e) : (h.set k y)[k]? = some y := by
  rw [List.getElem?_set_self (List.getElem?_eq_some_iff.mp hk).1]
def px_pn (M : px_M) : Nat → px_S → Option px_S
  | 0, S => some S
  | n + 1, S => match px_mi M S.1 with
    | some i => match px_pure (px_ml M) i S.1 S.2.1 S.2.2 with
      | some S' => px_pn M n S'
      | none => none
    | none => none
section PXY
variable {cl : List vw_C} {fty : Nat → Nat → FieldType} {PM : List px_M} {na : Nat → Nat → Bool} {V : px_V} {d pc : Nat} {M : px_M} {lv : px_L} {r : List Value} {G G' : px_G} {out : px_Out}
theorem ev_n (n : Nat) {S S' : px_S} (h : px_pn M n S = some S') (k : px_ev cl fty PM na V d M S' G out G') : px_ev cl fty PM na V d M S G out G' := by
  induction n generalizing S with
  | zero => cases h; exact k
  | succ n ih =>
    unfold px_pn at h
    split at h
    · rename_i i hi
      split at h
      · rename_i S1 hp
        obtain ⟨pc, lv, st⟩ := S
        exact px_ev.p hi hp (ih h)
      · cases h
    · cases h
theorem px_ifT0 {b : Int32 → Bool} {x : Int32} {off : Int} {t : Nat} (hb : b x = true) (ht : px_to pc off = some t) : px_if b pc lv (.int x :: r) off = some (t, lv, r) := by
  unfold px_if
  simp only [ht, hb]
  rfl
theorem px_ifF0 {b : Int32 → Bool} {x : Int32} {off : Int} {t : Nat} (hb : b x = false) (ht : px_to pc off = some t) : px_if b pc lv (.int x :: r) off = some (pc + 3, lv, r) := by
  unfold px_if
  simp only [ht, hb]
  rfl
theorem px_icT0 {b : Int32 → Int32 → Bool} {x y : Int32} {off : Int} {t : Nat} (hb : b x y = true) (ht : px_to pc off = some t) : px_ic b pc lv (.int y :: .int x :: r) off = some (t, lv, r) := by
  unfold px_ic
  simp only [ht, hb]
  rfl
theorem px_icF0 {b : Int32 → Int32 → Bool} {x y : Int32} {off : Int} {t : Nat} (hb : b x y = false) (ht : px_to pc off = some t) : px_ic b pc lv (.int y :: .int x :: r) off = some (pc + 3, lv, r) := by
  unfold px_ic
  simp only [ht, hb]
  rfl
def px_cb (c : ClassFile.Cond) (x : Int32) : Bool := match c with
  | .eq => decide (x = 0) | .ne => decide (¬ x = 0) | .lt => decide (x < 0) | .ge => decide (0 ≤ x) | .gt => decide (0 < x) | .le => decide (x ≤ 0)
def px_cc (c : ClassFile.Cond) (x y : Int32) : Bool := match c with
  | .eq => decide (x = y) | .ne => decide (¬ x = y) | .lt => decide (x < y) | .ge => decide (y ≤ x) | .gt => decide (y < x) | .le => decide (x ≤ y)
theorem px_ifT {ml : Nat} {c : ClassFile.Cond} {x : Int32} {off : Int} {t : Nat} (hb : px_cb c x = true) (ht : px_to pc off = some t) : px_pure ml (.ifCond c off) pc lv (.int x :: r) = some (t, lv, r) := by
  cases c <;> exact px_ifT0 hb ht
theorem px_ifF {ml : Nat} {c : ClassFile.Cond} {x : Int32} {off : Int} {t : Nat} (hb : px_cb c x = false) (ht : px_to pc off = some t) : px_pure ml (.ifCond c off) pc lv (.int x :: r) = some (pc + 3, lv, r) := by
  cases c <;> exact px_ifF0 hb ht
theorem px_icT {ml : Nat} {c : ClassFile.Cond} {x y : Int32} {off : Int} {t : Nat} (hb : px_cc c x y = true) (ht : px_to pc off = some t) : px_pure ml (.if_icmp c off) pc lv (.int y :: .int x :: r) = some (t, lv, r) := by
  cases c <;> exact px_icT0 hb ht
theorem px_icF {ml : Nat} {c : ClassFile.Cond} {x y : Int32} {off : Int} {t : Nat} (hb : px_cc c x y = false) (ht : px_to pc off = some t) : px_pure ml (.if_icmp c off) pc lv (.int y :: .int x :: r) = some (pc + 3, lv, r) := by
  cases c <;> exact px_icF0 hb ht
theorem ev_get {idx ci k a : Nat} {z : Int64} {fs : List Value} {v : Value} (hi : px_mi M pc = some (.getfield idx)) (hx : px_mx M idx = some (0, ci, k, z)) (hg : G.1[a]? = some (.inr (ci, fs))) (hv : fs[k]? = some v)
    (kk : px_ev cl fty PM na V d M (pc + 3, lv, v :: r) G out G') : px_ev cl fty PM na V d M (pc, lv, .ref a :: r) G out G' := by
  refine px_ev.h hi rfl (S' := (pc + 3, lv, v :: r)) (G1 := G) ?_ kk
  simp only [px_heap, px_get, hx, hg, hv, if_true]
theorem ev_put {idx ci k a : Nat} {z : Int64} {fs : List Value} {v : Value} (hi : px_mi M pc = some (.putfield idx)) (hx : px_mx M idx = some (0, ci, k, z)) (hg : G.1[a]? = some (.inr (ci, fs))) (h1 : Nat.blt k fs.length = true) (h2 : px_fit (fty ci k) v = true) (h3 : px_fin cl ci k M = true)
    (kk : px_ev cl fty PM na V d M (pc + 3, lv, r) (G.1.set a (.inr (ci, fs.set k v)), G.2) out G') : px_ev cl fty PM na V d M (pc, lv, v :: .ref a :: r) G out G' := by
  refine px_ev.h hi rfl (S' := (pc + 3, lv, r)) (G1 := (G.1.set a (.inr (ci, fs.set k v)), G.2)) ?_ kk
  have h1' : k < fs.length := Nat.le_of_ble_eq_true h1
  simp only [px_heap, px_put, hx, hg, h1', h2, h3, and_self, if_true]
theorem ev_lst {a n : Nat} {f : List (Nat × Int64)} {i : Int32} {x : Int64} (hi : px_mi M pc = some .lastore) (hg : G.1[a]? = some (.inl (1, n, .inr (.inl f)))) (hin : ¬ (i < 0 ∨ n ≤ i.toNatClampNeg))
    (kk : px_ev cl fty PM na V d M (pc + 1, lv, r) (G.1.set a (.inl (1, n, .inr (.inl (px_wr f i.toNatClampNeg x)))), G.2) out G') : px_ev cl fty PM na V d M (pc, lv, .long x :: .int i :: .ref a :: r) G out G' := by
  refine px_ev.h hi rfl (S' := (pc + 1, lv, r)) (G1 := (G.1.set a (.inl (1, n, .inr (.inl (px_wr f i.toNatClampNeg x)))), G.2)) ?_ kk
  simp only [px_heap, px_stl, hg, if_neg hin]
theorem ev_lld {a n : Nat} {f : List (Nat × Int64)} {i : Int32} (hi : px_mi M pc = some .laload) (hg : G.1[a]? = some (.inl (1, n, .inr (.inl f)))) (hin : ¬ (i < 0 ∨ n ≤ i.toNatClampNeg)) {v : Int64} (hv : px_gl f i.toNatClampNeg = v)
    (kk : px_ev cl fty PM na V d M (pc + 1, lv, .long v :: r) G out G') : px_ev cl fty PM na V d M (pc, lv, .int i :: .ref a :: r) G out G' := by
  refine px_ev.h hi rfl (S' := (pc + 1, lv, .long v :: r)) (G1 := G) ?_ kk
  simp only [px_heap, px_ldl, hg, if_neg hin, hv]
theorem ev_ist {a n : Nat} {f : List (Nat × Int32)} {i x : Int32} (hi : px_mi M pc = some .iastore) (hg : G.1[a]? = some (.inl (0, n, .inl f))) (hin : ¬ (i < 0 ∨ n ≤ i.toNatClampNeg))
    (kk : px_ev cl fty PM na V d M (pc + 1, lv, r) (G.1.set a (.inl (0, n, .inl (px_wr f i.toNatClampNeg x))), G.2) out G') : px_ev cl fty PM na V d M (pc, lv, .int x :: .int i :: .ref a :: r) G out G' := by
  refine px_ev.h hi rfl (S' := (pc + 1, lv, r)) (G1 := (G.1.set a (.inl (0, n, .inl (px_wr f i.toNatClampNeg x))), G.2)) ?_ kk
  simp only [px_heap, px_sti, hg, if_neg hin]
theorem ev_scr {w : Nat × (Nat → Int32)} {i v : Int32} (hV : V.1 = some w) (hi : px_mi M pc = some .iaload) (hin : ¬ (i < 0 ∨ w.1 ≤ i.toNatClampNeg)) (hv : w.2 i.toNatClampNeg = v)
    (kk : px_ev cl fty PM na V d M (pc + 1, lv, .int v :: r) G out G') : px_ev cl fty PM na V d M (pc, lv, .int i :: .float 0 :: r) G out G' := by
  refine px_ev.h hi rfl (S' := (pc + 1, lv, .int v :: r)) (G1 := G) ?_ kk
  simp only [px_heap, px_ldi, hV, if_true, if_neg hin, hv]
theorem ev_sln {w : Nat × (Nat → Int32)} {v : Int32} (hV : V.1 = some w) (hi : px_mi M pc = some .arraylength) (hv : Int32.ofNat w.1 = v)
    (kk : px_ev cl fty PM na V d M (pc + 1, lv, .int v :: r) G out G') : px_ev cl fty PM na V d M (pc, lv, .float 0 :: r) G out G' := by
  refine px_ev.h hi rfl (S' := (pc + 1, lv, .int v :: r)) (G1 := G) ?_ kk
  simp only [px_heap, px_aln, hV, if_true, hv]
theorem ev_csl {idx : Nat} {v : Int64} {z1 z2 : Nat} (hi : px_mi M pc = some (.ldc2_w idx)) (hx : px_mx M idx = some (5, z1, z2, v)) (kk : px_ev cl fty PM na V d M (pc + 3, lv, .long v :: r) G out G') : px_ev cl fty PM na V d M (pc, lv, r) G out G' := by
  refine px_ev.h hi rfl (S' := (pc + 3, lv, .long v :: r)) (G1 := G) ?_ kk
  simp only [px_heap, px_csl, hx]
theorem ev_ret {i : Instr} {v : Option Value} (hi : px_mi M pc = some i) (hp : px_pure (px_ml M) i pc lv r = none) (hh : px_heap cl fty V M i pc lv r G = none) (hr : px_ret M i r = some v) : px_ev cl fty PM na V d M (pc, lv, r) G (.inl v) G := px_ev.r hi hp hh hr
theorem px_invV {idx mi n b ci : Nat} {z : Int64} {as : List Value} {N : px_M} {fs : List Value} {w : vw_C} (hx : px_mx M idx = some (1, mi, n, z)) (hN : PM[mi]? = some N) (hn : as.length = n) (hg : G.1[b]? = some (.inr (ci, fs))) (hc : cl[ci]? = some w) (hw : w.1 = (px_my N).cls) :
    px_inv V cl PM M (.invokevirtual idx) (as ++ .ref b :: r) G = some (N, .ref b :: as.reverse, r) := by
  subst hn
  simp only [px_inv, hx, hN, List.drop_left, List.take_left, hg, hc, hw, if_true]
theorem px_invS {idx mi n : Nat} {z : Int64} {as : List Value} {N : px_M} (hx : px_mx M idx = some (11, mi, n, z)) (hN : PM[mi]? = some N) (hn : as.length = n) :
    px_inv V cl PM M (.invokestatic idx) (as ++ r) G = some (N, as.reverse, r) := by
  subst hn
  simp only [px_inv, hx, hN, List.drop_left, List.take_left]
  rw [if_pos (by simp)]
theorem px_mmN {idx : Nat} {x : px_X} {st : List Value} (hx : px_mx M idx = some x) (h1 : Nat.beq x.1 18 = false) (h2 : Nat.beq x.1 19 = false) : px_heap cl fty V M (.invokestatic idx) pc lv st G = none := by
  obtain ⟨k, a, b, c⟩ := x
  simp only [px_heap, px_mm, hx]
  split <;> first
    | rfl
    | (exfalso; rename_i hq _; simp only [Option.some.injEq, Prod.mk.injEq] at hq; rw [hq.1] at h1 h2; first | exact Bool.noConfusion (show true = false from h1) | exact Bool.noConfusion (show true = false from h2))
    | (exfalso; rename_i hq; simp only [Option.some.injEq, Prod.mk.injEq] at hq; rw [hq.1] at h1 h2; first | exact Bool.noConfusion (show true = false from h1) | exact Bool.noConfusion (show true = false from h2))
    | (exfalso; simp_all; done)
/-- a call on an object -/
theorem ev_cv {idx mi n b ci : Nat} {z : Int64} {N : px_M} {fs : List Value} {w : vw_C} {v : Option Value} {G1 : px_G} (as : List Value) (hi : px_mi M pc = some (.invokevirtual idx)) (hx : px_mx M idx = some (1, mi, n, z)) (hN : PM[mi]? = some N) (hn : as.length = n) (hg : G.1[b]? = some (.inr (ci, fs))) (hc : cl[ci]? = some w) (hw : w.1 = (px_my N).cls)
    (h1 : Nat.ble (r.map fun v => v.category).sum 8 = true) (h2 : Nat.ble (lg_sl (.ref b :: as.reverse)).length (px_ml N) = true) (k1 : px_ev cl fty PM na V d N (0, lv_args 0 (.ref b :: as.reverse), []) G (.inl v) G1) (k : px_ev cl fty PM na V (d + 1) M (pc + 3, lv, v.toList ++ r) G1 out G') :
    px_ev cl fty PM na V (d + 1) M (pc, lv, as ++ .ref b :: r) G out G' :=
  px_ev.c hi rfl rfl rfl (px_invV hx hN hn hg hc hw) ⟨Nat.le_of_ble_eq_true h1, Nat.le_of_ble_eq_true h2⟩ k1 k
theorem ev_cvx {idx mi n b ci : Nat} {z : Int64} {N : px_M} {fs : List Value} {w : vw_C} {x : Nat} {G1 : px_G} (as : List Value) (hi : px_mi M pc = some (.invokevirtual idx)) (hx : px_mx M idx = some (1, mi, n, z)) (hN : PM[mi]? = some N) (hn : as.length = n) (hg : G.1[b]? = some (.inr (ci, fs))) (hc : cl[ci]? = some w) (hw : w.1 = (px_my N).cls)
    (h1 : Nat.ble (r.map fun v => v.category).sum 8 = true) (h2 : Nat.ble (lg_sl (.ref b :: as.reverse)).length (px_ml N) = true) (k1 : px_ev cl fty PM na V d N (0, lv_args 0 (.ref b :: as.reverse), []) G (.inr x) G1) {cj : Nat} {gs : List Value} (hgx : G1.1[x]? = some (.inr (cj, gs))) (hok : px_hok M na pc cj = true) {hpc : Nat} (hf : px_hfd M pc cj (px_mh M) = some hpc)
    (k : px_ev cl fty PM na V (d + 1) M (hpc, lv, [.ref x]) G1 out G') : px_ev cl fty PM na V (d + 1) M (pc, lv, as ++ .ref b :: r) G out G' :=
  px_ev.x hi rfl rfl rfl (px_invV hx hN hn hg hc hw) ⟨Nat.le_of_ble_eq_true h1, Nat.le_of_ble_eq_true h2⟩ k1 hgx hok hf k
theorem ev_cvo {idx mi n b ci : Nat} {z : Int64} {N : px_M} {fs : List Value} {w : vw_C} {x : Nat} {G1 : px_G} (as : List Value) (hi : px_mi M pc = some (.invokevirtual idx)) (hx : px_mx M idx = some (1, mi, n, z)) (hN : PM[mi]? = some N) (hn : as.length = n) (hg : G.1[b]? = some (.inr (ci, fs))) (hc : cl[ci]? = some w) (hw : w.1 = (px_my N).cls)
    (h1 : Nat.ble (r.map fun v => v.category).sum 8 = true) (h2 : Nat.ble (lg_sl (.ref b :: as.reverse)).length (px_ml N) = true) (k1 : px_ev cl fty PM na V d N (0, lv_args 0 (.ref b :: as.reverse), []) G (.inr x) G1) {cj : Nat} {gs : List Value} (hgx : G1.1[x]? = some (.inr (cj, gs))) (hm : px_mh M = []) :
    px_ev cl fty PM na V (d + 1) M (pc, lv, as ++ .ref b :: r) G (.inr x) G1 :=
  px_ev.o hi rfl rfl rfl (px_invV hx hN hn hg hc hw) ⟨Nat.le_of_ble_eq_true h1, Nat.le_of_ble_eq_true h2⟩ k1 hgx hm
theorem ev_cs {idx mi n : Nat} {z : Int64} {N : px_M} {v : Option Value} {G1 : px_G} (as : List Value) (hi : px_mi M pc = some (.invokestatic idx)) (hx : px_mx M idx = some (11, mi, n, z)) (hN : PM[mi]? = some N) (hn : as.length = n)
    (h1 : Nat.ble (r.map fun v => v.category).sum 8 = true) (h2 : Nat.ble (lg_sl as.reverse).length (px_ml N) = true) (k1 : px_ev cl fty PM na V d N (0, lv_args 0 as.reverse, []) G (.inl v) G1) (k : px_ev cl fty PM na V (d + 1) M (pc + 3, lv, v.toList ++ r) G1 out G') :
    px_ev cl fty PM na V (d + 1) M (pc, lv, as ++ r) G out G' :=
  px_ev.c hi rfl (px_mmN hx rfl rfl) rfl (px_invS hx hN hn) ⟨Nat.le_of_ble_eq_true h1, Nat.le_of_ble_eq_true h2⟩ k1 k
theorem ev_new {idx ci z1 : Nat} {z : Int64} {w : vw_C} {G1 : px_G} {n : Nat} (hi : px_mi M pc = some (.new idx)) (hx : px_mx M idx = some (2, ci, z1, z)) (hc : cl[ci]? = some w) (hn : G.1.length = n) (hG : (G.1 ++ [.inr (ci, (List.range w.2.2).map (fun k => px_dv (fty ci k)))], G.2 + w.2.2) = G1)
    (kk : px_ev cl fty PM na V d M (pc + 3, lv, .ref n :: r) G1 out G') : px_ev cl fty PM na V d M (pc, lv, r) G out G' := by
  subst hn
  subst hG
  refine px_ev.h hi rfl (S' := (pc + 3, lv, .ref G.1.length :: r)) (G1 := (G.1 ++ [.inr (ci, (List.range w.2.2).map (fun k => px_dv (fty ci k)))], G.2 + w.2.2)) ?_ kk
  simp only [px_heap, px_new, hx, hc]
theorem ev_nwl {G1 : px_G} {n : Nat} {i : Int32} (hi : px_mi M pc = some (.newarray .long)) (hin : ¬ (i < 0 ∨ 60000000 < i.toNatClampNeg)) (hn : G.1.length = n) (hG : (G.1 ++ [.inl (1, i.toNatClampNeg, .inr (.inl []))], G.2 + i.toNatClampNeg) = G1)
    (kk : px_ev cl fty PM na V d M (pc + 2, lv, .ref n :: r) G1 out G') : px_ev cl fty PM na V d M (pc, lv, .int i :: r) G out G' := by
  subst hn
  subst hG
  refine px_ev.h hi rfl (S' := (pc + 2, lv, .ref G.1.length :: r)) (G1 := (G.1 ++ [.inl (1, i.toNatClampNeg, .inr (.inl []))], G.2 + i.toNatClampNeg)) ?_ kk
  simp only [px_heap, px_nwa, px_at, if_neg hin]
theorem ev_ci {idx mi n b : Nat} {z : Int64} {N : px_M} {v : Option Value} {G1 : px_G} (as : List Value) (hi : px_mi M pc = some (.invokespecial idx)) (hx : px_mx M idx = some (9, mi, n, z)) (hN : PM[mi]? = some N) (hn : as.length = n)
    (h1 : Nat.ble (r.map fun v => v.category).sum 8 = true) (h2 : Nat.ble (lg_sl (.ref b :: as.reverse)).length (px_ml N) = true) (k1 : px_ev cl fty PM na V d N (0, lv_args 0 (.ref b :: as.reverse), []) G (.inl v) G1) (k : px_ev cl fty PM na V (d + 1) M (pc + 3, lv, v.toList ++ r) G1 out G') :
    px_ev cl fty PM na V (d + 1) M (pc, lv, as ++ .ref b :: r) G out G' := by
  refine px_ev.c hi rfl ?_ rfl (N := N) (av := .ref b :: as.reverse) (rest := r) ?_ ⟨Nat.le_of_ble_eq_true h1, Nat.le_of_ble_eq_true h2⟩ k1 k
  · simp only [px_heap, px_obj, hx]
  · subst hn
    simp only [px_inv, hx, hN, List.drop_left, List.take_left]
theorem ev_thr {idx ci : Nat} {x : px_X} {n : Nat} (hi : px_mi M pc = some (.new idx)) (hx : px_mx M idx = some x) (h7 : Nat.beq x.1 2 = false) (ht : px_thr cl M pc r = some ci) (hn : G.1.length = n) : px_ev cl fty PM na V d M (pc, lv, r) G (.inr n) (G.1 ++ [.inr (ci, [])], G.2 + 6) := by
  subst hn
  refine px_ev.t hi rfl ?_ rfl rfl ht
  obtain ⟨k, a, b, c⟩ := x
  simp only [px_heap, px_new, hx]
  split <;> first
    | rfl
    | (exfalso; rename_i hq; simp only [Option.some.injEq, Prod.mk.injEq] at hq; rw [hq.1] at h7; cases h7)
    | (exfalso; simp_all; done)
end PXY

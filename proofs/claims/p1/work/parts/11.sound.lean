/-! ===== THE PURE MACHINE'S RUN IS THE MACHINE'S ===== -/
/-- what the tables must say of a call, a text, an exception -/
def px_wc (cl : List vw_C) (TB : List Cond) (PM : List px_M) (own : String) (idx : Nat) (x : px_X) : Prop := match x with
  | (1, mi, n, _) => ∀ N, PM[mi]? = some N → Cond.methodLink own idx (px_my N) ∈ TB ∧ Cond.instanceMethod (px_my N) ∈ TB ∧ Cond.selects (px_my N).cls (px_my N) (px_my N) ∈ TB ∧ (parseMethodDescriptor (px_my N).desc).map (fun d => d.parameters.length) = some n
  | (9, mi, n, _) => ∀ N, PM[mi]? = some N → (px_my N).name = "<init>" ∧ Cond.instanceMethod (px_my N) ∈ TB ∧ px_mh N = [] ∧ px_mr N = none ∧ (Cond.methodLink own idx (px_my N) ∈ TB ∨ ∃ host, Cond.methodLinkNest own idx (px_my N) host ∈ TB) ∧ (parseMethodDescriptor (px_my N).desc).map (fun d => d.parameters.length) = some n
  | (11, mi, n, _) => ∀ N, PM[mi]? = some N → Cond.methodLink own idx (px_my N) ∈ TB ∧ Cond.static (px_my N) ∈ TB ∧ (parseMethodDescriptor (px_my N).desc).map (fun d => d.parameters.length) = some n
  | (4, _, _, _) => ∃ tx, Cond.stringRef own idx tx ∈ TB
  | (7, ci, _, _) => ∃ r, cl[ci]? = some r ∧ r.2.2 = 0 ∧ Bundle.fit r.1 = true ∧ Cond.classLink own idx r.1 ∈ TB ∧ Cond.instantiable r.1 6 ∈ TB ∧ Cond.initialized r.1 ∈ TB
  | (13, ci, _, _) => ∀ r, cl[ci]? = some r → ∀ w ∈ Bundle.ownAtoms own idx r.1 px_ups, w ∈ TB ∨ w ∈ px_two
  | _ => True
/-- a method's rows are its code's -/
def px_mok (cl : List vw_C) (TB : List Cond) (PM : List px_M) (M : px_M) : Prop :=
  (∀ pc i, px_mi M pc = some i → ∃ n, decode (px_mb M) pc = .ok (i, n) ∧ (px_sw i = false → n = px_len i)) ∧ (∀ idx x, px_mx M idx = some x → px_wd cl TB (px_my M).cls idx x ∧ px_wc cl TB PM (px_my M).cls idx x)
/-- a method may be called -/
def px_cok (TB : List Cond) (M : px_M) : Prop := px_cw M ∈ TB ∧ Cond.initialized (px_my M).cls ∈ TB ∧ plainName (px_my M).cls = true ∧ px_nmh (px_my M) ∧ px_ml M ≤ 23
/-- what holds of the tables and of what lies outside, wherever a method begins -/
def px_Ev (base : Nat) (ext : UInt32 → Nat) (tA : Nat → ClassId) (D : va_G) (cl : List vw_C) (na : Nat → Nat → Bool) (V : px_V) (H0 : Heap) (s : State) : Prop :=
  va_K D cl (px_tys tA) s ∧ px_Xt ext V H0 s ∧ px_Zt base H0 s ∧ ∀ ci cj, na ci cj = true → s.vm.assignable (D.1 ci) (D.1 cj) = false
theorem px_Ev.moved {base : Nat} {ext : UInt32 → Nat} {tA : Nat → ClassId} {D : va_G} {cl : List vw_C} {na : Nat → Nat → Bool} {V : px_V} {H0 : Heap} {s U : State} (h : px_Ev base ext tA D cl na V H0 s) (hW : s.WarmedH U.vm) : px_Ev base ext tA D cl na V H0 U := by
  obtain ⟨h1, h2, ⟨v1, v2, r1, r2, z1, z2⟩, h5⟩ := h
  have hvm := hW.alike
  refine ⟨h1.moved hvm, h2.warm hW, ⟨v1, v2, r1, r2, va_Z.moved hvm z1, va_Z.moved hvm z2⟩, fun ci cj hc => ?_⟩
  rw [hvm.assignable]
  exact h5 ci cj hc
theorem px_args (base : Nat) (ext : UInt32 → Nat) : ∀ (av : List Value) (i : Nat), lv_args i (av.map (px_rv base ext)) = px_rl base ext (lv_args i av) := by
  intro av
  induction av with
  | nil => intro i; rfl
  | cons v vs ih =>
    intro i
    simp only [List.map_cons, lv_args, px_rl, px_rv_cat]
    rw [ih]
    rfl
theorem px_slen (base : Nat) (ext : UInt32 → Nat) (av : List Value) : (lg_sl (av.map (px_rv base ext))).length = (lg_sl av).length := by
  induction av with
  | nil => rfl
  | cons v vs ih =>
    have e1 : ∀ (w : Value) (ws : List Value), (lg_sl (w :: ws)).length = (if w.category = 2 then 2 else 1) + (lg_sl ws).length := by
      intro w ws
      simp only [lg_sl, List.flatMap_cons, List.length_append]
      split <;> rfl
    rw [List.map_cons, e1, e1, ih, px_rv_cat]
section PXS
variable {l : Launch} {cl : List vw_C} {fty : Nat → Nat → FieldType} {TB : List Cond} {PM : List px_M} {na : Nat → Nat → Bool} {V : px_V}
/-- what a run of the pure machine says of the machine -/
def px_Snd (l : Launch) (cl : List vw_C) (TB : List Cond) (na : Nat → Nat → Bool) (V : px_V) (d : Nat) (M : px_M) (S : px_S) (G : px_G) (out : px_Out) (G' : px_G) : Prop :=
  ∀ (p : Program) (e : Env) (s : State) (m : MethodId) (args : Array Value) (below : List Frame) (meth : Method) (c : Code) (base : Nat) (ext : UInt32 → Nat) (tA : Nat → ClassId) (D : va_G) (H0 : Heap) (n0 s0 : Nat) (R : Room) (H : Heap) (locs : List Loc) (cells slots : Nat) (ls : Array Slot),
    px_C TB M p s m args meth c → px_Ev base ext tA D cl na V H0 s → px_I base ext tA D cl H0 G H locs → px_N base n0 s0 G s cells slots → lv_has ls (px_ml M) (px_rl base ext S.2.1) → d + 8 ≤ R.frames → 42 * d + 200 ≤ R.locals → G'.1.length ≤ R.cells + n0 → G'.2 ≤ R.slots + s0 →
    W p l e R s m args below meth c H locs cells slots (px_Qn base ext tA D cl H0 below s out G' n0 s0) (F0 m S.1 ls (S.2.2.map (px_rv base ext)))
set_option maxHeartbeats 2000000 in
/-- a method's free theorem, out of a run from its entry -/
theorem px_met {N : px_M} (hc : px_cok TB N) {d : Nat} {av : List Value} (hav : (lg_sl av).length ≤ px_ml N) {G G' : px_G} {out : px_Out} (hle : px_le G G') (h : px_Snd l cl TB na V d N (0, lv_args 0 av, []) G out G')
    (base : Nat) (ext : UInt32 → Nat) (tA : Nat → ClassId) (D : va_G) (H0 : Heap) :
    MetFree l (px_my N) (headSpec TB { frames := d + 8, cells := G'.1.length - G.1.length, slots := G'.2 - G.2, locals := 42 * d + 200 })
      (fun a s => a = (av.map (px_rv base ext)).toArray ∧ px_Ev base ext tA D cl na V H0 s ∧ px_I base ext tA D cl H0 G s.heap [] ∧ s.heap.size = base + G.1.length) (fun _ _ _ _ _ => True)
      (fun _ st o t => (o = px_o base ext out ∧ px_I base ext tA D cl H0 G' t.heap []) ∧ ∃ L, px_End st t L (G'.1.length - G.1.length) (G'.2 - G.2) ∧ ∀ q ∈ L, base ≤ q.base) := by
  obtain ⟨h1, h2, h3, h4, h5⟩ := hc
  refine MetFree.of_bodyS (code := px_mb N) (maxLocals := px_ml N) (ret := px_mr N) h3 ?_ ?_
  · intro args s m hpre hn
    obtain ⟨mk, meth, c, q1, q2, q3, q4, q5, -, q7, q8, -⟩ := px_cw_spec (atoms_spec (ws := TB) hpre _ h1)
    cases hn.symm.trans q1
    exact ⟨meth, c, q2, q3, q4, q5, q7, q8⟩
  · intro p e s m args below meth c s₁ B hml hP _
    obtain ⟨rfl, hE, hI, hz⟩ := hP
    have hts : ∀ w ∈ TB, w.before (av.map (px_rv base ext)).toArray s = true := atoms_spec (ws := TB) B.pre
    have X₀ : Stand p l e _ s m (av.map (px_rv base ext)).toArray below meth c s₁ [] 0 0 := Stand.of_body B
    have hh0 : s₁.heap = s.heap := by rw [B.state]; rfl
    obtain ⟨mk, meth', c', q1, q2, q3, q4, q5, q6, q7, q8, -⟩ := px_cw_spec (hts _ h1)
    cases B.named.symm.trans q1
    cases B.method.symm.trans q2
    cases X₀.code.symm.trans q3
    have C : px_C TB N p s m (av.map (px_rv base ext)).toArray meth c := ⟨B.exec, B.bytes, B.returns, q5, findClass_of_methodNamed B.named, hts, q8, (name_of_methodNamed B.named B.method).1, q6⟩
    have hl := lv_entry (av.map (px_rv base ext)) (n := px_ml N) (by rw [px_slen]; exact hav)
    rw [px_args] at hl
    have K := h p e s m _ below meth c base ext tA D H0 G.1.length G.2 { frames := d + 8, cells := G'.1.length - G.1.length, slots := G'.2 - G.2, locals := 42 * d + 200 } s.heap [] 0 0 _ C hE hI ⟨hz, by omega, by omega⟩ hl (Nat.le_refl _) (Nat.le_refl _) (by have := hle.1; show _ ≤ (G'.1.length - G.1.length) + _; omega) (by have := hle.2; show _ ≤ (G'.2 - G.2) + _; omega)
    have K2 : W p l e { frames := d + 8, cells := G'.1.length - G.1.length, slots := G'.2 - G.2, locals := 42 * d + 200 } s m (av.map (px_rv base ext)).toArray below meth c s.heap [] 0 0 (px_Qn base ext tA D cl H0 below s out G' G.1.length G.2) (entryFrame m (av.map (px_rv base ext)).toArray (px_ml N)) := by
      rw [lg_entry_eq]
      exact K
    obtain ⟨t, a1, b1, b2, b3, b4⟩ := K2 s₁ hh0 X₀
    exact ⟨t, _, a1, b1, b2, ⟨rfl, b4⟩, b3⟩

theorem px_cov_eq {c : Code} {M : px_M} (hh : c.exceptionTable.toList.map (fun h => (h.startPc, h.endPc, h.handlerPc, h.catchType)) = px_mh M) {pc : Nat} (hn : px_noc M pc = true) : ∀ y ∈ c.exceptionTable.toList, covers y pc = false := by
  intro y hy
  unfold px_noc at hn
  rw [← hh] at hn
  have h1 := List.all_eq_true.mp hn _ (List.mem_map.mpr ⟨y, hy, rfl⟩)
  have h2 : (!(covers y pc)) = true := h1
  cases hc : covers y pc with
  | false => rfl
  | true => rw [hc] at h2; cases h2
theorem px_fd_eq {M : px_M} {ci pc : Nat} : ∀ es : List ExceptionTableEntry, px_fd (fun x => px_tk M ci x.catchType) pc es = px_hfd M pc ci (es.map (fun h => (h.startPc, h.endPc, h.handlerPc, h.catchType))) := by
  intro es
  induction es with
  | nil => rfl
  | cons x t ih =>
    simp only [px_fd, List.map_cons, px_hfd, px_cov, covers]
    rw [ih]
    rfl
/-- linking the call that the pure machine makes -/
theorem px_link {p : Program} {e : Env} {R : Room} {s : State} {m : MethodId} {args : Array Value} {below : List Frame} {meth : Method} {c : Code} {T : State} {locs : List Loc} {cells slots : Nat} {base : Nat} {ext : UInt32 → Nat} {tA : Nat → ClassId} {D : va_G} {H0 : Heap} {M N : px_M} {G : px_G} {st av rest : List Value} {pc : Nat} {ls : Array Slot}
    (hPM : ∀ N ∈ PM, px_mok cl TB PM N ∧ px_cok TB N) (hM : px_mok cl TB PM M) (X : Stand p l e R s m args below meth c T locs cells slots) (C : px_C TB M p s m args meth c) (hX : px_Xt ext V H0 s) (hK : va_K D cl (px_tys tA) s) (hI : px_I base ext tA D cl H0 G T.heap locs)
    {i : Instr} {n : Nat} (hd : decode (px_mb M) pc = .ok (i, n)) (hn : px_sw i = false → n = px_len i) (h : px_inv V cl PM M i st G = some (N, av, rest)) :
    N ∈ PM ∧ n = 3 ∧ px_Lk p l e R s m args below meth c T locs cells slots (px_my N) (F0 m pc ls (st.map (px_rv base ext))) (rest.map (px_rv base ext)) (av.map (px_rv base ext)).toArray := by
  obtain ⟨hx, hb, -, -, hown, hts, -, -, -⟩ := C
  have hsplit : ∀ k : Nat, st.map (px_rv base ext) = ((st.take k).map (px_rv base ext)) ++ ((st.drop k).map (px_rv base ext)) := fun k => by rw [← List.map_append, List.take_append_drop]
  have hlen : ∀ (k : Nat) (y : MethodName), k ≤ st.length → (parseMethodDescriptor y.desc).map (fun d => d.parameters.length) = some k → ∀ sig, parseMethodDescriptor y.desc = some sig → ((st.take k).reverse.map (px_rv base ext)).length = sig.parameters.length := by
    intro k y hk h1 sig h2
    rw [h2] at h1
    have : sig.parameters.length = k := Option.some.inj h1
    rw [this]
    simp [hk]
  have hdl : ∀ {k : Nat} {w : Value} {ws : List Value}, st.drop k = w :: ws → k ≤ st.length := by
    intro k w ws hw
    have := congrArg List.length hw
    simp only [List.length_drop, List.length_cons] at this
    omega
  unfold px_inv at h
  split at h
  · cases (hn rfl)
    split at h
    · rename_i idx mi k z hm
      split at h
      · rename_i N' b rest' hN hst
        split at h
        · rename_i ci fs hg
          split at h
          · rename_i x hc
            split at h
            · rename_i hcls
              cases h
              have hmem : N ∈ PM := List.mem_of_getElem? hN
              obtain ⟨w1, w2, w3, w4⟩ := (hM.2 _ _ hm).2 N hN
              obtain ⟨-, c1, -, -, c4, -⟩ := hPM N hmem
              refine ⟨hmem, rfl, ?_⟩
              obtain ⟨cell, g1, g2, g3⟩ := va_recv hK hI.2.1 hc (px_ws_at hg)
              rw [hcls] at g3
              have := px_lkV (rest := rest.map (px_rv base ext)) (argsL := (st.take k).reverse.map (px_rv base ext)) (g := F0 m pc ls (st.map (px_rv base ext))) X hx hown (hts _ w1) (hts _ w2) (hts _ w3) (hts _ c1) c4 g1 g2 g3 rfl (hlen k _ (hdl hst) w4)
                (by
                  show st.map (px_rv base ext) = _
                  rw [hsplit k, hst, List.map_reverse, List.reverse_reverse]
                  rfl) (by rw [hb]; exact hd)
              exact this
            · cases h
          · cases h
        · cases h
      · rename_i N' j rest' hN hst
        split at h
        · rename_i bs hs
          split at h
          · rename_i hcls
            cases h
            have hmem : N ∈ PM := List.mem_of_getElem? hN
            obtain ⟨w1, w2, w3, w4⟩ := (hM.2 _ _ hm).2 N hN
            obtain ⟨-, c1, -, -, c4, -⟩ := hPM N hmem
            refine ⟨hmem, rfl, ?_⟩
            have hS := hI.2.2
            rw [← hI.1] at hS
            obtain ⟨cell, g1, g2, g3, -⟩ := (hX.2.2.1 j bs hs).1.kept hS.2.1
            rw [← hcls] at g3
            have := px_lkV (rest := rest.map (px_rv base ext)) (argsL := (st.take k).reverse.map (px_rv base ext)) (g := F0 m pc ls (st.map (px_rv base ext))) X hx hown (hts _ w1) (hts _ w2) (hts _ w3) (hts _ c1) c4 g1 g2 g3 rfl (hlen k _ (hdl hst) w4)
              (by
                show st.map (px_rv base ext) = _
                rw [hsplit k, hst, List.map_reverse, List.reverse_reverse]
                rfl) (by rw [hb]; exact hd)
            exact this
          · cases h
        · cases h
      · cases h
    · cases h
  · cases (hn rfl)
    split at h
    · rename_i idx mi k z hm
      split at h
      · rename_i N' b rest' hN hst
        cases h
        have hmem : N ∈ PM := List.mem_of_getElem? hN
        obtain ⟨w1, w2, w3, w4, w5, w6⟩ := (hM.2 _ _ hm).2 N hN
        obtain ⟨-, c1, -, -, c4, -⟩ := hPM N hmem
        refine ⟨hmem, rfl, ?_⟩
        have hcode : (Cond.code (px_my N) (px_mb N) (px_ml N) none).before args s = true := by
          have h2 := hts _ c1
          unfold px_cw at h2
          rw [w3, w4] at h2
          exact h2
        have hstk : (F0 m pc ls (st.map (px_rv base ext))).stack = ((st.take k).reverse.map (px_rv base ext)).reverse ++ .ref (base + b) :: rest.map (px_rv base ext) := by
          show st.map (px_rv base ext) = _
          rw [hsplit k, hst, List.map_reverse, List.reverse_reverse]
          rfl
        rcases w5 with w5 | ⟨host, w5⟩
        · exact px_lkI (g := F0 m pc ls (st.map (px_rv base ext))) X hx hown w1 (hts _ w5) (hts _ w2) hcode c4 rfl (hlen k _ (hdl hst) w6) hstk (by rw [hb]; exact hd)
        · exact px_lkIN (g := F0 m pc ls (st.map (px_rv base ext))) X hx hown w1 (hts _ w5) (hts _ w2) hcode c4 rfl (hlen k _ (hdl hst) w6) hstk (by rw [hb]; exact hd)
      · cases h
    · cases h
  · cases (hn rfl)
    split at h
    · rename_i idx mi k z hm
      split at h
      · rename_i N' hN
        split at h
        · rename_i hk
          cases h
          have hmem : N ∈ PM := List.mem_of_getElem? hN
          obtain ⟨w1, w2, w3⟩ := (hM.2 _ _ hm).2 N hN
          obtain ⟨-, c1, c2, -, c4, -⟩ := hPM N hmem
          refine ⟨hmem, rfl, ?_⟩
          have := px_lkS (rest := (st.drop k).map (px_rv base ext)) (argsL := (st.take k).reverse.map (px_rv base ext)) (g := F0 m pc ls (st.map (px_rv base ext))) X hx hown (hts _ w1) (hts _ w2) (hts _ c2) (hts _ c1) c4 rfl (hlen k _ hk w3)
            (by
              show st.map (px_rv base ext) = _
              rw [hsplit k, List.map_reverse, List.reverse_reverse]) (by rw [hb]; exact hd)
          exact this
        · cases h
      · cases h
    · cases h
  · cases h
end PXS

/-! THE CLAIM OUT OF ONE WALK OF THE LAW'S BODY. Your part is whole_start (and what it stands on); all else here is the same for every law, but numbers. -/
def R_law : String := "AlgolHouseLaw"
def lw_P (b : Addr) (xs : List Int32) (args : Array Value) (s : State) : Prop := args = #[.ref b] ∧ s.IntsAt b xs ∧ xs.length ≤ 5 ∧ (Jvm.Cond.and given_1 narrow_1).before args s = true
def lw_Q (_ : Array Value) (s : State) (o : Outcome) (t : State) : Prop := o = .returned (some (.int 1)) ∧ Framed s o t [] 600002 7302232
def lw_Z (below : List Frame) (a : Array Value) (s : State) : State → Prop := fun t => ∃ o, t.status = .running ∧ Ended t below o ∧ lw_Q a s o t
/-- the law's own end, with 1 on the stack, nothing written that was there before, its room as the claim has it -/
theorem lw_ret {p : Program} {l : Launch} {e : Env} {s : State} {m : MethodId} {below : List Frame} {meth : Method} {c : Code} {b : Nat} (hx : p.tables.exec = Jvm.exec) (hb : c.code = code) (hr : meth.sig.returnType = ret) (hlocks : meth.locks = false) {pc : Nat} {H : Heap} {ls : Array Slot} (hdg : decode code pc = .ok (.ireturn, 1)) : W p l e room_1 s m #[Value.ref b] below meth c H [] 600002 7302232 (lw_Z below #[Value.ref b] s) (F0 m pc ls [.int 1]) := by
  intro T hT X
  obtain ⟨fs, hret, hrun, hended, hW, hframe⟩ := X.leave (v := some (.int 1)) (hlocks := hlocks) (fun h => by rw [hr] at h; cases h)
  have hmeth' : T.vm.method? m = some meth := X.method'
  refine ⟨T.setFrames fs, ?_, .returned (some (.int 1)), hrun, hended, rfl, ⟨_, rfl⟩, hW, hframe⟩
  jvm_step X.here [X.here.top, hx, hb, hdg, hmeth', hr, ret, narrow_b1]
  (try refine ⟨rfl, ?_⟩); (try refine ⟨rfl, ?_⟩)
  first | (intro acts; rw [hret _ acts rfl rfl rfl]) | rw [hret _ _ rfl rfl rfl]
  exact Steps.refl _
/-- what holds at the law's entry: the machine, the code, the tables' words (any of lw_tbl by 'hts w (by decide +kernel)'), the script of L ints xs at the cell b, what the Statement gives of the start (any of its parts by flat_of_before) -/
def lw_At (p : Program) (s : State) (m : MethodId) (meth : Method) (c : Code) (b L : Nat) (xs : Nat → Int32) : Prop :=
  p.tables.exec = Jvm.exec ∧ c.code = code ∧ meth.sig.returnType = ret ∧ c.maxLocals = 8 ∧ s.vm.findClass R_law = some m.cls ∧ (∀ w ∈ lw_tbl, w.before #[Value.ref b] s = true) ∧ va_X b L xs s s.heap ∧ b < s.heap.size ∧ meth.locks = false ∧ (Jvm.Cond.and given_1 narrow_1).before #[Value.ref b] s = true

/-- what the pure machine must answer: 1, within the room -/
def cx_Goal (L : Nat) (xs : Nat → Int32) : Prop := ∀ bb : Bool, ∃ (G' : px_G), px_ev cx_cl cx_fty cx_PM cx_na (cx_V (some (L, xs)) bb) 1500 mxL (0, [(0, .float 0)], []) ([], 0) (.inl (some (.int 1))) G' ∧ G'.1.length ≤ 600002 ∧ G'.2 ≤ 7302232
theorem cx_start {p : Program} {e : Env} {s : State} {m : MethodId} {below : List Frame} {meth : Method} {c : Code} (l : Launch) (hfl : l.flags = flags0) {b L : Nat} {xs : Nat → Int32} (hG : cx_Goal L xs) (hnm : meth.name = "law") (hex : c.exceptionTable.isEmpty = true) (C0 : lw_At p s m meth c b L xs) : W p l e room_1 s m #[Value.ref b] below meth c s.heap [] 0 0 (lw_Z below #[Value.ref b] s) (entryFrame m ([Value.ref b] : List Value).toArray 8) := by
  obtain ⟨hx, hb, hr, hml, hown, hts, hX, hbl, hlocks, hgv⟩ := C0
  obtain ⟨ext, tA, D, bb, hE, hext⟩ := cx_env hts hX hbl hgv
  obtain ⟨G', ⟨n, hrun⟩, hc1, hc2⟩ := hG bb
  have htr : ∀ e : Env, l.admits e → e.platform.stackTraces = false := by
    intro e he
    rw [he.platform]
    show l.stackTraces = false
    unfold Launch.stackTraces
    rw [hfl]
    decide +kernel
  have hsnd := px_sound (l := l) (na := cx_na) (V := cx_V (some (L, xs)) bb) cx_clo cx_good cx_all htr n 1500 mxL _ _ _ _ vmL hrun
  have hC : px_C lw_tbl mxL p s m #[Value.ref b] meth c := by
    refine ⟨hx, hb, hr, hml, hown, hts, hlocks, hnm, ?_⟩
    have : c.exceptionTable = #[] := Array.isEmpty_iff.mp hex
    rw [this]
    rfl
  have hI : px_I s.heap.size ext tA D cx_cl s.heap ([], 0) s.heap [] := ⟨rfl, fun k q h => by simp [px_ws] at h, Nat.le_refl _, fun _ _ _ => rfl, fun _ h => by cases h⟩
  have hl := lv_entry ([.ref b]) (n := 8) (Nat.le_of_ble_eq_true rfl)
  rw [lg_entry_eq]
  generalize (lg_sl ([.ref b]) ++ List.replicate (8 - (lg_sl ([.ref b])).length) Slot.unset).toArray = ls at hl ⊢
  have hl : lv_has ls 8 (px_rl s.heap.size ext [(0, .float 0)]) := by
    have e1 : px_rl s.heap.size ext [(0, .float 0)] = [(0, .ref b)] := by simp [px_rl, px_rv, hext]
    rw [e1]
    exact hl
  have K := hsnd p e s m #[Value.ref b] below meth c s.heap.size ext tA D s.heap 0 0 room_1 s.heap [] 0 0 ls hC hE hI ⟨rfl, rfl, rfl⟩ hl (by decide) (by decide) (by show _ ≤ 600002 + 0; omega) (by show _ ≤ 7302232 + 0; omega)
  refine px_mono (fun t ht => ?_) K
  obtain ⟨t1, t2, ⟨LL, ⟨t3, t4⟩, t5⟩, -⟩ := ht
  refine ⟨_, t1, t2, rfl, ⟨_, rfl⟩, t3, ?_⟩
  exact t4.weaken (fun y hy hlt => absurd (t5 y hy) (Nat.not_le.mpr hlt)) hc1 hc2

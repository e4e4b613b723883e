/-! ===== a new exception, thrown ===== -/
/-- what Throwable's two statics hold: references; they lie outside -/
def px_Zt (base : Nat) (H0 : Heap) (s : State) : Prop := ∃ v1 v2 : Value, v1.isRef = true ∧ v2.isRef = true ∧ va_Z Bundle.tN "UNASSIGNED_STACK" Bundle.steD v1 (fun q : Nat => base ≤ q) s H0 ∧ va_Z Bundle.tN "SUPPRESSED_SENTINEL" Bundle.listD v2 (fun q : Nat => base ≤ q) s H0
def px_two : List Cond := [.isRef (.static Bundle.tN "UNASSIGNED_STACK" Bundle.steD), .isRef (.static Bundle.tN "SUPPRESSED_SENTINEL" Bundle.listD)]
def px_ups : List String := ["java/lang/RuntimeException", "java/lang/Exception"]
theorem px_Zref {C n d : String} {v : Value} {A : Nat → Prop} {U : State} {args : Array Value} (h : va_Z C n d v A U U.heap) (hv : v.isRef = true) : (Cond.isRef (.static C n d)).before args U = true := by
  obtain ⟨cf, kf, fi, f, a, cell, h1, h2, h3, h4, h5, h6, h7, h8⟩ := h
  simp only [Cond.before, Cond.holds, Cond.value]
  simp [Term.eval, State.fieldNamed?, h1, h2, h4, h5, h6, h7]
  cases v <;> simp [Value.isRef] at hv ⊢
/-- no old cell has another class or another size -/
def px_shp (s U : State) : Prop := ∀ (a : Nat) (c : Cell), s.heap[a]? = some c → ∃ c', U.heap[a]? = some c' ∧ c' = { c with slots := c'.slots } ∧ c'.slots.size = c.slots.size
/-- words of the tables hold in every warmer state -/
def px_good (TB : List Cond) : Prop := ∀ w ∈ TB, ∀ (s : State) (a a' : Array Value) (U : State), s.WarmedH U.vm → px_shp s U → w.before a s = true → w.before a' U = true
theorem px_shp_of {p : Program} {l : Launch} {e : Env} {R : Room} {s : State} {m : MethodId} {args : Array Value} {below : List Frame} {meth : Method} {c : Code} {T : State} {locs : List Loc} {cells slots : Nat} (X : Stand p l e R s m args below meth c T locs cells slots) {U : State} (h : U.heap = T.heap) : px_shp s U := by
  intro a k hk
  obtain ⟨c', h1, h2, h3, -⟩ := X.same.2.2.2.2.2 a k hk
  exact ⟨c', by rw [h]; exact h1, h2, h3⟩
/-- the old cells, if no slot may have changed -/
theorem px_same0 {s t : State} {k n : Nat} (h : s.sameButNew t [] k n) {a : Nat} (ha : a < s.heap.size) : t.heap[a]? = s.heap[a]? := by
  obtain ⟨-, -, -, -, -, h6⟩ := h
  have hc : s.heap[a]? = some s.heap[a] := Array.getElem?_eq_getElem ha
  obtain ⟨c', h1, h2, h3, h4⟩ := h6 a _ hc
  rw [h1, hc, h2]
  congr 1
  have : c'.slots = s.heap[a].slots := by
    apply Array.ext_getElem?
    intro i
    exact h4 i (by simp)
  rw [this]
section PXN
variable {p : Program} {l : Launch} {e : Env} {R : Room} {s : State} {m : MethodId} {args : Array Value} {below : List Frame} {meth : Method} {c : Code} {H : Heap} {locs : List Loc} {cells slots : Nat} {Q : State → Prop}
variable {pc : Nat} {ls : Array Slot} {base : Nat} {ext : UInt32 → Nat} {tA : Nat → ClassId} {D : va_G} {cl : List vw_C} {TB : List Cond} {H0 : Heap} {M : px_M} {G : px_G} {n0 s0 : Nat}
theorem px_ldcS (hexec : p.tables.exec = Jvm.exec) {cc : ByteArray} (hb : c.code = cc) {own tx : String} {index : Nat} (hown : s.vm.findClass own = some m.cls) (hconst : (Cond.stringRef own index tx).before args s = true) {n : Nat}
    (hd : (n = 2 ∧ decode cc pc = .ok (.ldc index, 2)) ∨ (n = 3 ∧ decode cc pc = .ok (.ldc_w index, 3))) {rest : List Value}
    (k : ∀ a : Nat, W p l e R s m args below meth c H locs cells slots Q (F0 m (pc + n) ls (.ref a :: rest))) : W p l e R s m args below meth c H locs cells slots Q (F0 m pc ls rest) := by
  subst hb
  intro T hT X
  obtain ⟨kk, cf, i, a, hk, hcf, hcp, -, hr, hev⟩ := Cond.stringRef_spec hown hconst
  obtain ⟨t, a1, b1⟩ := k a T hT X
  rcases hd with ⟨rfl, hd⟩ | ⟨rfl, hd⟩
  · exact ⟨t, X.ldcString hexec hown (text := tx) (a := a) hconst hev (g := F0 m pc ls rest) rfl hd t a1, b1⟩
  · obtain ⟨k', hk', he⟩ := X.warmed.alike.2.2 _ _ hk
    have hr' : k'.resolved[index]? = some (some (.string a)) := by
      rcases X.warmed.entry hk hk' index with h | ⟨h, -⟩
      · rw [h]; exact hr
      · rw [hr] at h; cases h
    refine ⟨t, ?_, b1⟩
    jvm_step X.here [X.here.top, hexec, hd, ldc_w.wp_string (e := e) (s := T) (f := F0 m pc ls rest) X.here.top hk' (by rw [he]; exact hcf) hcp hr']
    exact a1
set_option maxHeartbeats 2000000 in
/-- 'throw new X(text)' where no handler of the method covers it -/
theorem px_thrown (C : px_C TB M p s m args meth c) (hgood : px_good TB) (hZ : px_Zt base H0 s) (htr : e.platform.stackTraces = false) (hK : va_K D cl (px_tys tA) s) (hI : px_I base ext tA D cl H0 G H locs) (hN : px_N base n0 s0 G s cells slots)
    {ci : Nat} {x : vw_C} (hci : cl[ci]? = some x) (hx0 : x.2.2 = 0) (hfit : Bundle.fit x.1 = true) {idx js ic n : Nat} {tx : String} (w1 : Cond.classLink (px_my M).cls idx x.1 ∈ TB) (w2 : Cond.instantiable x.1 6 ∈ TB) (w3 : Cond.initialized x.1 ∈ TB) (w4 : Cond.stringRef (px_my M).cls js tx ∈ TB)
    (w5 : ∀ w ∈ Bundle.ownAtoms (px_my M).cls ic x.1 px_ups, w ∈ TB ∨ w ∈ px_two)
    (d0 : decode (px_mb M) pc = .ok (.new idx, 3)) (d3 : decode (px_mb M) (pc + 3) = .ok (.dup, 1)) (d4 : (n = 2 ∧ decode (px_mb M) (pc + 3 + 1) = .ok (.ldc js, 2)) ∨ (n = 3 ∧ decode (px_mb M) (pc + 3 + 1) = .ok (.ldc_w js, 3)))
    (d6 : decode (px_mb M) (pc + 3 + 1 + n) = .ok (.invokespecial ic, 3)) (d9 : decode (px_mb M) (pc + 3 + 1 + n + 3) = .ok (.athrow, 1)) (hout : ∀ y ∈ c.exceptionTable.toList, covers y (pc + 3 + 1 + n + 3) = false)
    (hls : ls.size = c.maxLocals) {st : List Value} (hst : (st.map fun v => v.category).sum ≤ 8) (hRf : 6 ≤ R.frames) (hRl : 100 ≤ R.locals) (hRc : G.1.length + 1 ≤ R.cells + n0) (hRs : G.2 + 6 ≤ R.slots + s0) :
    W p l e R s m args below meth c H locs cells slots (fun t => t.status = .running ∧ Ended t below (.threw (base + G.1.length)) ∧ px_End s t (locs ++ []) (cells + 1) (slots + 6) ∧ px_I base ext tA D cl H0 (G.1 ++ [.inr (ci, [])], G.2 + 6) t.heap locs) (F0 m pc ls st) := by
  obtain ⟨hx, hb, -, hml, hown, hts, hlk, -, -⟩ := C
  obtain ⟨e1, e2, e3⟩ := hN
  intro T hT X
  have hz := px_size X hT hI ⟨e1, e2, e3⟩
  have hcr : cells ≤ R.cells := by omega
  have hsr : slots ≤ R.slots := by omega
  have X1 := px_rebase X hcr hsr
  have hWT : s.WarmedH T.vm := X.warmed
  have hts' : ∀ w ∈ TB, w.before args (px_now T m args below) = true := fun w hw => hgood w hw s args args (px_now T m args below) hWT (px_shp_of X rfl) (hts w hw)
  have hown' : (px_now T m args below).vm.findClass (px_my M).cls = some m.cls := by
    show T.vm.findClass _ = _
    rw [hWT.alike.findClass]
    exact hown
  have hcls : T.vm.findClass x.1 = some (D.1 ci) := by
    rw [hWT.alike.findClass]
    exact (hK.1 ci x hci).2.1
  have hZ1 : ∀ w ∈ px_two, w.before args (px_now T m args below) = true := by
    obtain ⟨v1, v2, r1, r2, z1, z2⟩ := hZ
    have k1 : va_Z Bundle.tN "UNASSIGNED_STACK" Bundle.steD v1 (fun q : Nat => base ≤ q) (px_now T m args below) (px_now T m args below).heap := (va_Z.moved (U := px_now T m args below) hWT.alike z1).kept (fun a h1 h2 => by show T.heap[a]? = _; rw [hT]; exact hI.2.2.2.1 a h1 h2)
    have k2 : va_Z Bundle.tN "SUPPRESSED_SENTINEL" Bundle.listD v2 (fun q : Nat => base ≤ q) (px_now T m args below) (px_now T m args below).heap := (va_Z.moved (U := px_now T m args below) hWT.alike z2).kept (fun a h1 h2 => by show T.heap[a]? = _; rw [hT]; exact hI.2.2.2.1 a h1 h2)
    intro w hw
    rcases List.mem_cons.mp hw with rfl | hw
    · exact px_Zref k1 r1
    · rcases List.mem_cons.mp hw with rfl | hw
      · exact px_Zref k2 r2
      · cases hw
  have hzT : T.heap.size = base + G.1.length := by rw [hT]; exact hz
  have main : W p l e { frames := R.frames, cells := R.cells - cells, slots := R.slots - slots, locals := R.locals } (px_now T m args below) m args below meth c T.heap [] 0 0
      (fun t => t.status = .running ∧ Ended t below (.threw (base + G.1.length)) ∧ px_End (px_now T m args below) t [] (0 + 1) (0 + 6) ∧ ∃ ce, t.heap[base + G.1.length]? = some ce ∧ ce.cls = D.1 ci ∧ ce.vm = .none) (F0 m pc ls st) := by
    refine W.newcK (C := x.1) (n := 6) (g := F0 m pc ls st) hx hb hown' (hts' _ w1) (hts' _ w2) (hts' _ w3) rfl d0 (by show 0 + 1 ≤ R.cells - cells; omega) (by show 0 + 6 ≤ R.slots - slots; omega) hcls hzT (fun H1 kC y0 y1 y2 y3 => ?_)
    refine lv_dup hx hb d3 rfl ?_
    refine px_ldcS hx hb hown' (hts' _ w4) d4 (fun str => ?_)
    intro T2 hT2 X2
    obtain ⟨U, k1, k2, k3, k4, k5, ce, k6, k7⟩ := X2.ctorThrowS hx htr (own := (px_my M).cls) (cls := x.1) (names := px_ups) (ic := ic) hown' hfit (by decide +kernel)
      (fun w hw => (w5 w hw).elim (hts' w) (hZ1 w)) (fun q hq => by cases hq) (a := base + G.1.length) (cX := D.1 ci) (kX := kC) hcls y0 (by rw [hT2]; exact y1) (by show T.heap.size ≤ _; omega) (msg := .ref str) rfl
      (g := F0 m (pc + 3 + 1 + n) ls (.ref str :: .ref (base + G.1.length) :: .ref (base + G.1.length) :: st)) rfl hls rfl rfl (rest := st) rfl (by rw [hb]; exact d6) (by rw [hb]; exact d9) hout (by show 2 + 3 < R.frames; omega)
      (by
        show 2 * 0 + (1 + (st.map fun v => v.category).sum) + (13 * (2 + 1) + 42) ≤ R.locals
        omega) hlk
    refine ⟨U, k1, k2, k3, ⟨k4, k5⟩, ce, k6, ?_, k7.vm⟩
    exact Option.some.inj (k7.cls.symm.trans hcls)
  obtain ⟨t, a1, b1, b2, b3, ce, b4, b5, b6⟩ := main T rfl X1
  refine ⟨t, a1, b1, b2, ?_, ?_⟩
  · have := px_since X b3
    simpa using this
  · have hsz : t.heap.size = H.size + 1 := by
      have q1 : t.heap.size ≤ T.heap.size + (0 + 1) := b3.2.2.2.1
      have q2 := (Array.getElem?_eq_some_iff.mp b4).1
      rw [hT] at q1
      omega
    refine px_I_push hI hz (.inr (ci, [])) _ (fun q hq => ?_) hsz ?_
    · have := px_same0 b3.2 (a := q) (by show q < T.heap.size; rw [hT]; exact hq)
      have h2 : t.heap[q]? = T.heap[q]? := this
      rw [h2, hT]
    · refine ⟨x, hci, ce, b4, b5, b6, fun k hk => ?_⟩
      rw [hx0] at hk
      cases hk
end PXN

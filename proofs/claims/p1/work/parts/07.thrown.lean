/-! ===== exceptions: a state taken as a new start; a throw of a new exception; a search through a method's handlers ===== -/
section PXT
variable {p : Program} {l : Launch} {e : Env} {R : Room} {s : State} {m : MethodId} {args : Array Value} {below : List Frame} {meth : Method} {c : Code} {T : State} {locs : List Loc} {cells slots : Nat}
/-- the same invocation, taken as if it began here -/
def px_now (T : State) (m : MethodId) (args : Array Value) (below : List Frame) : State := T.setFrames (.invoking m args :: below)
theorem px_hears {vm1 vm2 : State} {m : MethodId} (h : vm1.vm.Alike vm2.vm) (below : List Frame) (hh : vm1.hears m below = true) : vm2.hears m below = true := by
  cases below with
  | nil =>
    simp only [State.hears] at hh ⊢
    rw [h.method?]
    exact hh
  | cons f r =>
    cases f with
    | java g =>
      simp only [State.hears] at hh ⊢
      have : vm2.code? g.method = vm1.code? g.method := by rw [State.code?_eq, State.code?_eq, h.method?]
      rw [this]
      exact hh
    | native g => rfl
    | proc g => rfl
    | _ =>
      simp only [State.hears] at hh ⊢
      rw [h.method?]
      exact hh
theorem px_rebase (X : Stand p l e R s m args below meth c T locs cells slots) (hc : cells ≤ R.cells) (hs : slots ≤ R.slots) :
    Stand p l e { frames := R.frames, cells := R.cells - cells, slots := R.slots - slots, locals := R.locals } (px_now T m args below) m args below meth c T [] 0 0 := by
  have hcur : T.cur < T.threads.size := State.cur_lt_of_top X.here.top
  have hF : (px_now T m args below).frames = .invoking m args :: below := State.frames_setFrames _ hcur
  have hmeth' : T.vm.method? m = some meth := X.method'
  have hroom := X.room
  have hsz := X.heapSize
  have hus := X.used
  have hbk := X.book
  refine ⟨X.admits, X.cas, X.clock, hF, ?_, ?_, hmeth', X.code, X.here, X.tail, State.WarmedH.refl _, ?_, ?_, ?_⟩
  · have hL : (px_now T m args below).localsInUse = s.localsInUse := by
      rw [State.localsInUse_invoking hF (meth := meth) (c := c) hmeth' X.code, State.localsInUse_invoking X.frames X.method X.code]
    have hlim : e.platform.stackLimits (px_now T m args below).me = e.platform.stackLimits s.me := by
      unfold px_now
      rw [State.stackLimits_setFrames]
      exact X.limits
    have hby : (px_now T m args below).me.stackBytes = s.me.stackBytes := by
      unfold px_now
      rw [State.stackBytes_setFrames]
      exact X.bytes
    simp only [State.hasRoom, Bool.and_eq_true, decide_eq_true_eq] at hroom ⊢
    rw [hL, hlim, hby, hF]
    rw [X.frames] at hroom
    obtain ⟨⟨⟨⟨a1, a2⟩, a3⟩, a4⟩, a5⟩ := hroom
    refine ⟨⟨⟨⟨a1, a2⟩, ?_⟩, ?_⟩, hbk⟩
    · show T.heap.size + (R.cells - cells) ≤ _
      omega
    · show T.slotsUsed + (R.slots - slots) ≤ _
      omega
  · exact px_hears (vm2 := px_now T m args below) X.warmed.alike below X.hears
  · unfold px_now
    rw [State.stackLimits_setFrames]
  · unfold px_now
    rw [State.stackBytes_setFrames]
  · have hfr := X.frames_eq
    obtain ⟨g₀, hg0⟩ := hfr
    obtain ⟨t, ht, -⟩ := State.frames_cons hF
    have h := (State.sameButNew.refl (px_now T m args below) ht).setFrames T.frames (State.cur_lt_of_frames hF)
    have e1 : (px_now T m args below).setFrames T.frames = T := by
      obtain ⟨t2, ht2, -⟩ := State.frames_cons hg0
      unfold px_now
      rw [State.setFrames_setFrames]
      exact State.setFrames_self ht2
    rw [e1] at h
    exact h
/-- what has changed since then has changed since the invocation began -/
theorem px_since (X : Stand p l e R s m args below meth c T locs cells slots) {U : State} {L : List Loc} {k n : Nat} (h : px_End (px_now T m args below) U L k n) : px_End s U (locs ++ L) (cells + k) (slots + n) := by
  obtain ⟨h1, h2⟩ := h
  have hW : T.WarmedH U.vm := h1
  refine ⟨State.WarmedH.trans X.warmed hW, ?_⟩
  have h3 : T.sameButNew ({ U with vm := T.vm } : State) L k n := by
    obtain ⟨e1, q⟩ := h2
    refine ⟨?_, q⟩
    refine (show ({ U with vm := T.vm } : State) = _ from e1).trans ?_
    unfold px_now
    rw [State.setFrames_setFrames]
    rfl
  exact X.same.trans (h3.setVm s.vm)

/-- one entry that covers, whose class is linked -/
theorem px_go1 {e : Env} {d : Bool} {acts : List Action} {S : State} {f : JFrame} {a : Addr} {Q : Handler → Pre} {E : CtlPost} {x : ExceptionTableEntry} {t : List ExceptionTableEntry} {cx : ClassId} {cell : Cell} (hx : covers x f.pc = true) (h0 : x.catchType ≠ 0)
    (hl : S.vm.ClassLinks e.platform f.method.cls x.catchType cx) (hcell : S.heap[a]? = some cell) (hobj : ∀ k, cell.vm ≠ .statics k)
    (hk : ∃ k, S.vm.classes[cell.cls]? = some k) (hc : ∃ k, S.vm.classes[cx]? = some k) :
    wp (findHandler.go f a (x :: t)) Q E e d acts S ↔ if S.vm.assignable cell.cls cx = true then Q (.found x.handlerPc) d acts (S.setVm (S.vm.noted f.method.cls x.catchType (.cls cx))) else wp (findHandler.go f a t) Q E e d acts (S.setVm (S.vm.noted f.method.cls x.catchType (.cls cx))) := by
  simp only [covers] at hx
  obtain ⟨ha, ht⟩ := (resolveClass_links e.toSetting hl).op (op := VmOp.resolveClass f.method.cls x.catchType) rfl
  have hal : S.vm.Alike (S.vm.noted f.method.cls x.catchType (.cls cx)) := (Vm.Alike.refl S.vm).noted _ _ _
  obtain ⟨k1, hk1⟩ := hk
  obtain ⟨k2, hk2⟩ := hc
  obtain ⟨k1', hk1', -⟩ := hal.2.2 _ _ hk1
  obtain ⟨k2', hk2', -⟩ := hal.2.2 _ _ hk2
  cases hfit : S.vm.assignable cell.cls cx with
  | true =>
    have hfit' : (S.vm.noted f.method.cls x.catchType (.cls cx)).assignable cell.cls cx = true := by rw [hal.assignable]; exact hfit
    simp [findHandler.go, hx, h0, ha, ht, hcell, hobj, hk1', hk2', hfit', VmOp.dirties, VmOp.acts]
  | false =>
    have hfit' : (S.vm.noted f.method.cls x.catchType (.cls cx)).assignable cell.cls cx = false := by rw [hal.assignable]; exact hfit
    simp [findHandler.go, hx, h0, ha, ht, hcell, hobj, hk1', hk2', hfit', VmOp.dirties, VmOp.acts]
/-- which handler takes it: the first entry that covers the place and whose class ('b') takes the object -/
def px_fd (b : ExceptionTableEntry → Bool) (pc : Nat) : List ExceptionTableEntry → Option Nat
  | [] => none
  | x :: t => if covers x pc = true ∧ b x = true then some x.handlerPc else px_fd b pc t
theorem px_srch {e : Env} {f : JFrame} {a : Addr} {s : State} (hpl : e.platform.magicAccessors = ({} : Platform).magicAccessors) {own : String} (hown : s.vm.findClass own = some f.method.cls) {args : Array Value} {b : ExceptionTableEntry → Bool} {cell : Cell} (hobj : ∀ k, cell.vm ≠ .statics k) (hk : ∃ k, s.vm.classes[cell.cls]? = some k) :
    ∀ (es : List ExceptionTableEntry) (S : State), s.WarmedH S.vm → S.heap[a]? = some cell →
      (∀ x ∈ es, covers x f.pc = true → x.catchType ≠ 0 ∧ ∃ C cx, (Cond.classLink own x.catchType C).before args s = true ∧ s.vm.findClass C = some cx ∧ s.vm.assignable cell.cls cx = b x) →
      ∃ vm', s.WarmedH vm' ∧ ∀ (Q : Handler → Pre) (E : CtlPost) (d : Bool) (acts : List Action), wp (findHandler.go f a es) Q E e d acts S ↔ Q (match px_fd b f.pc es with | some pc => .found pc | none => .none) d acts (S.setVm vm') := by
  intro es
  induction es with
  | nil =>
    intro S hW hcell _
    refine ⟨S.vm, hW, fun Q E d acts => ?_⟩
    rw [W.findHandler_go_nil]
    exact Iff.rfl
  | cons x t ih =>
    intro S hW hcell hes
    cases hx : covers x f.pc with
    | false =>
      obtain ⟨vm', h1, h2⟩ := ih S hW hcell (fun y hy => hes y (List.mem_cons_of_mem _ hy))
      refine ⟨vm', h1, fun Q E d acts => ?_⟩
      rw [W.findHandler_go_skip hx, h2]
      simp [px_fd, hx]
    | true =>
      obtain ⟨h0, C, cx, hlk, hfc, hasg⟩ := hes x (List.mem_cons_self) hx
      obtain ⟨c', hc', hcl⟩ := Cond.classLink_spec hown hlk e.platform hpl
      cases hfc.symm.trans hc'
      obtain ⟨dk, _, _, kt, hd, _, _, _, _, hkt, _, hopen⟩ := hcl.here
      have hcl₀ := hW.classLinks hcl
      have hW' : s.WarmedH (S.vm.noted f.method.cls x.catchType (.cls cx)) := hW.noted hd hopen (State.rightAt_cls hcl)
      obtain ⟨k1, hk1⟩ := hk
      obtain ⟨k1', hk1', -⟩ := hW.alike.2.2 _ _ hk1
      obtain ⟨kt', hkt', -⟩ := hW.alike.2.2 _ _ hkt
      have hasg' : S.vm.assignable cell.cls cx = b x := by rw [hW.alike.assignable]; exact hasg
      cases hb : b x with
      | true =>
        refine ⟨_, hW', fun Q E d acts => ?_⟩
        rw [px_go1 hx h0 hcl₀ hcell hobj ⟨k1', hk1'⟩ ⟨kt', hkt'⟩, hasg', hb, if_pos rfl]
        simp [px_fd, hx, hb]
      | false =>
        obtain ⟨vm', h1, h2⟩ := ih (S.setVm (S.vm.noted f.method.cls x.catchType (.cls cx))) hW' hcell (fun y hy => hes y (List.mem_cons_of_mem _ hy))
        refine ⟨vm', h1, fun Q E d acts => ?_⟩
        rw [px_go1 hx h0 hcl₀ hcell hobj ⟨k1', hk1'⟩ ⟨kt', hkt'⟩, hasg', hb, if_neg (by decide), h2]
        simp only [px_fd, hx, hb]
        simp
        exact Iff.rfl
/-- the exception is caught: on at the handler -/
theorem px_caught {tb : Tables} {e : Env} {S target : State} {g : JFrame} {c : Code} {below : List Frame} {a : Addr} (h : At S g.method c below) {pc : Nat} {vm' : Vm}
    (hfind : ∀ (Q : Handler → Pre) (E : CtlPost) (d : Bool) (acts : List Action), wp (findHandler g a) Q E e d acts ((S.setTop g).pushFrame (.throwing a)) ↔ Q (.found pc) d acts (((S.setTop g).pushFrame (.throwing a)).setVm vm'))
    (hrest : Steps tb e below ((S.setVm vm').setTop { g with pc := pc, stack := [.ref a] }) target) : Steps tb e below ((S.setTop g).pushFrame (.throwing a)) target := by
  obtain ⟨hgo, hw⟩ := h.throwing a
  refine Steps.head hgo hw ?_
  have h1 : (stepThrowing e ((S.setTop g).pushFrame (.throwing a)) a (.java g :: S.frames.tail)).1 = (((S.setTop g).pushFrame (.throwing a)).setVm vm').setFrames (.java { g with pc := pc, stack := [.ref a] } :: S.frames.tail) := by
    simp only [stepThrowing, searchFrame, vmDo]
    generalize hr : Sem.go _ e false [] _ = res
    obtain ⟨as, rfl, ha⟩ := Sem.eq_ok_of hr (a := Handler.found pc) (s' := ((S.setTop g).pushFrame (.throwing a)).setVm vm') (acts' := []) (by simp [hfind _ _ _ _])
    rfl
  rw [stepThread_throwing (frames_entered h.top _), h1]
  obtain ⟨g₀, hg⟩ := Option.isSome_iff_exists.mp h.top
  obtain ⟨r, hr⟩ := State.topJava?_eq_some.mp hg
  have hr' : (S.setVm vm').frames = .java g₀ :: r := hr
  rw [State.setTop_of_frames _ hr'] at hrest
  have key : (((S.setTop g).pushFrame (.throwing a)).setVm vm').setFrames (.java { g with pc := pc, stack := [.ref a] } :: S.frames.tail) = (S.setVm vm').setFrames (.java { g with pc := pc, stack := [.ref a] } :: r) := by
    rw [hr, List.tail_cons, State.pushFrame, State.setTop_of_frames _ hr]
    have e1 : ∀ (u : State) (F : List Frame), (u.setFrames F).setVm vm' = (u.setVm vm').setFrames F := fun _ _ => rfl
    rw [e1, e1, State.setFrames_setFrames, State.setFrames_setFrames]
  rw [key]
  exact hrest
end PXT

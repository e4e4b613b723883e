/-! ===== runs put together: more steps do no harm; a run that doesn't see the script sees none ===== -/
section PXE
variable {cl : List vw_C} {fty : Nat → Nat → FieldType} {PM : List px_M} {na : Nat → Nat → Bool} {V : px_V}
/-- a run comes to an end -/
def px_ev (cl : List vw_C) (fty : Nat → Nat → FieldType) (PM : List px_M) (na : Nat → Nat → Bool) (V : px_V) (d : Nat) (M : px_M) (S : px_S) (G : px_G) (out : px_Out) (G' : px_G) : Prop := ∃ n, px_run cl fty PM na V n d M S G = some (out, G')
theorem px_run_s (n d : Nat) (M : px_M) (S : px_S) (G : px_G) : px_run cl fty PM na V (n + 1) d M S G = px_body cl fty PM na V (px_run cl fty PM na V n) d M S G := rfl
/-- one step over a longer and a shorter run -/
theorem px_body_up {f g : px_F} (h : ∀ d M S G r, f d M S G = some r → g d M S G = some r) {d : Nat} {M : px_M} {S : px_S} {G : px_G} {r : px_Out × px_G} (hb : px_body cl fty PM na V f d M S G = some r) : px_body cl fty PM na V g d M S G = some r := by
  unfold px_body at hb ⊢
  split at hb
  · cases hb
  · rename_i i hi
    try rw [hi]
    try dsimp only
    split at hb
    · rename_i S' hp
      try rw [hp]
      exact h _ _ _ _ _ hb
    · rename_i hp
      try rw [hp]
      try dsimp only
      split at hb
      · rename_i q hq
        try rw [hq]
        exact h _ _ _ _ _ hb
      · rename_i hq
        try rw [hq]
        try dsimp only
        split at hb
        · rename_i v hv
          try rw [hv]
          exact hb
        · rename_i hv
          try rw [hv]
          try dsimp only
          split at hb
          · rename_i q hq
            try rw [hq]
            try dsimp only
            split at hb
            · cases hb
            · split at hb
              · rename_i hc
                try rw [if_pos hc]
                split at hb
                · rename_i v G1 hr
                  rw [h _ _ _ _ _ hr]
                  exact h _ _ _ _ _ hb
                · rename_i x G1 hr
                  rw [h _ _ _ _ _ hr]
                  try dsimp only
                  split at hb
                  · rename_i ci fs hg
                    try rw [hg]
                    try dsimp only
                    split at hb
                    · rename_i hok
                      try rw [if_pos hok]
                      split at hb
                      · rename_i pc hf
                        try rw [hf]
                        exact h _ _ _ _ _ hb
                      · rename_i hf
                        try rw [hf]
                        exact hb
                    · cases hb
                  · cases hb
                · cases hb
              · cases hb
          · rename_i hq
            try rw [hq]
            exact hb
theorem px_run_up1 : ∀ (n d : Nat) (M : px_M) (S : px_S) (G : px_G) (r : px_Out × px_G), px_run cl fty PM na V n d M S G = some r → px_run cl fty PM na V (n + 1) d M S G = some r := by
  intro n
  induction n with
  | zero => intro d M S G r h; cases h
  | succ n ih =>
    intro d M S G r h
    rw [px_run_s] at h ⊢
    exact px_body_up ih h
theorem px_run_up (n k d : Nat) (M : px_M) (S : px_S) (G : px_G) (r : px_Out × px_G) (h : px_run cl fty PM na V n d M S G = some r) : px_run cl fty PM na V (n + k) d M S G = some r := by
  induction k with
  | zero => exact h
  | succ k ih => exact px_run_up1 _ _ _ _ _ _ ih
theorem px_heap_V {i : Instr} {M : px_M} {pc : Nat} {lv : px_L} {st : List Value} {G : px_G} {w : Option (Nat × (Nat → Int32))} : px_heap cl fty (none, V.2) M i pc lv st G = px_heap cl fty (w, V.2) M i pc lv st G ∨ (px_heap cl fty (none, V.2) M i pc lv st G = none ∧ (i = .iaload ∨ i = .arraylength)) := by
  cases i <;> first | exact Or.inl rfl | skip
  · -- arraylength
    simp only [px_heap]
    unfold px_aln
    split
    · exact Or.inl rfl
    · rename_i j r
      by_cases hj : j = 0
      · refine Or.inr ⟨?_, by simp⟩
        rw [if_pos hj]
      · rw [if_neg hj, if_neg hj]
        exact Or.inl rfl
    · exact Or.inl rfl
  · -- iaload
    simp only [px_heap]
    unfold px_ldi
    split
    · exact Or.inl rfl
    · rename_i i j r
      by_cases hj : j = 0
      · refine Or.inr ⟨?_, by simp⟩
        rw [if_pos hj]
      · rw [if_neg hj, if_neg hj]
        exact Or.inl rfl
    · exact Or.inl rfl
theorem px_inv_V {i : Instr} {M : px_M} {st : List Value} {G : px_G} {w : Option (Nat × (Nat → Int32))} : px_inv (none, V.2) cl PM M i st G = px_inv (w, V.2) cl PM M i st G := rfl
theorem px_run_V (w : Option (Nat × (Nat → Int32))) : ∀ (n d : Nat) (M : px_M) (S : px_S) (G : px_G) (r : px_Out × px_G), px_run cl fty PM na (none, V.2) n d M S G = some r → px_run cl fty PM na (w, V.2) n d M S G = some r := by
  intro n
  induction n with
  | zero => intro d M S G r h; cases h
  | succ n ih =>
    intro d M S G r h
    rw [px_run_s] at h ⊢
    replace h := px_body_up ih h
    unfold px_body at h ⊢
    split at h
    · cases h
    · rename_i i hi
      try rw [hi]
      try dsimp only
      split at h
      · rename_i S' hp
        try rw [hp]
        exact h
      · rename_i hp
        try rw [hp]
        try dsimp only
        rcases px_heap_V (cl := cl) (fty := fty) (V := V) (i := i) (M := M) (pc := S.1) (lv := S.2.1) (st := S.2.2) (G := G) (w := w) with e | ⟨e, ei⟩
        · rw [← e]
          exact h
        · rw [e] at h
          exfalso
          rcases ei with rfl | rfl
          · simp only [px_ret, px_inv] at h
            have ht : px_thr cl M S.1 S.2.2 = none := by unfold px_thr; rw [hi]
            rw [ht] at h
            cases h
          · simp only [px_ret, px_inv] at h
            have ht : px_thr cl M S.1 S.2.2 = none := by unfold px_thr; rw [hi]
            rw [ht] at h
            cases h
end PXE
section PXQ
variable {cl : List vw_C} {fty : Nat → Nat → FieldType} {PM : List px_M} {na : Nat → Nat → Bool} {V : px_V} {d pc : Nat} {M : px_M} {lv : px_L} {st : List Value} {G G' : px_G} {out : px_Out} {i : Instr} {S' : px_S}
/-- a closed run, counted -/
theorem px_ev.of {n : Nat} {S : px_S} (h : px_run cl fty PM na (none, V.2) n d M S G = some (out, G')) : px_ev cl fty PM na V d M S G out G' := ⟨n, by have := px_run_V (V := V) V.1 n d M S G _ h; exact this⟩
theorem px_ev.p (hi : px_mi M pc = some i) (hp : px_pure (px_ml M) i pc lv st = some S') (k : px_ev cl fty PM na V d M S' G out G') : px_ev cl fty PM na V d M (pc, lv, st) G out G' := by
  obtain ⟨n, hn⟩ := k
  refine ⟨n + 1, ?_⟩
  rw [px_run_s]
  unfold px_body
  simp only [hi, hp]
  exact hn
theorem px_ev.h (hi : px_mi M pc = some i) (hp : px_pure (px_ml M) i pc lv st = none) {G1 : px_G} (hh : px_heap cl fty V M i pc lv st G = some (S', G1)) (k : px_ev cl fty PM na V d M S' G1 out G') : px_ev cl fty PM na V d M (pc, lv, st) G out G' := by
  obtain ⟨n, hn⟩ := k
  refine ⟨n + 1, ?_⟩
  rw [px_run_s]
  unfold px_body
  simp only [hi, hp, hh]
  exact hn
theorem px_ev.r (hi : px_mi M pc = some i) (hp : px_pure (px_ml M) i pc lv st = none) (hh : px_heap cl fty V M i pc lv st G = none) {v : Option Value} (hr : px_ret M i st = some v) : px_ev cl fty PM na V d M (pc, lv, st) G (.inl v) G := by
  refine ⟨1, ?_⟩
  rw [px_run_s]
  unfold px_body
  simp only [hi, hp, hh, hr]
theorem px_ev.c (hi : px_mi M pc = some i) (hp : px_pure (px_ml M) i pc lv st = none) (hh : px_heap cl fty V M i pc lv st G = none) (hr : px_ret M i st = none) {N : px_M} {av rest : List Value} (hv : px_inv V cl PM M i st G = some (N, av, rest)) (hc : (rest.map fun v => v.category).sum ≤ 8 ∧ (lg_sl av).length ≤ px_ml N)
    {v : Option Value} {G1 : px_G} (k1 : px_ev cl fty PM na V d N (0, lv_args 0 av, []) G (.inl v) G1) (k : px_ev cl fty PM na V (d + 1) M (pc + 3, lv, v.toList ++ rest) G1 out G') : px_ev cl fty PM na V (d + 1) M (pc, lv, st) G out G' := by
  obtain ⟨n1, h1⟩ := k1
  obtain ⟨n2, h2⟩ := k
  refine ⟨(n1 + n2) + 1, ?_⟩
  rw [px_run_s]
  unfold px_body
  simp only [hi, hp, hh, hr, hv]
  rw [if_pos hc, px_run_up n1 n2 _ _ _ _ _ h1]
  dsimp only
  rw [Nat.add_comm n1 n2]
  exact px_run_up n2 n1 _ _ _ _ _ h2
/-- a call whose exception is caught here -/
theorem px_ev.x (hi : px_mi M pc = some i) (hp : px_pure (px_ml M) i pc lv st = none) (hh : px_heap cl fty V M i pc lv st G = none) (hr : px_ret M i st = none) {N : px_M} {av rest : List Value} (hv : px_inv V cl PM M i st G = some (N, av, rest)) (hc : (rest.map fun v => v.category).sum ≤ 8 ∧ (lg_sl av).length ≤ px_ml N)
    {x : Nat} {G1 : px_G} (k1 : px_ev cl fty PM na V d N (0, lv_args 0 av, []) G (.inr x) G1) {ci : Nat} {fs : List Value} (hg : G1.1[x]? = some (.inr (ci, fs))) (hok : px_hok M na pc ci = true) {hpc : Nat} (hf : px_hfd M pc ci (px_mh M) = some hpc)
    (k : px_ev cl fty PM na V (d + 1) M (hpc, lv, [.ref x]) G1 out G') : px_ev cl fty PM na V (d + 1) M (pc, lv, st) G out G' := by
  obtain ⟨n1, h1⟩ := k1
  obtain ⟨n2, h2⟩ := k
  refine ⟨(n1 + n2) + 1, ?_⟩
  rw [px_run_s]
  unfold px_body
  simp only [hi, hp, hh, hr, hv]
  rw [if_pos hc, px_run_up n1 n2 _ _ _ _ _ h1]
  dsimp only
  rw [hg]
  dsimp only
  rw [if_pos hok, hf]
  dsimp only
  rw [Nat.add_comm n1 n2]
  exact px_run_up n2 n1 _ _ _ _ _ h2
/-- a call whose exception goes on -/
theorem px_ev.o (hi : px_mi M pc = some i) (hp : px_pure (px_ml M) i pc lv st = none) (hh : px_heap cl fty V M i pc lv st G = none) (hr : px_ret M i st = none) {N : px_M} {av rest : List Value} (hv : px_inv V cl PM M i st G = some (N, av, rest)) (hc : (rest.map fun v => v.category).sum ≤ 8 ∧ (lg_sl av).length ≤ px_ml N)
    {x : Nat} {G1 : px_G} (k1 : px_ev cl fty PM na V d N (0, lv_args 0 av, []) G (.inr x) G1) {ci : Nat} {fs : List Value} (hg : G1.1[x]? = some (.inr (ci, fs))) (hm : px_mh M = []) : px_ev cl fty PM na V (d + 1) M (pc, lv, st) G (.inr x) G1 := by
  obtain ⟨n1, h1⟩ := k1
  refine ⟨n1 + 1, ?_⟩
  rw [px_run_s]
  unfold px_body
  simp only [hi, hp, hh, hr, hv]
  rw [if_pos hc, h1]
  dsimp only
  rw [hg]
  dsimp only
  have e1 : px_hok M na pc ci = true := by unfold px_hok; rw [hm]; rfl
  have e2 : px_hfd M pc ci (px_mh M) = none := by rw [hm]; rfl
  have e3 : px_noc M pc = true := by unfold px_noc; rw [hm]; rfl
  rw [if_pos e1, e2]
  dsimp only
  rw [if_pos e3]
/-- a new exception -/
theorem px_ev.t (hi : px_mi M pc = some i) (hp : px_pure (px_ml M) i pc lv st = none) (hh : px_heap cl fty V M i pc lv st G = none) (hr : px_ret M i st = none) (hv : px_inv V cl PM M i st G = none) {ci : Nat} (ht : px_thr cl M pc st = some ci) :
    px_ev cl fty PM na V d M (pc, lv, st) G (.inr G.1.length) (G.1 ++ [.inr (ci, [])], G.2 + 6) := by
  refine ⟨1, ?_⟩
  rw [px_run_s]
  unfold px_body
  simp only [hi, hp, hh, hr, hv, ht]
end PXQ
/-! trees: a table of rows by their numbers -/
def px_nd {α : Type} (k : Nat) (l r : Nat → Option α) : Nat → Option α := fun q => bif Nat.blt q k then l q else r q
def px_lf {α : Type} (k : Nat) (a : α) : Nat → Option α := fun q => bif Nat.beq q k then some a else none
def px_no {α : Type} : Nat → Option α := fun _ => none
def px_all {α : Type} (P : Nat → α → Prop) (f : Nat → Option α) : Prop := ∀ q a, f q = some a → P q a
theorem px_all.nd {α : Type} {P : Nat → α → Prop} {k : Nat} {l r : Nat → Option α} (hl : px_all P l) (hr : px_all P r) : px_all P (px_nd k l r) := by
  intro q a h
  unfold px_nd at h
  cases hb : Nat.blt q k with
  | true => rw [hb] at h; exact hl q a h
  | false => rw [hb] at h; exact hr q a h
theorem px_all.lf {α : Type} {P : Nat → α → Prop} {k : Nat} {a : α} (h : P k a) : px_all P (px_lf k a) := by
  intro q b hq
  unfold px_lf at hq
  cases hb : Nat.beq q k with
  | true =>
    rw [hb] at hq
    have : q = k := Nat.eq_of_beq_eq_true hb
    subst this
    cases hq
    exact h
  | false => rw [hb] at hq; cases hq
theorem px_all.no {α : Type} {P : Nat → α → Prop} : px_all P px_no := fun _ _ h => by cases h
/-- a row is the code's -/
def px_row (cc : ByteArray) (pc : Nat) (i : Instr) : Prop := ∃ n, decode cc pc = .ok (i, n) ∧ (px_sw i = false → n = px_len i)
theorem px_row.of {cc : ByteArray} {pc : Nat} {i : Instr} (h : decode cc pc = .ok (i, px_len i)) : px_row cc pc i := ⟨_, h, fun _ => rfl⟩
theorem px_row.sw {cc : ByteArray} {pc n : Nat} {i : Instr} (h : decode cc pc = .ok (i, n)) (hs : px_sw i = true) : px_row cc pc i := ⟨_, h, fun h2 => by rw [hs] at h2; cases h2⟩

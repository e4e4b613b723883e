/-! ===== type: the class's, the reference's ===== -/
def ty_b (e : Int64) (i : Int32) : Int64 := (e.toUInt64 >>> ((8 * i).toInt64.toUInt64 &&& Int64.toUInt64 63)).toInt64 &&& 255
def ty_c (e : Int64) (i : Int32) : Int64 := e >>> ((8 * i).toInt64 &&& 63) &&& 255
theorem ty_eq (e : Int64) {j : Nat} (h : j < 8) : ty_c e (Int32.ofNat j) = ty_b e (Int32.ofNat j) := by
  rcases (by omega : j = 0 ∨ j = 1 ∨ j = 2 ∨ j = 3 ∨ j = 4 ∨ j = 5 ∨ j = 6 ∨ j = 7) with rfl | rfl | rfl | rfl | rfl | rfl | rfl | rfl
  · exact sh_all e 0 (by decide) _ _ (by decide +kernel) (by decide +kernel)
  · exact sh_all e 8 (by decide) _ _ (by decide +kernel) (by decide +kernel)
  · exact sh_all e 16 (by decide) _ _ (by decide +kernel) (by decide +kernel)
  · exact sh_all e 24 (by decide) _ _ (by decide +kernel) (by decide +kernel)
  · exact sh_all e 32 (by decide) _ _ (by decide +kernel) (by decide +kernel)
  · exact sh_all e 40 (by decide) _ _ (by decide +kernel) (by decide +kernel)
  · exact sh_all e 48 (by decide) _ _ (by decide +kernel) (by decide +kernel)
  · exact sh_all e 56 (by decide) _ _ (by decide +kernel) (by decide +kernel)
/-- a number of at most 480, and what the machine says of it -/
theorem ty_lt : ∀ b, b ≤ 8 → ∀ j, j < b → decide (Int32.ofNat b ≤ Int32.ofNat j) = false := by decide
theorem ty_le : ∀ b, b ≤ 8 → decide (Int32.ofNat b ≤ Int32.ofNat b) = true := by decide
theorem ty_8 : ∀ j, j < 8 → decide ((8 : Int32) ≤ Int32.ofNat j) = false := by decide
theorem ty_add (a b : Nat) : Int32.ofNat a + Int32.ofNat b = Int32.ofNat (a + b) := (Int32.ofNat_add a b).symm
theorem ty_int {n : Nat} (h : n ≤ 480) : (Int32.ofNat n).toInt = (n : Int) := Int32.toInt_ofNat_of_lt (by omega)
theorem ty_nat {n : Nat} (h : n ≤ 480) : (Int32.ofNat n).toNatClampNeg = n := by
  show (Int32.ofNat n).toInt.toNat = n
  rw [ty_int h]
  rfl
theorem ty_480 {n : Nat} (h : n ≤ 480) : decide (Int32.ofNat n ≤ (480 : Int32)) = true := by
  apply decide_eq_true
  rw [Int32.le_iff_toInt_le, ty_int h]
  show (n : Int) ≤ 480
  omega
theorem ty_in {n : Nat} (h : n < 480) : ¬ (Int32.ofNat n < 0 ∨ 480 ≤ (Int32.ofNat n).toNatClampNeg) := by
  rw [ty_nat (by omega), Int32.lt_iff_toInt_lt, ty_int (by omega)]
  show ¬ ((n : Int) < 0 ∨ 480 ≤ n)
  omega
theorem ty_blt {fs : List Value} {k : Nat} {v : Value} (h : fs[k]? = some v) : Nat.blt k fs.length = true := Nat.ble_eq_true_of_le (List.getElem?_eq_some_iff.mp h).1
/-- how many bytes -/
def ty_n (e : Int64) (b : Nat) : Prop := b ≤ 8 ∧ (∀ q, q < b → ¬ ty_b e (Int32.ofNat q) = 0) ∧ (b < 8 → ty_b e (Int32.ofNat b) = 0)
theorem ty_ex (e : Int64) : ∃ b, ty_n e b := by
  have key : ∀ m j, j + m = 8 → (∀ q, q < j → ¬ ty_b e (Int32.ofNat q) = 0) → ∃ b, ty_n e b := by
    intro m
    induction m with
    | zero =>
      intro j hj h
      have hj8 : j = 8 := hj
      exact ⟨8, Nat.le_refl _, fun q hq => h q (by omega), fun h => absurd h (by decide)⟩
    | succ m ih =>
      intro j hj h
      by_cases hz : ty_b e (Int32.ofNat j) = 0
      · exact ⟨j, by omega, h, fun _ => hz⟩
      · refine ih (j + 1) (by omega) (fun q hq => ?_)
        rcases Nat.lt_succ_iff_lt_or_eq.mp hq with z | rfl
        · exact h q z
        · exact hz
  exact key 8 0 rfl (fun q hq => absurd hq (Nat.not_lt_zero _))
section TYP
variable {V : px_V} {d : Nat} {G G' : px_G} {out : px_Out} {e : Int64} {b : Nat}
abbrev ty_l (e : Int64) (o : Nat) (i : Nat) : px_L := [(3, .int (Int32.ofNat i)), (0, .ref o), (1, .long e)]
abbrev ty_m (e : Int64) (o : Nat) (k i : Nat) : px_L := [(4, .int (Int32.ofNat k)), (3, .int (Int32.ofNat i)), (0, .ref o), (1, .long e)]
theorem tyA_cnt (hb : ty_n e b) (kk : px_ev cx_cl cx_fty cx_PM cx_na V d mx26 (29, ty_l e 0 b, []) G out G') : ∀ m j, j + m = b → px_ev cx_cl cx_fty cx_PM cx_na V d mx26 (2, ty_l e 0 j, []) G out G' := by
  obtain ⟨h1, h2, h3⟩ := hb
  intro m
  induction m with
  | zero =>
    intro j hj
    obtain rfl : j = b := by omega
    refine ev_n 2 (S' := (5, ty_l e 0 j, [.int 8, .int (Int32.ofNat j)])) rfl ?_
    by_cases h8 : j = 8
    · subst h8
      exact px_ev.p (S' := (29, ty_l e 0 8, [])) rfl (px_icT (t := 29) (by decide) rfl) kk
    · refine px_ev.p (S' := (8, ty_l e 0 j, [])) rfl (px_icF (t := 29) (ty_8 j (by omega)) rfl) ?_
      refine ev_n 5 (S' := (14, ty_l e 0 j, [.long ((e.toUInt64 >>> ((8 * (Int32.ofNat j)).toInt64.toUInt64 &&& Int64.toUInt64 63)).toInt64)])) rfl ?_
      refine ev_csl (v := 255) rfl rfl ?_
      refine ev_n 3 (S' := (20, ty_l e 0 j, [.int (lg_cmp (ty_b e (Int32.ofNat j)) 0)])) rfl ?_
      exact px_ev.p (S' := (29, ty_l e 0 j, [])) rfl (px_ifT (t := 29) (decide_eq_true ((lg_cmp_eq _ _).mpr (h3 (by omega)))) rfl) kk
  | succ m ih =>
    intro j hj
    refine ev_n 2 (S' := (5, ty_l e 0 j, [.int 8, .int (Int32.ofNat j)])) rfl ?_
    refine px_ev.p (S' := (8, ty_l e 0 j, [])) rfl (px_icF (t := 29) (ty_8 j (by omega)) rfl) ?_
    refine ev_n 5 (S' := (14, ty_l e 0 j, [.long ((e.toUInt64 >>> ((8 * (Int32.ofNat j)).toInt64.toUInt64 &&& Int64.toUInt64 63)).toInt64)])) rfl ?_
    refine ev_csl (v := 255) rfl rfl ?_
    refine ev_n 3 (S' := (20, ty_l e 0 j, [.int (lg_cmp (ty_b e (Int32.ofNat j)) 0)])) rfl ?_
    refine px_ev.p (S' := (23, ty_l e 0 j, [])) rfl (px_ifF (t := 29) (decide_eq_false (fun w => h2 j (by omega) ((lg_cmp_eq _ _).mp w))) rfl) ?_
    refine ev_n 2 (S' := (2, [(3, .int (Int32.ofNat j + 1)), (0, .ref 0), (1, .long e)], [])) rfl ?_
    rw [show Int32.ofNat j + 1 = Int32.ofNat (j + 1) from ty_add j 1]
    exact ih (j + 1) (by omega)
/-- the class's bytes: the cell 3 is the text, 2 the tokens, whose second field counts -/
theorem tyA_put (hb8 : b ≤ 8) {f0 : List Value} : ∀ m j N, j + m = b → N + m ≤ 480 → ∀ (G : px_G) (ft : List Value) (ws : List (Nat × Int32)), G.1[0]? = some (.inr (0, f0)) → f0[1]? = some (.ref 2) → G.1[2]? = some (.inr (10, ft)) → ft[0]? = some (.ref 3) → ft[1]? = some (.int (Int32.ofNat N)) → G.1[3]? = some (.inl (0, 480, .inl ws)) →
    ∃ (G1 : px_G) (ws1 : List (Nat × Int32)), px_ev cx_cl cx_fty cx_PM cx_na V d mx26 (49, ty_m e 0 j b, []) G (.inl (some (.int (Int32.ofNat (N + m))))) G1 ∧ G1.1.length = G.1.length ∧ G1.2 = G.2 ∧ G1.1[2]? = some (.inr (10, ft.set 1 (.int (Int32.ofNat (N + m))))) ∧ G1.1[3]? = some (.inl (0, 480, .inl ws1)) ∧ ∀ c, c ≠ 2 → c ≠ 3 → G1.1[c]? = G.1[c]? := by
  intro m
  induction m with
  | zero =>
    intro j N hj hN G ft ws h0 h1 h2 h3 h4 h5
    have hjb : j = b := hj
    subst hjb
    refine ⟨G, ws, ?_, rfl, rfl, ?_, h5, fun _ _ _ => rfl⟩
    · refine ev_n 2 (S' := (52, ty_m e 0 j j, [.int (Int32.ofNat j), .int (Int32.ofNat j)])) rfl ?_
      refine px_ev.p (S' := (101, ty_m e 0 j j, [])) rfl (px_icT (t := 101) (ty_le j hb8) rfl) ?_
      refine ev_n 1 (S' := (102, ty_m e 0 j j, [.ref 0])) rfl ?_
      refine ev_get (v := .ref 2) rfl rfl h0 h1 ?_
      refine ev_get (v := .int (Int32.ofNat N)) rfl rfl h2 h4 ?_
      exact ev_ret rfl rfl rfl rfl
    · rw [h2]
      congr 3
      apply List.ext_getElem?
      intro q
      by_cases hq : q = 1
      · subst hq
        rw [List.getElem?_set_self (List.getElem?_eq_some_iff.mp h4).1, h4]
        rfl
      · rw [List.getElem?_set_ne (fun z => hq z.symm)]
  | succ m ih =>
    intro j N hj hN G ft ws h0 h1 h2 h3 h4 h5
    obtain ⟨G1, ws1, k1, k2, k3, k4, k5, k6⟩ := ih (j + 1) (N + 1) (by omega) (by omega) ((G.1.set 3 (.inl (0, 480, .inl (px_wr ws (Int32.ofNat N).toNatClampNeg (ty_b e (Int32.ofNat j)).toInt32)))).set 2 (.inr (10, ft.set 1 (.int (Int32.ofNat (N + 1))))), G.2) (ft.set 1 (.int (Int32.ofNat (N + 1)))) _
      (hx_set (hx_set h0 (by decide)) (by decide)) h1 (hx_self (hx_set h2 (by decide))) (by rw [List.getElem?_set_ne (by decide)]; exact h3) (List.getElem?_set_self (List.getElem?_eq_some_iff.mp h4).1) (hx_set (hx_self h5) (by decide))
    refine ⟨G1, ws1, ?_, ?_, k3, ?_, k5, fun c c2 c3 => ?_⟩
    · refine ev_n 2 (S' := (52, ty_m e 0 j b, [.int (Int32.ofNat b), .int (Int32.ofNat j)])) rfl ?_
      refine px_ev.p (S' := (55, ty_m e 0 j b, [])) rfl (px_icF (t := 101) (ty_lt b hb8 j (by omega)) rfl) ?_
      refine ev_n 1 (S' := (56, ty_m e 0 j b, [.ref 0])) rfl ?_
      refine ev_get (v := .ref 2) rfl rfl h0 h1 ?_
      refine ev_get (v := .ref 3) rfl rfl h2 h3 ?_
      refine ev_n 1 (S' := (63, ty_m e 0 j b, [.ref 0, .ref 3])) rfl ?_
      refine ev_get (v := .ref 2) rfl rfl h0 h1 ?_
      refine ev_get (v := .int (Int32.ofNat N)) rfl rfl h2 h4 ?_
      refine ev_n 5 (S' := (76, ty_m e 0 j b, [.long ((e.toUInt64 >>> ((8 * (Int32.ofNat j)).toInt64.toUInt64 &&& Int64.toUInt64 63)).toInt64), .int (Int32.ofNat N), .ref 3])) rfl ?_
      refine ev_csl (v := 255) rfl rfl ?_
      refine ev_n 2 (S' := (81, ty_m e 0 j b, [.int (ty_b e (Int32.ofNat j)).toInt32, .int (Int32.ofNat N), .ref 3])) rfl ?_
      refine ev_ist rfl h5 (ty_in (by omega)) ?_
      refine ev_n 1 (S' := (83, ty_m e 0 j b, [.ref 0])) rfl ?_
      refine ev_get (v := .ref 2) rfl rfl (hx_set h0 (by decide)) h1 ?_
      refine ev_n 1 (S' := (87, ty_m e 0 j b, [.ref 2, .ref 2])) rfl ?_
      refine ev_get (v := .int (Int32.ofNat N)) rfl rfl (hx_set h2 (by decide)) h4 ?_
      refine ev_n 2 (S' := (92, ty_m e 0 j b, [.int (Int32.ofNat N + 1), .ref 2])) rfl ?_
      rw [show Int32.ofNat N + 1 = Int32.ofNat (N + 1) from ty_add N 1]
      refine ev_put rfl rfl (hx_set h2 (by decide)) (ty_blt h4) rfl (by decide +kernel) ?_
      refine ev_n 2 (S' := (49, [(4, .int (Int32.ofNat j + 1)), (3, .int (Int32.ofNat b)), (0, .ref 0), (1, .long e)], [])) rfl ?_
      rw [show Int32.ofNat j + 1 = Int32.ofNat (j + 1) from ty_add j 1]
      rw [show N + (m + 1) = N + 1 + m by omega]
      exact k1
    · rw [k2]
      simp
    · rw [k4, List.set_set]
      rw [show N + (m + 1) = N + 1 + m by omega]
    · rw [k6 c c2 c3]
      show ((G.1.set 3 _).set 2 _)[c]? = _
      rw [List.getElem?_set_ne (fun z => c2 z.symm), List.getElem?_set_ne (fun z => c3 z.symm)]
/-- the class's 'type', where the text has room -/
theorem tyA (hb : ty_n e b) {f0 ft : List Value} {ws : List (Nat × Int32)} {N : Nat} (hN : N + b ≤ 480) (h0 : G.1[0]? = some (.inr (0, f0))) (h1 : f0[1]? = some (.ref 2)) (h2 : G.1[2]? = some (.inr (10, ft))) (h3 : ft[0]? = some (.ref 3)) (h4 : ft[1]? = some (.int (Int32.ofNat N))) (h5 : G.1[3]? = some (.inl (0, 480, .inl ws))) :
    ∃ (G1 : px_G) (ws1 : List (Nat × Int32)), px_ev cx_cl cx_fty cx_PM cx_na V d mx26 (0, [(0, .ref 0), (1, .long e)], []) G (.inl (some (.int (Int32.ofNat (N + b))))) G1 ∧ G1.1.length = G.1.length ∧ G1.2 = G.2 ∧ G1.1[2]? = some (.inr (10, ft.set 1 (.int (Int32.ofNat (N + b))))) ∧ G1.1[3]? = some (.inl (0, 480, .inl ws1)) ∧ ∀ c, c ≠ 2 → c ≠ 3 → G1.1[c]? = G.1[c]? := by
  obtain ⟨G1, ws1, k1, k⟩ := tyA_put (V := V) (d := d) (e := e) hb.1 b 0 N (by omega) hN G ft ws h0 h1 h2 h3 h4 h5
  refine ⟨G1, ws1, ?_, k⟩
  refine ev_n 2 (S' := (2, ty_l e 0 0, [])) rfl ?_
  refine tyA_cnt hb ?_ b 0 (by omega)
  refine ev_n 1 (S' := (30, ty_l e 0 b, [.ref 0])) rfl ?_
  refine ev_get (v := .ref 2) rfl rfl h0 h1 ?_
  refine ev_get (v := .int (Int32.ofNat N)) rfl rfl h2 h4 ?_
  refine ev_n 3 (S' := (41, ty_l e 0 b, [.int 480, .int (Int32.ofNat N + Int32.ofNat b)])) rfl ?_
  refine px_ev.p (S' := (46, ty_l e 0 b, [])) rfl (px_icT (t := 46) (by rw [ty_add]; exact ty_480 hN) rfl) ?_
  refine ev_n 2 (S' := (49, ty_m e 0 0 b, [])) rfl ?_
  exact k1
theorem tyM_cnt (hb : ty_n e b) (kk : px_ev cx_cl cx_fty cx_PM cx_na V d mx133 (34, ty_l e 317 b, []) G out G') : ∀ m j, j + m = b → px_ev cx_cl cx_fty cx_PM cx_na V d mx133 (7, ty_l e 317 j, []) G out G' := by
  obtain ⟨h1, h2, h3⟩ := hb
  intro m
  induction m with
  | zero =>
    intro j hj
    obtain rfl : j = b := by omega
    refine ev_n 2 (S' := (10, ty_l e 317 j, [.int 8, .int (Int32.ofNat j)])) rfl ?_
    by_cases h8 : j = 8
    · subst h8
      exact px_ev.p (S' := (34, ty_l e 317 8, [])) rfl (px_icT (t := 34) (by decide) rfl) kk
    · refine px_ev.p (S' := (13, ty_l e 317 j, [])) rfl (px_icF (t := 34) (ty_8 j (by omega)) rfl) ?_
      refine ev_n 5 (S' := (19, ty_l e 317 j, [.long (e >>> ((8 * (Int32.ofNat j)).toInt64 &&& 63))])) rfl ?_
      refine ev_csl (v := 255) rfl rfl ?_
      refine ev_n 3 (S' := (25, ty_l e 317 j, [.int (lg_cmp (ty_c e (Int32.ofNat j)) 0)])) rfl ?_
      exact px_ev.p (S' := (34, ty_l e 317 j, [])) rfl (px_ifT (t := 34) (decide_eq_true ((lg_cmp_eq _ _).mpr ((ty_eq e (by omega)).trans (h3 (by omega))))) rfl) kk
  | succ m ih =>
    intro j hj
    refine ev_n 2 (S' := (10, ty_l e 317 j, [.int 8, .int (Int32.ofNat j)])) rfl ?_
    refine px_ev.p (S' := (13, ty_l e 317 j, [])) rfl (px_icF (t := 34) (ty_8 j (by omega)) rfl) ?_
    refine ev_n 5 (S' := (19, ty_l e 317 j, [.long (e >>> ((8 * (Int32.ofNat j)).toInt64 &&& 63))])) rfl ?_
    refine ev_csl (v := 255) rfl rfl ?_
    refine ev_n 3 (S' := (25, ty_l e 317 j, [.int (lg_cmp (ty_c e (Int32.ofNat j)) 0)])) rfl ?_
    refine px_ev.p (S' := (28, ty_l e 317 j, [])) rfl (px_ifF (t := 34) (decide_eq_false (fun w => h2 j (by omega) ((ty_eq e (by omega)).symm.trans ((lg_cmp_eq _ _).mp w)))) rfl) ?_
    refine ev_n 2 (S' := (7, [(3, .int (Int32.ofNat j + 1)), (0, .ref 317), (1, .long e)], [])) rfl ?_
    rw [show Int32.ofNat j + 1 = Int32.ofNat (j + 1) from ty_add j 1]
    exact ih (j + 1) (by omega)
/-- the reference's bytes: the cell 318 is the text, 317 the reference itself, whose third field counts -/
theorem tyM_put (hb8 : b ≤ 8) {ft : List Value} {N : Nat} (hN : N + b ≤ 480) (h3 : ft[1]? = some (.ref 318)) (h4 : ft[2]? = some (.int (Int32.ofNat N))) : ∀ m j, j + m = b → ∀ (G : px_G) (ws : List (Nat × Int32)), G.1[317]? = some (.inr (12, ft)) → G.1[318]? = some (.inl (0, 480, .inl ws)) →
    ∃ (G1 : px_G) (ws1 : List (Nat × Int32)), px_ev cx_cl cx_fty cx_PM cx_na V d mx133 (51, ty_m e 317 j b, []) G (.inl (some (.int (Int32.ofNat (N + b))))) G1 ∧ G1.1.length = G.1.length ∧ G1.2 = G.2 ∧ G1.1[317]? = some (.inr (12, ft.set 2 (.int (Int32.ofNat (N + b))))) ∧ G1.1[318]? = some (.inl (0, 480, .inl ws1)) ∧ ∀ c, c ≠ 317 → c ≠ 318 → G1.1[c]? = G.1[c]? := by
  intro m
  induction m with
  | zero =>
    intro j hj G ws h2 h5
    have hjb : j = b := hj
    subst hjb
    refine ⟨(G.1.set 317 (.inr (12, ft.set 2 (.int (Int32.ofNat (N + j))))), G.2), ws, ?_, by simp, rfl, hx_self h2, hx_set h5 (by decide), fun c c1 c2 => ?_⟩
    · refine ev_n 2 (S' := (54, ty_m e 317 j j, [.int (Int32.ofNat j), .int (Int32.ofNat j)])) rfl ?_
      refine px_ev.p (S' := (87, ty_m e 317 j j, [])) rfl (px_icT (t := 87) (ty_le j hb8) rfl) ?_
      refine ev_n 2 (S' := (89, ty_m e 317 j j, [.ref 317, .ref 317])) rfl ?_
      refine ev_get (v := .int (Int32.ofNat N)) rfl rfl h2 h4 ?_
      refine ev_n 2 (S' := (94, ty_m e 317 j j, [.int (Int32.ofNat N + Int32.ofNat j), .ref 317])) rfl ?_
      rw [ty_add]
      refine ev_put rfl rfl h2 (ty_blt h4) rfl (by decide +kernel) ?_
      refine ev_n 1 (S' := (98, ty_m e 317 j j, [.ref 317])) rfl ?_
      refine ev_get (v := .int (Int32.ofNat (N + j))) rfl rfl (hx_self h2) (List.getElem?_set_self (List.getElem?_eq_some_iff.mp h4).1) ?_
      exact ev_ret rfl rfl rfl rfl
    · show (G.1.set 317 _)[c]? = _
      rw [List.getElem?_set_ne (fun z => c1 z.symm)]
  | succ m ih =>
    intro j hj G ws h2 h5
    obtain ⟨G1, ws1, k1, k2, k3, k4, k5, k6⟩ := ih (j + 1) (by omega) (G.1.set 318 (.inl (0, 480, .inl (px_wr ws (Int32.ofNat (N + j)).toNatClampNeg (ty_c e (Int32.ofNat j)).toInt32))), G.2) _ (hx_set h2 (by decide)) (hx_self h5)
    refine ⟨G1, ws1, ?_, ?_, k3, k4, k5, fun c c2 c3 => ?_⟩
    · refine ev_n 2 (S' := (54, ty_m e 317 j b, [.int (Int32.ofNat b), .int (Int32.ofNat j)])) rfl ?_
      refine px_ev.p (S' := (57, ty_m e 317 j b, [])) rfl (px_icF (t := 87) (ty_lt b hb8 j (by omega)) rfl) ?_
      refine ev_n 1 (S' := (58, ty_m e 317 j b, [.ref 317])) rfl ?_
      refine ev_get (v := .ref 318) rfl rfl h2 h3 ?_
      refine ev_n 1 (S' := (62, ty_m e 317 j b, [.ref 317, .ref 318])) rfl ?_
      refine ev_get (v := .int (Int32.ofNat N)) rfl rfl h2 h4 ?_
      refine ev_n 2 (S' := (68, ty_m e 317 j b, [.int (Int32.ofNat N + Int32.ofNat j), .ref 318])) rfl ?_
      rw [ty_add]
      refine ev_n 5 (S' := (75, ty_m e 317 j b, [.long (e >>> ((8 * (Int32.ofNat j)).toInt64 &&& 63)), .int (Int32.ofNat (N + j)), .ref 318])) rfl ?_
      refine ev_csl (v := 255) rfl rfl ?_
      refine ev_n 2 (S' := (80, ty_m e 317 j b, [.int (ty_c e (Int32.ofNat j)).toInt32, .int (Int32.ofNat (N + j)), .ref 318])) rfl ?_
      refine ev_ist rfl h5 (ty_in (by omega)) ?_
      refine ev_n 2 (S' := (51, [(4, .int (Int32.ofNat j + 1)), (3, .int (Int32.ofNat b)), (0, .ref 317), (1, .long e)], [])) rfl ?_
      rw [show Int32.ofNat j + 1 = Int32.ofNat (j + 1) from ty_add j 1]
      exact k1
    · rw [k2]
      simp
    · rw [k6 c c2 c3]
      show (G.1.set 318 _)[c]? = _
      rw [List.getElem?_set_ne (fun z => c3 z.symm)]
/-- the reference's 'type', where the text has room -/
theorem tyM (hb : ty_n e b) {ft : List Value} {ws : List (Nat × Int32)} {N : Nat} {v0 : Value} (hN : N + b ≤ 480) (h2 : G.1[317]? = some (.inr (12, ft))) (h1 : ft[0]? = some v0) (h3 : ft[1]? = some (.ref 318)) (h4 : ft[2]? = some (.int (Int32.ofNat N))) (h5 : G.1[318]? = some (.inl (0, 480, .inl ws))) :
    ∃ (G1 : px_G) (ws1 : List (Nat × Int32)), px_ev cx_cl cx_fty cx_PM cx_na V d mx133 (0, [(0, .ref 317), (1, .long e)], []) G (.inl (some (.int (Int32.ofNat (N + b))))) G1 ∧ G1.1.length = G.1.length ∧ G1.2 = G.2 ∧ G1.1[317]? = some (.inr (12, (ft.set 0 (.int 0)).set 2 (.int (Int32.ofNat (N + b))))) ∧ G1.1[318]? = some (.inl (0, 480, .inl ws1)) ∧ ∀ c, c ≠ 317 → c ≠ 318 → G1.1[c]? = G.1[c]? := by
  obtain ⟨G1, ws1, k1, k2, k3, k4, k5, k6⟩ := tyM_put (V := V) (d := d) (e := e) hb.1 (ft := ft.set 0 (.int 0)) hN (by rw [List.getElem?_set_ne (by decide)]; exact h3) (by rw [List.getElem?_set_ne (by decide)]; exact h4) b 0 (by omega) (G.1.set 317 (.inr (12, ft.set 0 (.int 0))), G.2) ws (hx_self h2) (hx_set h5 (by decide))
  refine ⟨G1, ws1, ?_, by rw [k2]; simp, k3, k4, k5, fun c c1 c2 => ?_⟩
  · refine ev_n 2 (S' := (2, [(0, .ref 317), (1, .long e)], [.int 0, .ref 317])) rfl ?_
    refine ev_put rfl rfl h2 (ty_blt h1) rfl (by decide +kernel) ?_
    refine ev_n 2 (S' := (7, ty_l e 317 0, [])) rfl ?_
    refine tyM_cnt hb ?_ b 0 (by omega)
    refine ev_n 1 (S' := (35, ty_l e 317 b, [.ref 317])) rfl ?_
    refine ev_get (v := .int (Int32.ofNat N)) rfl rfl (hx_self h2) (by rw [List.getElem?_set_ne (by decide)]; exact h4) ?_
    refine ev_n 3 (S' := (43, ty_l e 317 b, [.int 480, .int (Int32.ofNat N + Int32.ofNat b)])) rfl ?_
    refine px_ev.p (S' := (48, ty_l e 317 b, [])) rfl (px_icT (t := 48) (by rw [ty_add]; exact ty_480 hN) rfl) ?_
    refine ev_n 2 (S' := (51, ty_m e 317 0 b, [])) rfl ?_
    exact k1
  · rw [k6 c c1 c2]
    show (G.1.set 317 _)[c]? = _
    rw [List.getElem?_set_ne (fun z => c1 z.symm)]
end TYP

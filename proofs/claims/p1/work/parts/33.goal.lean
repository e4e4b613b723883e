/-! ===== printed by wip/tools/sym.py: the law from its entry ===== -/
def px_eqG (a b : px_G) : Bool := @decide (a.1 = b.1) (px_dH _ _) && decide (a.2 = b.2)
theorem px_eqG_ok {a b : px_G} (h : px_eqG a b = true) : a = b := by
  unfold px_eqG at h
  simp only [Bool.and_eq_true, decide_eq_true_eq] at h
  exact Prod.ext h.1 h.2
theorem cx_pre {L : Nat} {xs : Nat → Int32} {b : Bool} {out : px_Out} {G' : px_G} (k : px_ev cx_cl cx_fty cx_PM cx_na (cx_V (some (L, xs)) b) 1500 mxL (23, [(4, .int 0), (3, .ref 464), (2, .ref 317), (1, .ref 0), (0, .float 0)], []) hp2 out G') : px_ev cx_cl cx_fty cx_PM cx_na (cx_V (some (L, xs)) b) 1500 mxL (0, [(0, .float 0)], []) ([], 0) out G' := by
  refine ev_new (n := 0) (G1 := hp0) rfl rfl rfl rfl (px_eqG_ok (by decide +kernel)) ?_
  refine ev_n 1 (S' := (4, [(0, .float 0)], [.ref 0, .ref 0])) rfl ?_
  refine ev_ci (b := 0) (v := none) (G1 := hpA) [] rfl rfl rfl rfl rfl rfl (px_ev.of (rnA b)) ?_
  refine ev_n 1 (S' := (8, [(1, .ref 0), (0, .float 0)], [])) rfl ?_
  refine ev_new (n := 317) (G1 := hp1) rfl rfl rfl (by decide +kernel) (px_eqG_ok (by decide +kernel)) ?_
  refine ev_n 1 (S' := (12, [(1, .ref 0), (0, .float 0)], [.ref 317, .ref 317])) rfl ?_
  refine ev_ci (b := 317) (v := none) (G1 := hpB) [] rfl rfl rfl rfl rfl rfl (px_ev.of (rnB b)) ?_
  refine ev_n 2 (S' := (17, [(2, .ref 317), (1, .ref 0), (0, .float 0)], [.int 1])) rfl ?_
  refine ev_nwl (n := 464) (G1 := hp2) rfl (by decide) (by decide +kernel) (px_eqG_ok (by decide +kernel)) ?_
  refine ev_n 3 (S' := (23, [(4, .int 0), (3, .ref 464), (2, .ref 317), (1, .ref 0), (0, .float 0)], [])) rfl ?_
  exact k
theorem cx_short0 {xs : Nat → Int32} {b : Bool} : ∃ G', px_ev cx_cl cx_fty cx_PM cx_na (cx_V (some (0, xs)) b) 1500 mxL (23, [(4, .int 0), (3, .ref 464), (2, .ref 317), (1, .ref 0), (0, .float 0)], []) hp2 (.inl (some (.int 1))) G' ∧ G'.1.length ≤ 600002 ∧ G'.2 ≤ 7302232 := by
  refine ⟨hp2, ?_, by decide +kernel, by decide +kernel⟩
  refine ev_n 2 (S' := (26, [(4, .int 0), (3, .ref 464), (2, .ref 317), (1, .ref 0), (0, .float 0)], [.float 0, .int 0])) rfl ?_
  refine ev_sl (L := 0) (xs := xs) (v := 0) rfl rfl rfl ?_
  refine ev_n 4 (S' := (1372, [(4, .int 0), (3, .ref 464), (2, .ref 317), (1, .ref 0), (0, .float 0)], [.int 1])) rfl ?_
  exact ev_ret rfl rfl rfl rfl
theorem cx_short1 {xs : Nat → Int32} {b : Bool} : ∃ G', px_ev cx_cl cx_fty cx_PM cx_na (cx_V (some (1, xs)) b) 1500 mxL (23, [(4, .int 0), (3, .ref 464), (2, .ref 317), (1, .ref 0), (0, .float 0)], []) hp2 (.inl (some (.int 1))) G' ∧ G'.1.length ≤ 600002 ∧ G'.2 ≤ 7302232 := by
  refine ⟨hp2, ?_, by decide +kernel, by decide +kernel⟩
  refine ev_n 2 (S' := (26, [(4, .int 0), (3, .ref 464), (2, .ref 317), (1, .ref 0), (0, .float 0)], [.float 0, .int 0])) rfl ?_
  refine ev_sl (L := 1) (xs := xs) (v := 1) rfl rfl rfl ?_
  refine ev_n 4 (S' := (1372, [(4, .int 0), (3, .ref 464), (2, .ref 317), (1, .ref 0), (0, .float 0)], [.int 1])) rfl ?_
  exact ev_ret rfl rfl rfl rfl
theorem cx_short2 {xs : Nat → Int32} {b : Bool} : ∃ G', px_ev cx_cl cx_fty cx_PM cx_na (cx_V (some (2, xs)) b) 1500 mxL (23, [(4, .int 0), (3, .ref 464), (2, .ref 317), (1, .ref 0), (0, .float 0)], []) hp2 (.inl (some (.int 1))) G' ∧ G'.1.length ≤ 600002 ∧ G'.2 ≤ 7302232 := by
  refine ⟨hp2, ?_, by decide +kernel, by decide +kernel⟩
  refine ev_n 2 (S' := (26, [(4, .int 0), (3, .ref 464), (2, .ref 317), (1, .ref 0), (0, .float 0)], [.float 0, .int 0])) rfl ?_
  refine ev_sl (L := 2) (xs := xs) (v := 2) rfl rfl rfl ?_
  refine ev_n 4 (S' := (1372, [(4, .int 0), (3, .ref 464), (2, .ref 317), (1, .ref 0), (0, .float 0)], [.int 1])) rfl ?_
  exact ev_ret rfl rfl rfl rfl
theorem cx_short3 {xs : Nat → Int32} {b : Bool} : ∃ G', px_ev cx_cl cx_fty cx_PM cx_na (cx_V (some (3, xs)) b) 1500 mxL (23, [(4, .int 0), (3, .ref 464), (2, .ref 317), (1, .ref 0), (0, .float 0)], []) hp2 (.inl (some (.int 1))) G' ∧ G'.1.length ≤ 600002 ∧ G'.2 ≤ 7302232 := by
  refine ⟨hp2, ?_, by decide +kernel, by decide +kernel⟩
  refine ev_n 2 (S' := (26, [(4, .int 0), (3, .ref 464), (2, .ref 317), (1, .ref 0), (0, .float 0)], [.float 0, .int 0])) rfl ?_
  refine ev_sl (L := 3) (xs := xs) (v := 3) rfl rfl rfl ?_
  refine ev_n 4 (S' := (1372, [(4, .int 0), (3, .ref 464), (2, .ref 317), (1, .ref 0), (0, .float 0)], [.int 1])) rfl ?_
  exact ev_ret rfl rfl rfl rfl
theorem cx_short4 {xs : Nat → Int32} {b : Bool} : ∃ G', px_ev cx_cl cx_fty cx_PM cx_na (cx_V (some (4, xs)) b) 1500 mxL (23, [(4, .int 0), (3, .ref 464), (2, .ref 317), (1, .ref 0), (0, .float 0)], []) hp2 (.inl (some (.int 1))) G' ∧ G'.1.length ≤ 600002 ∧ G'.2 ≤ 7302232 := by
  refine ⟨hp2, ?_, by decide +kernel, by decide +kernel⟩
  refine ev_n 2 (S' := (26, [(4, .int 0), (3, .ref 464), (2, .ref 317), (1, .ref 0), (0, .float 0)], [.float 0, .int 0])) rfl ?_
  refine ev_sl (L := 4) (xs := xs) (v := 4) rfl rfl rfl ?_
  refine ev_n 4 (S' := (1372, [(4, .int 0), (3, .ref 464), (2, .ref 317), (1, .ref 0), (0, .float 0)], [.int 1])) rfl ?_
  exact ev_ret rfl rfl rfl rfl
theorem op_x (xs : Nat → Int32) (b : Bool) : ∃ G', px_ev cx_cl cx_fty cx_PM cx_na (cx_V (some (5, xs)) b) 1500 mxL (1365, [(4, .int 0), (3, .ref 464), (2, .ref 317), (1, .ref 0), (0, .float 0)], []) hp2 (.inl (some (.int 1))) G' ∧ G'.1.length ≤ 600002 ∧ G'.2 ≤ 7302232 := by
  refine ⟨hp2, ?_, by decide +kernel, by decide +kernel⟩
  refine ev_n 4 (S' := (26, [(4, .int 5), (3, .ref 464), (2, .ref 317), (1, .ref 0), (0, .float 0)], [.float 0, .int 5])) rfl ?_
  refine ev_sl (L := 5) (xs := xs) (v := 5) rfl rfl rfl ?_
  refine ev_n 4 (S' := (1372, [(4, .int 5), (3, .ref 464), (2, .ref 317), (1, .ref 0), (0, .float 0)], [.int 1])) rfl ?_
  exact ev_ret rfl rfl rfl rfl
theorem cx_five (xs : Nat → Int32) (b : Bool) : ∃ G', px_ev cx_cl cx_fty cx_PM cx_na (cx_V (some (5, xs)) b) 1500 mxL (23, [(4, .int 0), (3, .ref 464), (2, .ref 317), (1, .ref 0), (0, .float 0)], []) hp2 (.inl (some (.int 1))) G' ∧ G'.1.length ≤ 600002 ∧ G'.2 ≤ 7302232 := by
  obtain ⟨j, hj, he⟩ := pk_andE (xs 0) (m := 31) 5 (by decide)
  have key : ∀ G' : px_G, px_ev cx_cl cx_fty cx_PM cx_na (cx_V (some (5, xs)) b) 1500 mxL (39, [(4, .int 0), (3, .ref 464), (2, .ref 317), (1, .ref 0), (0, .float 0)], [.int (nI j)]) hp2 (.inl (some (.int 1))) G' → px_ev cx_cl cx_fty cx_PM cx_na (cx_V (some (5, xs)) b) 1500 mxL (23, [(4, .int 0), (3, .ref 464), (2, .ref 317), (1, .ref 0), (0, .float 0)], []) hp2 (.inl (some (.int 1))) G' := by
    intro G' k
    refine ev_n 2 (S' := (26, [(4, .int 0), (3, .ref 464), (2, .ref 317), (1, .ref 0), (0, .float 0)], [.float 0, .int 0])) rfl ?_
    refine ev_sl (L := 5) (xs := xs) (v := 5) rfl rfl rfl ?_
    refine ev_n 5 (S' := (35, [(4, .int 0), (3, .ref 464), (2, .ref 317), (1, .ref 0), (0, .float 0)], [.int 0, .float 0])) rfl ?_
    refine ev_sc (L := 5) (xs := xs) (v := xs 0) rfl rfl (by decide) rfl ?_
    refine ev_n 2 (S' := (39, [(4, .int 0), (3, .ref 464), (2, .ref 317), (1, .ref 0), (0, .float 0)], [.int (xs 0 &&& 31)])) rfl ?_
    rw [he]
    exact k
  have h32 : j < 32 := hj
  rcases (by omega : j = 0 ∨ j = 1 ∨ j = 2 ∨ j = 3 ∨ j = 4 ∨ j = 5 ∨ j = 6 ∨ j = 7 ∨ j = 8 ∨ j = 9 ∨ j = 10 ∨ j = 11 ∨ j = 12 ∨ j = 13 ∨ j = 14 ∨ j = 15 ∨ j = 16 ∨ j = 17 ∨ j = 18 ∨ j = 19 ∨ j = 20 ∨ j = 21 ∨ j = 22 ∨ j = 23 ∨ j = 24 ∨ j = 25 ∨ j = 26 ∨ j = 27 ∨ j = 28 ∨ j = 29 ∨ j = 30 ∨ j = 31) with rfl | rfl | rfl | rfl | rfl | rfl | rfl | rfl | rfl | rfl | rfl | rfl | rfl | rfl | rfl | rfl | rfl | rfl | rfl | rfl | rfl | rfl | rfl | rfl | rfl | rfl | rfl | rfl | rfl | rfl | rfl | rfl
  · obtain ⟨G', k, q1, q2⟩ := op_0 xs b _ _ _ _ _ rfl rfl rfl rfl rfl _ rfl
    exact ⟨G', key _ (ev_n 1 (S' := (132, [(4, .int 0), (3, .ref 464), (2, .ref 317), (1, .ref 0), (0, .float 0)], [])) rfl k), q1, q2⟩
  · obtain ⟨G', k, q1, q2⟩ := op_1 xs b _ _ _ _ _ rfl rfl rfl rfl rfl
    exact ⟨G', key _ (ev_n 1 (S' := (189, [(4, .int 0), (3, .ref 464), (2, .ref 317), (1, .ref 0), (0, .float 0)], [])) rfl k), q1, q2⟩
  · obtain ⟨G', k, q1, q2⟩ := op_2 xs b _ _ _ _ _ rfl rfl rfl rfl rfl
    exact ⟨G', key _ (ev_n 1 (S' := (233, [(4, .int 0), (3, .ref 464), (2, .ref 317), (1, .ref 0), (0, .float 0)], [])) rfl k), q1, q2⟩
  · obtain ⟨G', k, q1, q2⟩ := op_3 xs b _ _ _ _ _ rfl rfl rfl rfl rfl
    exact ⟨G', key _ (ev_n 1 (S' := (289, [(4, .int 0), (3, .ref 464), (2, .ref 317), (1, .ref 0), (0, .float 0)], [])) rfl k), q1, q2⟩
  · obtain ⟨G', k, q1, q2⟩ := op_4 xs b _ _ _ _ _ rfl rfl rfl rfl rfl
    exact ⟨G', key _ (ev_n 1 (S' := (302, [(4, .int 0), (3, .ref 464), (2, .ref 317), (1, .ref 0), (0, .float 0)], [])) rfl k), q1, q2⟩
  · obtain ⟨G', k, q1, q2⟩ := op_5 xs b _ _ _ _ _ rfl rfl rfl rfl rfl
    exact ⟨G', key _ (ev_n 1 (S' := (315, [(4, .int 0), (3, .ref 464), (2, .ref 317), (1, .ref 0), (0, .float 0)], [])) rfl k), q1, q2⟩
  · obtain ⟨G', k, q1, q2⟩ := op_6 xs b _ _ _ _ _ rfl rfl rfl rfl rfl
    exact ⟨G', key _ (ev_n 1 (S' := (371, [(4, .int 0), (3, .ref 464), (2, .ref 317), (1, .ref 0), (0, .float 0)], [])) rfl k), q1, q2⟩
  · obtain ⟨G', k, q1, q2⟩ := op_7 xs b _ _ _ _ _ rfl rfl rfl rfl rfl
    exact ⟨G', key _ (ev_n 1 (S' := (451, [(4, .int 0), (3, .ref 464), (2, .ref 317), (1, .ref 0), (0, .float 0)], [])) rfl k), q1, q2⟩
  · obtain ⟨G', k, q1, q2⟩ := op_8 xs b _ _ _ _ _ rfl rfl rfl rfl rfl
    exact ⟨G', key _ (ev_n 1 (S' := (531, [(4, .int 0), (3, .ref 464), (2, .ref 317), (1, .ref 0), (0, .float 0)], [])) rfl k), q1, q2⟩
  · obtain ⟨G', k, q1, q2⟩ := op_9 xs b _ _ _ _ _ rfl rfl rfl rfl rfl
    exact ⟨G', key _ (ev_n 1 (S' := (611, [(4, .int 0), (3, .ref 464), (2, .ref 317), (1, .ref 0), (0, .float 0)], [])) rfl k), q1, q2⟩
  · obtain ⟨G', k, q1, q2⟩ := op_10 xs b _ _ _ _ _ rfl rfl rfl rfl rfl
    exact ⟨G', key _ (ev_n 1 (S' := (691, [(4, .int 0), (3, .ref 464), (2, .ref 317), (1, .ref 0), (0, .float 0)], [])) rfl k), q1, q2⟩
  · obtain ⟨G', k, q1, q2⟩ := op_11 xs b _ _ _ _ _ rfl rfl rfl rfl rfl
    exact ⟨G', key _ (ev_n 1 (S' := (790, [(4, .int 0), (3, .ref 464), (2, .ref 317), (1, .ref 0), (0, .float 0)], [])) rfl k), q1, q2⟩
  · obtain ⟨G', k, q1, q2⟩ := op_12 xs b _ _ _ _ _ rfl rfl rfl rfl rfl _ rfl
    exact ⟨G', key _ (ev_n 1 (S' := (858, [(4, .int 0), (3, .ref 464), (2, .ref 317), (1, .ref 0), (0, .float 0)], [])) rfl k), q1, q2⟩
  · obtain ⟨G', k, q1, q2⟩ := op_13 xs b _ _ _ _ _ rfl rfl rfl rfl rfl
    exact ⟨G', key _ (ev_n 1 (S' := (970, [(4, .int 0), (3, .ref 464), (2, .ref 317), (1, .ref 0), (0, .float 0)], [])) rfl k), q1, q2⟩
  · obtain ⟨G', k, q1, q2⟩ := op_14 xs b _ _ _ _ _ rfl rfl rfl rfl rfl
    exact ⟨G', key _ (ev_n 1 (S' := (983, [(4, .int 0), (3, .ref 464), (2, .ref 317), (1, .ref 0), (0, .float 0)], [])) rfl k), q1, q2⟩
  · obtain ⟨G', k, q1, q2⟩ := op_15 xs b _ _ _ _ _ rfl rfl rfl rfl rfl
    exact ⟨G', key _ (ev_n 1 (S' := (1038, [(4, .int 0), (3, .ref 464), (2, .ref 317), (1, .ref 0), (0, .float 0)], [])) rfl k), q1, q2⟩
  · obtain ⟨G', k, q1, q2⟩ := op_16 xs b _ _ _ _ _ rfl rfl rfl rfl rfl
    exact ⟨G', key _ (ev_n 1 (S' := (1094, [(4, .int 0), (3, .ref 464), (2, .ref 317), (1, .ref 0), (0, .float 0)], [])) rfl k), q1, q2⟩
  · obtain ⟨G', k, q1, q2⟩ := op_17 xs b _ _ _ _ _ rfl rfl rfl rfl rfl
    exact ⟨G', key _ (ev_n 1 (S' := (1150, [(4, .int 0), (3, .ref 464), (2, .ref 317), (1, .ref 0), (0, .float 0)], [])) rfl k), q1, q2⟩
  · obtain ⟨G', k, q1, q2⟩ := op_18 xs b _ _ _ _ _ rfl rfl rfl rfl rfl
    exact ⟨G', key _ (ev_n 1 (S' := (1230, [(4, .int 0), (3, .ref 464), (2, .ref 317), (1, .ref 0), (0, .float 0)], [])) rfl k), q1, q2⟩
  · obtain ⟨G', k, q1, q2⟩ := op_19 xs b _ _ _ _ _ rfl rfl rfl rfl rfl
    exact ⟨G', key _ (ev_n 1 (S' := (1298, [(4, .int 0), (3, .ref 464), (2, .ref 317), (1, .ref 0), (0, .float 0)], [])) rfl k), q1, q2⟩
  · obtain ⟨G', k, q1, q2⟩ := op_x xs b
    exact ⟨G', key _ (ev_n 1 (S' := (1365, [(4, .int 0), (3, .ref 464), (2, .ref 317), (1, .ref 0), (0, .float 0)], [])) rfl k), q1, q2⟩
  · obtain ⟨G', k, q1, q2⟩ := op_x xs b
    exact ⟨G', key _ (ev_n 1 (S' := (1365, [(4, .int 0), (3, .ref 464), (2, .ref 317), (1, .ref 0), (0, .float 0)], [])) rfl k), q1, q2⟩
  · obtain ⟨G', k, q1, q2⟩ := op_x xs b
    exact ⟨G', key _ (ev_n 1 (S' := (1365, [(4, .int 0), (3, .ref 464), (2, .ref 317), (1, .ref 0), (0, .float 0)], [])) rfl k), q1, q2⟩
  · obtain ⟨G', k, q1, q2⟩ := op_x xs b
    exact ⟨G', key _ (ev_n 1 (S' := (1365, [(4, .int 0), (3, .ref 464), (2, .ref 317), (1, .ref 0), (0, .float 0)], [])) rfl k), q1, q2⟩
  · obtain ⟨G', k, q1, q2⟩ := op_x xs b
    exact ⟨G', key _ (ev_n 1 (S' := (1365, [(4, .int 0), (3, .ref 464), (2, .ref 317), (1, .ref 0), (0, .float 0)], [])) rfl k), q1, q2⟩
  · obtain ⟨G', k, q1, q2⟩ := op_x xs b
    exact ⟨G', key _ (ev_n 1 (S' := (1365, [(4, .int 0), (3, .ref 464), (2, .ref 317), (1, .ref 0), (0, .float 0)], [])) rfl k), q1, q2⟩
  · obtain ⟨G', k, q1, q2⟩ := op_x xs b
    exact ⟨G', key _ (ev_n 1 (S' := (1365, [(4, .int 0), (3, .ref 464), (2, .ref 317), (1, .ref 0), (0, .float 0)], [])) rfl k), q1, q2⟩
  · obtain ⟨G', k, q1, q2⟩ := op_x xs b
    exact ⟨G', key _ (ev_n 1 (S' := (1365, [(4, .int 0), (3, .ref 464), (2, .ref 317), (1, .ref 0), (0, .float 0)], [])) rfl k), q1, q2⟩
  · obtain ⟨G', k, q1, q2⟩ := op_x xs b
    exact ⟨G', key _ (ev_n 1 (S' := (1365, [(4, .int 0), (3, .ref 464), (2, .ref 317), (1, .ref 0), (0, .float 0)], [])) rfl k), q1, q2⟩
  · obtain ⟨G', k, q1, q2⟩ := op_x xs b
    exact ⟨G', key _ (ev_n 1 (S' := (1365, [(4, .int 0), (3, .ref 464), (2, .ref 317), (1, .ref 0), (0, .float 0)], [])) rfl k), q1, q2⟩
  · obtain ⟨G', k, q1, q2⟩ := op_x xs b
    exact ⟨G', key _ (ev_n 1 (S' := (1365, [(4, .int 0), (3, .ref 464), (2, .ref 317), (1, .ref 0), (0, .float 0)], [])) rfl k), q1, q2⟩
  · obtain ⟨G', k, q1, q2⟩ := op_x xs b
    exact ⟨G', key _ (ev_n 1 (S' := (1365, [(4, .int 0), (3, .ref 464), (2, .ref 317), (1, .ref 0), (0, .float 0)], [])) rfl k), q1, q2⟩
theorem cx_goal {L : Nat} {xs : Nat → Int32} (hL : L ≤ 5) : cx_Goal L xs := by
  intro b
  rcases (by omega : L = 0 ∨ L = 1 ∨ L = 2 ∨ L = 3 ∨ L = 4 ∨ L = 5) with rfl | rfl | rfl | rfl | rfl | rfl
  · obtain ⟨G', k, q⟩ := cx_short0 (xs := xs) (b := b); exact ⟨G', cx_pre k, q⟩
  · obtain ⟨G', k, q⟩ := cx_short1 (xs := xs) (b := b); exact ⟨G', cx_pre k, q⟩
  · obtain ⟨G', k, q⟩ := cx_short2 (xs := xs) (b := b); exact ⟨G', cx_pre k, q⟩
  · obtain ⟨G', k, q⟩ := cx_short3 (xs := xs) (b := b); exact ⟨G', cx_pre k, q⟩
  · obtain ⟨G', k, q⟩ := cx_short4 (xs := xs) (b := b); exact ⟨G', cx_pre k, q⟩
  · obtain ⟨G', k, q⟩ := cx_five xs b; exact ⟨G', cx_pre k, q⟩

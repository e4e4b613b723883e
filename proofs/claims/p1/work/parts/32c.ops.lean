/-! ===== printed by wip/tools/sym.py: one call on new objects (op_0 by hand) ===== -/
set_option maxHeartbeats 4000000 in
set_option maxRecDepth 100000 in
theorem op_14 (xs : Nat → Int32) (b : Bool) (a0 a1 a2 a3 a4 : Int32) (h0 : xs 0 = a0) (h1 : xs 1 = a1) (h2 : xs 2 = a2) (h3 : xs 3 = a3) (h4 : xs 4 = a4) : ∃ G', px_ev cx_cl cx_fty cx_PM cx_na (cx_V (some (5, xs)) b) 1500 mxL (983, [(4, .int 0), (3, .ref 464), (2, .ref 317), (1, .ref 0), (0, .float 0)], []) hp2 (Sum.inl (some (.int 1))) G' ∧ G'.1.length ≤ 600002 ∧ G'.2 ≤ 7302232 := by
  by_cases q0 : a1.toInt < 0
  · refine ⟨(((hp2.1 ++ [Sum.inr (15, [])]).set 317 (Sum.inr (12, (fs317.set 0 (.int 1))))), hp2.2 + 6), ?_, by simp only [List.length_append, List.length_set, List.length_cons, List.length_nil]; rw [hp2_len]; decide, by show hp2.2 + 6 ≤ _; rw [hp2_sl]; decide⟩
    refine ev_n 5 (S' := (989, [(4, .int 0), (3, .ref 464), (2, .ref 317), (1, .ref 0), (0, .float 0)], [.int 1, .float 0, .ref 0])) rfl ?_
    refine ev_sc (L := 5) (xs := xs) (v := a1) rfl rfl (by decide) h1 ?_
    refine ev_n 1 (S' := (991, [(4, .int 0), (3, .ref 464), (2, .ref 317), (1, .ref 0), (0, .float 0)], [.ref 464, .int a1, .ref 0])) rfl ?_
    refine ev_cs (v := some (.int 1)) (G1 := ((hp2.1 ++ [Sum.inr (15, [])]), hp2.2 + 6)) [.ref 464, .int a1, .ref 0] rfl rfl rfl rfl rfl rfl ?_ ?_
    · refine ev_n 4 (S' := (4, [(0, .ref 0), (1, .int a1), (2, .ref 464)], [.int a1, .ref 0, .int 0, .ref 464])) rfl ?_
      refine ev_cvx (x := 465) (G1 := ((hp2.1 ++ [Sum.inr (15, [])]), hp2.2 + 6)) (hpc := 11) [.int a1] rfl rfl rfl rfl hp_at_0 rfl rfl rfl rfl ?_ (hx_end (by decide +kernel)) (by decide +kernel) (by decide +kernel) ?_
      · refine ev_n 2 (S' := (2, [(0, .ref 0), (1, .int a1)], [.int a1, .ref 0])) rfl ?_
        refine ev_cvo (x := 465) (G1 := ((hp2.1 ++ [Sum.inr (15, [])]), hp2.2 + 6)) [.int a1] rfl rfl rfl rfl hp_at_0 rfl rfl rfl rfl ?_ (hx_end (by decide +kernel)) rfl
        · refine ev_n 1 (S' := (1, [(0, .ref 0), (1, .int a1)], [.int a1])) rfl ?_
          refine px_ev.p (S' := (15, [(0, .ref 0), (1, .int a1)], [])) rfl (px_ifT (t := 15) (cA_lt_T 0 rfl (by omega)) rfl) ?_
          exact ev_thr rfl rfl rfl (by decide +kernel) (by decide +kernel)
      refine ev_n 2 (S' := (13, [(3, .ref 465), (0, .ref 0), (1, .int a1), (2, .ref 464)], [.int 1])) rfl ?_
      exact ev_ret rfl rfl rfl rfl
    refine ev_n 6 (S' := (1002, [(5, .int 1), (4, .int 0), (3, .ref 464), (2, .ref 317), (1, .ref 0), (0, .float 0)], [.int 1, .float 0, .ref 317])) rfl ?_
    refine ev_sc (L := 5) (xs := xs) (v := a1) rfl rfl (by decide) h1 ?_
    refine ev_cv (v := some (.long 0)) (G1 := (((hp2.1 ++ [Sum.inr (15, [])]).set 317 (Sum.inr (12, (fs317.set 0 (.int 1))))), hp2.2 + 6)) [.int a1] rfl rfl rfl rfl (hx_app hp_at_317) rfl rfl rfl rfl ?_ ?_
    · refine ev_n 5 (S' := (5, [(0, .ref 317), (1, .int a1)], [.ref 317, .long 0, .long ((a1).toInt64), .ref 317])) rfl ?_
      refine ev_get (v := .int 0) rfl rfl (hx_app hp_at_317) rfl ?_
      refine ev_n 3 (S' := (11, [(0, .ref 317), (1, .int a1)], [.long (-1), .long 0, .long ((a1).toInt64), .ref 317])) rfl ?_
      refine ev_cs (v := some (.int 0)) (G1 := ((hp2.1 ++ [Sum.inr (15, [])]), hp2.2 + 6)) [.long (-1), .long 0, .long ((a1).toInt64)] rfl rfl rfl rfl rfl rfl ?_ ?_
      · refine ev_n 3 (S' := (3, [(0, .long ((a1).toInt64)), (2, .long 0), (4, .long (-1))], [.int (lg_cmp ((a1).toInt64) (0))])) rfl ?_
        refine px_ev.p (S' := (17, [(0, .long ((a1).toInt64)), (2, .long 0), (4, .long (-1))], [])) rfl (px_ifT (t := 17) (cL_lt_T 0 rfl (by omega)) rfl) ?_
        refine ev_n 1 (S' := (18, [(0, .long ((a1).toInt64)), (2, .long 0), (4, .long (-1))], [.int 0])) rfl ?_
        exact ev_ret rfl rfl rfl rfl
      refine ev_n 2 (S' := (22, [(0, .ref 317), (1, .int a1)], [.int 1, .ref 317])) rfl ?_
      refine ev_put rfl rfl (hx_app hp_at_317) rfl rfl (by decide +kernel) ?_
      refine ev_n 1 (S' := (26, [(0, .ref 317), (1, .int a1)], [.ref 317])) rfl ?_
      refine ev_get (v := .int 1) rfl rfl (hx_self (hx_app hp_at_317)) rfl ?_
      refine ev_n 3 (S' := (42, [(0, .ref 317), (1, .int a1)], [.long 0])) rfl ?_
      exact ev_ret rfl rfl rfl rfl
    refine ev_n 2 (S' := (1009, [(6, .long 0), (5, .int 1), (4, .int 0), (3, .ref 464), (2, .ref 317), (1, .ref 0), (0, .float 0)], [.ref 317])) rfl ?_
    refine ev_cv (v := some (.int 1)) (G1 := (((hp2.1 ++ [Sum.inr (15, [])]).set 317 (Sum.inr (12, (fs317.set 0 (.int 1))))), hp2.2 + 6)) [] rfl rfl rfl rfl (hx_self (hx_app hp_at_317)) rfl rfl rfl rfl ?_ ?_
    · refine ev_n 1 (S' := (1, [(0, .ref 317)], [.ref 317])) rfl ?_
      refine ev_get (v := .int 1) rfl rfl (hx_self (hx_app hp_at_317)) rfl ?_
      exact ev_ret rfl rfl rfl rfl
    refine ev_n 9 (S' := (26, [(4, .int 5), (6, .long 0), (5, .int 1), (3, .ref 464), (2, .ref 317), (1, .ref 0), (0, .float 0)], [.float 0, .int 5])) rfl ?_
    refine ev_sl (L := 5) (xs := xs) (v := 5) rfl rfl rfl ?_
    refine ev_n 4 (S' := (1372, [(4, .int 5), (6, .long 0), (5, .int 1), (3, .ref 464), (2, .ref 317), (1, .ref 0), (0, .float 0)], [.int 1])) rfl ?_
    exact ev_ret rfl rfl rfl rfl
  · refine ⟨(((hp2.1 ++ [Sum.inr (15, [])]).set 317 (Sum.inr (12, (fs317.set 0 (.int 1))))), hp2.2 + 6), ?_, by simp only [List.length_append, List.length_set, List.length_cons, List.length_nil]; rw [hp2_len]; decide, by show hp2.2 + 6 ≤ _; rw [hp2_sl]; decide⟩
    refine ev_n 5 (S' := (989, [(4, .int 0), (3, .ref 464), (2, .ref 317), (1, .ref 0), (0, .float 0)], [.int 1, .float 0, .ref 0])) rfl ?_
    refine ev_sc (L := 5) (xs := xs) (v := a1) rfl rfl (by decide) h1 ?_
    refine ev_n 1 (S' := (991, [(4, .int 0), (3, .ref 464), (2, .ref 317), (1, .ref 0), (0, .float 0)], [.ref 464, .int a1, .ref 0])) rfl ?_
    refine ev_cs (v := some (.int 1)) (G1 := ((hp2.1 ++ [Sum.inr (15, [])]), hp2.2 + 6)) [.ref 464, .int a1, .ref 0] rfl rfl rfl rfl rfl rfl ?_ ?_
    · refine ev_n 4 (S' := (4, [(0, .ref 0), (1, .int a1), (2, .ref 464)], [.int a1, .ref 0, .int 0, .ref 464])) rfl ?_
      refine ev_cvx (x := 465) (G1 := ((hp2.1 ++ [Sum.inr (15, [])]), hp2.2 + 6)) (hpc := 11) [.int a1] rfl rfl rfl rfl hp_at_0 rfl rfl rfl rfl ?_ (hx_end (by decide +kernel)) (by decide +kernel) (by decide +kernel) ?_
      · refine ev_n 2 (S' := (2, [(0, .ref 0), (1, .int a1)], [.int a1, .ref 0])) rfl ?_
        refine ev_cvo (x := 465) (G1 := ((hp2.1 ++ [Sum.inr (15, [])]), hp2.2 + 6)) [.int a1] rfl rfl rfl rfl hp_at_0 rfl rfl rfl rfl ?_ (hx_end (by decide +kernel)) rfl
        · refine ev_n 1 (S' := (1, [(0, .ref 0), (1, .int a1)], [.int a1])) rfl ?_
          refine px_ev.p (S' := (4, [(0, .ref 0), (1, .int a1)], [])) rfl (px_ifF (t := 15) (cA_lt_F 0 rfl (by omega)) rfl) ?_
          refine ev_n 2 (S' := (6, [(0, .ref 0), (1, .int a1)], [.ref 0, .int a1])) rfl ?_
          refine ev_get (v := .ref 90) rfl rfl hp_at_0 rfl ?_
          refine ev_get (v := .int 0) rfl rfl hp_at_90 rfl ?_
          refine px_ev.p (S' := (15, [(0, .ref 0), (1, .int a1)], [])) rfl (px_icF (t := 26) (cA_lt_F 0 rfl (by omega)) rfl) ?_
          exact ev_thr rfl rfl rfl (by decide +kernel) (by decide +kernel)
      refine ev_n 2 (S' := (13, [(3, .ref 465), (0, .ref 0), (1, .int a1), (2, .ref 464)], [.int 1])) rfl ?_
      exact ev_ret rfl rfl rfl rfl
    refine ev_n 6 (S' := (1002, [(5, .int 1), (4, .int 0), (3, .ref 464), (2, .ref 317), (1, .ref 0), (0, .float 0)], [.int 1, .float 0, .ref 317])) rfl ?_
    refine ev_sc (L := 5) (xs := xs) (v := a1) rfl rfl (by decide) h1 ?_
    refine ev_cv (v := some (.long 0)) (G1 := (((hp2.1 ++ [Sum.inr (15, [])]).set 317 (Sum.inr (12, (fs317.set 0 (.int 1))))), hp2.2 + 6)) [.int a1] rfl rfl rfl rfl (hx_app hp_at_317) rfl rfl rfl rfl ?_ ?_
    · refine ev_n 5 (S' := (5, [(0, .ref 317), (1, .int a1)], [.ref 317, .long 0, .long ((a1).toInt64), .ref 317])) rfl ?_
      refine ev_get (v := .int 0) rfl rfl (hx_app hp_at_317) rfl ?_
      refine ev_n 3 (S' := (11, [(0, .ref 317), (1, .int a1)], [.long (-1), .long 0, .long ((a1).toInt64), .ref 317])) rfl ?_
      refine ev_cs (v := some (.int 0)) (G1 := ((hp2.1 ++ [Sum.inr (15, [])]), hp2.2 + 6)) [.long (-1), .long 0, .long ((a1).toInt64)] rfl rfl rfl rfl rfl rfl ?_ ?_
      · refine ev_n 3 (S' := (3, [(0, .long ((a1).toInt64)), (2, .long 0), (4, .long (-1))], [.int (lg_cmp ((a1).toInt64) (0))])) rfl ?_
        refine px_ev.p (S' := (6, [(0, .long ((a1).toInt64)), (2, .long 0), (4, .long (-1))], [])) rfl (px_ifF (t := 17) (cL_lt_F 0 rfl (by omega)) rfl) ?_
        refine ev_n 3 (S' := (10, [(0, .long ((a1).toInt64)), (2, .long 0), (4, .long (-1))], [.int (lg_cmp ((a1).toInt64) ((-1)))])) rfl ?_
        refine px_ev.p (S' := (17, [(0, .long ((a1).toInt64)), (2, .long 0), (4, .long (-1))], [])) rfl (px_ifT (t := 17) (cL_gt_T (-1) rfl (by omega)) rfl) ?_
        refine ev_n 1 (S' := (18, [(0, .long ((a1).toInt64)), (2, .long 0), (4, .long (-1))], [.int 0])) rfl ?_
        exact ev_ret rfl rfl rfl rfl
      refine ev_n 2 (S' := (22, [(0, .ref 317), (1, .int a1)], [.int 1, .ref 317])) rfl ?_
      refine ev_put rfl rfl (hx_app hp_at_317) rfl rfl (by decide +kernel) ?_
      refine ev_n 1 (S' := (26, [(0, .ref 317), (1, .int a1)], [.ref 317])) rfl ?_
      refine ev_get (v := .int 1) rfl rfl (hx_self (hx_app hp_at_317)) rfl ?_
      refine ev_n 3 (S' := (42, [(0, .ref 317), (1, .int a1)], [.long 0])) rfl ?_
      exact ev_ret rfl rfl rfl rfl
    refine ev_n 2 (S' := (1009, [(6, .long 0), (5, .int 1), (4, .int 0), (3, .ref 464), (2, .ref 317), (1, .ref 0), (0, .float 0)], [.ref 317])) rfl ?_
    refine ev_cv (v := some (.int 1)) (G1 := (((hp2.1 ++ [Sum.inr (15, [])]).set 317 (Sum.inr (12, (fs317.set 0 (.int 1))))), hp2.2 + 6)) [] rfl rfl rfl rfl (hx_self (hx_app hp_at_317)) rfl rfl rfl rfl ?_ ?_
    · refine ev_n 1 (S' := (1, [(0, .ref 317)], [.ref 317])) rfl ?_
      refine ev_get (v := .int 1) rfl rfl (hx_self (hx_app hp_at_317)) rfl ?_
      exact ev_ret rfl rfl rfl rfl
    refine ev_n 9 (S' := (26, [(4, .int 5), (6, .long 0), (5, .int 1), (3, .ref 464), (2, .ref 317), (1, .ref 0), (0, .float 0)], [.float 0, .int 5])) rfl ?_
    refine ev_sl (L := 5) (xs := xs) (v := 5) rfl rfl rfl ?_
    refine ev_n 4 (S' := (1372, [(4, .int 5), (6, .long 0), (5, .int 1), (3, .ref 464), (2, .ref 317), (1, .ref 0), (0, .float 0)], [.int 1])) rfl ?_
    exact ev_ret rfl rfl rfl rfl

set_option maxHeartbeats 4000000 in
set_option maxRecDepth 100000 in
theorem op_15 (xs : Nat → Int32) (b : Bool) (a0 a1 a2 a3 a4 : Int32) (h0 : xs 0 = a0) (h1 : xs 1 = a1) (h2 : xs 2 = a2) (h3 : xs 3 = a3) (h4 : xs 4 = a4) : ∃ G', px_ev cx_cl cx_fty cx_PM cx_na (cx_V (some (5, xs)) b) 1500 mxL (1038, [(4, .int 0), (3, .ref 464), (2, .ref 317), (1, .ref 0), (0, .float 0)], []) hp2 (Sum.inl (some (.int 1))) G' ∧ G'.1.length ≤ 600002 ∧ G'.2 ≤ 7302232 := by
  by_cases q0 : a1.toInt < 0
  · refine ⟨(((hp2.1 ++ [Sum.inr (15, [])]).set 317 (Sum.inr (12, (fs317.set 0 (.int 1))))), hp2.2 + 6), ?_, by simp only [List.length_append, List.length_set, List.length_cons, List.length_nil]; rw [hp2_len]; decide, by show hp2.2 + 6 ≤ _; rw [hp2_sl]; decide⟩
    refine ev_n 5 (S' := (1044, [(4, .int 0), (3, .ref 464), (2, .ref 317), (1, .ref 0), (0, .float 0)], [.int 1, .float 0, .ref 0])) rfl ?_
    refine ev_sc (L := 5) (xs := xs) (v := a1) rfl rfl (by decide) h1 ?_
    refine ev_n 1 (S' := (1046, [(4, .int 0), (3, .ref 464), (2, .ref 317), (1, .ref 0), (0, .float 0)], [.ref 464, .int a1, .ref 0])) rfl ?_
    refine ev_cs (v := some (.int 1)) (G1 := ((hp2.1 ++ [Sum.inr (15, [])]), hp2.2 + 6)) [.ref 464, .int a1, .ref 0] rfl rfl rfl rfl rfl rfl ?_ ?_
    · refine ev_n 4 (S' := (4, [(0, .ref 0), (1, .int a1), (2, .ref 464)], [.int a1, .ref 0, .int 0, .ref 464])) rfl ?_
      refine ev_cvx (x := 465) (G1 := ((hp2.1 ++ [Sum.inr (15, [])]), hp2.2 + 6)) (hpc := 12) [.int a1] rfl rfl rfl rfl hp_at_0 rfl rfl rfl rfl ?_ (hx_end (by decide +kernel)) (by decide +kernel) (by decide +kernel) ?_
      · refine ev_n 2 (S' := (2, [(0, .ref 0), (1, .int a1)], [.int a1, .ref 0])) rfl ?_
        refine ev_cvo (x := 465) (G1 := ((hp2.1 ++ [Sum.inr (15, [])]), hp2.2 + 6)) [.int a1] rfl rfl rfl rfl hp_at_0 rfl rfl rfl rfl ?_ (hx_end (by decide +kernel)) rfl
        · refine ev_n 1 (S' := (1, [(0, .ref 0), (1, .int a1)], [.int a1])) rfl ?_
          refine px_ev.p (S' := (15, [(0, .ref 0), (1, .int a1)], [])) rfl (px_ifT (t := 15) (cA_lt_T 0 rfl (by omega)) rfl) ?_
          exact ev_thr rfl rfl rfl (by decide +kernel) (by decide +kernel)
      refine ev_n 2 (S' := (14, [(3, .ref 465), (0, .ref 0), (1, .int a1), (2, .ref 464)], [.int 1])) rfl ?_
      exact ev_ret rfl rfl rfl rfl
    refine ev_n 6 (S' := (1057, [(5, .int 1), (4, .int 0), (3, .ref 464), (2, .ref 317), (1, .ref 0), (0, .float 0)], [.int 1, .float 0, .ref 317])) rfl ?_
    refine ev_sc (L := 5) (xs := xs) (v := a1) rfl rfl (by decide) h1 ?_
    refine ev_cv (v := some (.int 0)) (G1 := (((hp2.1 ++ [Sum.inr (15, [])]).set 317 (Sum.inr (12, (fs317.set 0 (.int 1))))), hp2.2 + 6)) [.int a1] rfl rfl rfl rfl (hx_app hp_at_317) rfl rfl rfl rfl ?_ ?_
    · refine ev_n 5 (S' := (5, [(0, .ref 317), (1, .int a1)], [.ref 317, .long 0, .long ((a1).toInt64), .ref 317])) rfl ?_
      refine ev_get (v := .int 0) rfl rfl (hx_app hp_at_317) rfl ?_
      refine ev_n 3 (S' := (11, [(0, .ref 317), (1, .int a1)], [.long (-1), .long 0, .long ((a1).toInt64), .ref 317])) rfl ?_
      refine ev_cs (v := some (.int 0)) (G1 := ((hp2.1 ++ [Sum.inr (15, [])]), hp2.2 + 6)) [.long (-1), .long 0, .long ((a1).toInt64)] rfl rfl rfl rfl rfl rfl ?_ ?_
      · refine ev_n 3 (S' := (3, [(0, .long ((a1).toInt64)), (2, .long 0), (4, .long (-1))], [.int (lg_cmp ((a1).toInt64) (0))])) rfl ?_
        refine px_ev.p (S' := (17, [(0, .long ((a1).toInt64)), (2, .long 0), (4, .long (-1))], [])) rfl (px_ifT (t := 17) (cL_lt_T 0 rfl (by omega)) rfl) ?_
        refine ev_n 1 (S' := (18, [(0, .long ((a1).toInt64)), (2, .long 0), (4, .long (-1))], [.int 0])) rfl ?_
        exact ev_ret rfl rfl rfl rfl
      refine ev_n 2 (S' := (22, [(0, .ref 317), (1, .int a1)], [.int 1, .ref 317])) rfl ?_
      refine ev_put rfl rfl (hx_app hp_at_317) rfl rfl (by decide +kernel) ?_
      refine ev_n 1 (S' := (26, [(0, .ref 317), (1, .int a1)], [.ref 317])) rfl ?_
      refine ev_get (v := .int 1) rfl rfl (hx_self (hx_app hp_at_317)) rfl ?_
      refine ev_n 3 (S' := (42, [(0, .ref 317), (1, .int a1)], [.int 0])) rfl ?_
      exact ev_ret rfl rfl rfl rfl
    refine ev_n 2 (S' := (1064, [(6, .int 0), (5, .int 1), (4, .int 0), (3, .ref 464), (2, .ref 317), (1, .ref 0), (0, .float 0)], [.ref 317])) rfl ?_
    refine ev_cv (v := some (.int 1)) (G1 := (((hp2.1 ++ [Sum.inr (15, [])]).set 317 (Sum.inr (12, (fs317.set 0 (.int 1))))), hp2.2 + 6)) [] rfl rfl rfl rfl (hx_self (hx_app hp_at_317)) rfl rfl rfl rfl ?_ ?_
    · refine ev_n 1 (S' := (1, [(0, .ref 317)], [.ref 317])) rfl ?_
      refine ev_get (v := .int 1) rfl rfl (hx_self (hx_app hp_at_317)) rfl ?_
      exact ev_ret rfl rfl rfl rfl
    refine ev_n 9 (S' := (26, [(4, .int 5), (6, .int 0), (5, .int 1), (3, .ref 464), (2, .ref 317), (1, .ref 0), (0, .float 0)], [.float 0, .int 5])) rfl ?_
    refine ev_sl (L := 5) (xs := xs) (v := 5) rfl rfl rfl ?_
    refine ev_n 4 (S' := (1372, [(4, .int 5), (6, .int 0), (5, .int 1), (3, .ref 464), (2, .ref 317), (1, .ref 0), (0, .float 0)], [.int 1])) rfl ?_
    exact ev_ret rfl rfl rfl rfl
  · refine ⟨(((hp2.1 ++ [Sum.inr (15, [])]).set 317 (Sum.inr (12, (fs317.set 0 (.int 1))))), hp2.2 + 6), ?_, by simp only [List.length_append, List.length_set, List.length_cons, List.length_nil]; rw [hp2_len]; decide, by show hp2.2 + 6 ≤ _; rw [hp2_sl]; decide⟩
    refine ev_n 5 (S' := (1044, [(4, .int 0), (3, .ref 464), (2, .ref 317), (1, .ref 0), (0, .float 0)], [.int 1, .float 0, .ref 0])) rfl ?_
    refine ev_sc (L := 5) (xs := xs) (v := a1) rfl rfl (by decide) h1 ?_
    refine ev_n 1 (S' := (1046, [(4, .int 0), (3, .ref 464), (2, .ref 317), (1, .ref 0), (0, .float 0)], [.ref 464, .int a1, .ref 0])) rfl ?_
    refine ev_cs (v := some (.int 1)) (G1 := ((hp2.1 ++ [Sum.inr (15, [])]), hp2.2 + 6)) [.ref 464, .int a1, .ref 0] rfl rfl rfl rfl rfl rfl ?_ ?_
    · refine ev_n 4 (S' := (4, [(0, .ref 0), (1, .int a1), (2, .ref 464)], [.int a1, .ref 0, .int 0, .ref 464])) rfl ?_
      refine ev_cvx (x := 465) (G1 := ((hp2.1 ++ [Sum.inr (15, [])]), hp2.2 + 6)) (hpc := 12) [.int a1] rfl rfl rfl rfl hp_at_0 rfl rfl rfl rfl ?_ (hx_end (by decide +kernel)) (by decide +kernel) (by decide +kernel) ?_
      · refine ev_n 2 (S' := (2, [(0, .ref 0), (1, .int a1)], [.int a1, .ref 0])) rfl ?_
        refine ev_cvo (x := 465) (G1 := ((hp2.1 ++ [Sum.inr (15, [])]), hp2.2 + 6)) [.int a1] rfl rfl rfl rfl hp_at_0 rfl rfl rfl rfl ?_ (hx_end (by decide +kernel)) rfl
        · refine ev_n 1 (S' := (1, [(0, .ref 0), (1, .int a1)], [.int a1])) rfl ?_
          refine px_ev.p (S' := (4, [(0, .ref 0), (1, .int a1)], [])) rfl (px_ifF (t := 15) (cA_lt_F 0 rfl (by omega)) rfl) ?_
          refine ev_n 2 (S' := (6, [(0, .ref 0), (1, .int a1)], [.ref 0, .int a1])) rfl ?_
          refine ev_get (v := .ref 90) rfl rfl hp_at_0 rfl ?_
          refine ev_get (v := .int 0) rfl rfl hp_at_90 rfl ?_
          refine px_ev.p (S' := (15, [(0, .ref 0), (1, .int a1)], [])) rfl (px_icF (t := 26) (cA_lt_F 0 rfl (by omega)) rfl) ?_
          exact ev_thr rfl rfl rfl (by decide +kernel) (by decide +kernel)
      refine ev_n 2 (S' := (14, [(3, .ref 465), (0, .ref 0), (1, .int a1), (2, .ref 464)], [.int 1])) rfl ?_
      exact ev_ret rfl rfl rfl rfl
    refine ev_n 6 (S' := (1057, [(5, .int 1), (4, .int 0), (3, .ref 464), (2, .ref 317), (1, .ref 0), (0, .float 0)], [.int 1, .float 0, .ref 317])) rfl ?_
    refine ev_sc (L := 5) (xs := xs) (v := a1) rfl rfl (by decide) h1 ?_
    refine ev_cv (v := some (.int 0)) (G1 := (((hp2.1 ++ [Sum.inr (15, [])]).set 317 (Sum.inr (12, (fs317.set 0 (.int 1))))), hp2.2 + 6)) [.int a1] rfl rfl rfl rfl (hx_app hp_at_317) rfl rfl rfl rfl ?_ ?_
    · refine ev_n 5 (S' := (5, [(0, .ref 317), (1, .int a1)], [.ref 317, .long 0, .long ((a1).toInt64), .ref 317])) rfl ?_
      refine ev_get (v := .int 0) rfl rfl (hx_app hp_at_317) rfl ?_
      refine ev_n 3 (S' := (11, [(0, .ref 317), (1, .int a1)], [.long (-1), .long 0, .long ((a1).toInt64), .ref 317])) rfl ?_
      refine ev_cs (v := some (.int 0)) (G1 := ((hp2.1 ++ [Sum.inr (15, [])]), hp2.2 + 6)) [.long (-1), .long 0, .long ((a1).toInt64)] rfl rfl rfl rfl rfl rfl ?_ ?_
      · refine ev_n 3 (S' := (3, [(0, .long ((a1).toInt64)), (2, .long 0), (4, .long (-1))], [.int (lg_cmp ((a1).toInt64) (0))])) rfl ?_
        refine px_ev.p (S' := (6, [(0, .long ((a1).toInt64)), (2, .long 0), (4, .long (-1))], [])) rfl (px_ifF (t := 17) (cL_lt_F 0 rfl (by omega)) rfl) ?_
        refine ev_n 3 (S' := (10, [(0, .long ((a1).toInt64)), (2, .long 0), (4, .long (-1))], [.int (lg_cmp ((a1).toInt64) ((-1)))])) rfl ?_
        refine px_ev.p (S' := (17, [(0, .long ((a1).toInt64)), (2, .long 0), (4, .long (-1))], [])) rfl (px_ifT (t := 17) (cL_gt_T (-1) rfl (by omega)) rfl) ?_
        refine ev_n 1 (S' := (18, [(0, .long ((a1).toInt64)), (2, .long 0), (4, .long (-1))], [.int 0])) rfl ?_
        exact ev_ret rfl rfl rfl rfl
      refine ev_n 2 (S' := (22, [(0, .ref 317), (1, .int a1)], [.int 1, .ref 317])) rfl ?_
      refine ev_put rfl rfl (hx_app hp_at_317) rfl rfl (by decide +kernel) ?_
      refine ev_n 1 (S' := (26, [(0, .ref 317), (1, .int a1)], [.ref 317])) rfl ?_
      refine ev_get (v := .int 1) rfl rfl (hx_self (hx_app hp_at_317)) rfl ?_
      refine ev_n 3 (S' := (42, [(0, .ref 317), (1, .int a1)], [.int 0])) rfl ?_
      exact ev_ret rfl rfl rfl rfl
    refine ev_n 2 (S' := (1064, [(6, .int 0), (5, .int 1), (4, .int 0), (3, .ref 464), (2, .ref 317), (1, .ref 0), (0, .float 0)], [.ref 317])) rfl ?_
    refine ev_cv (v := some (.int 1)) (G1 := (((hp2.1 ++ [Sum.inr (15, [])]).set 317 (Sum.inr (12, (fs317.set 0 (.int 1))))), hp2.2 + 6)) [] rfl rfl rfl rfl (hx_self (hx_app hp_at_317)) rfl rfl rfl rfl ?_ ?_
    · refine ev_n 1 (S' := (1, [(0, .ref 317)], [.ref 317])) rfl ?_
      refine ev_get (v := .int 1) rfl rfl (hx_self (hx_app hp_at_317)) rfl ?_
      exact ev_ret rfl rfl rfl rfl
    refine ev_n 9 (S' := (26, [(4, .int 5), (6, .int 0), (5, .int 1), (3, .ref 464), (2, .ref 317), (1, .ref 0), (0, .float 0)], [.float 0, .int 5])) rfl ?_
    refine ev_sl (L := 5) (xs := xs) (v := 5) rfl rfl rfl ?_
    refine ev_n 4 (S' := (1372, [(4, .int 5), (6, .int 0), (5, .int 1), (3, .ref 464), (2, .ref 317), (1, .ref 0), (0, .float 0)], [.int 1])) rfl ?_
    exact ev_ret rfl rfl rfl rfl

set_option maxHeartbeats 4000000 in
set_option maxRecDepth 100000 in
theorem op_16 (xs : Nat → Int32) (b : Bool) (a0 a1 a2 a3 a4 : Int32) (h0 : xs 0 = a0) (h1 : xs 1 = a1) (h2 : xs 2 = a2) (h3 : xs 3 = a3) (h4 : xs 4 = a4) : ∃ G', px_ev cx_cl cx_fty cx_PM cx_na (cx_V (some (5, xs)) b) 1500 mxL (1094, [(4, .int 0), (3, .ref 464), (2, .ref 317), (1, .ref 0), (0, .float 0)], []) hp2 (Sum.inl (some (.int 1))) G' ∧ G'.1.length ≤ 600002 ∧ G'.2 ≤ 7302232 := by
  by_cases q0 : a1.toInt = 0
  · obtain rfl : a1 = 0 := Int32.toInt_inj.mp q0
    refine ⟨(((hp2.1.set 464 (Sum.inl (1, 1, Sum.inr (Sum.inl (px_wr ar464 (0 : Int32).toNatClampNeg (0)))))).set 317 (Sum.inr (12, (fs317.set 0 (.int 0))))), hp2.2), ?_, by simp only [List.length_append, List.length_set, List.length_cons, List.length_nil]; rw [hp2_len]; decide, by show hp2.2 ≤ _; rw [hp2_sl]; decide⟩
    refine ev_n 5 (S' := (1100, [(4, .int 0), (3, .ref 464), (2, .ref 317), (1, .ref 0), (0, .float 0)], [.int 1, .float 0, .ref 0])) rfl ?_
    refine ev_sc (L := 5) (xs := xs) (v := 0) rfl rfl (by decide) h1 ?_
    refine ev_n 1 (S' := (1102, [(4, .int 0), (3, .ref 464), (2, .ref 317), (1, .ref 0), (0, .float 0)], [.ref 464, .int 0, .ref 0])) rfl ?_
    refine ev_cs (v := some (.int 0)) (G1 := ((hp2.1.set 464 (Sum.inl (1, 1, Sum.inr (Sum.inl (px_wr ar464 (0 : Int32).toNatClampNeg (0)))))), hp2.2)) [.ref 464, .int 0, .ref 0] rfl rfl rfl rfl rfl rfl ?_ ?_
    · refine ev_n 4 (S' := (4, [(0, .ref 0), (1, .int 0), (2, .ref 464)], [.int 0, .ref 0, .int 0, .ref 464])) rfl ?_
      refine ev_cv (v := some (.int 0)) (G1 := hp2) [.int 0] rfl rfl rfl rfl hp_at_0 rfl rfl rfl rfl ?_ ?_
      · refine ev_n 3 (S' := (37, [(0, .ref 0), (1, .int 0)], [.ref 0])) rfl ?_
        refine ev_get (v := .ref 90) rfl rfl hp_at_0 rfl ?_
        refine ev_get (v := .int 0) rfl rfl hp_at_90 rfl ?_
        exact ev_ret rfl rfl rfl rfl
      refine ev_n 1 (S' := (8, [(0, .ref 0), (1, .int 0), (2, .ref 464)], [.long 0, .int 0, .ref 464])) rfl ?_
      refine ev_lst rfl hp_at_464 (by decide) ?_
      refine ev_n 2 (S' := (16, [(0, .ref 0), (1, .int 0), (2, .ref 464)], [.int 0])) rfl ?_
      exact ev_ret rfl rfl rfl rfl
    refine ev_n 6 (S' := (1113, [(5, .int 0), (4, .int 0), (3, .ref 464), (2, .ref 317), (1, .ref 0), (0, .float 0)], [.int 1, .float 0, .ref 317])) rfl ?_
    refine ev_sc (L := 5) (xs := xs) (v := 0) rfl rfl (by decide) h1 ?_
    refine ev_cv (v := some (.int 0)) (G1 := (((hp2.1.set 464 (Sum.inl (1, 1, Sum.inr (Sum.inl (px_wr ar464 (0 : Int32).toNatClampNeg (0)))))).set 317 (Sum.inr (12, (fs317.set 0 (.int 0))))), hp2.2)) [.int 0] rfl rfl rfl rfl (hx_set hp_at_317 (by decide)) rfl rfl rfl rfl ?_ ?_
    · refine ev_n 4 (S' := (4, [(0, .ref 317), (1, .int 0)], [.long 0, .long 0, .ref 317])) rfl ?_
      refine ev_csl (v := 4) rfl rfl ?_
      refine ev_cs (v := some (.int 1)) (G1 := ((hp2.1.set 464 (Sum.inl (1, 1, Sum.inr (Sum.inl (px_wr ar464 (0 : Int32).toNatClampNeg (0)))))), hp2.2)) [.long 4, .long 0, .long 0] rfl rfl rfl rfl rfl rfl ?_ ?_
      · refine ev_n 10 (S' := (18, [(0, .long 0), (2, .long 0), (4, .long 4)], [.int 1])) rfl ?_
        exact ev_ret rfl rfl rfl rfl
      refine ev_n 3 (S' := (18, [(0, .ref 317), (1, .int 0)], [.int 0, .ref 317])) rfl ?_
      refine ev_put rfl rfl (hx_set hp_at_317 (by decide)) rfl rfl (by decide +kernel) ?_
      refine ev_n 1 (S' := (22, [(0, .ref 317), (1, .int 0)], [.ref 317])) rfl ?_
      refine ev_get (v := .int 0) rfl rfl (hx_self (hx_set hp_at_317 (by decide))) rfl ?_
      refine ev_n 4 (S' := (35, [(0, .ref 317), (1, .int 0)], [.ref 317])) rfl ?_
      refine ev_get (v := .int 0) rfl rfl (hx_self (hx_set hp_at_317 (by decide))) rfl ?_
      refine ev_n 1 (S' := (81, [(0, .ref 317), (1, .int 0)], [.int 0])) rfl ?_
      exact ev_ret rfl rfl rfl rfl
    refine ev_n 2 (S' := (1120, [(6, .int 0), (5, .int 0), (4, .int 0), (3, .ref 464), (2, .ref 317), (1, .ref 0), (0, .float 0)], [.ref 317])) rfl ?_
    refine ev_cv (v := some (.int 0)) (G1 := (((hp2.1.set 464 (Sum.inl (1, 1, Sum.inr (Sum.inl (px_wr ar464 (0 : Int32).toNatClampNeg (0)))))).set 317 (Sum.inr (12, (fs317.set 0 (.int 0))))), hp2.2)) [] rfl rfl rfl rfl (hx_self (hx_set hp_at_317 (by decide))) rfl rfl rfl rfl ?_ ?_
    · refine ev_n 1 (S' := (1, [(0, .ref 317)], [.ref 317])) rfl ?_
      refine ev_get (v := .int 0) rfl rfl (hx_self (hx_set hp_at_317 (by decide))) rfl ?_
      exact ev_ret rfl rfl rfl rfl
    refine ev_n 6 (S' := (1137, [(6, .int 0), (5, .int 0), (4, .int 0), (3, .ref 464), (2, .ref 317), (1, .ref 0), (0, .float 0)], [.int 0, .ref 464])) rfl ?_
    refine ev_lld (v := 0) rfl (hx_set (hx_self hp_at_464) (by decide)) (by decide) rfl ?_
    refine ev_n 9 (S' := (26, [(4, .int 5), (6, .int 0), (5, .int 0), (3, .ref 464), (2, .ref 317), (1, .ref 0), (0, .float 0)], [.float 0, .int 5])) rfl ?_
    refine ev_sl (L := 5) (xs := xs) (v := 5) rfl rfl rfl ?_
    refine ev_n 4 (S' := (1372, [(4, .int 5), (6, .int 0), (5, .int 0), (3, .ref 464), (2, .ref 317), (1, .ref 0), (0, .float 0)], [.int 1])) rfl ?_
    exact ev_ret rfl rfl rfl rfl
  · by_cases q1 : a1.toInt = 1
    · obtain rfl : a1 = 1 := Int32.toInt_inj.mp q1
      refine ⟨(((hp2.1.set 464 (Sum.inl (1, 1, Sum.inr (Sum.inl (px_wr ar464 (0 : Int32).toNatClampNeg ((-1))))))).set 317 (Sum.inr (12, (fs317.set 0 (.int 0))))), hp2.2), ?_, by simp only [List.length_append, List.length_set, List.length_cons, List.length_nil]; rw [hp2_len]; decide, by show hp2.2 ≤ _; rw [hp2_sl]; decide⟩
      refine ev_n 5 (S' := (1100, [(4, .int 0), (3, .ref 464), (2, .ref 317), (1, .ref 0), (0, .float 0)], [.int 1, .float 0, .ref 0])) rfl ?_
      refine ev_sc (L := 5) (xs := xs) (v := 1) rfl rfl (by decide) h1 ?_
      refine ev_n 1 (S' := (1102, [(4, .int 0), (3, .ref 464), (2, .ref 317), (1, .ref 0), (0, .float 0)], [.ref 464, .int 1, .ref 0])) rfl ?_
      refine ev_cs (v := some (.int 0)) (G1 := ((hp2.1.set 464 (Sum.inl (1, 1, Sum.inr (Sum.inl (px_wr ar464 (0 : Int32).toNatClampNeg ((-1))))))), hp2.2)) [.ref 464, .int 1, .ref 0] rfl rfl rfl rfl rfl rfl ?_ ?_
      · refine ev_n 4 (S' := (4, [(0, .ref 0), (1, .int 1), (2, .ref 464)], [.int 1, .ref 0, .int 0, .ref 464])) rfl ?_
        refine ev_cv (v := some (.int (-1))) (G1 := hp2) [.int 1] rfl rfl rfl rfl hp_at_0 rfl rfl rfl rfl ?_ ?_
        · refine ev_n 3 (S' := (45, [(0, .ref 0), (1, .int 1)], [.ref 0])) rfl ?_
          refine ev_get (v := .ref 90) rfl rfl hp_at_0 rfl ?_
          refine ev_get (v := .int (-1)) rfl rfl hp_at_90 rfl ?_
          exact ev_ret rfl rfl rfl rfl
        refine ev_n 1 (S' := (8, [(0, .ref 0), (1, .int 1), (2, .ref 464)], [.long (-1), .int 0, .ref 464])) rfl ?_
        refine ev_lst rfl hp_at_464 (by decide) ?_
        refine ev_n 2 (S' := (16, [(0, .ref 0), (1, .int 1), (2, .ref 464)], [.int 0])) rfl ?_
        exact ev_ret rfl rfl rfl rfl
      refine ev_n 6 (S' := (1113, [(5, .int 0), (4, .int 0), (3, .ref 464), (2, .ref 317), (1, .ref 0), (0, .float 0)], [.int 1, .float 0, .ref 317])) rfl ?_
      refine ev_sc (L := 5) (xs := xs) (v := 1) rfl rfl (by decide) h1 ?_
      refine ev_cv (v := some (.int (-1))) (G1 := (((hp2.1.set 464 (Sum.inl (1, 1, Sum.inr (Sum.inl (px_wr ar464 (0 : Int32).toNatClampNeg ((-1))))))).set 317 (Sum.inr (12, (fs317.set 0 (.int 0))))), hp2.2)) [.int 1] rfl rfl rfl rfl (hx_set hp_at_317 (by decide)) rfl rfl rfl rfl ?_ ?_
      · refine ev_n 4 (S' := (4, [(0, .ref 317), (1, .int 1)], [.long 0, .long 1, .ref 317])) rfl ?_
        refine ev_csl (v := 4) rfl rfl ?_
        refine ev_cs (v := some (.int 1)) (G1 := ((hp2.1.set 464 (Sum.inl (1, 1, Sum.inr (Sum.inl (px_wr ar464 (0 : Int32).toNatClampNeg ((-1))))))), hp2.2)) [.long 4, .long 0, .long 1] rfl rfl rfl rfl rfl rfl ?_ ?_
        · refine ev_n 10 (S' := (18, [(0, .long 1), (2, .long 0), (4, .long 4)], [.int 1])) rfl ?_
          exact ev_ret rfl rfl rfl rfl
        refine ev_n 3 (S' := (18, [(0, .ref 317), (1, .int 1)], [.int 0, .ref 317])) rfl ?_
        refine ev_put rfl rfl (hx_set hp_at_317 (by decide)) rfl rfl (by decide +kernel) ?_
        refine ev_n 1 (S' := (22, [(0, .ref 317), (1, .int 1)], [.ref 317])) rfl ?_
        refine ev_get (v := .int 0) rfl rfl (hx_self (hx_set hp_at_317 (by decide))) rfl ?_
        refine ev_n 7 (S' := (47, [(0, .ref 317), (1, .int 1)], [.ref 317])) rfl ?_
        refine ev_get (v := .int (-1)) rfl rfl (hx_self (hx_set hp_at_317 (by decide))) rfl ?_
        refine ev_n 1 (S' := (81, [(0, .ref 317), (1, .int 1)], [.int (-1)])) rfl ?_
        exact ev_ret rfl rfl rfl rfl
      refine ev_n 2 (S' := (1120, [(6, .int (-1)), (5, .int 0), (4, .int 0), (3, .ref 464), (2, .ref 317), (1, .ref 0), (0, .float 0)], [.ref 317])) rfl ?_
      refine ev_cv (v := some (.int 0)) (G1 := (((hp2.1.set 464 (Sum.inl (1, 1, Sum.inr (Sum.inl (px_wr ar464 (0 : Int32).toNatClampNeg ((-1))))))).set 317 (Sum.inr (12, (fs317.set 0 (.int 0))))), hp2.2)) [] rfl rfl rfl rfl (hx_self (hx_set hp_at_317 (by decide))) rfl rfl rfl rfl ?_ ?_
      · refine ev_n 1 (S' := (1, [(0, .ref 317)], [.ref 317])) rfl ?_
        refine ev_get (v := .int 0) rfl rfl (hx_self (hx_set hp_at_317 (by decide))) rfl ?_
        exact ev_ret rfl rfl rfl rfl
      refine ev_n 6 (S' := (1137, [(6, .int (-1)), (5, .int 0), (4, .int 0), (3, .ref 464), (2, .ref 317), (1, .ref 0), (0, .float 0)], [.int 0, .ref 464])) rfl ?_
      refine ev_lld (v := (-1)) rfl (hx_set (hx_self hp_at_464) (by decide)) (by decide) rfl ?_
      refine ev_n 9 (S' := (26, [(4, .int 5), (6, .int (-1)), (5, .int 0), (3, .ref 464), (2, .ref 317), (1, .ref 0), (0, .float 0)], [.float 0, .int 5])) rfl ?_
      refine ev_sl (L := 5) (xs := xs) (v := 5) rfl rfl rfl ?_
      refine ev_n 4 (S' := (1372, [(4, .int 5), (6, .int (-1)), (5, .int 0), (3, .ref 464), (2, .ref 317), (1, .ref 0), (0, .float 0)], [.int 1])) rfl ?_
      exact ev_ret rfl rfl rfl rfl
    · by_cases q2 : a1.toInt = 2
      · obtain rfl : a1 = 2 := Int32.toInt_inj.mp q2
        refine ⟨(((hp2.1.set 464 (Sum.inl (1, 1, Sum.inr (Sum.inl (px_wr ar464 (0 : Int32).toNatClampNeg (0)))))).set 317 (Sum.inr (12, (fs317.set 0 (.int 0))))), hp2.2), ?_, by simp only [List.length_append, List.length_set, List.length_cons, List.length_nil]; rw [hp2_len]; decide, by show hp2.2 ≤ _; rw [hp2_sl]; decide⟩
        refine ev_n 5 (S' := (1100, [(4, .int 0), (3, .ref 464), (2, .ref 317), (1, .ref 0), (0, .float 0)], [.int 1, .float 0, .ref 0])) rfl ?_
        refine ev_sc (L := 5) (xs := xs) (v := 2) rfl rfl (by decide) h1 ?_
        refine ev_n 1 (S' := (1102, [(4, .int 0), (3, .ref 464), (2, .ref 317), (1, .ref 0), (0, .float 0)], [.ref 464, .int 2, .ref 0])) rfl ?_
        refine ev_cs (v := some (.int 0)) (G1 := ((hp2.1.set 464 (Sum.inl (1, 1, Sum.inr (Sum.inl (px_wr ar464 (0 : Int32).toNatClampNeg (0)))))), hp2.2)) [.ref 464, .int 2, .ref 0] rfl rfl rfl rfl rfl rfl ?_ ?_
        · refine ev_n 4 (S' := (4, [(0, .ref 0), (1, .int 2), (2, .ref 464)], [.int 2, .ref 0, .int 0, .ref 464])) rfl ?_
          refine ev_cv (v := some (.int 0)) (G1 := hp2) [.int 2] rfl rfl rfl rfl hp_at_0 rfl rfl rfl rfl ?_ ?_
          · refine ev_n 3 (S' := (53, [(0, .ref 0), (1, .int 2)], [.ref 0])) rfl ?_
            refine ev_get (v := .ref 90) rfl rfl hp_at_0 rfl ?_
            refine ev_get (v := .int 0) rfl rfl hp_at_90 rfl ?_
            exact ev_ret rfl rfl rfl rfl
          refine ev_n 1 (S' := (8, [(0, .ref 0), (1, .int 2), (2, .ref 464)], [.long 0, .int 0, .ref 464])) rfl ?_
          refine ev_lst rfl hp_at_464 (by decide) ?_
          refine ev_n 2 (S' := (16, [(0, .ref 0), (1, .int 2), (2, .ref 464)], [.int 0])) rfl ?_
          exact ev_ret rfl rfl rfl rfl
        refine ev_n 6 (S' := (1113, [(5, .int 0), (4, .int 0), (3, .ref 464), (2, .ref 317), (1, .ref 0), (0, .float 0)], [.int 1, .float 0, .ref 317])) rfl ?_
        refine ev_sc (L := 5) (xs := xs) (v := 2) rfl rfl (by decide) h1 ?_
        refine ev_cv (v := some (.int 0)) (G1 := (((hp2.1.set 464 (Sum.inl (1, 1, Sum.inr (Sum.inl (px_wr ar464 (0 : Int32).toNatClampNeg (0)))))).set 317 (Sum.inr (12, (fs317.set 0 (.int 0))))), hp2.2)) [.int 2] rfl rfl rfl rfl (hx_set hp_at_317 (by decide)) rfl rfl rfl rfl ?_ ?_
        · refine ev_n 4 (S' := (4, [(0, .ref 317), (1, .int 2)], [.long 0, .long 2, .ref 317])) rfl ?_
          refine ev_csl (v := 4) rfl rfl ?_
          refine ev_cs (v := some (.int 1)) (G1 := ((hp2.1.set 464 (Sum.inl (1, 1, Sum.inr (Sum.inl (px_wr ar464 (0 : Int32).toNatClampNeg (0)))))), hp2.2)) [.long 4, .long 0, .long 2] rfl rfl rfl rfl rfl rfl ?_ ?_
          · refine ev_n 10 (S' := (18, [(0, .long 2), (2, .long 0), (4, .long 4)], [.int 1])) rfl ?_
            exact ev_ret rfl rfl rfl rfl
          refine ev_n 3 (S' := (18, [(0, .ref 317), (1, .int 2)], [.int 0, .ref 317])) rfl ?_
          refine ev_put rfl rfl (hx_set hp_at_317 (by decide)) rfl rfl (by decide +kernel) ?_
          refine ev_n 1 (S' := (22, [(0, .ref 317), (1, .int 2)], [.ref 317])) rfl ?_
          refine ev_get (v := .int 0) rfl rfl (hx_self (hx_set hp_at_317 (by decide))) rfl ?_
          refine ev_n 10 (S' := (59, [(0, .ref 317), (1, .int 2)], [.ref 317])) rfl ?_
          refine ev_get (v := .int 0) rfl rfl (hx_self (hx_set hp_at_317 (by decide))) rfl ?_
          refine ev_n 1 (S' := (81, [(0, .ref 317), (1, .int 2)], [.int 0])) rfl ?_
          exact ev_ret rfl rfl rfl rfl
        refine ev_n 2 (S' := (1120, [(6, .int 0), (5, .int 0), (4, .int 0), (3, .ref 464), (2, .ref 317), (1, .ref 0), (0, .float 0)], [.ref 317])) rfl ?_
        refine ev_cv (v := some (.int 0)) (G1 := (((hp2.1.set 464 (Sum.inl (1, 1, Sum.inr (Sum.inl (px_wr ar464 (0 : Int32).toNatClampNeg (0)))))).set 317 (Sum.inr (12, (fs317.set 0 (.int 0))))), hp2.2)) [] rfl rfl rfl rfl (hx_self (hx_set hp_at_317 (by decide))) rfl rfl rfl rfl ?_ ?_
        · refine ev_n 1 (S' := (1, [(0, .ref 317)], [.ref 317])) rfl ?_
          refine ev_get (v := .int 0) rfl rfl (hx_self (hx_set hp_at_317 (by decide))) rfl ?_
          exact ev_ret rfl rfl rfl rfl
        refine ev_n 6 (S' := (1137, [(6, .int 0), (5, .int 0), (4, .int 0), (3, .ref 464), (2, .ref 317), (1, .ref 0), (0, .float 0)], [.int 0, .ref 464])) rfl ?_
        refine ev_lld (v := 0) rfl (hx_set (hx_self hp_at_464) (by decide)) (by decide) rfl ?_
        refine ev_n 9 (S' := (26, [(4, .int 5), (6, .int 0), (5, .int 0), (3, .ref 464), (2, .ref 317), (1, .ref 0), (0, .float 0)], [.float 0, .int 5])) rfl ?_
        refine ev_sl (L := 5) (xs := xs) (v := 5) rfl rfl rfl ?_
        refine ev_n 4 (S' := (1372, [(4, .int 5), (6, .int 0), (5, .int 0), (3, .ref 464), (2, .ref 317), (1, .ref 0), (0, .float 0)], [.int 1])) rfl ?_
        exact ev_ret rfl rfl rfl rfl
      · by_cases q3 : a1.toInt = 3
        · obtain rfl : a1 = 3 := Int32.toInt_inj.mp q3
          refine ⟨(((hp2.1.set 464 (Sum.inl (1, 1, Sum.inr (Sum.inl (px_wr ar464 (0 : Int32).toNatClampNeg (0)))))).set 317 (Sum.inr (12, (fs317.set 0 (.int 0))))), hp2.2), ?_, by simp only [List.length_append, List.length_set, List.length_cons, List.length_nil]; rw [hp2_len]; decide, by show hp2.2 ≤ _; rw [hp2_sl]; decide⟩
          refine ev_n 5 (S' := (1100, [(4, .int 0), (3, .ref 464), (2, .ref 317), (1, .ref 0), (0, .float 0)], [.int 1, .float 0, .ref 0])) rfl ?_
          refine ev_sc (L := 5) (xs := xs) (v := 3) rfl rfl (by decide) h1 ?_
          refine ev_n 1 (S' := (1102, [(4, .int 0), (3, .ref 464), (2, .ref 317), (1, .ref 0), (0, .float 0)], [.ref 464, .int 3, .ref 0])) rfl ?_
          refine ev_cs (v := some (.int 0)) (G1 := ((hp2.1.set 464 (Sum.inl (1, 1, Sum.inr (Sum.inl (px_wr ar464 (0 : Int32).toNatClampNeg (0)))))), hp2.2)) [.ref 464, .int 3, .ref 0] rfl rfl rfl rfl rfl rfl ?_ ?_
          · refine ev_n 4 (S' := (4, [(0, .ref 0), (1, .int 3), (2, .ref 464)], [.int 3, .ref 0, .int 0, .ref 464])) rfl ?_
            refine ev_cv (v := some (.int 0)) (G1 := hp2) [.int 3] rfl rfl rfl rfl hp_at_0 rfl rfl rfl rfl ?_ ?_
            · refine ev_n 3 (S' := (61, [(0, .ref 0), (1, .int 3)], [.ref 0])) rfl ?_
              refine ev_get (v := .ref 90) rfl rfl hp_at_0 rfl ?_
              refine ev_get (v := .int 0) rfl rfl hp_at_90 rfl ?_
              exact ev_ret rfl rfl rfl rfl
            refine ev_n 1 (S' := (8, [(0, .ref 0), (1, .int 3), (2, .ref 464)], [.long 0, .int 0, .ref 464])) rfl ?_
            refine ev_lst rfl hp_at_464 (by decide) ?_
            refine ev_n 2 (S' := (16, [(0, .ref 0), (1, .int 3), (2, .ref 464)], [.int 0])) rfl ?_
            exact ev_ret rfl rfl rfl rfl
          refine ev_n 6 (S' := (1113, [(5, .int 0), (4, .int 0), (3, .ref 464), (2, .ref 317), (1, .ref 0), (0, .float 0)], [.int 1, .float 0, .ref 317])) rfl ?_
          refine ev_sc (L := 5) (xs := xs) (v := 3) rfl rfl (by decide) h1 ?_
          refine ev_cv (v := some (.int 0)) (G1 := (((hp2.1.set 464 (Sum.inl (1, 1, Sum.inr (Sum.inl (px_wr ar464 (0 : Int32).toNatClampNeg (0)))))).set 317 (Sum.inr (12, (fs317.set 0 (.int 0))))), hp2.2)) [.int 3] rfl rfl rfl rfl (hx_set hp_at_317 (by decide)) rfl rfl rfl rfl ?_ ?_
          · refine ev_n 4 (S' := (4, [(0, .ref 317), (1, .int 3)], [.long 0, .long 3, .ref 317])) rfl ?_
            refine ev_csl (v := 4) rfl rfl ?_
            refine ev_cs (v := some (.int 1)) (G1 := ((hp2.1.set 464 (Sum.inl (1, 1, Sum.inr (Sum.inl (px_wr ar464 (0 : Int32).toNatClampNeg (0)))))), hp2.2)) [.long 4, .long 0, .long 3] rfl rfl rfl rfl rfl rfl ?_ ?_
            · refine ev_n 10 (S' := (18, [(0, .long 3), (2, .long 0), (4, .long 4)], [.int 1])) rfl ?_
              exact ev_ret rfl rfl rfl rfl
            refine ev_n 3 (S' := (18, [(0, .ref 317), (1, .int 3)], [.int 0, .ref 317])) rfl ?_
            refine ev_put rfl rfl (hx_set hp_at_317 (by decide)) rfl rfl (by decide +kernel) ?_
            refine ev_n 1 (S' := (22, [(0, .ref 317), (1, .int 3)], [.ref 317])) rfl ?_
            refine ev_get (v := .int 0) rfl rfl (hx_self (hx_set hp_at_317 (by decide))) rfl ?_
            refine ev_n 13 (S' := (71, [(0, .ref 317), (1, .int 3)], [.ref 317])) rfl ?_
            refine ev_get (v := .int 0) rfl rfl (hx_self (hx_set hp_at_317 (by decide))) rfl ?_
            refine ev_n 1 (S' := (81, [(0, .ref 317), (1, .int 3)], [.int 0])) rfl ?_
            exact ev_ret rfl rfl rfl rfl
          refine ev_n 2 (S' := (1120, [(6, .int 0), (5, .int 0), (4, .int 0), (3, .ref 464), (2, .ref 317), (1, .ref 0), (0, .float 0)], [.ref 317])) rfl ?_
          refine ev_cv (v := some (.int 0)) (G1 := (((hp2.1.set 464 (Sum.inl (1, 1, Sum.inr (Sum.inl (px_wr ar464 (0 : Int32).toNatClampNeg (0)))))).set 317 (Sum.inr (12, (fs317.set 0 (.int 0))))), hp2.2)) [] rfl rfl rfl rfl (hx_self (hx_set hp_at_317 (by decide))) rfl rfl rfl rfl ?_ ?_
          · refine ev_n 1 (S' := (1, [(0, .ref 317)], [.ref 317])) rfl ?_
            refine ev_get (v := .int 0) rfl rfl (hx_self (hx_set hp_at_317 (by decide))) rfl ?_
            exact ev_ret rfl rfl rfl rfl
          refine ev_n 6 (S' := (1137, [(6, .int 0), (5, .int 0), (4, .int 0), (3, .ref 464), (2, .ref 317), (1, .ref 0), (0, .float 0)], [.int 0, .ref 464])) rfl ?_
          refine ev_lld (v := 0) rfl (hx_set (hx_self hp_at_464) (by decide)) (by decide) rfl ?_
          refine ev_n 9 (S' := (26, [(4, .int 5), (6, .int 0), (5, .int 0), (3, .ref 464), (2, .ref 317), (1, .ref 0), (0, .float 0)], [.float 0, .int 5])) rfl ?_
          refine ev_sl (L := 5) (xs := xs) (v := 5) rfl rfl rfl ?_
          refine ev_n 4 (S' := (1372, [(4, .int 5), (6, .int 0), (5, .int 0), (3, .ref 464), (2, .ref 317), (1, .ref 0), (0, .float 0)], [.int 1])) rfl ?_
          exact ev_ret rfl rfl rfl rfl
        · by_cases q4 : a1.toInt = 4
          · obtain rfl : a1 = 4 := Int32.toInt_inj.mp q4
            refine ⟨(((hp2.1.set 464 (Sum.inl (1, 1, Sum.inr (Sum.inl (px_wr ar464 (0 : Int32).toNatClampNeg (0)))))).set 317 (Sum.inr (12, (fs317.set 0 (.int 0))))), hp2.2), ?_, by simp only [List.length_append, List.length_set, List.length_cons, List.length_nil]; rw [hp2_len]; decide, by show hp2.2 ≤ _; rw [hp2_sl]; decide⟩
            refine ev_n 5 (S' := (1100, [(4, .int 0), (3, .ref 464), (2, .ref 317), (1, .ref 0), (0, .float 0)], [.int 1, .float 0, .ref 0])) rfl ?_
            refine ev_sc (L := 5) (xs := xs) (v := 4) rfl rfl (by decide) h1 ?_
            refine ev_n 1 (S' := (1102, [(4, .int 0), (3, .ref 464), (2, .ref 317), (1, .ref 0), (0, .float 0)], [.ref 464, .int 4, .ref 0])) rfl ?_
            refine ev_cs (v := some (.int 0)) (G1 := ((hp2.1.set 464 (Sum.inl (1, 1, Sum.inr (Sum.inl (px_wr ar464 (0 : Int32).toNatClampNeg (0)))))), hp2.2)) [.ref 464, .int 4, .ref 0] rfl rfl rfl rfl rfl rfl ?_ ?_
            · refine ev_n 4 (S' := (4, [(0, .ref 0), (1, .int 4), (2, .ref 464)], [.int 4, .ref 0, .int 0, .ref 464])) rfl ?_
              refine ev_cv (v := some (.int 0)) (G1 := hp2) [.int 4] rfl rfl rfl rfl hp_at_0 rfl rfl rfl rfl ?_ ?_
              · refine ev_n 3 (S' := (69, [(0, .ref 0), (1, .int 4)], [.ref 0])) rfl ?_
                refine ev_get (v := .ref 90) rfl rfl hp_at_0 rfl ?_
                refine ev_get (v := .int 0) rfl rfl hp_at_90 rfl ?_
                exact ev_ret rfl rfl rfl rfl
              refine ev_n 1 (S' := (8, [(0, .ref 0), (1, .int 4), (2, .ref 464)], [.long 0, .int 0, .ref 464])) rfl ?_
              refine ev_lst rfl hp_at_464 (by decide) ?_
              refine ev_n 2 (S' := (16, [(0, .ref 0), (1, .int 4), (2, .ref 464)], [.int 0])) rfl ?_
              exact ev_ret rfl rfl rfl rfl
            refine ev_n 6 (S' := (1113, [(5, .int 0), (4, .int 0), (3, .ref 464), (2, .ref 317), (1, .ref 0), (0, .float 0)], [.int 1, .float 0, .ref 317])) rfl ?_
            refine ev_sc (L := 5) (xs := xs) (v := 4) rfl rfl (by decide) h1 ?_
            refine ev_cv (v := some (.int 0)) (G1 := (((hp2.1.set 464 (Sum.inl (1, 1, Sum.inr (Sum.inl (px_wr ar464 (0 : Int32).toNatClampNeg (0)))))).set 317 (Sum.inr (12, (fs317.set 0 (.int 0))))), hp2.2)) [.int 4] rfl rfl rfl rfl (hx_set hp_at_317 (by decide)) rfl rfl rfl rfl ?_ ?_
            · refine ev_n 4 (S' := (4, [(0, .ref 317), (1, .int 4)], [.long 0, .long 4, .ref 317])) rfl ?_
              refine ev_csl (v := 4) rfl rfl ?_
              refine ev_cs (v := some (.int 1)) (G1 := ((hp2.1.set 464 (Sum.inl (1, 1, Sum.inr (Sum.inl (px_wr ar464 (0 : Int32).toNatClampNeg (0)))))), hp2.2)) [.long 4, .long 0, .long 4] rfl rfl rfl rfl rfl rfl ?_ ?_
              · refine ev_n 10 (S' := (18, [(0, .long 4), (2, .long 0), (4, .long 4)], [.int 1])) rfl ?_
                exact ev_ret rfl rfl rfl rfl
              refine ev_n 3 (S' := (18, [(0, .ref 317), (1, .int 4)], [.int 0, .ref 317])) rfl ?_
              refine ev_put rfl rfl (hx_set hp_at_317 (by decide)) rfl rfl (by decide +kernel) ?_
              refine ev_n 1 (S' := (22, [(0, .ref 317), (1, .int 4)], [.ref 317])) rfl ?_
              refine ev_get (v := .int 0) rfl rfl (hx_self (hx_set hp_at_317 (by decide))) rfl ?_
              refine ev_n 13 (S' := (78, [(0, .ref 317), (1, .int 4)], [.ref 317])) rfl ?_
              refine ev_get (v := .int 0) rfl rfl (hx_self (hx_set hp_at_317 (by decide))) rfl ?_
              exact ev_ret rfl rfl rfl rfl
            refine ev_n 2 (S' := (1120, [(6, .int 0), (5, .int 0), (4, .int 0), (3, .ref 464), (2, .ref 317), (1, .ref 0), (0, .float 0)], [.ref 317])) rfl ?_
            refine ev_cv (v := some (.int 0)) (G1 := (((hp2.1.set 464 (Sum.inl (1, 1, Sum.inr (Sum.inl (px_wr ar464 (0 : Int32).toNatClampNeg (0)))))).set 317 (Sum.inr (12, (fs317.set 0 (.int 0))))), hp2.2)) [] rfl rfl rfl rfl (hx_self (hx_set hp_at_317 (by decide))) rfl rfl rfl rfl ?_ ?_
            · refine ev_n 1 (S' := (1, [(0, .ref 317)], [.ref 317])) rfl ?_
              refine ev_get (v := .int 0) rfl rfl (hx_self (hx_set hp_at_317 (by decide))) rfl ?_
              exact ev_ret rfl rfl rfl rfl
            refine ev_n 6 (S' := (1137, [(6, .int 0), (5, .int 0), (4, .int 0), (3, .ref 464), (2, .ref 317), (1, .ref 0), (0, .float 0)], [.int 0, .ref 464])) rfl ?_
            refine ev_lld (v := 0) rfl (hx_set (hx_self hp_at_464) (by decide)) (by decide) rfl ?_
            refine ev_n 9 (S' := (26, [(4, .int 5), (6, .int 0), (5, .int 0), (3, .ref 464), (2, .ref 317), (1, .ref 0), (0, .float 0)], [.float 0, .int 5])) rfl ?_
            refine ev_sl (L := 5) (xs := xs) (v := 5) rfl rfl rfl ?_
            refine ev_n 4 (S' := (1372, [(4, .int 5), (6, .int 0), (5, .int 0), (3, .ref 464), (2, .ref 317), (1, .ref 0), (0, .float 0)], [.int 1])) rfl ?_
            exact ev_ret rfl rfl rfl rfl
          · by_cases q5 : a1.toInt < 0
            · refine ⟨(((hp2.1 ++ [Sum.inr (14, [])]).set 317 (Sum.inr (12, (fs317.set 0 (.int 1))))), hp2.2 + 6), ?_, by simp only [List.length_append, List.length_set, List.length_cons, List.length_nil]; rw [hp2_len]; decide, by show hp2.2 + 6 ≤ _; rw [hp2_sl]; decide⟩
              refine ev_n 5 (S' := (1100, [(4, .int 0), (3, .ref 464), (2, .ref 317), (1, .ref 0), (0, .float 0)], [.int 1, .float 0, .ref 0])) rfl ?_
              refine ev_sc (L := 5) (xs := xs) (v := a1) rfl rfl (by decide) h1 ?_
              refine ev_n 1 (S' := (1102, [(4, .int 0), (3, .ref 464), (2, .ref 317), (1, .ref 0), (0, .float 0)], [.ref 464, .int a1, .ref 0])) rfl ?_
              refine ev_cs (v := some (.int 1)) (G1 := ((hp2.1 ++ [Sum.inr (14, [])]), hp2.2 + 6)) [.ref 464, .int a1, .ref 0] rfl rfl rfl rfl rfl rfl ?_ ?_
              · refine ev_n 4 (S' := (4, [(0, .ref 0), (1, .int a1), (2, .ref 464)], [.int a1, .ref 0, .int 0, .ref 464])) rfl ?_
                refine ev_cvx (x := 465) (G1 := ((hp2.1 ++ [Sum.inr (14, [])]), hp2.2 + 6)) (hpc := 12) [.int a1] rfl rfl rfl rfl hp_at_0 rfl rfl rfl rfl ?_ (hx_end (by decide +kernel)) (by decide +kernel) (by decide +kernel) ?_
                · refine ev_n 1 (S' := (1, [(0, .ref 0), (1, .int a1)], [.int a1])) rfl ?_
                  refine px_ev.p (S' := (76, [(0, .ref 0), (1, .int a1)], [])) rfl (px_tswO (by omega) rfl) ?_
                  exact ev_thr rfl rfl rfl (by decide +kernel) (by decide +kernel)
                refine ev_n 2 (S' := (14, [(3, .ref 465), (0, .ref 0), (1, .int a1), (2, .ref 464)], [.int 1])) rfl ?_
                exact ev_ret rfl rfl rfl rfl
              refine ev_n 6 (S' := (1113, [(5, .int 1), (4, .int 0), (3, .ref 464), (2, .ref 317), (1, .ref 0), (0, .float 0)], [.int 1, .float 0, .ref 317])) rfl ?_
              refine ev_sc (L := 5) (xs := xs) (v := a1) rfl rfl (by decide) h1 ?_
              refine ev_cv (v := some (.int 0)) (G1 := (((hp2.1 ++ [Sum.inr (14, [])]).set 317 (Sum.inr (12, (fs317.set 0 (.int 1))))), hp2.2 + 6)) [.int a1] rfl rfl rfl rfl (hx_app hp_at_317) rfl rfl rfl rfl ?_ ?_
              · refine ev_n 4 (S' := (4, [(0, .ref 317), (1, .int a1)], [.long 0, .long ((a1).toInt64), .ref 317])) rfl ?_
                refine ev_csl (v := 4) rfl rfl ?_
                refine ev_cs (v := some (.int 0)) (G1 := ((hp2.1 ++ [Sum.inr (14, [])]), hp2.2 + 6)) [.long 4, .long 0, .long ((a1).toInt64)] rfl rfl rfl rfl rfl rfl ?_ ?_
                · refine ev_n 3 (S' := (3, [(0, .long ((a1).toInt64)), (2, .long 0), (4, .long 4)], [.int (lg_cmp ((a1).toInt64) (0))])) rfl ?_
                  refine px_ev.p (S' := (17, [(0, .long ((a1).toInt64)), (2, .long 0), (4, .long 4)], [])) rfl (px_ifT (t := 17) (cL_lt_T 0 rfl (by omega)) rfl) ?_
                  refine ev_n 1 (S' := (18, [(0, .long ((a1).toInt64)), (2, .long 0), (4, .long 4)], [.int 0])) rfl ?_
                  exact ev_ret rfl rfl rfl rfl
                refine ev_n 2 (S' := (18, [(0, .ref 317), (1, .int a1)], [.int 1, .ref 317])) rfl ?_
                refine ev_put rfl rfl (hx_app hp_at_317) rfl rfl (by decide +kernel) ?_
                refine ev_n 1 (S' := (22, [(0, .ref 317), (1, .int a1)], [.ref 317])) rfl ?_
                refine ev_get (v := .int 1) rfl rfl (hx_self (hx_app hp_at_317)) rfl ?_
                refine ev_n 2 (S' := (29, [(0, .ref 317), (1, .int a1)], [.int 0])) rfl ?_
                exact ev_ret rfl rfl rfl rfl
              refine ev_n 2 (S' := (1120, [(6, .int 0), (5, .int 1), (4, .int 0), (3, .ref 464), (2, .ref 317), (1, .ref 0), (0, .float 0)], [.ref 317])) rfl ?_
              refine ev_cv (v := some (.int 1)) (G1 := (((hp2.1 ++ [Sum.inr (14, [])]).set 317 (Sum.inr (12, (fs317.set 0 (.int 1))))), hp2.2 + 6)) [] rfl rfl rfl rfl (hx_self (hx_app hp_at_317)) rfl rfl rfl rfl ?_ ?_
              · refine ev_n 1 (S' := (1, [(0, .ref 317)], [.ref 317])) rfl ?_
                refine ev_get (v := .int 1) rfl rfl (hx_self (hx_app hp_at_317)) rfl ?_
                exact ev_ret rfl rfl rfl rfl
              refine ev_n 9 (S' := (26, [(4, .int 5), (6, .int 0), (5, .int 1), (3, .ref 464), (2, .ref 317), (1, .ref 0), (0, .float 0)], [.float 0, .int 5])) rfl ?_
              refine ev_sl (L := 5) (xs := xs) (v := 5) rfl rfl rfl ?_
              refine ev_n 4 (S' := (1372, [(4, .int 5), (6, .int 0), (5, .int 1), (3, .ref 464), (2, .ref 317), (1, .ref 0), (0, .float 0)], [.int 1])) rfl ?_
              exact ev_ret rfl rfl rfl rfl
            · refine ⟨(((hp2.1 ++ [Sum.inr (14, [])]).set 317 (Sum.inr (12, (fs317.set 0 (.int 1))))), hp2.2 + 6), ?_, by simp only [List.length_append, List.length_set, List.length_cons, List.length_nil]; rw [hp2_len]; decide, by show hp2.2 + 6 ≤ _; rw [hp2_sl]; decide⟩
              refine ev_n 5 (S' := (1100, [(4, .int 0), (3, .ref 464), (2, .ref 317), (1, .ref 0), (0, .float 0)], [.int 1, .float 0, .ref 0])) rfl ?_
              refine ev_sc (L := 5) (xs := xs) (v := a1) rfl rfl (by decide) h1 ?_
              refine ev_n 1 (S' := (1102, [(4, .int 0), (3, .ref 464), (2, .ref 317), (1, .ref 0), (0, .float 0)], [.ref 464, .int a1, .ref 0])) rfl ?_
              refine ev_cs (v := some (.int 1)) (G1 := ((hp2.1 ++ [Sum.inr (14, [])]), hp2.2 + 6)) [.ref 464, .int a1, .ref 0] rfl rfl rfl rfl rfl rfl ?_ ?_
              · refine ev_n 4 (S' := (4, [(0, .ref 0), (1, .int a1), (2, .ref 464)], [.int a1, .ref 0, .int 0, .ref 464])) rfl ?_
                refine ev_cvx (x := 465) (G1 := ((hp2.1 ++ [Sum.inr (14, [])]), hp2.2 + 6)) (hpc := 12) [.int a1] rfl rfl rfl rfl hp_at_0 rfl rfl rfl rfl ?_ (hx_end (by decide +kernel)) (by decide +kernel) (by decide +kernel) ?_
                · refine ev_n 1 (S' := (1, [(0, .ref 0), (1, .int a1)], [.int a1])) rfl ?_
                  refine px_ev.p (S' := (76, [(0, .ref 0), (1, .int a1)], [])) rfl (px_tswO (by omega) rfl) ?_
                  exact ev_thr rfl rfl rfl (by decide +kernel) (by decide +kernel)
                refine ev_n 2 (S' := (14, [(3, .ref 465), (0, .ref 0), (1, .int a1), (2, .ref 464)], [.int 1])) rfl ?_
                exact ev_ret rfl rfl rfl rfl
              refine ev_n 6 (S' := (1113, [(5, .int 1), (4, .int 0), (3, .ref 464), (2, .ref 317), (1, .ref 0), (0, .float 0)], [.int 1, .float 0, .ref 317])) rfl ?_
              refine ev_sc (L := 5) (xs := xs) (v := a1) rfl rfl (by decide) h1 ?_
              refine ev_cv (v := some (.int 0)) (G1 := (((hp2.1 ++ [Sum.inr (14, [])]).set 317 (Sum.inr (12, (fs317.set 0 (.int 1))))), hp2.2 + 6)) [.int a1] rfl rfl rfl rfl (hx_app hp_at_317) rfl rfl rfl rfl ?_ ?_
              · refine ev_n 4 (S' := (4, [(0, .ref 317), (1, .int a1)], [.long 0, .long ((a1).toInt64), .ref 317])) rfl ?_
                refine ev_csl (v := 4) rfl rfl ?_
                refine ev_cs (v := some (.int 0)) (G1 := ((hp2.1 ++ [Sum.inr (14, [])]), hp2.2 + 6)) [.long 4, .long 0, .long ((a1).toInt64)] rfl rfl rfl rfl rfl rfl ?_ ?_
                · refine ev_n 3 (S' := (3, [(0, .long ((a1).toInt64)), (2, .long 0), (4, .long 4)], [.int (lg_cmp ((a1).toInt64) (0))])) rfl ?_
                  refine px_ev.p (S' := (6, [(0, .long ((a1).toInt64)), (2, .long 0), (4, .long 4)], [])) rfl (px_ifF (t := 17) (cL_lt_F 0 rfl (by omega)) rfl) ?_
                  refine ev_n 3 (S' := (10, [(0, .long ((a1).toInt64)), (2, .long 0), (4, .long 4)], [.int (lg_cmp ((a1).toInt64) (4))])) rfl ?_
                  refine px_ev.p (S' := (17, [(0, .long ((a1).toInt64)), (2, .long 0), (4, .long 4)], [])) rfl (px_ifT (t := 17) (cL_gt_T 4 rfl (by omega)) rfl) ?_
                  refine ev_n 1 (S' := (18, [(0, .long ((a1).toInt64)), (2, .long 0), (4, .long 4)], [.int 0])) rfl ?_
                  exact ev_ret rfl rfl rfl rfl
                refine ev_n 2 (S' := (18, [(0, .ref 317), (1, .int a1)], [.int 1, .ref 317])) rfl ?_
                refine ev_put rfl rfl (hx_app hp_at_317) rfl rfl (by decide +kernel) ?_
                refine ev_n 1 (S' := (22, [(0, .ref 317), (1, .int a1)], [.ref 317])) rfl ?_
                refine ev_get (v := .int 1) rfl rfl (hx_self (hx_app hp_at_317)) rfl ?_
                refine ev_n 2 (S' := (29, [(0, .ref 317), (1, .int a1)], [.int 0])) rfl ?_
                exact ev_ret rfl rfl rfl rfl
              refine ev_n 2 (S' := (1120, [(6, .int 0), (5, .int 1), (4, .int 0), (3, .ref 464), (2, .ref 317), (1, .ref 0), (0, .float 0)], [.ref 317])) rfl ?_
              refine ev_cv (v := some (.int 1)) (G1 := (((hp2.1 ++ [Sum.inr (14, [])]).set 317 (Sum.inr (12, (fs317.set 0 (.int 1))))), hp2.2 + 6)) [] rfl rfl rfl rfl (hx_self (hx_app hp_at_317)) rfl rfl rfl rfl ?_ ?_
              · refine ev_n 1 (S' := (1, [(0, .ref 317)], [.ref 317])) rfl ?_
                refine ev_get (v := .int 1) rfl rfl (hx_self (hx_app hp_at_317)) rfl ?_
                exact ev_ret rfl rfl rfl rfl
              refine ev_n 9 (S' := (26, [(4, .int 5), (6, .int 0), (5, .int 1), (3, .ref 464), (2, .ref 317), (1, .ref 0), (0, .float 0)], [.float 0, .int 5])) rfl ?_
              refine ev_sl (L := 5) (xs := xs) (v := 5) rfl rfl rfl ?_
              refine ev_n 4 (S' := (1372, [(4, .int 5), (6, .int 0), (5, .int 1), (3, .ref 464), (2, .ref 317), (1, .ref 0), (0, .float 0)], [.int 1])) rfl ?_
              exact ev_ret rfl rfl rfl rfl

set_option maxHeartbeats 4000000 in
set_option maxRecDepth 100000 in
theorem op_17 (xs : Nat → Int32) (b : Bool) (a0 a1 a2 a3 a4 : Int32) (h0 : xs 0 = a0) (h1 : xs 1 = a1) (h2 : xs 2 = a2) (h3 : xs 3 = a3) (h4 : xs 4 = a4) : ∃ G', px_ev cx_cl cx_fty cx_PM cx_na (cx_V (some (5, xs)) b) 1500 mxL (1150, [(4, .int 0), (3, .ref 464), (2, .ref 317), (1, .ref 0), (0, .float 0)], []) hp2 (Sum.inl (some (.int 1))) G' ∧ G'.1.length ≤ 600002 ∧ G'.2 ≤ 7302232 := by
  by_cases q0 : a1.toInt < 0
  · refine ⟨(((hp2.1 ++ [Sum.inr (15, [])]).set 317 (Sum.inr (12, (fs317.set 0 (.int 1))))), hp2.2 + 6), ?_, by simp only [List.length_append, List.length_set, List.length_cons, List.length_nil]; rw [hp2_len]; decide, by show hp2.2 + 6 ≤ _; rw [hp2_sl]; decide⟩
    refine ev_n 5 (S' := (1156, [(4, .int 0), (3, .ref 464), (2, .ref 317), (1, .ref 0), (0, .float 0)], [.int 1, .float 0, .ref 0])) rfl ?_
    refine ev_sc (L := 5) (xs := xs) (v := a1) rfl rfl (by decide) h1 ?_
    refine ev_n 4 (S' := (1162, [(4, .int 0), (3, .ref 464), (2, .ref 317), (1, .ref 0), (0, .float 0)], [.int 2, .float 0, .int a1, .ref 0])) rfl ?_
    refine ev_sc (L := 5) (xs := xs) (v := a2) rfl rfl (by decide) h2 ?_
    refine ev_n 4 (S' := (1168, [(4, .int 0), (3, .ref 464), (2, .ref 317), (1, .ref 0), (0, .float 0)], [.int 3, .float 0, .int a2, .int a1, .ref 0])) rfl ?_
    refine ev_sc (L := 5) (xs := xs) (v := a3) rfl rfl (by decide) h3 ?_
    refine ev_n 1 (S' := (1170, [(4, .int 0), (3, .ref 464), (2, .ref 317), (1, .ref 0), (0, .float 0)], [.ref 464, .int a3, .int a2, .int a1, .ref 0])) rfl ?_
    refine ev_cs (v := some (.int 1)) (G1 := ((hp2.1 ++ [Sum.inr (15, [])]), hp2.2 + 6)) [.ref 464, .int a3, .int a2, .int a1, .ref 0] rfl rfl rfl rfl rfl rfl ?_ ?_
    · refine ev_n 6 (S' := (7, [(0, .ref 0), (1, .int a1), (2, .int a2), (3, .int a3), (4, .ref 464)], [.int a3, .int a2, .int a1, .ref 0, .int 0, .ref 464])) rfl ?_
      refine ev_cvx (x := 465) (G1 := ((hp2.1 ++ [Sum.inr (15, [])]), hp2.2 + 6)) (hpc := 15) [.int a3, .int a2, .int a1] rfl rfl rfl rfl hp_at_0 rfl rfl rfl rfl ?_ (hx_end (by decide +kernel)) (by decide +kernel) (by decide +kernel) ?_
      · refine ev_n 2 (S' := (2, [(0, .ref 0), (1, .int a1), (2, .int a2), (3, .int a3)], [.int a1, .ref 0])) rfl ?_
        refine ev_cvo (x := 465) (G1 := ((hp2.1 ++ [Sum.inr (15, [])]), hp2.2 + 6)) [.int a1] rfl rfl rfl rfl hp_at_0 rfl rfl rfl rfl ?_ (hx_end (by decide +kernel)) rfl
        · refine ev_n 1 (S' := (1, [(0, .ref 0), (1, .int a1)], [.int a1])) rfl ?_
          refine px_ev.p (S' := (12, [(0, .ref 0), (1, .int a1)], [])) rfl (px_ifT (t := 12) (cA_lt_T 0 rfl (by omega)) rfl) ?_
          exact ev_thr rfl rfl rfl (by decide +kernel) (by decide +kernel)
      refine ev_n 2 (S' := (18, [(5, .ref 465), (0, .ref 0), (1, .int a1), (2, .int a2), (3, .int a3), (4, .ref 464)], [.int 1])) rfl ?_
      exact ev_ret rfl rfl rfl rfl
    refine ev_n 6 (S' := (1181, [(5, .int 1), (4, .int 0), (3, .ref 464), (2, .ref 317), (1, .ref 0), (0, .float 0)], [.int 1, .float 0, .ref 317])) rfl ?_
    refine ev_sc (L := 5) (xs := xs) (v := a1) rfl rfl (by decide) h1 ?_
    refine ev_n 4 (S' := (1187, [(5, .int 1), (4, .int 0), (3, .ref 464), (2, .ref 317), (1, .ref 0), (0, .float 0)], [.int 2, .float 0, .int a1, .ref 317])) rfl ?_
    refine ev_sc (L := 5) (xs := xs) (v := a2) rfl rfl (by decide) h2 ?_
    refine ev_n 4 (S' := (1193, [(5, .int 1), (4, .int 0), (3, .ref 464), (2, .ref 317), (1, .ref 0), (0, .float 0)], [.int 3, .float 0, .int a2, .int a1, .ref 317])) rfl ?_
    refine ev_sc (L := 5) (xs := xs) (v := a3) rfl rfl (by decide) h3 ?_
    refine ev_cv (v := some (.int 0)) (G1 := (((hp2.1 ++ [Sum.inr (15, [])]).set 317 (Sum.inr (12, (fs317.set 0 (.int 1))))), hp2.2 + 6)) [.int a3, .int a2, .int a1] rfl rfl rfl rfl (hx_app hp_at_317) rfl rfl rfl rfl ?_ ?_
    · refine ev_n 3 (S' := (3, [(0, .ref 317), (1, .int a1), (2, .int a2), (3, .int a3)], [.int a1, .ref 317, .ref 317])) rfl ?_
      refine ev_cv (v := some (.int 0)) (G1 := ((hp2.1 ++ [Sum.inr (15, [])]), hp2.2 + 6)) [.int a1] rfl rfl rfl rfl (hx_app hp_at_317) rfl rfl rfl rfl ?_ ?_
      · refine ev_n 4 (S' := (4, [(0, .ref 317), (1, .int a1)], [.ref 317, .long 0, .long ((a1).toInt64)])) rfl ?_
        refine ev_get (v := .int 0) rfl rfl (hx_app hp_at_317) rfl ?_
        refine ev_n 3 (S' := (10, [(0, .ref 317), (1, .int a1)], [.long (-1), .long 0, .long ((a1).toInt64)])) rfl ?_
        refine ev_cs (v := some (.int 0)) (G1 := ((hp2.1 ++ [Sum.inr (15, [])]), hp2.2 + 6)) [.long (-1), .long 0, .long ((a1).toInt64)] rfl rfl rfl rfl rfl rfl ?_ ?_
        · refine ev_n 3 (S' := (3, [(0, .long ((a1).toInt64)), (2, .long 0), (4, .long (-1))], [.int (lg_cmp ((a1).toInt64) (0))])) rfl ?_
          refine px_ev.p (S' := (17, [(0, .long ((a1).toInt64)), (2, .long 0), (4, .long (-1))], [])) rfl (px_ifT (t := 17) (cL_lt_T 0 rfl (by omega)) rfl) ?_
          refine ev_n 1 (S' := (18, [(0, .long ((a1).toInt64)), (2, .long 0), (4, .long (-1))], [.int 0])) rfl ?_
          exact ev_ret rfl rfl rfl rfl
        exact ev_ret rfl rfl rfl rfl
      refine ev_n 3 (S' := (42, [(0, .ref 317), (1, .int a1), (2, .int a2), (3, .int a3)], [.int 1, .ref 317])) rfl ?_
      refine ev_put rfl rfl (hx_app hp_at_317) rfl rfl (by decide +kernel) ?_
      refine ev_n 1 (S' := (46, [(0, .ref 317), (1, .int a1), (2, .int a2), (3, .int a3)], [.ref 317])) rfl ?_
      refine ev_get (v := .int 1) rfl rfl (hx_self (hx_app hp_at_317)) rfl ?_
      refine ev_n 2 (S' := (53, [(0, .ref 317), (1, .int a1), (2, .int a2), (3, .int a3)], [.int 0])) rfl ?_
      exact ev_ret rfl rfl rfl rfl
    refine ev_n 2 (S' := (1200, [(6, .int 0), (5, .int 1), (4, .int 0), (3, .ref 464), (2, .ref 317), (1, .ref 0), (0, .float 0)], [.ref 317])) rfl ?_
    refine ev_cv (v := some (.int 1)) (G1 := (((hp2.1 ++ [Sum.inr (15, [])]).set 317 (Sum.inr (12, (fs317.set 0 (.int 1))))), hp2.2 + 6)) [] rfl rfl rfl rfl (hx_self (hx_app hp_at_317)) rfl rfl rfl rfl ?_ ?_
    · refine ev_n 1 (S' := (1, [(0, .ref 317)], [.ref 317])) rfl ?_
      refine ev_get (v := .int 1) rfl rfl (hx_self (hx_app hp_at_317)) rfl ?_
      exact ev_ret rfl rfl rfl rfl
    refine ev_n 9 (S' := (26, [(4, .int 5), (6, .int 0), (5, .int 1), (3, .ref 464), (2, .ref 317), (1, .ref 0), (0, .float 0)], [.float 0, .int 5])) rfl ?_
    refine ev_sl (L := 5) (xs := xs) (v := 5) rfl rfl rfl ?_
    refine ev_n 4 (S' := (1372, [(4, .int 5), (6, .int 0), (5, .int 1), (3, .ref 464), (2, .ref 317), (1, .ref 0), (0, .float 0)], [.int 1])) rfl ?_
    exact ev_ret rfl rfl rfl rfl
  · refine ⟨(((hp2.1 ++ [Sum.inr (15, [])]).set 317 (Sum.inr (12, (fs317.set 0 (.int 1))))), hp2.2 + 6), ?_, by simp only [List.length_append, List.length_set, List.length_cons, List.length_nil]; rw [hp2_len]; decide, by show hp2.2 + 6 ≤ _; rw [hp2_sl]; decide⟩
    refine ev_n 5 (S' := (1156, [(4, .int 0), (3, .ref 464), (2, .ref 317), (1, .ref 0), (0, .float 0)], [.int 1, .float 0, .ref 0])) rfl ?_
    refine ev_sc (L := 5) (xs := xs) (v := a1) rfl rfl (by decide) h1 ?_
    refine ev_n 4 (S' := (1162, [(4, .int 0), (3, .ref 464), (2, .ref 317), (1, .ref 0), (0, .float 0)], [.int 2, .float 0, .int a1, .ref 0])) rfl ?_
    refine ev_sc (L := 5) (xs := xs) (v := a2) rfl rfl (by decide) h2 ?_
    refine ev_n 4 (S' := (1168, [(4, .int 0), (3, .ref 464), (2, .ref 317), (1, .ref 0), (0, .float 0)], [.int 3, .float 0, .int a2, .int a1, .ref 0])) rfl ?_
    refine ev_sc (L := 5) (xs := xs) (v := a3) rfl rfl (by decide) h3 ?_
    refine ev_n 1 (S' := (1170, [(4, .int 0), (3, .ref 464), (2, .ref 317), (1, .ref 0), (0, .float 0)], [.ref 464, .int a3, .int a2, .int a1, .ref 0])) rfl ?_
    refine ev_cs (v := some (.int 1)) (G1 := ((hp2.1 ++ [Sum.inr (15, [])]), hp2.2 + 6)) [.ref 464, .int a3, .int a2, .int a1, .ref 0] rfl rfl rfl rfl rfl rfl ?_ ?_
    · refine ev_n 6 (S' := (7, [(0, .ref 0), (1, .int a1), (2, .int a2), (3, .int a3), (4, .ref 464)], [.int a3, .int a2, .int a1, .ref 0, .int 0, .ref 464])) rfl ?_
      refine ev_cvx (x := 465) (G1 := ((hp2.1 ++ [Sum.inr (15, [])]), hp2.2 + 6)) (hpc := 15) [.int a3, .int a2, .int a1] rfl rfl rfl rfl hp_at_0 rfl rfl rfl rfl ?_ (hx_end (by decide +kernel)) (by decide +kernel) (by decide +kernel) ?_
      · refine ev_n 2 (S' := (2, [(0, .ref 0), (1, .int a1), (2, .int a2), (3, .int a3)], [.int a1, .ref 0])) rfl ?_
        refine ev_cvo (x := 465) (G1 := ((hp2.1 ++ [Sum.inr (15, [])]), hp2.2 + 6)) [.int a1] rfl rfl rfl rfl hp_at_0 rfl rfl rfl rfl ?_ (hx_end (by decide +kernel)) rfl
        · refine ev_n 1 (S' := (1, [(0, .ref 0), (1, .int a1)], [.int a1])) rfl ?_
          refine px_ev.p (S' := (4, [(0, .ref 0), (1, .int a1)], [])) rfl (px_ifF (t := 12) (cA_lt_F 0 rfl (by omega)) rfl) ?_
          refine ev_n 2 (S' := (6, [(0, .ref 0), (1, .int a1)], [.ref 0, .int a1])) rfl ?_
          refine ev_get (v := .int 0) rfl rfl hp_at_0 rfl ?_
          refine px_ev.p (S' := (12, [(0, .ref 0), (1, .int a1)], [])) rfl (px_icF (t := 22) (cA_lt_F 0 rfl (by omega)) rfl) ?_
          exact ev_thr rfl rfl rfl (by decide +kernel) (by decide +kernel)
      refine ev_n 2 (S' := (18, [(5, .ref 465), (0, .ref 0), (1, .int a1), (2, .int a2), (3, .int a3), (4, .ref 464)], [.int 1])) rfl ?_
      exact ev_ret rfl rfl rfl rfl
    refine ev_n 6 (S' := (1181, [(5, .int 1), (4, .int 0), (3, .ref 464), (2, .ref 317), (1, .ref 0), (0, .float 0)], [.int 1, .float 0, .ref 317])) rfl ?_
    refine ev_sc (L := 5) (xs := xs) (v := a1) rfl rfl (by decide) h1 ?_
    refine ev_n 4 (S' := (1187, [(5, .int 1), (4, .int 0), (3, .ref 464), (2, .ref 317), (1, .ref 0), (0, .float 0)], [.int 2, .float 0, .int a1, .ref 317])) rfl ?_
    refine ev_sc (L := 5) (xs := xs) (v := a2) rfl rfl (by decide) h2 ?_
    refine ev_n 4 (S' := (1193, [(5, .int 1), (4, .int 0), (3, .ref 464), (2, .ref 317), (1, .ref 0), (0, .float 0)], [.int 3, .float 0, .int a2, .int a1, .ref 317])) rfl ?_
    refine ev_sc (L := 5) (xs := xs) (v := a3) rfl rfl (by decide) h3 ?_
    refine ev_cv (v := some (.int 0)) (G1 := (((hp2.1 ++ [Sum.inr (15, [])]).set 317 (Sum.inr (12, (fs317.set 0 (.int 1))))), hp2.2 + 6)) [.int a3, .int a2, .int a1] rfl rfl rfl rfl (hx_app hp_at_317) rfl rfl rfl rfl ?_ ?_
    · refine ev_n 3 (S' := (3, [(0, .ref 317), (1, .int a1), (2, .int a2), (3, .int a3)], [.int a1, .ref 317, .ref 317])) rfl ?_
      refine ev_cv (v := some (.int 0)) (G1 := ((hp2.1 ++ [Sum.inr (15, [])]), hp2.2 + 6)) [.int a1] rfl rfl rfl rfl (hx_app hp_at_317) rfl rfl rfl rfl ?_ ?_
      · refine ev_n 4 (S' := (4, [(0, .ref 317), (1, .int a1)], [.ref 317, .long 0, .long ((a1).toInt64)])) rfl ?_
        refine ev_get (v := .int 0) rfl rfl (hx_app hp_at_317) rfl ?_
        refine ev_n 3 (S' := (10, [(0, .ref 317), (1, .int a1)], [.long (-1), .long 0, .long ((a1).toInt64)])) rfl ?_
        refine ev_cs (v := some (.int 0)) (G1 := ((hp2.1 ++ [Sum.inr (15, [])]), hp2.2 + 6)) [.long (-1), .long 0, .long ((a1).toInt64)] rfl rfl rfl rfl rfl rfl ?_ ?_
        · refine ev_n 3 (S' := (3, [(0, .long ((a1).toInt64)), (2, .long 0), (4, .long (-1))], [.int (lg_cmp ((a1).toInt64) (0))])) rfl ?_
          refine px_ev.p (S' := (6, [(0, .long ((a1).toInt64)), (2, .long 0), (4, .long (-1))], [])) rfl (px_ifF (t := 17) (cL_lt_F 0 rfl (by omega)) rfl) ?_
          refine ev_n 3 (S' := (10, [(0, .long ((a1).toInt64)), (2, .long 0), (4, .long (-1))], [.int (lg_cmp ((a1).toInt64) ((-1)))])) rfl ?_
          refine px_ev.p (S' := (17, [(0, .long ((a1).toInt64)), (2, .long 0), (4, .long (-1))], [])) rfl (px_ifT (t := 17) (cL_gt_T (-1) rfl (by omega)) rfl) ?_
          refine ev_n 1 (S' := (18, [(0, .long ((a1).toInt64)), (2, .long 0), (4, .long (-1))], [.int 0])) rfl ?_
          exact ev_ret rfl rfl rfl rfl
        exact ev_ret rfl rfl rfl rfl
      refine ev_n 3 (S' := (42, [(0, .ref 317), (1, .int a1), (2, .int a2), (3, .int a3)], [.int 1, .ref 317])) rfl ?_
      refine ev_put rfl rfl (hx_app hp_at_317) rfl rfl (by decide +kernel) ?_
      refine ev_n 1 (S' := (46, [(0, .ref 317), (1, .int a1), (2, .int a2), (3, .int a3)], [.ref 317])) rfl ?_
      refine ev_get (v := .int 1) rfl rfl (hx_self (hx_app hp_at_317)) rfl ?_
      refine ev_n 2 (S' := (53, [(0, .ref 317), (1, .int a1), (2, .int a2), (3, .int a3)], [.int 0])) rfl ?_
      exact ev_ret rfl rfl rfl rfl
    refine ev_n 2 (S' := (1200, [(6, .int 0), (5, .int 1), (4, .int 0), (3, .ref 464), (2, .ref 317), (1, .ref 0), (0, .float 0)], [.ref 317])) rfl ?_
    refine ev_cv (v := some (.int 1)) (G1 := (((hp2.1 ++ [Sum.inr (15, [])]).set 317 (Sum.inr (12, (fs317.set 0 (.int 1))))), hp2.2 + 6)) [] rfl rfl rfl rfl (hx_self (hx_app hp_at_317)) rfl rfl rfl rfl ?_ ?_
    · refine ev_n 1 (S' := (1, [(0, .ref 317)], [.ref 317])) rfl ?_
      refine ev_get (v := .int 1) rfl rfl (hx_self (hx_app hp_at_317)) rfl ?_
      exact ev_ret rfl rfl rfl rfl
    refine ev_n 9 (S' := (26, [(4, .int 5), (6, .int 0), (5, .int 1), (3, .ref 464), (2, .ref 317), (1, .ref 0), (0, .float 0)], [.float 0, .int 5])) rfl ?_
    refine ev_sl (L := 5) (xs := xs) (v := 5) rfl rfl rfl ?_
    refine ev_n 4 (S' := (1372, [(4, .int 5), (6, .int 0), (5, .int 1), (3, .ref 464), (2, .ref 317), (1, .ref 0), (0, .float 0)], [.int 1])) rfl ?_
    exact ev_ret rfl rfl rfl rfl

set_option maxHeartbeats 4000000 in
set_option maxRecDepth 100000 in
theorem op_18 (xs : Nat → Int32) (b : Bool) (a0 a1 a2 a3 a4 : Int32) (h0 : xs 0 = a0) (h1 : xs 1 = a1) (h2 : xs 2 = a2) (h3 : xs 3 = a3) (h4 : xs 4 = a4) : ∃ G', px_ev cx_cl cx_fty cx_PM cx_na (cx_V (some (5, xs)) b) 1500 mxL (1230, [(4, .int 0), (3, .ref 464), (2, .ref 317), (1, .ref 0), (0, .float 0)], []) hp2 (Sum.inl (some (.int 1))) G' ∧ G'.1.length ≤ 600002 ∧ G'.2 ≤ 7302232 := by
  by_cases q0 : a1.toInt < 0
  · refine ⟨(((hp2.1 ++ [Sum.inr (15, [])]).set 317 (Sum.inr (12, (fs317.set 0 (.int 1))))), hp2.2 + 6), ?_, by simp only [List.length_append, List.length_set, List.length_cons, List.length_nil]; rw [hp2_len]; decide, by show hp2.2 + 6 ≤ _; rw [hp2_sl]; decide⟩
    refine ev_n 5 (S' := (1236, [(4, .int 0), (3, .ref 464), (2, .ref 317), (1, .ref 0), (0, .float 0)], [.int 1, .float 0, .ref 0])) rfl ?_
    refine ev_sc (L := 5) (xs := xs) (v := a1) rfl rfl (by decide) h1 ?_
    refine ev_n 4 (S' := (1242, [(4, .int 0), (3, .ref 464), (2, .ref 317), (1, .ref 0), (0, .float 0)], [.int 2, .float 0, .int a1, .ref 0])) rfl ?_
    refine ev_sc (L := 5) (xs := xs) (v := a2) rfl rfl (by decide) h2 ?_
    refine ev_n 1 (S' := (1244, [(4, .int 0), (3, .ref 464), (2, .ref 317), (1, .ref 0), (0, .float 0)], [.ref 464, .int a2, .int a1, .ref 0])) rfl ?_
    refine ev_cs (v := some (.int 1)) (G1 := ((hp2.1 ++ [Sum.inr (15, [])]), hp2.2 + 6)) [.ref 464, .int a2, .int a1, .ref 0] rfl rfl rfl rfl rfl rfl ?_ ?_
    · refine ev_n 5 (S' := (5, [(0, .ref 0), (1, .int a1), (2, .int a2), (3, .ref 464)], [.int a2, .int a1, .ref 0, .int 0, .ref 464])) rfl ?_
      refine ev_cvx (x := 465) (G1 := ((hp2.1 ++ [Sum.inr (15, [])]), hp2.2 + 6)) (hpc := 13) [.int a2, .int a1] rfl rfl rfl rfl hp_at_0 rfl rfl rfl rfl ?_ (hx_end (by decide +kernel)) (by decide +kernel) (by decide +kernel) ?_
      · refine ev_n 2 (S' := (2, [(0, .ref 0), (1, .int a1), (2, .int a2)], [.int a1, .ref 0])) rfl ?_
        refine ev_cvo (x := 465) (G1 := ((hp2.1 ++ [Sum.inr (15, [])]), hp2.2 + 6)) [.int a1] rfl rfl rfl rfl hp_at_0 rfl rfl rfl rfl ?_ (hx_end (by decide +kernel)) rfl
        · refine ev_n 1 (S' := (1, [(0, .ref 0), (1, .int a1)], [.int a1])) rfl ?_
          refine px_ev.p (S' := (12, [(0, .ref 0), (1, .int a1)], [])) rfl (px_ifT (t := 12) (cA_lt_T 0 rfl (by omega)) rfl) ?_
          exact ev_thr rfl rfl rfl (by decide +kernel) (by decide +kernel)
      refine ev_n 2 (S' := (16, [(4, .ref 465), (0, .ref 0), (1, .int a1), (2, .int a2), (3, .ref 464)], [.int 1])) rfl ?_
      exact ev_ret rfl rfl rfl rfl
    refine ev_n 6 (S' := (1255, [(5, .int 1), (4, .int 0), (3, .ref 464), (2, .ref 317), (1, .ref 0), (0, .float 0)], [.int 1, .float 0, .ref 317])) rfl ?_
    refine ev_sc (L := 5) (xs := xs) (v := a1) rfl rfl (by decide) h1 ?_
    refine ev_n 4 (S' := (1261, [(5, .int 1), (4, .int 0), (3, .ref 464), (2, .ref 317), (1, .ref 0), (0, .float 0)], [.int 2, .float 0, .int a1, .ref 317])) rfl ?_
    refine ev_sc (L := 5) (xs := xs) (v := a2) rfl rfl (by decide) h2 ?_
    refine ev_cv (v := some (.int 0)) (G1 := (((hp2.1 ++ [Sum.inr (15, [])]).set 317 (Sum.inr (12, (fs317.set 0 (.int 1))))), hp2.2 + 6)) [.int a2, .int a1] rfl rfl rfl rfl (hx_app hp_at_317) rfl rfl rfl rfl ?_ ?_
    · refine ev_n 5 (S' := (5, [(0, .ref 317), (1, .int a1), (2, .int a2)], [.ref 317, .long 0, .long ((a1).toInt64), .ref 317])) rfl ?_
      refine ev_get (v := .int 0) rfl rfl (hx_app hp_at_317) rfl ?_
      refine ev_n 3 (S' := (11, [(0, .ref 317), (1, .int a1), (2, .int a2)], [.long (-1), .long 0, .long ((a1).toInt64), .ref 317])) rfl ?_
      refine ev_cs (v := some (.int 0)) (G1 := ((hp2.1 ++ [Sum.inr (15, [])]), hp2.2 + 6)) [.long (-1), .long 0, .long ((a1).toInt64)] rfl rfl rfl rfl rfl rfl ?_ ?_
      · refine ev_n 3 (S' := (3, [(0, .long ((a1).toInt64)), (2, .long 0), (4, .long (-1))], [.int (lg_cmp ((a1).toInt64) (0))])) rfl ?_
        refine px_ev.p (S' := (17, [(0, .long ((a1).toInt64)), (2, .long 0), (4, .long (-1))], [])) rfl (px_ifT (t := 17) (cL_lt_T 0 rfl (by omega)) rfl) ?_
        refine ev_n 1 (S' := (18, [(0, .long ((a1).toInt64)), (2, .long 0), (4, .long (-1))], [.int 0])) rfl ?_
        exact ev_ret rfl rfl rfl rfl
      refine ev_n 3 (S' := (38, [(0, .ref 317), (1, .int a1), (2, .int a2)], [.int 1, .ref 317])) rfl ?_
      refine ev_put rfl rfl (hx_app hp_at_317) rfl rfl (by decide +kernel) ?_
      refine ev_n 1 (S' := (42, [(0, .ref 317), (1, .int a1), (2, .int a2)], [.ref 317])) rfl ?_
      refine ev_get (v := .int 1) rfl rfl (hx_self (hx_app hp_at_317)) rfl ?_
      refine ev_n 2 (S' := (49, [(0, .ref 317), (1, .int a1), (2, .int a2)], [.int 0])) rfl ?_
      exact ev_ret rfl rfl rfl rfl
    refine ev_n 2 (S' := (1268, [(6, .int 0), (5, .int 1), (4, .int 0), (3, .ref 464), (2, .ref 317), (1, .ref 0), (0, .float 0)], [.ref 317])) rfl ?_
    refine ev_cv (v := some (.int 1)) (G1 := (((hp2.1 ++ [Sum.inr (15, [])]).set 317 (Sum.inr (12, (fs317.set 0 (.int 1))))), hp2.2 + 6)) [] rfl rfl rfl rfl (hx_self (hx_app hp_at_317)) rfl rfl rfl rfl ?_ ?_
    · refine ev_n 1 (S' := (1, [(0, .ref 317)], [.ref 317])) rfl ?_
      refine ev_get (v := .int 1) rfl rfl (hx_self (hx_app hp_at_317)) rfl ?_
      exact ev_ret rfl rfl rfl rfl
    refine ev_n 9 (S' := (26, [(4, .int 5), (6, .int 0), (5, .int 1), (3, .ref 464), (2, .ref 317), (1, .ref 0), (0, .float 0)], [.float 0, .int 5])) rfl ?_
    refine ev_sl (L := 5) (xs := xs) (v := 5) rfl rfl rfl ?_
    refine ev_n 4 (S' := (1372, [(4, .int 5), (6, .int 0), (5, .int 1), (3, .ref 464), (2, .ref 317), (1, .ref 0), (0, .float 0)], [.int 1])) rfl ?_
    exact ev_ret rfl rfl rfl rfl
  · refine ⟨(((hp2.1 ++ [Sum.inr (15, [])]).set 317 (Sum.inr (12, (fs317.set 0 (.int 1))))), hp2.2 + 6), ?_, by simp only [List.length_append, List.length_set, List.length_cons, List.length_nil]; rw [hp2_len]; decide, by show hp2.2 + 6 ≤ _; rw [hp2_sl]; decide⟩
    refine ev_n 5 (S' := (1236, [(4, .int 0), (3, .ref 464), (2, .ref 317), (1, .ref 0), (0, .float 0)], [.int 1, .float 0, .ref 0])) rfl ?_
    refine ev_sc (L := 5) (xs := xs) (v := a1) rfl rfl (by decide) h1 ?_
    refine ev_n 4 (S' := (1242, [(4, .int 0), (3, .ref 464), (2, .ref 317), (1, .ref 0), (0, .float 0)], [.int 2, .float 0, .int a1, .ref 0])) rfl ?_
    refine ev_sc (L := 5) (xs := xs) (v := a2) rfl rfl (by decide) h2 ?_
    refine ev_n 1 (S' := (1244, [(4, .int 0), (3, .ref 464), (2, .ref 317), (1, .ref 0), (0, .float 0)], [.ref 464, .int a2, .int a1, .ref 0])) rfl ?_
    refine ev_cs (v := some (.int 1)) (G1 := ((hp2.1 ++ [Sum.inr (15, [])]), hp2.2 + 6)) [.ref 464, .int a2, .int a1, .ref 0] rfl rfl rfl rfl rfl rfl ?_ ?_
    · refine ev_n 5 (S' := (5, [(0, .ref 0), (1, .int a1), (2, .int a2), (3, .ref 464)], [.int a2, .int a1, .ref 0, .int 0, .ref 464])) rfl ?_
      refine ev_cvx (x := 465) (G1 := ((hp2.1 ++ [Sum.inr (15, [])]), hp2.2 + 6)) (hpc := 13) [.int a2, .int a1] rfl rfl rfl rfl hp_at_0 rfl rfl rfl rfl ?_ (hx_end (by decide +kernel)) (by decide +kernel) (by decide +kernel) ?_
      · refine ev_n 2 (S' := (2, [(0, .ref 0), (1, .int a1), (2, .int a2)], [.int a1, .ref 0])) rfl ?_
        refine ev_cvo (x := 465) (G1 := ((hp2.1 ++ [Sum.inr (15, [])]), hp2.2 + 6)) [.int a1] rfl rfl rfl rfl hp_at_0 rfl rfl rfl rfl ?_ (hx_end (by decide +kernel)) rfl
        · refine ev_n 1 (S' := (1, [(0, .ref 0), (1, .int a1)], [.int a1])) rfl ?_
          refine px_ev.p (S' := (4, [(0, .ref 0), (1, .int a1)], [])) rfl (px_ifF (t := 12) (cA_lt_F 0 rfl (by omega)) rfl) ?_
          refine ev_n 2 (S' := (6, [(0, .ref 0), (1, .int a1)], [.ref 0, .int a1])) rfl ?_
          refine ev_get (v := .int 0) rfl rfl hp_at_0 rfl ?_
          refine px_ev.p (S' := (12, [(0, .ref 0), (1, .int a1)], [])) rfl (px_icF (t := 23) (cA_lt_F 0 rfl (by omega)) rfl) ?_
          exact ev_thr rfl rfl rfl (by decide +kernel) (by decide +kernel)
      refine ev_n 2 (S' := (16, [(4, .ref 465), (0, .ref 0), (1, .int a1), (2, .int a2), (3, .ref 464)], [.int 1])) rfl ?_
      exact ev_ret rfl rfl rfl rfl
    refine ev_n 6 (S' := (1255, [(5, .int 1), (4, .int 0), (3, .ref 464), (2, .ref 317), (1, .ref 0), (0, .float 0)], [.int 1, .float 0, .ref 317])) rfl ?_
    refine ev_sc (L := 5) (xs := xs) (v := a1) rfl rfl (by decide) h1 ?_
    refine ev_n 4 (S' := (1261, [(5, .int 1), (4, .int 0), (3, .ref 464), (2, .ref 317), (1, .ref 0), (0, .float 0)], [.int 2, .float 0, .int a1, .ref 317])) rfl ?_
    refine ev_sc (L := 5) (xs := xs) (v := a2) rfl rfl (by decide) h2 ?_
    refine ev_cv (v := some (.int 0)) (G1 := (((hp2.1 ++ [Sum.inr (15, [])]).set 317 (Sum.inr (12, (fs317.set 0 (.int 1))))), hp2.2 + 6)) [.int a2, .int a1] rfl rfl rfl rfl (hx_app hp_at_317) rfl rfl rfl rfl ?_ ?_
    · refine ev_n 5 (S' := (5, [(0, .ref 317), (1, .int a1), (2, .int a2)], [.ref 317, .long 0, .long ((a1).toInt64), .ref 317])) rfl ?_
      refine ev_get (v := .int 0) rfl rfl (hx_app hp_at_317) rfl ?_
      refine ev_n 3 (S' := (11, [(0, .ref 317), (1, .int a1), (2, .int a2)], [.long (-1), .long 0, .long ((a1).toInt64), .ref 317])) rfl ?_
      refine ev_cs (v := some (.int 0)) (G1 := ((hp2.1 ++ [Sum.inr (15, [])]), hp2.2 + 6)) [.long (-1), .long 0, .long ((a1).toInt64)] rfl rfl rfl rfl rfl rfl ?_ ?_
      · refine ev_n 3 (S' := (3, [(0, .long ((a1).toInt64)), (2, .long 0), (4, .long (-1))], [.int (lg_cmp ((a1).toInt64) (0))])) rfl ?_
        refine px_ev.p (S' := (6, [(0, .long ((a1).toInt64)), (2, .long 0), (4, .long (-1))], [])) rfl (px_ifF (t := 17) (cL_lt_F 0 rfl (by omega)) rfl) ?_
        refine ev_n 3 (S' := (10, [(0, .long ((a1).toInt64)), (2, .long 0), (4, .long (-1))], [.int (lg_cmp ((a1).toInt64) ((-1)))])) rfl ?_
        refine px_ev.p (S' := (17, [(0, .long ((a1).toInt64)), (2, .long 0), (4, .long (-1))], [])) rfl (px_ifT (t := 17) (cL_gt_T (-1) rfl (by omega)) rfl) ?_
        refine ev_n 1 (S' := (18, [(0, .long ((a1).toInt64)), (2, .long 0), (4, .long (-1))], [.int 0])) rfl ?_
        exact ev_ret rfl rfl rfl rfl
      refine ev_n 3 (S' := (38, [(0, .ref 317), (1, .int a1), (2, .int a2)], [.int 1, .ref 317])) rfl ?_
      refine ev_put rfl rfl (hx_app hp_at_317) rfl rfl (by decide +kernel) ?_
      refine ev_n 1 (S' := (42, [(0, .ref 317), (1, .int a1), (2, .int a2)], [.ref 317])) rfl ?_
      refine ev_get (v := .int 1) rfl rfl (hx_self (hx_app hp_at_317)) rfl ?_
      refine ev_n 2 (S' := (49, [(0, .ref 317), (1, .int a1), (2, .int a2)], [.int 0])) rfl ?_
      exact ev_ret rfl rfl rfl rfl
    refine ev_n 2 (S' := (1268, [(6, .int 0), (5, .int 1), (4, .int 0), (3, .ref 464), (2, .ref 317), (1, .ref 0), (0, .float 0)], [.ref 317])) rfl ?_
    refine ev_cv (v := some (.int 1)) (G1 := (((hp2.1 ++ [Sum.inr (15, [])]).set 317 (Sum.inr (12, (fs317.set 0 (.int 1))))), hp2.2 + 6)) [] rfl rfl rfl rfl (hx_self (hx_app hp_at_317)) rfl rfl rfl rfl ?_ ?_
    · refine ev_n 1 (S' := (1, [(0, .ref 317)], [.ref 317])) rfl ?_
      refine ev_get (v := .int 1) rfl rfl (hx_self (hx_app hp_at_317)) rfl ?_
      exact ev_ret rfl rfl rfl rfl
    refine ev_n 9 (S' := (26, [(4, .int 5), (6, .int 0), (5, .int 1), (3, .ref 464), (2, .ref 317), (1, .ref 0), (0, .float 0)], [.float 0, .int 5])) rfl ?_
    refine ev_sl (L := 5) (xs := xs) (v := 5) rfl rfl rfl ?_
    refine ev_n 4 (S' := (1372, [(4, .int 5), (6, .int 0), (5, .int 1), (3, .ref 464), (2, .ref 317), (1, .ref 0), (0, .float 0)], [.int 1])) rfl ?_
    exact ev_ret rfl rfl rfl rfl

set_option maxHeartbeats 4000000 in
set_option maxRecDepth 100000 in
theorem op_19 (xs : Nat → Int32) (b : Bool) (a0 a1 a2 a3 a4 : Int32) (h0 : xs 0 = a0) (h1 : xs 1 = a1) (h2 : xs 2 = a2) (h3 : xs 3 = a3) (h4 : xs 4 = a4) : ∃ G', px_ev cx_cl cx_fty cx_PM cx_na (cx_V (some (5, xs)) b) 1500 mxL (1298, [(4, .int 0), (3, .ref 464), (2, .ref 317), (1, .ref 0), (0, .float 0)], []) hp2 (Sum.inl (some (.int 1))) G' ∧ G'.1.length ≤ 600002 ∧ G'.2 ≤ 7302232 := by
  by_cases q0 : a1.toInt < 0
  · refine ⟨(((hp2.1 ++ [Sum.inr (15, [])]).set 317 (Sum.inr (12, (fs317.set 0 (.int 1))))), hp2.2 + 6), ?_, by simp only [List.length_append, List.length_set, List.length_cons, List.length_nil]; rw [hp2_len]; decide, by show hp2.2 + 6 ≤ _; rw [hp2_sl]; decide⟩
    refine ev_n 5 (S' := (1304, [(4, .int 0), (3, .ref 464), (2, .ref 317), (1, .ref 0), (0, .float 0)], [.int 1, .float 0, .ref 0])) rfl ?_
    refine ev_sc (L := 5) (xs := xs) (v := a1) rfl rfl (by decide) h1 ?_
    refine ev_n 4 (S' := (1310, [(4, .int 0), (3, .ref 464), (2, .ref 317), (1, .ref 0), (0, .float 0)], [.int 2, .float 0, .int a1, .ref 0])) rfl ?_
    refine ev_sc (L := 5) (xs := xs) (v := a2) rfl rfl (by decide) h2 ?_
    refine ev_n 1 (S' := (1312, [(4, .int 0), (3, .ref 464), (2, .ref 317), (1, .ref 0), (0, .float 0)], [.ref 464, .int a2, .int a1, .ref 0])) rfl ?_
    refine ev_cs (v := some (.int 1)) (G1 := ((hp2.1 ++ [Sum.inr (15, [])]), hp2.2 + 6)) [.ref 464, .int a2, .int a1, .ref 0] rfl rfl rfl rfl rfl rfl ?_ ?_
    · refine ev_n 5 (S' := (5, [(0, .ref 0), (1, .int a1), (2, .int a2), (3, .ref 464)], [.int a2, .int a1, .ref 0, .int 0, .ref 464])) rfl ?_
      refine ev_cvx (x := 465) (G1 := ((hp2.1 ++ [Sum.inr (15, [])]), hp2.2 + 6)) (hpc := 12) [.int a2, .int a1] rfl rfl rfl rfl hp_at_0 rfl rfl rfl rfl ?_ (hx_end (by decide +kernel)) (by decide +kernel) (by decide +kernel) ?_
      · refine ev_n 2 (S' := (2, [(0, .ref 0), (1, .int a1), (2, .int a2)], [.int a1, .ref 0])) rfl ?_
        refine ev_cvo (x := 465) (G1 := ((hp2.1 ++ [Sum.inr (15, [])]), hp2.2 + 6)) [.int a1] rfl rfl rfl rfl hp_at_0 rfl rfl rfl rfl ?_ (hx_end (by decide +kernel)) rfl
        · refine ev_n 1 (S' := (1, [(0, .ref 0), (1, .int a1)], [.int a1])) rfl ?_
          refine px_ev.p (S' := (12, [(0, .ref 0), (1, .int a1)], [])) rfl (px_ifT (t := 12) (cA_lt_T 0 rfl (by omega)) rfl) ?_
          exact ev_thr rfl rfl rfl (by decide +kernel) (by decide +kernel)
      refine ev_n 2 (S' := (15, [(4, .ref 465), (0, .ref 0), (1, .int a1), (2, .int a2), (3, .ref 464)], [.int 1])) rfl ?_
      exact ev_ret rfl rfl rfl rfl
    refine ev_n 6 (S' := (1323, [(5, .int 1), (4, .int 0), (3, .ref 464), (2, .ref 317), (1, .ref 0), (0, .float 0)], [.int 1, .float 0, .ref 317])) rfl ?_
    refine ev_sc (L := 5) (xs := xs) (v := a1) rfl rfl (by decide) h1 ?_
    refine ev_n 4 (S' := (1329, [(5, .int 1), (4, .int 0), (3, .ref 464), (2, .ref 317), (1, .ref 0), (0, .float 0)], [.int 2, .float 0, .int a1, .ref 317])) rfl ?_
    refine ev_sc (L := 5) (xs := xs) (v := a2) rfl rfl (by decide) h2 ?_
    refine ev_cv (v := some (.long 0)) (G1 := (((hp2.1 ++ [Sum.inr (15, [])]).set 317 (Sum.inr (12, (fs317.set 0 (.int 1))))), hp2.2 + 6)) [.int a2, .int a1] rfl rfl rfl rfl (hx_app hp_at_317) rfl rfl rfl rfl ?_ ?_
    · refine ev_n 5 (S' := (5, [(0, .ref 317), (1, .int a1), (2, .int a2)], [.ref 317, .long 0, .long ((a1).toInt64), .ref 317])) rfl ?_
      refine ev_get (v := .int 0) rfl rfl (hx_app hp_at_317) rfl ?_
      refine ev_n 3 (S' := (11, [(0, .ref 317), (1, .int a1), (2, .int a2)], [.long (-1), .long 0, .long ((a1).toInt64), .ref 317])) rfl ?_
      refine ev_cs (v := some (.int 0)) (G1 := ((hp2.1 ++ [Sum.inr (15, [])]), hp2.2 + 6)) [.long (-1), .long 0, .long ((a1).toInt64)] rfl rfl rfl rfl rfl rfl ?_ ?_
      · refine ev_n 3 (S' := (3, [(0, .long ((a1).toInt64)), (2, .long 0), (4, .long (-1))], [.int (lg_cmp ((a1).toInt64) (0))])) rfl ?_
        refine px_ev.p (S' := (17, [(0, .long ((a1).toInt64)), (2, .long 0), (4, .long (-1))], [])) rfl (px_ifT (t := 17) (cL_lt_T 0 rfl (by omega)) rfl) ?_
        refine ev_n 1 (S' := (18, [(0, .long ((a1).toInt64)), (2, .long 0), (4, .long (-1))], [.int 0])) rfl ?_
        exact ev_ret rfl rfl rfl rfl
      refine ev_n 2 (S' := (60, [(0, .ref 317), (1, .int a1), (2, .int a2)], [.int 1, .ref 317])) rfl ?_
      refine ev_put rfl rfl (hx_app hp_at_317) rfl rfl (by decide +kernel) ?_
      refine ev_n 1 (S' := (64, [(0, .ref 317), (1, .int a1), (2, .int a2)], [.ref 317])) rfl ?_
      refine ev_get (v := .int 1) rfl rfl (hx_self (hx_app hp_at_317)) rfl ?_
      refine ev_n 3 (S' := (86, [(0, .ref 317), (1, .int a1), (2, .int a2)], [.long 0])) rfl ?_
      exact ev_ret rfl rfl rfl rfl
    refine ev_n 2 (S' := (1336, [(6, .long 0), (5, .int 1), (4, .int 0), (3, .ref 464), (2, .ref 317), (1, .ref 0), (0, .float 0)], [.ref 317])) rfl ?_
    refine ev_cv (v := some (.int 1)) (G1 := (((hp2.1 ++ [Sum.inr (15, [])]).set 317 (Sum.inr (12, (fs317.set 0 (.int 1))))), hp2.2 + 6)) [] rfl rfl rfl rfl (hx_self (hx_app hp_at_317)) rfl rfl rfl rfl ?_ ?_
    · refine ev_n 1 (S' := (1, [(0, .ref 317)], [.ref 317])) rfl ?_
      refine ev_get (v := .int 1) rfl rfl (hx_self (hx_app hp_at_317)) rfl ?_
      exact ev_ret rfl rfl rfl rfl
    refine ev_n 9 (S' := (26, [(4, .int 5), (6, .long 0), (5, .int 1), (3, .ref 464), (2, .ref 317), (1, .ref 0), (0, .float 0)], [.float 0, .int 5])) rfl ?_
    refine ev_sl (L := 5) (xs := xs) (v := 5) rfl rfl rfl ?_
    refine ev_n 4 (S' := (1372, [(4, .int 5), (6, .long 0), (5, .int 1), (3, .ref 464), (2, .ref 317), (1, .ref 0), (0, .float 0)], [.int 1])) rfl ?_
    exact ev_ret rfl rfl rfl rfl
  · refine ⟨(((hp2.1 ++ [Sum.inr (15, [])]).set 317 (Sum.inr (12, (fs317.set 0 (.int 1))))), hp2.2 + 6), ?_, by simp only [List.length_append, List.length_set, List.length_cons, List.length_nil]; rw [hp2_len]; decide, by show hp2.2 + 6 ≤ _; rw [hp2_sl]; decide⟩
    refine ev_n 5 (S' := (1304, [(4, .int 0), (3, .ref 464), (2, .ref 317), (1, .ref 0), (0, .float 0)], [.int 1, .float 0, .ref 0])) rfl ?_
    refine ev_sc (L := 5) (xs := xs) (v := a1) rfl rfl (by decide) h1 ?_
    refine ev_n 4 (S' := (1310, [(4, .int 0), (3, .ref 464), (2, .ref 317), (1, .ref 0), (0, .float 0)], [.int 2, .float 0, .int a1, .ref 0])) rfl ?_
    refine ev_sc (L := 5) (xs := xs) (v := a2) rfl rfl (by decide) h2 ?_
    refine ev_n 1 (S' := (1312, [(4, .int 0), (3, .ref 464), (2, .ref 317), (1, .ref 0), (0, .float 0)], [.ref 464, .int a2, .int a1, .ref 0])) rfl ?_
    refine ev_cs (v := some (.int 1)) (G1 := ((hp2.1 ++ [Sum.inr (15, [])]), hp2.2 + 6)) [.ref 464, .int a2, .int a1, .ref 0] rfl rfl rfl rfl rfl rfl ?_ ?_
    · refine ev_n 5 (S' := (5, [(0, .ref 0), (1, .int a1), (2, .int a2), (3, .ref 464)], [.int a2, .int a1, .ref 0, .int 0, .ref 464])) rfl ?_
      refine ev_cvx (x := 465) (G1 := ((hp2.1 ++ [Sum.inr (15, [])]), hp2.2 + 6)) (hpc := 12) [.int a2, .int a1] rfl rfl rfl rfl hp_at_0 rfl rfl rfl rfl ?_ (hx_end (by decide +kernel)) (by decide +kernel) (by decide +kernel) ?_
      · refine ev_n 2 (S' := (2, [(0, .ref 0), (1, .int a1), (2, .int a2)], [.int a1, .ref 0])) rfl ?_
        refine ev_cvo (x := 465) (G1 := ((hp2.1 ++ [Sum.inr (15, [])]), hp2.2 + 6)) [.int a1] rfl rfl rfl rfl hp_at_0 rfl rfl rfl rfl ?_ (hx_end (by decide +kernel)) rfl
        · refine ev_n 1 (S' := (1, [(0, .ref 0), (1, .int a1)], [.int a1])) rfl ?_
          refine px_ev.p (S' := (4, [(0, .ref 0), (1, .int a1)], [])) rfl (px_ifF (t := 12) (cA_lt_F 0 rfl (by omega)) rfl) ?_
          refine ev_n 2 (S' := (6, [(0, .ref 0), (1, .int a1)], [.ref 0, .int a1])) rfl ?_
          refine ev_get (v := .int 0) rfl rfl hp_at_0 rfl ?_
          refine px_ev.p (S' := (12, [(0, .ref 0), (1, .int a1)], [])) rfl (px_icF (t := 23) (cA_lt_F 0 rfl (by omega)) rfl) ?_
          exact ev_thr rfl rfl rfl (by decide +kernel) (by decide +kernel)
      refine ev_n 2 (S' := (15, [(4, .ref 465), (0, .ref 0), (1, .int a1), (2, .int a2), (3, .ref 464)], [.int 1])) rfl ?_
      exact ev_ret rfl rfl rfl rfl
    refine ev_n 6 (S' := (1323, [(5, .int 1), (4, .int 0), (3, .ref 464), (2, .ref 317), (1, .ref 0), (0, .float 0)], [.int 1, .float 0, .ref 317])) rfl ?_
    refine ev_sc (L := 5) (xs := xs) (v := a1) rfl rfl (by decide) h1 ?_
    refine ev_n 4 (S' := (1329, [(5, .int 1), (4, .int 0), (3, .ref 464), (2, .ref 317), (1, .ref 0), (0, .float 0)], [.int 2, .float 0, .int a1, .ref 317])) rfl ?_
    refine ev_sc (L := 5) (xs := xs) (v := a2) rfl rfl (by decide) h2 ?_
    refine ev_cv (v := some (.long 0)) (G1 := (((hp2.1 ++ [Sum.inr (15, [])]).set 317 (Sum.inr (12, (fs317.set 0 (.int 1))))), hp2.2 + 6)) [.int a2, .int a1] rfl rfl rfl rfl (hx_app hp_at_317) rfl rfl rfl rfl ?_ ?_
    · refine ev_n 5 (S' := (5, [(0, .ref 317), (1, .int a1), (2, .int a2)], [.ref 317, .long 0, .long ((a1).toInt64), .ref 317])) rfl ?_
      refine ev_get (v := .int 0) rfl rfl (hx_app hp_at_317) rfl ?_
      refine ev_n 3 (S' := (11, [(0, .ref 317), (1, .int a1), (2, .int a2)], [.long (-1), .long 0, .long ((a1).toInt64), .ref 317])) rfl ?_
      refine ev_cs (v := some (.int 0)) (G1 := ((hp2.1 ++ [Sum.inr (15, [])]), hp2.2 + 6)) [.long (-1), .long 0, .long ((a1).toInt64)] rfl rfl rfl rfl rfl rfl ?_ ?_
      · refine ev_n 3 (S' := (3, [(0, .long ((a1).toInt64)), (2, .long 0), (4, .long (-1))], [.int (lg_cmp ((a1).toInt64) (0))])) rfl ?_
        refine px_ev.p (S' := (6, [(0, .long ((a1).toInt64)), (2, .long 0), (4, .long (-1))], [])) rfl (px_ifF (t := 17) (cL_lt_F 0 rfl (by omega)) rfl) ?_
        refine ev_n 3 (S' := (10, [(0, .long ((a1).toInt64)), (2, .long 0), (4, .long (-1))], [.int (lg_cmp ((a1).toInt64) ((-1)))])) rfl ?_
        refine px_ev.p (S' := (17, [(0, .long ((a1).toInt64)), (2, .long 0), (4, .long (-1))], [])) rfl (px_ifT (t := 17) (cL_gt_T (-1) rfl (by omega)) rfl) ?_
        refine ev_n 1 (S' := (18, [(0, .long ((a1).toInt64)), (2, .long 0), (4, .long (-1))], [.int 0])) rfl ?_
        exact ev_ret rfl rfl rfl rfl
      refine ev_n 2 (S' := (60, [(0, .ref 317), (1, .int a1), (2, .int a2)], [.int 1, .ref 317])) rfl ?_
      refine ev_put rfl rfl (hx_app hp_at_317) rfl rfl (by decide +kernel) ?_
      refine ev_n 1 (S' := (64, [(0, .ref 317), (1, .int a1), (2, .int a2)], [.ref 317])) rfl ?_
      refine ev_get (v := .int 1) rfl rfl (hx_self (hx_app hp_at_317)) rfl ?_
      refine ev_n 3 (S' := (86, [(0, .ref 317), (1, .int a1), (2, .int a2)], [.long 0])) rfl ?_
      exact ev_ret rfl rfl rfl rfl
    refine ev_n 2 (S' := (1336, [(6, .long 0), (5, .int 1), (4, .int 0), (3, .ref 464), (2, .ref 317), (1, .ref 0), (0, .float 0)], [.ref 317])) rfl ?_
    refine ev_cv (v := some (.int 1)) (G1 := (((hp2.1 ++ [Sum.inr (15, [])]).set 317 (Sum.inr (12, (fs317.set 0 (.int 1))))), hp2.2 + 6)) [] rfl rfl rfl rfl (hx_self (hx_app hp_at_317)) rfl rfl rfl rfl ?_ ?_
    · refine ev_n 1 (S' := (1, [(0, .ref 317)], [.ref 317])) rfl ?_
      refine ev_get (v := .int 1) rfl rfl (hx_self (hx_app hp_at_317)) rfl ?_
      exact ev_ret rfl rfl rfl rfl
    refine ev_n 9 (S' := (26, [(4, .int 5), (6, .long 0), (5, .int 1), (3, .ref 464), (2, .ref 317), (1, .ref 0), (0, .float 0)], [.float 0, .int 5])) rfl ?_
    refine ev_sl (L := 5) (xs := xs) (v := 5) rfl rfl rfl ?_
    refine ev_n 4 (S' := (1372, [(4, .int 5), (6, .long 0), (5, .int 1), (3, .ref 464), (2, .ref 317), (1, .ref 0), (0, .float 0)], [.int 1])) rfl ?_
    exact ev_ret rfl rfl rfl rfl

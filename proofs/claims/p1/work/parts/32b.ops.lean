/-! ===== printed by wip/tools/sym.py: one call on new objects (op_0 by hand) ===== -/
set_option maxHeartbeats 4000000 in
set_option maxRecDepth 100000 in
theorem op_8 (xs : Nat → Int32) (b : Bool) (a0 a1 a2 a3 a4 : Int32) (h0 : xs 0 = a0) (h1 : xs 1 = a1) (h2 : xs 2 = a2) (h3 : xs 3 = a3) (h4 : xs 4 = a4) : ∃ G', px_ev cx_cl cx_fty cx_PM cx_na (cx_V (some (5, xs)) b) 1500 mxL (531, [(4, .int 0), (3, .ref 464), (2, .ref 317), (1, .ref 0), (0, .float 0)], []) hp2 (Sum.inl (some (.int 1))) G' ∧ G'.1.length ≤ 600002 ∧ G'.2 ≤ 7302232 := by
  by_cases q0 : a1.toInt < 0
  · refine ⟨(((hp2.1 ++ [Sum.inr (15, [])]).set 317 (Sum.inr (12, (fs317.set 0 (.int 1))))), hp2.2 + 6), ?_, by simp only [List.length_append, List.length_set, List.length_cons, List.length_nil]; rw [hp2_len]; decide, by show hp2.2 + 6 ≤ _; rw [hp2_sl]; decide⟩
    refine ev_n 5 (S' := (537, [(4, .int 0), (3, .ref 464), (2, .ref 317), (1, .ref 0), (0, .float 0)], [.int 1, .float 0, .ref 0])) rfl ?_
    refine ev_sc (L := 5) (xs := xs) (v := a1) rfl rfl (by decide) h1 ?_
    refine ev_n 4 (S' := (543, [(4, .int 0), (3, .ref 464), (2, .ref 317), (1, .ref 0), (0, .float 0)], [.int 2, .float 0, .int a1, .ref 0])) rfl ?_
    refine ev_sc (L := 5) (xs := xs) (v := a2) rfl rfl (by decide) h2 ?_
    refine ev_n 4 (S' := (549, [(4, .int 0), (3, .ref 464), (2, .ref 317), (1, .ref 0), (0, .float 0)], [.int 3, .float 0, .int a2, .int a1, .ref 0])) rfl ?_
    refine ev_sc (L := 5) (xs := xs) (v := a3) rfl rfl (by decide) h3 ?_
    refine ev_n 1 (S' := (551, [(4, .int 0), (3, .ref 464), (2, .ref 317), (1, .ref 0), (0, .float 0)], [.ref 464, .int a3, .int a2, .int a1, .ref 0])) rfl ?_
    refine ev_cs (v := some (.int 1)) (G1 := ((hp2.1 ++ [Sum.inr (15, [])]), hp2.2 + 6)) [.ref 464, .int a3, .int a2, .int a1, .ref 0] rfl rfl rfl rfl rfl rfl ?_ ?_
    · refine ev_n 6 (S' := (7, [(0, .ref 0), (1, .int a1), (2, .int a2), (3, .int a3), (4, .ref 464)], [.int a3, .int a2, .int a1, .ref 0, .int 0, .ref 464])) rfl ?_
      refine ev_cvx (x := 465) (G1 := ((hp2.1 ++ [Sum.inr (15, [])]), hp2.2 + 6)) (hpc := 15) [.int a3, .int a2, .int a1] rfl rfl rfl rfl hp_at_0 rfl rfl rfl rfl ?_ (hx_end (by decide +kernel)) (by decide +kernel) (by decide +kernel) ?_
      · refine ev_n 3 (S' := (3, [(0, .ref 0), (1, .int a1), (2, .int a2), (3, .int a3)], [.int a2, .int a1, .ref 0])) rfl ?_
        refine ev_cvo (x := 465) (G1 := ((hp2.1 ++ [Sum.inr (15, [])]), hp2.2 + 6)) [.int a2, .int a1] rfl rfl rfl rfl hp_at_0 rfl rfl rfl rfl ?_ (hx_end (by decide +kernel)) rfl
        · refine ev_n 2 (S' := (2, [(0, .ref 0), (1, .int a1), (2, .int a2)], [.int a1, .ref 0])) rfl ?_
          refine ev_cvo (x := 465) (G1 := ((hp2.1 ++ [Sum.inr (15, [])]), hp2.2 + 6)) [.int a1] rfl rfl rfl rfl hp_at_0 rfl rfl rfl rfl ?_ (hx_end (by decide +kernel)) rfl
          · refine ev_n 1 (S' := (1, [(0, .ref 0), (1, .int a1)], [.int a1])) rfl ?_
            refine px_ev.p (S' := (12, [(0, .ref 0), (1, .int a1)], [])) rfl (px_ifT (t := 12) (cA_lt_T 0 rfl (by omega)) rfl) ?_
            exact ev_thr rfl rfl rfl (by decide +kernel) (by decide +kernel)
      refine ev_n 2 (S' := (18, [(5, .ref 465), (0, .ref 0), (1, .int a1), (2, .int a2), (3, .int a3), (4, .ref 464)], [.int 1])) rfl ?_
      exact ev_ret rfl rfl rfl rfl
    refine ev_n 6 (S' := (562, [(5, .int 1), (4, .int 0), (3, .ref 464), (2, .ref 317), (1, .ref 0), (0, .float 0)], [.int 1, .float 0, .ref 317])) rfl ?_
    refine ev_sc (L := 5) (xs := xs) (v := a1) rfl rfl (by decide) h1 ?_
    refine ev_n 4 (S' := (568, [(5, .int 1), (4, .int 0), (3, .ref 464), (2, .ref 317), (1, .ref 0), (0, .float 0)], [.int 2, .float 0, .int a1, .ref 317])) rfl ?_
    refine ev_sc (L := 5) (xs := xs) (v := a2) rfl rfl (by decide) h2 ?_
    refine ev_n 4 (S' := (574, [(5, .int 1), (4, .int 0), (3, .ref 464), (2, .ref 317), (1, .ref 0), (0, .float 0)], [.int 3, .float 0, .int a2, .int a1, .ref 317])) rfl ?_
    refine ev_sc (L := 5) (xs := xs) (v := a3) rfl rfl (by decide) h3 ?_
    refine ev_cv (v := some (.int 0)) (G1 := (((hp2.1 ++ [Sum.inr (15, [])]).set 317 (Sum.inr (12, (fs317.set 0 (.int 1))))), hp2.2 + 6)) [.int a3, .int a2, .int a1] rfl rfl rfl rfl (hx_app hp_at_317) rfl rfl rfl rfl ?_ ?_
    · refine ev_n 4 (S' := (4, [(0, .ref 317), (1, .int a1), (2, .int a2), (3, .int a3)], [.int a2, .int a1, .ref 317, .ref 317])) rfl ?_
      refine ev_cv (v := some (.int 0)) (G1 := ((hp2.1 ++ [Sum.inr (15, [])]), hp2.2 + 6)) [.int a2, .int a1] rfl rfl rfl rfl (hx_app hp_at_317) rfl rfl rfl rfl ?_ ?_
      · refine ev_n 2 (S' := (2, [(0, .ref 317), (1, .int a1), (2, .int a2)], [.int a1, .ref 317])) rfl ?_
        refine ev_cv (v := some (.int 0)) (G1 := ((hp2.1 ++ [Sum.inr (15, [])]), hp2.2 + 6)) [.int a1] rfl rfl rfl rfl (hx_app hp_at_317) rfl rfl rfl rfl ?_ ?_
        · refine ev_n 4 (S' := (4, [(0, .ref 317), (1, .int a1)], [.ref 317, .long 0, .long ((a1).toInt64)])) rfl ?_
          refine ev_get (v := .int 0) rfl rfl (hx_app hp_at_317) rfl ?_
          refine ev_n 3 (S' := (10, [(0, .ref 317), (1, .int a1)], [.long (-1), .long 0, .long ((a1).toInt64)])) rfl ?_
          refine ev_cs (v := some (.int 0)) (G1 := ((hp2.1 ++ [Sum.inr (15, [])]), hp2.2 + 6)) [.long (-1), .long 0, .long ((a1).toInt64)] rfl rfl rfl rfl rfl rfl ?_ ?_
          · refine ev_n 3 (S' := (3, [(0, .long ((a1).toInt64)), (2, .long 0), (4, .long (-1))], [.int (lg_cmp ((a1).toInt64) (0))])) rfl ?_
            refine px_ev.p (S' := (17, [(0, .long ((a1).toInt64)), (2, .long 0), (4, .long (-1))], [])) rfl (px_ifT (t := 17) (cL_lt_T 0 rfl (by omega)) rfl) ?_
            refine ev_n 1 (S' := (18, [(0, .long ((a1).toInt64)), (2, .long 0), (4, .long (-1))], [.int 0])) rfl ?_
            exact ev_ret rfl rfl rfl rfl
          exact ev_ret rfl rfl rfl rfl
        refine ev_n 2 (S' := (43, [(0, .ref 317), (1, .int a1), (2, .int a2)], [.int 0])) rfl ?_
        exact ev_ret rfl rfl rfl rfl
      refine ev_n 2 (S' := (15, [(0, .ref 317), (1, .int a1), (2, .int a2), (3, .int a3)], [.int 1, .ref 317])) rfl ?_
      refine ev_put rfl rfl (hx_app hp_at_317) rfl rfl (by decide +kernel) ?_
      refine ev_n 1 (S' := (19, [(0, .ref 317), (1, .int a1), (2, .int a2), (3, .int a3)], [.ref 317])) rfl ?_
      refine ev_get (v := .int 1) rfl rfl (hx_self (hx_app hp_at_317)) rfl ?_
      refine ev_n 2 (S' := (26, [(0, .ref 317), (1, .int a1), (2, .int a2), (3, .int a3)], [.int 0])) rfl ?_
      exact ev_ret rfl rfl rfl rfl
    refine ev_n 2 (S' := (581, [(6, .int 0), (5, .int 1), (4, .int 0), (3, .ref 464), (2, .ref 317), (1, .ref 0), (0, .float 0)], [.ref 317])) rfl ?_
    refine ev_cv (v := some (.int 1)) (G1 := (((hp2.1 ++ [Sum.inr (15, [])]).set 317 (Sum.inr (12, (fs317.set 0 (.int 1))))), hp2.2 + 6)) [] rfl rfl rfl rfl (hx_self (hx_app hp_at_317)) rfl rfl rfl rfl ?_ ?_
    · refine ev_n 1 (S' := (1, [(0, .ref 317)], [.ref 317])) rfl ?_
      refine ev_get (v := .int 1) rfl rfl (hx_self (hx_app hp_at_317)) rfl ?_
      exact ev_ret rfl rfl rfl rfl
    refine ev_n 9 (S' := (26, [(4, .int 5), (6, .int 0), (5, .int 1), (3, .ref 464), (2, .ref 317), (1, .ref 0), (0, .float 0)], [.float 0, .int 5])) rfl ?_
    refine ev_sl (L := 5) (xs := xs) (v := 5) rfl rfl rfl ?_
    refine ev_n 4 (S' := (1372, [(4, .int 5), (6, .int 0), (5, .int 1), (3, .ref 464), (2, .ref 317), (1, .ref 0), (0, .float 0)], [.int 1])) rfl ?_
    exact ev_ret rfl rfl rfl rfl
  · refine ⟨(((hp2.1 ++ [Sum.inr (15, [])]).set 317 (Sum.inr (12, (fs317.set 0 (.int 1))))), hp2.2 + 6), ?_, by simp only [List.length_append, List.length_set, List.length_cons, List.length_nil]; rw [hp2_len]; decide, by show hp2.2 + 6 ≤ _; rw [hp2_sl]; decide⟩
    refine ev_n 5 (S' := (537, [(4, .int 0), (3, .ref 464), (2, .ref 317), (1, .ref 0), (0, .float 0)], [.int 1, .float 0, .ref 0])) rfl ?_
    refine ev_sc (L := 5) (xs := xs) (v := a1) rfl rfl (by decide) h1 ?_
    refine ev_n 4 (S' := (543, [(4, .int 0), (3, .ref 464), (2, .ref 317), (1, .ref 0), (0, .float 0)], [.int 2, .float 0, .int a1, .ref 0])) rfl ?_
    refine ev_sc (L := 5) (xs := xs) (v := a2) rfl rfl (by decide) h2 ?_
    refine ev_n 4 (S' := (549, [(4, .int 0), (3, .ref 464), (2, .ref 317), (1, .ref 0), (0, .float 0)], [.int 3, .float 0, .int a2, .int a1, .ref 0])) rfl ?_
    refine ev_sc (L := 5) (xs := xs) (v := a3) rfl rfl (by decide) h3 ?_
    refine ev_n 1 (S' := (551, [(4, .int 0), (3, .ref 464), (2, .ref 317), (1, .ref 0), (0, .float 0)], [.ref 464, .int a3, .int a2, .int a1, .ref 0])) rfl ?_
    refine ev_cs (v := some (.int 1)) (G1 := ((hp2.1 ++ [Sum.inr (15, [])]), hp2.2 + 6)) [.ref 464, .int a3, .int a2, .int a1, .ref 0] rfl rfl rfl rfl rfl rfl ?_ ?_
    · refine ev_n 6 (S' := (7, [(0, .ref 0), (1, .int a1), (2, .int a2), (3, .int a3), (4, .ref 464)], [.int a3, .int a2, .int a1, .ref 0, .int 0, .ref 464])) rfl ?_
      refine ev_cvx (x := 465) (G1 := ((hp2.1 ++ [Sum.inr (15, [])]), hp2.2 + 6)) (hpc := 15) [.int a3, .int a2, .int a1] rfl rfl rfl rfl hp_at_0 rfl rfl rfl rfl ?_ (hx_end (by decide +kernel)) (by decide +kernel) (by decide +kernel) ?_
      · refine ev_n 3 (S' := (3, [(0, .ref 0), (1, .int a1), (2, .int a2), (3, .int a3)], [.int a2, .int a1, .ref 0])) rfl ?_
        refine ev_cvo (x := 465) (G1 := ((hp2.1 ++ [Sum.inr (15, [])]), hp2.2 + 6)) [.int a2, .int a1] rfl rfl rfl rfl hp_at_0 rfl rfl rfl rfl ?_ (hx_end (by decide +kernel)) rfl
        · refine ev_n 2 (S' := (2, [(0, .ref 0), (1, .int a1), (2, .int a2)], [.int a1, .ref 0])) rfl ?_
          refine ev_cvo (x := 465) (G1 := ((hp2.1 ++ [Sum.inr (15, [])]), hp2.2 + 6)) [.int a1] rfl rfl rfl rfl hp_at_0 rfl rfl rfl rfl ?_ (hx_end (by decide +kernel)) rfl
          · refine ev_n 1 (S' := (1, [(0, .ref 0), (1, .int a1)], [.int a1])) rfl ?_
            refine px_ev.p (S' := (4, [(0, .ref 0), (1, .int a1)], [])) rfl (px_ifF (t := 12) (cA_lt_F 0 rfl (by omega)) rfl) ?_
            refine ev_n 2 (S' := (6, [(0, .ref 0), (1, .int a1)], [.ref 0, .int a1])) rfl ?_
            refine ev_get (v := .int 0) rfl rfl hp_at_0 rfl ?_
            refine px_ev.p (S' := (12, [(0, .ref 0), (1, .int a1)], [])) rfl (px_icF (t := 22) (cA_lt_F 0 rfl (by omega)) rfl) ?_
            exact ev_thr rfl rfl rfl (by decide +kernel) (by decide +kernel)
      refine ev_n 2 (S' := (18, [(5, .ref 465), (0, .ref 0), (1, .int a1), (2, .int a2), (3, .int a3), (4, .ref 464)], [.int 1])) rfl ?_
      exact ev_ret rfl rfl rfl rfl
    refine ev_n 6 (S' := (562, [(5, .int 1), (4, .int 0), (3, .ref 464), (2, .ref 317), (1, .ref 0), (0, .float 0)], [.int 1, .float 0, .ref 317])) rfl ?_
    refine ev_sc (L := 5) (xs := xs) (v := a1) rfl rfl (by decide) h1 ?_
    refine ev_n 4 (S' := (568, [(5, .int 1), (4, .int 0), (3, .ref 464), (2, .ref 317), (1, .ref 0), (0, .float 0)], [.int 2, .float 0, .int a1, .ref 317])) rfl ?_
    refine ev_sc (L := 5) (xs := xs) (v := a2) rfl rfl (by decide) h2 ?_
    refine ev_n 4 (S' := (574, [(5, .int 1), (4, .int 0), (3, .ref 464), (2, .ref 317), (1, .ref 0), (0, .float 0)], [.int 3, .float 0, .int a2, .int a1, .ref 317])) rfl ?_
    refine ev_sc (L := 5) (xs := xs) (v := a3) rfl rfl (by decide) h3 ?_
    refine ev_cv (v := some (.int 0)) (G1 := (((hp2.1 ++ [Sum.inr (15, [])]).set 317 (Sum.inr (12, (fs317.set 0 (.int 1))))), hp2.2 + 6)) [.int a3, .int a2, .int a1] rfl rfl rfl rfl (hx_app hp_at_317) rfl rfl rfl rfl ?_ ?_
    · refine ev_n 4 (S' := (4, [(0, .ref 317), (1, .int a1), (2, .int a2), (3, .int a3)], [.int a2, .int a1, .ref 317, .ref 317])) rfl ?_
      refine ev_cv (v := some (.int 0)) (G1 := ((hp2.1 ++ [Sum.inr (15, [])]), hp2.2 + 6)) [.int a2, .int a1] rfl rfl rfl rfl (hx_app hp_at_317) rfl rfl rfl rfl ?_ ?_
      · refine ev_n 2 (S' := (2, [(0, .ref 317), (1, .int a1), (2, .int a2)], [.int a1, .ref 317])) rfl ?_
        refine ev_cv (v := some (.int 0)) (G1 := ((hp2.1 ++ [Sum.inr (15, [])]), hp2.2 + 6)) [.int a1] rfl rfl rfl rfl (hx_app hp_at_317) rfl rfl rfl rfl ?_ ?_
        · refine ev_n 4 (S' := (4, [(0, .ref 317), (1, .int a1)], [.ref 317, .long 0, .long ((a1).toInt64)])) rfl ?_
          refine ev_get (v := .int 0) rfl rfl (hx_app hp_at_317) rfl ?_
          refine ev_n 3 (S' := (10, [(0, .ref 317), (1, .int a1)], [.long (-1), .long 0, .long ((a1).toInt64)])) rfl ?_
          refine ev_cs (v := some (.int 0)) (G1 := ((hp2.1 ++ [Sum.inr (15, [])]), hp2.2 + 6)) [.long (-1), .long 0, .long ((a1).toInt64)] rfl rfl rfl rfl rfl rfl ?_ ?_
          · refine ev_n 3 (S' := (3, [(0, .long ((a1).toInt64)), (2, .long 0), (4, .long (-1))], [.int (lg_cmp ((a1).toInt64) (0))])) rfl ?_
            refine px_ev.p (S' := (6, [(0, .long ((a1).toInt64)), (2, .long 0), (4, .long (-1))], [])) rfl (px_ifF (t := 17) (cL_lt_F 0 rfl (by omega)) rfl) ?_
            refine ev_n 3 (S' := (10, [(0, .long ((a1).toInt64)), (2, .long 0), (4, .long (-1))], [.int (lg_cmp ((a1).toInt64) ((-1)))])) rfl ?_
            refine px_ev.p (S' := (17, [(0, .long ((a1).toInt64)), (2, .long 0), (4, .long (-1))], [])) rfl (px_ifT (t := 17) (cL_gt_T (-1) rfl (by omega)) rfl) ?_
            refine ev_n 1 (S' := (18, [(0, .long ((a1).toInt64)), (2, .long 0), (4, .long (-1))], [.int 0])) rfl ?_
            exact ev_ret rfl rfl rfl rfl
          exact ev_ret rfl rfl rfl rfl
        refine ev_n 2 (S' := (43, [(0, .ref 317), (1, .int a1), (2, .int a2)], [.int 0])) rfl ?_
        exact ev_ret rfl rfl rfl rfl
      refine ev_n 2 (S' := (15, [(0, .ref 317), (1, .int a1), (2, .int a2), (3, .int a3)], [.int 1, .ref 317])) rfl ?_
      refine ev_put rfl rfl (hx_app hp_at_317) rfl rfl (by decide +kernel) ?_
      refine ev_n 1 (S' := (19, [(0, .ref 317), (1, .int a1), (2, .int a2), (3, .int a3)], [.ref 317])) rfl ?_
      refine ev_get (v := .int 1) rfl rfl (hx_self (hx_app hp_at_317)) rfl ?_
      refine ev_n 2 (S' := (26, [(0, .ref 317), (1, .int a1), (2, .int a2), (3, .int a3)], [.int 0])) rfl ?_
      exact ev_ret rfl rfl rfl rfl
    refine ev_n 2 (S' := (581, [(6, .int 0), (5, .int 1), (4, .int 0), (3, .ref 464), (2, .ref 317), (1, .ref 0), (0, .float 0)], [.ref 317])) rfl ?_
    refine ev_cv (v := some (.int 1)) (G1 := (((hp2.1 ++ [Sum.inr (15, [])]).set 317 (Sum.inr (12, (fs317.set 0 (.int 1))))), hp2.2 + 6)) [] rfl rfl rfl rfl (hx_self (hx_app hp_at_317)) rfl rfl rfl rfl ?_ ?_
    · refine ev_n 1 (S' := (1, [(0, .ref 317)], [.ref 317])) rfl ?_
      refine ev_get (v := .int 1) rfl rfl (hx_self (hx_app hp_at_317)) rfl ?_
      exact ev_ret rfl rfl rfl rfl
    refine ev_n 9 (S' := (26, [(4, .int 5), (6, .int 0), (5, .int 1), (3, .ref 464), (2, .ref 317), (1, .ref 0), (0, .float 0)], [.float 0, .int 5])) rfl ?_
    refine ev_sl (L := 5) (xs := xs) (v := 5) rfl rfl rfl ?_
    refine ev_n 4 (S' := (1372, [(4, .int 5), (6, .int 0), (5, .int 1), (3, .ref 464), (2, .ref 317), (1, .ref 0), (0, .float 0)], [.int 1])) rfl ?_
    exact ev_ret rfl rfl rfl rfl

set_option maxHeartbeats 4000000 in
set_option maxRecDepth 100000 in
theorem op_9 (xs : Nat → Int32) (b : Bool) (a0 a1 a2 a3 a4 : Int32) (h0 : xs 0 = a0) (h1 : xs 1 = a1) (h2 : xs 2 = a2) (h3 : xs 3 = a3) (h4 : xs 4 = a4) : ∃ G', px_ev cx_cl cx_fty cx_PM cx_na (cx_V (some (5, xs)) b) 1500 mxL (611, [(4, .int 0), (3, .ref 464), (2, .ref 317), (1, .ref 0), (0, .float 0)], []) hp2 (Sum.inl (some (.int 1))) G' ∧ G'.1.length ≤ 600002 ∧ G'.2 ≤ 7302232 := by
  by_cases q0 : a1.toInt < 0
  · refine ⟨(((hp2.1 ++ [Sum.inr (15, [])]).set 317 (Sum.inr (12, (fs317.set 0 (.int 1))))), hp2.2 + 6), ?_, by simp only [List.length_append, List.length_set, List.length_cons, List.length_nil]; rw [hp2_len]; decide, by show hp2.2 + 6 ≤ _; rw [hp2_sl]; decide⟩
    refine ev_n 5 (S' := (617, [(4, .int 0), (3, .ref 464), (2, .ref 317), (1, .ref 0), (0, .float 0)], [.int 1, .float 0, .ref 0])) rfl ?_
    refine ev_sc (L := 5) (xs := xs) (v := a1) rfl rfl (by decide) h1 ?_
    refine ev_n 4 (S' := (623, [(4, .int 0), (3, .ref 464), (2, .ref 317), (1, .ref 0), (0, .float 0)], [.int 2, .float 0, .int a1, .ref 0])) rfl ?_
    refine ev_sc (L := 5) (xs := xs) (v := a2) rfl rfl (by decide) h2 ?_
    refine ev_n 4 (S' := (629, [(4, .int 0), (3, .ref 464), (2, .ref 317), (1, .ref 0), (0, .float 0)], [.int 3, .float 0, .int a2, .int a1, .ref 0])) rfl ?_
    refine ev_sc (L := 5) (xs := xs) (v := a3) rfl rfl (by decide) h3 ?_
    refine ev_n 1 (S' := (631, [(4, .int 0), (3, .ref 464), (2, .ref 317), (1, .ref 0), (0, .float 0)], [.ref 464, .int a3, .int a2, .int a1, .ref 0])) rfl ?_
    refine ev_cs (v := some (.int 1)) (G1 := ((hp2.1 ++ [Sum.inr (15, [])]), hp2.2 + 6)) [.ref 464, .int a3, .int a2, .int a1, .ref 0] rfl rfl rfl rfl rfl rfl ?_ ?_
    · refine ev_n 6 (S' := (7, [(0, .ref 0), (1, .int a1), (2, .int a2), (3, .int a3), (4, .ref 464)], [.int a3, .int a2, .int a1, .ref 0, .int 0, .ref 464])) rfl ?_
      refine ev_cvx (x := 465) (G1 := ((hp2.1 ++ [Sum.inr (15, [])]), hp2.2 + 6)) (hpc := 15) [.int a3, .int a2, .int a1] rfl rfl rfl rfl hp_at_0 rfl rfl rfl rfl ?_ (hx_end (by decide +kernel)) (by decide +kernel) (by decide +kernel) ?_
      · refine ev_n 3 (S' := (3, [(0, .ref 0), (1, .int a1), (2, .int a2), (3, .int a3)], [.int a2, .int a1, .ref 0])) rfl ?_
        refine ev_cvo (x := 465) (G1 := ((hp2.1 ++ [Sum.inr (15, [])]), hp2.2 + 6)) [.int a2, .int a1] rfl rfl rfl rfl hp_at_0 rfl rfl rfl rfl ?_ (hx_end (by decide +kernel)) rfl
        · refine ev_n 2 (S' := (2, [(0, .ref 0), (1, .int a1), (2, .int a2)], [.int a1, .ref 0])) rfl ?_
          refine ev_cvo (x := 465) (G1 := ((hp2.1 ++ [Sum.inr (15, [])]), hp2.2 + 6)) [.int a1] rfl rfl rfl rfl hp_at_0 rfl rfl rfl rfl ?_ (hx_end (by decide +kernel)) rfl
          · refine ev_n 1 (S' := (1, [(0, .ref 0), (1, .int a1)], [.int a1])) rfl ?_
            refine px_ev.p (S' := (12, [(0, .ref 0), (1, .int a1)], [])) rfl (px_ifT (t := 12) (cA_lt_T 0 rfl (by omega)) rfl) ?_
            exact ev_thr rfl rfl rfl (by decide +kernel) (by decide +kernel)
      refine ev_n 2 (S' := (18, [(5, .ref 465), (0, .ref 0), (1, .int a1), (2, .int a2), (3, .int a3), (4, .ref 464)], [.int 1])) rfl ?_
      exact ev_ret rfl rfl rfl rfl
    refine ev_n 6 (S' := (642, [(5, .int 1), (4, .int 0), (3, .ref 464), (2, .ref 317), (1, .ref 0), (0, .float 0)], [.int 1, .float 0, .ref 317])) rfl ?_
    refine ev_sc (L := 5) (xs := xs) (v := a1) rfl rfl (by decide) h1 ?_
    refine ev_n 4 (S' := (648, [(5, .int 1), (4, .int 0), (3, .ref 464), (2, .ref 317), (1, .ref 0), (0, .float 0)], [.int 2, .float 0, .int a1, .ref 317])) rfl ?_
    refine ev_sc (L := 5) (xs := xs) (v := a2) rfl rfl (by decide) h2 ?_
    refine ev_n 4 (S' := (654, [(5, .int 1), (4, .int 0), (3, .ref 464), (2, .ref 317), (1, .ref 0), (0, .float 0)], [.int 3, .float 0, .int a2, .int a1, .ref 317])) rfl ?_
    refine ev_sc (L := 5) (xs := xs) (v := a3) rfl rfl (by decide) h3 ?_
    refine ev_cv (v := some (.int 0)) (G1 := (((hp2.1 ++ [Sum.inr (15, [])]).set 317 (Sum.inr (12, (fs317.set 0 (.int 1))))), hp2.2 + 6)) [.int a3, .int a2, .int a1] rfl rfl rfl rfl (hx_app hp_at_317) rfl rfl rfl rfl ?_ ?_
    · refine ev_n 4 (S' := (4, [(0, .ref 317), (1, .int a1), (2, .int a2), (3, .int a3)], [.int a2, .int a1, .ref 317, .ref 317])) rfl ?_
      refine ev_cv (v := some (.int 0)) (G1 := ((hp2.1 ++ [Sum.inr (15, [])]), hp2.2 + 6)) [.int a2, .int a1] rfl rfl rfl rfl (hx_app hp_at_317) rfl rfl rfl rfl ?_ ?_
      · refine ev_n 2 (S' := (2, [(0, .ref 317), (1, .int a1), (2, .int a2)], [.int a1, .ref 317])) rfl ?_
        refine ev_cv (v := some (.int 0)) (G1 := ((hp2.1 ++ [Sum.inr (15, [])]), hp2.2 + 6)) [.int a1] rfl rfl rfl rfl (hx_app hp_at_317) rfl rfl rfl rfl ?_ ?_
        · refine ev_n 4 (S' := (4, [(0, .ref 317), (1, .int a1)], [.ref 317, .long 0, .long ((a1).toInt64)])) rfl ?_
          refine ev_get (v := .int 0) rfl rfl (hx_app hp_at_317) rfl ?_
          refine ev_n 3 (S' := (10, [(0, .ref 317), (1, .int a1)], [.long (-1), .long 0, .long ((a1).toInt64)])) rfl ?_
          refine ev_cs (v := some (.int 0)) (G1 := ((hp2.1 ++ [Sum.inr (15, [])]), hp2.2 + 6)) [.long (-1), .long 0, .long ((a1).toInt64)] rfl rfl rfl rfl rfl rfl ?_ ?_
          · refine ev_n 3 (S' := (3, [(0, .long ((a1).toInt64)), (2, .long 0), (4, .long (-1))], [.int (lg_cmp ((a1).toInt64) (0))])) rfl ?_
            refine px_ev.p (S' := (17, [(0, .long ((a1).toInt64)), (2, .long 0), (4, .long (-1))], [])) rfl (px_ifT (t := 17) (cL_lt_T 0 rfl (by omega)) rfl) ?_
            refine ev_n 1 (S' := (18, [(0, .long ((a1).toInt64)), (2, .long 0), (4, .long (-1))], [.int 0])) rfl ?_
            exact ev_ret rfl rfl rfl rfl
          exact ev_ret rfl rfl rfl rfl
        refine ev_n 2 (S' := (43, [(0, .ref 317), (1, .int a1), (2, .int a2)], [.int 0])) rfl ?_
        exact ev_ret rfl rfl rfl rfl
      refine ev_n 2 (S' := (15, [(0, .ref 317), (1, .int a1), (2, .int a2), (3, .int a3)], [.int 1, .ref 317])) rfl ?_
      refine ev_put rfl rfl (hx_app hp_at_317) rfl rfl (by decide +kernel) ?_
      refine ev_n 1 (S' := (19, [(0, .ref 317), (1, .int a1), (2, .int a2), (3, .int a3)], [.ref 317])) rfl ?_
      refine ev_get (v := .int 1) rfl rfl (hx_self (hx_app hp_at_317)) rfl ?_
      refine ev_n 2 (S' := (26, [(0, .ref 317), (1, .int a1), (2, .int a2), (3, .int a3)], [.int 0])) rfl ?_
      exact ev_ret rfl rfl rfl rfl
    refine ev_n 2 (S' := (661, [(6, .int 0), (5, .int 1), (4, .int 0), (3, .ref 464), (2, .ref 317), (1, .ref 0), (0, .float 0)], [.ref 317])) rfl ?_
    refine ev_cv (v := some (.int 1)) (G1 := (((hp2.1 ++ [Sum.inr (15, [])]).set 317 (Sum.inr (12, (fs317.set 0 (.int 1))))), hp2.2 + 6)) [] rfl rfl rfl rfl (hx_self (hx_app hp_at_317)) rfl rfl rfl rfl ?_ ?_
    · refine ev_n 1 (S' := (1, [(0, .ref 317)], [.ref 317])) rfl ?_
      refine ev_get (v := .int 1) rfl rfl (hx_self (hx_app hp_at_317)) rfl ?_
      exact ev_ret rfl rfl rfl rfl
    refine ev_n 9 (S' := (26, [(4, .int 5), (6, .int 0), (5, .int 1), (3, .ref 464), (2, .ref 317), (1, .ref 0), (0, .float 0)], [.float 0, .int 5])) rfl ?_
    refine ev_sl (L := 5) (xs := xs) (v := 5) rfl rfl rfl ?_
    refine ev_n 4 (S' := (1372, [(4, .int 5), (6, .int 0), (5, .int 1), (3, .ref 464), (2, .ref 317), (1, .ref 0), (0, .float 0)], [.int 1])) rfl ?_
    exact ev_ret rfl rfl rfl rfl
  · refine ⟨(((hp2.1 ++ [Sum.inr (15, [])]).set 317 (Sum.inr (12, (fs317.set 0 (.int 1))))), hp2.2 + 6), ?_, by simp only [List.length_append, List.length_set, List.length_cons, List.length_nil]; rw [hp2_len]; decide, by show hp2.2 + 6 ≤ _; rw [hp2_sl]; decide⟩
    refine ev_n 5 (S' := (617, [(4, .int 0), (3, .ref 464), (2, .ref 317), (1, .ref 0), (0, .float 0)], [.int 1, .float 0, .ref 0])) rfl ?_
    refine ev_sc (L := 5) (xs := xs) (v := a1) rfl rfl (by decide) h1 ?_
    refine ev_n 4 (S' := (623, [(4, .int 0), (3, .ref 464), (2, .ref 317), (1, .ref 0), (0, .float 0)], [.int 2, .float 0, .int a1, .ref 0])) rfl ?_
    refine ev_sc (L := 5) (xs := xs) (v := a2) rfl rfl (by decide) h2 ?_
    refine ev_n 4 (S' := (629, [(4, .int 0), (3, .ref 464), (2, .ref 317), (1, .ref 0), (0, .float 0)], [.int 3, .float 0, .int a2, .int a1, .ref 0])) rfl ?_
    refine ev_sc (L := 5) (xs := xs) (v := a3) rfl rfl (by decide) h3 ?_
    refine ev_n 1 (S' := (631, [(4, .int 0), (3, .ref 464), (2, .ref 317), (1, .ref 0), (0, .float 0)], [.ref 464, .int a3, .int a2, .int a1, .ref 0])) rfl ?_
    refine ev_cs (v := some (.int 1)) (G1 := ((hp2.1 ++ [Sum.inr (15, [])]), hp2.2 + 6)) [.ref 464, .int a3, .int a2, .int a1, .ref 0] rfl rfl rfl rfl rfl rfl ?_ ?_
    · refine ev_n 6 (S' := (7, [(0, .ref 0), (1, .int a1), (2, .int a2), (3, .int a3), (4, .ref 464)], [.int a3, .int a2, .int a1, .ref 0, .int 0, .ref 464])) rfl ?_
      refine ev_cvx (x := 465) (G1 := ((hp2.1 ++ [Sum.inr (15, [])]), hp2.2 + 6)) (hpc := 15) [.int a3, .int a2, .int a1] rfl rfl rfl rfl hp_at_0 rfl rfl rfl rfl ?_ (hx_end (by decide +kernel)) (by decide +kernel) (by decide +kernel) ?_
      · refine ev_n 3 (S' := (3, [(0, .ref 0), (1, .int a1), (2, .int a2), (3, .int a3)], [.int a2, .int a1, .ref 0])) rfl ?_
        refine ev_cvo (x := 465) (G1 := ((hp2.1 ++ [Sum.inr (15, [])]), hp2.2 + 6)) [.int a2, .int a1] rfl rfl rfl rfl hp_at_0 rfl rfl rfl rfl ?_ (hx_end (by decide +kernel)) rfl
        · refine ev_n 2 (S' := (2, [(0, .ref 0), (1, .int a1), (2, .int a2)], [.int a1, .ref 0])) rfl ?_
          refine ev_cvo (x := 465) (G1 := ((hp2.1 ++ [Sum.inr (15, [])]), hp2.2 + 6)) [.int a1] rfl rfl rfl rfl hp_at_0 rfl rfl rfl rfl ?_ (hx_end (by decide +kernel)) rfl
          · refine ev_n 1 (S' := (1, [(0, .ref 0), (1, .int a1)], [.int a1])) rfl ?_
            refine px_ev.p (S' := (4, [(0, .ref 0), (1, .int a1)], [])) rfl (px_ifF (t := 12) (cA_lt_F 0 rfl (by omega)) rfl) ?_
            refine ev_n 2 (S' := (6, [(0, .ref 0), (1, .int a1)], [.ref 0, .int a1])) rfl ?_
            refine ev_get (v := .int 0) rfl rfl hp_at_0 rfl ?_
            refine px_ev.p (S' := (12, [(0, .ref 0), (1, .int a1)], [])) rfl (px_icF (t := 22) (cA_lt_F 0 rfl (by omega)) rfl) ?_
            exact ev_thr rfl rfl rfl (by decide +kernel) (by decide +kernel)
      refine ev_n 2 (S' := (18, [(5, .ref 465), (0, .ref 0), (1, .int a1), (2, .int a2), (3, .int a3), (4, .ref 464)], [.int 1])) rfl ?_
      exact ev_ret rfl rfl rfl rfl
    refine ev_n 6 (S' := (642, [(5, .int 1), (4, .int 0), (3, .ref 464), (2, .ref 317), (1, .ref 0), (0, .float 0)], [.int 1, .float 0, .ref 317])) rfl ?_
    refine ev_sc (L := 5) (xs := xs) (v := a1) rfl rfl (by decide) h1 ?_
    refine ev_n 4 (S' := (648, [(5, .int 1), (4, .int 0), (3, .ref 464), (2, .ref 317), (1, .ref 0), (0, .float 0)], [.int 2, .float 0, .int a1, .ref 317])) rfl ?_
    refine ev_sc (L := 5) (xs := xs) (v := a2) rfl rfl (by decide) h2 ?_
    refine ev_n 4 (S' := (654, [(5, .int 1), (4, .int 0), (3, .ref 464), (2, .ref 317), (1, .ref 0), (0, .float 0)], [.int 3, .float 0, .int a2, .int a1, .ref 317])) rfl ?_
    refine ev_sc (L := 5) (xs := xs) (v := a3) rfl rfl (by decide) h3 ?_
    refine ev_cv (v := some (.int 0)) (G1 := (((hp2.1 ++ [Sum.inr (15, [])]).set 317 (Sum.inr (12, (fs317.set 0 (.int 1))))), hp2.2 + 6)) [.int a3, .int a2, .int a1] rfl rfl rfl rfl (hx_app hp_at_317) rfl rfl rfl rfl ?_ ?_
    · refine ev_n 4 (S' := (4, [(0, .ref 317), (1, .int a1), (2, .int a2), (3, .int a3)], [.int a2, .int a1, .ref 317, .ref 317])) rfl ?_
      refine ev_cv (v := some (.int 0)) (G1 := ((hp2.1 ++ [Sum.inr (15, [])]), hp2.2 + 6)) [.int a2, .int a1] rfl rfl rfl rfl (hx_app hp_at_317) rfl rfl rfl rfl ?_ ?_
      · refine ev_n 2 (S' := (2, [(0, .ref 317), (1, .int a1), (2, .int a2)], [.int a1, .ref 317])) rfl ?_
        refine ev_cv (v := some (.int 0)) (G1 := ((hp2.1 ++ [Sum.inr (15, [])]), hp2.2 + 6)) [.int a1] rfl rfl rfl rfl (hx_app hp_at_317) rfl rfl rfl rfl ?_ ?_
        · refine ev_n 4 (S' := (4, [(0, .ref 317), (1, .int a1)], [.ref 317, .long 0, .long ((a1).toInt64)])) rfl ?_
          refine ev_get (v := .int 0) rfl rfl (hx_app hp_at_317) rfl ?_
          refine ev_n 3 (S' := (10, [(0, .ref 317), (1, .int a1)], [.long (-1), .long 0, .long ((a1).toInt64)])) rfl ?_
          refine ev_cs (v := some (.int 0)) (G1 := ((hp2.1 ++ [Sum.inr (15, [])]), hp2.2 + 6)) [.long (-1), .long 0, .long ((a1).toInt64)] rfl rfl rfl rfl rfl rfl ?_ ?_
          · refine ev_n 3 (S' := (3, [(0, .long ((a1).toInt64)), (2, .long 0), (4, .long (-1))], [.int (lg_cmp ((a1).toInt64) (0))])) rfl ?_
            refine px_ev.p (S' := (6, [(0, .long ((a1).toInt64)), (2, .long 0), (4, .long (-1))], [])) rfl (px_ifF (t := 17) (cL_lt_F 0 rfl (by omega)) rfl) ?_
            refine ev_n 3 (S' := (10, [(0, .long ((a1).toInt64)), (2, .long 0), (4, .long (-1))], [.int (lg_cmp ((a1).toInt64) ((-1)))])) rfl ?_
            refine px_ev.p (S' := (17, [(0, .long ((a1).toInt64)), (2, .long 0), (4, .long (-1))], [])) rfl (px_ifT (t := 17) (cL_gt_T (-1) rfl (by omega)) rfl) ?_
            refine ev_n 1 (S' := (18, [(0, .long ((a1).toInt64)), (2, .long 0), (4, .long (-1))], [.int 0])) rfl ?_
            exact ev_ret rfl rfl rfl rfl
          exact ev_ret rfl rfl rfl rfl
        refine ev_n 2 (S' := (43, [(0, .ref 317), (1, .int a1), (2, .int a2)], [.int 0])) rfl ?_
        exact ev_ret rfl rfl rfl rfl
      refine ev_n 2 (S' := (15, [(0, .ref 317), (1, .int a1), (2, .int a2), (3, .int a3)], [.int 1, .ref 317])) rfl ?_
      refine ev_put rfl rfl (hx_app hp_at_317) rfl rfl (by decide +kernel) ?_
      refine ev_n 1 (S' := (19, [(0, .ref 317), (1, .int a1), (2, .int a2), (3, .int a3)], [.ref 317])) rfl ?_
      refine ev_get (v := .int 1) rfl rfl (hx_self (hx_app hp_at_317)) rfl ?_
      refine ev_n 2 (S' := (26, [(0, .ref 317), (1, .int a1), (2, .int a2), (3, .int a3)], [.int 0])) rfl ?_
      exact ev_ret rfl rfl rfl rfl
    refine ev_n 2 (S' := (661, [(6, .int 0), (5, .int 1), (4, .int 0), (3, .ref 464), (2, .ref 317), (1, .ref 0), (0, .float 0)], [.ref 317])) rfl ?_
    refine ev_cv (v := some (.int 1)) (G1 := (((hp2.1 ++ [Sum.inr (15, [])]).set 317 (Sum.inr (12, (fs317.set 0 (.int 1))))), hp2.2 + 6)) [] rfl rfl rfl rfl (hx_self (hx_app hp_at_317)) rfl rfl rfl rfl ?_ ?_
    · refine ev_n 1 (S' := (1, [(0, .ref 317)], [.ref 317])) rfl ?_
      refine ev_get (v := .int 1) rfl rfl (hx_self (hx_app hp_at_317)) rfl ?_
      exact ev_ret rfl rfl rfl rfl
    refine ev_n 9 (S' := (26, [(4, .int 5), (6, .int 0), (5, .int 1), (3, .ref 464), (2, .ref 317), (1, .ref 0), (0, .float 0)], [.float 0, .int 5])) rfl ?_
    refine ev_sl (L := 5) (xs := xs) (v := 5) rfl rfl rfl ?_
    refine ev_n 4 (S' := (1372, [(4, .int 5), (6, .int 0), (5, .int 1), (3, .ref 464), (2, .ref 317), (1, .ref 0), (0, .float 0)], [.int 1])) rfl ?_
    exact ev_ret rfl rfl rfl rfl

set_option maxHeartbeats 4000000 in
set_option maxRecDepth 100000 in
theorem op_10 (xs : Nat → Int32) (b : Bool) (a0 a1 a2 a3 a4 : Int32) (h0 : xs 0 = a0) (h1 : xs 1 = a1) (h2 : xs 2 = a2) (h3 : xs 3 = a3) (h4 : xs 4 = a4) : ∃ G', px_ev cx_cl cx_fty cx_PM cx_na (cx_V (some (5, xs)) b) 1500 mxL (691, [(4, .int 0), (3, .ref 464), (2, .ref 317), (1, .ref 0), (0, .float 0)], []) hp2 (Sum.inl (some (.int 1))) G' ∧ G'.1.length ≤ 600002 ∧ G'.2 ≤ 7302232 := by
  by_cases q0 : a1.toInt < 0
  · refine ⟨(((hp2.1 ++ [Sum.inr (15, [])]).set 317 (Sum.inr (12, (fs317.set 0 (.int 1))))), hp2.2 + 6), ?_, by simp only [List.length_append, List.length_set, List.length_cons, List.length_nil]; rw [hp2_len]; decide, by show hp2.2 + 6 ≤ _; rw [hp2_sl]; decide⟩
    refine ev_n 5 (S' := (697, [(4, .int 0), (3, .ref 464), (2, .ref 317), (1, .ref 0), (0, .float 0)], [.int 1, .float 0, .ref 0])) rfl ?_
    refine ev_sc (L := 5) (xs := xs) (v := a1) rfl rfl (by decide) h1 ?_
    refine ev_n 4 (S' := (703, [(4, .int 0), (3, .ref 464), (2, .ref 317), (1, .ref 0), (0, .float 0)], [.int 2, .float 0, .int a1, .ref 0])) rfl ?_
    refine ev_sc (L := 5) (xs := xs) (v := a2) rfl rfl (by decide) h2 ?_
    refine ev_n 4 (S' := (709, [(4, .int 0), (3, .ref 464), (2, .ref 317), (1, .ref 0), (0, .float 0)], [.int 3, .float 0, .int a2, .int a1, .ref 0])) rfl ?_
    refine ev_sc (L := 5) (xs := xs) (v := a3) rfl rfl (by decide) h3 ?_
    refine ev_n 4 (S' := (715, [(4, .int 0), (3, .ref 464), (2, .ref 317), (1, .ref 0), (0, .float 0)], [.int 4, .float 0, .int a3, .int a2, .int a1, .ref 0])) rfl ?_
    refine ev_sc (L := 5) (xs := xs) (v := a4) rfl rfl (by decide) h4 ?_
    refine ev_n 1 (S' := (717, [(4, .int 0), (3, .ref 464), (2, .ref 317), (1, .ref 0), (0, .float 0)], [.ref 464, .int a4, .int a3, .int a2, .int a1, .ref 0])) rfl ?_
    refine ev_cs (v := some (.int 1)) (G1 := ((hp2.1 ++ [Sum.inr (15, [])]), hp2.2 + 6)) [.ref 464, .int a4, .int a3, .int a2, .int a1, .ref 0] rfl rfl rfl rfl rfl rfl ?_ ?_
    · refine ev_n 7 (S' := (9, [(0, .ref 0), (1, .int a1), (2, .int a2), (3, .int a3), (4, .int a4), (5, .ref 464)], [.int a4, .int a3, .int a2, .int a1, .ref 0, .int 0, .ref 464])) rfl ?_
      refine ev_cvx (x := 465) (G1 := ((hp2.1 ++ [Sum.inr (15, [])]), hp2.2 + 6)) (hpc := 24) [.int a4, .int a3, .int a2, .int a1] rfl rfl rfl rfl hp_at_0 rfl rfl rfl rfl ?_ (hx_end (by decide +kernel)) (by decide +kernel) (by decide +kernel) ?_
      · refine ev_n 3 (S' := (3, [(0, .ref 0), (1, .int a1), (2, .int a2), (3, .int a3), (4, .int a4)], [.int a2, .int a1, .ref 0])) rfl ?_
        refine ev_cvo (x := 465) (G1 := ((hp2.1 ++ [Sum.inr (15, [])]), hp2.2 + 6)) [.int a2, .int a1] rfl rfl rfl rfl hp_at_0 rfl rfl rfl rfl ?_ (hx_end (by decide +kernel)) rfl
        · refine ev_n 2 (S' := (2, [(0, .ref 0), (1, .int a1), (2, .int a2)], [.int a1, .ref 0])) rfl ?_
          refine ev_cvo (x := 465) (G1 := ((hp2.1 ++ [Sum.inr (15, [])]), hp2.2 + 6)) [.int a1] rfl rfl rfl rfl hp_at_0 rfl rfl rfl rfl ?_ (hx_end (by decide +kernel)) rfl
          · refine ev_n 1 (S' := (1, [(0, .ref 0), (1, .int a1)], [.int a1])) rfl ?_
            refine px_ev.p (S' := (12, [(0, .ref 0), (1, .int a1)], [])) rfl (px_ifT (t := 12) (cA_lt_T 0 rfl (by omega)) rfl) ?_
            exact ev_thr rfl rfl rfl (by decide +kernel) (by decide +kernel)
      refine ev_n 2 (S' := (27, [(6, .ref 465), (0, .ref 0), (1, .int a1), (2, .int a2), (3, .int a3), (4, .int a4), (5, .ref 464)], [.int 1])) rfl ?_
      exact ev_ret rfl rfl rfl rfl
    refine ev_n 6 (S' := (728, [(5, .int 1), (4, .int 0), (3, .ref 464), (2, .ref 317), (1, .ref 0), (0, .float 0)], [.int 1, .float 0, .ref 317])) rfl ?_
    refine ev_sc (L := 5) (xs := xs) (v := a1) rfl rfl (by decide) h1 ?_
    refine ev_n 4 (S' := (734, [(5, .int 1), (4, .int 0), (3, .ref 464), (2, .ref 317), (1, .ref 0), (0, .float 0)], [.int 2, .float 0, .int a1, .ref 317])) rfl ?_
    refine ev_sc (L := 5) (xs := xs) (v := a2) rfl rfl (by decide) h2 ?_
    refine ev_n 4 (S' := (740, [(5, .int 1), (4, .int 0), (3, .ref 464), (2, .ref 317), (1, .ref 0), (0, .float 0)], [.int 3, .float 0, .int a2, .int a1, .ref 317])) rfl ?_
    refine ev_sc (L := 5) (xs := xs) (v := a3) rfl rfl (by decide) h3 ?_
    refine ev_n 4 (S' := (746, [(5, .int 1), (4, .int 0), (3, .ref 464), (2, .ref 317), (1, .ref 0), (0, .float 0)], [.int 4, .float 0, .int a3, .int a2, .int a1, .ref 317])) rfl ?_
    refine ev_sc (L := 5) (xs := xs) (v := a4) rfl rfl (by decide) h4 ?_
    refine ev_cv (v := some (.int 0)) (G1 := (((hp2.1 ++ [Sum.inr (15, [])]).set 317 (Sum.inr (12, (fs317.set 0 (.int 1))))), hp2.2 + 6)) [.int a4, .int a3, .int a2, .int a1] rfl rfl rfl rfl (hx_app hp_at_317) rfl rfl rfl rfl ?_ ?_
    · refine ev_n 4 (S' := (4, [(0, .ref 317), (1, .int a1), (2, .int a2), (3, .int a3), (4, .int a4)], [.int a2, .int a1, .ref 317, .ref 317])) rfl ?_
      refine ev_cv (v := some (.int 0)) (G1 := ((hp2.1 ++ [Sum.inr (15, [])]), hp2.2 + 6)) [.int a2, .int a1] rfl rfl rfl rfl (hx_app hp_at_317) rfl rfl rfl rfl ?_ ?_
      · refine ev_n 2 (S' := (2, [(0, .ref 317), (1, .int a1), (2, .int a2)], [.int a1, .ref 317])) rfl ?_
        refine ev_cv (v := some (.int 0)) (G1 := ((hp2.1 ++ [Sum.inr (15, [])]), hp2.2 + 6)) [.int a1] rfl rfl rfl rfl (hx_app hp_at_317) rfl rfl rfl rfl ?_ ?_
        · refine ev_n 4 (S' := (4, [(0, .ref 317), (1, .int a1)], [.ref 317, .long 0, .long ((a1).toInt64)])) rfl ?_
          refine ev_get (v := .int 0) rfl rfl (hx_app hp_at_317) rfl ?_
          refine ev_n 3 (S' := (10, [(0, .ref 317), (1, .int a1)], [.long (-1), .long 0, .long ((a1).toInt64)])) rfl ?_
          refine ev_cs (v := some (.int 0)) (G1 := ((hp2.1 ++ [Sum.inr (15, [])]), hp2.2 + 6)) [.long (-1), .long 0, .long ((a1).toInt64)] rfl rfl rfl rfl rfl rfl ?_ ?_
          · refine ev_n 3 (S' := (3, [(0, .long ((a1).toInt64)), (2, .long 0), (4, .long (-1))], [.int (lg_cmp ((a1).toInt64) (0))])) rfl ?_
            refine px_ev.p (S' := (17, [(0, .long ((a1).toInt64)), (2, .long 0), (4, .long (-1))], [])) rfl (px_ifT (t := 17) (cL_lt_T 0 rfl (by omega)) rfl) ?_
            refine ev_n 1 (S' := (18, [(0, .long ((a1).toInt64)), (2, .long 0), (4, .long (-1))], [.int 0])) rfl ?_
            exact ev_ret rfl rfl rfl rfl
          exact ev_ret rfl rfl rfl rfl
        refine ev_n 2 (S' := (43, [(0, .ref 317), (1, .int a1), (2, .int a2)], [.int 0])) rfl ?_
        exact ev_ret rfl rfl rfl rfl
      refine ev_n 2 (S' := (25, [(0, .ref 317), (1, .int a1), (2, .int a2), (3, .int a3), (4, .int a4)], [.int 1, .ref 317])) rfl ?_
      refine ev_put rfl rfl (hx_app hp_at_317) rfl rfl (by decide +kernel) ?_
      refine ev_n 1 (S' := (29, [(0, .ref 317), (1, .int a1), (2, .int a2), (3, .int a3), (4, .int a4)], [.ref 317])) rfl ?_
      refine ev_get (v := .int 1) rfl rfl (hx_self (hx_app hp_at_317)) rfl ?_
      refine ev_n 2 (S' := (36, [(0, .ref 317), (1, .int a1), (2, .int a2), (3, .int a3), (4, .int a4)], [.int 0])) rfl ?_
      exact ev_ret rfl rfl rfl rfl
    refine ev_n 2 (S' := (753, [(6, .int 0), (5, .int 1), (4, .int 0), (3, .ref 464), (2, .ref 317), (1, .ref 0), (0, .float 0)], [.ref 317])) rfl ?_
    refine ev_cv (v := some (.int 1)) (G1 := (((hp2.1 ++ [Sum.inr (15, [])]).set 317 (Sum.inr (12, (fs317.set 0 (.int 1))))), hp2.2 + 6)) [] rfl rfl rfl rfl (hx_self (hx_app hp_at_317)) rfl rfl rfl rfl ?_ ?_
    · refine ev_n 1 (S' := (1, [(0, .ref 317)], [.ref 317])) rfl ?_
      refine ev_get (v := .int 1) rfl rfl (hx_self (hx_app hp_at_317)) rfl ?_
      exact ev_ret rfl rfl rfl rfl
    refine ev_n 9 (S' := (26, [(4, .int 5), (6, .int 0), (5, .int 1), (3, .ref 464), (2, .ref 317), (1, .ref 0), (0, .float 0)], [.float 0, .int 5])) rfl ?_
    refine ev_sl (L := 5) (xs := xs) (v := 5) rfl rfl rfl ?_
    refine ev_n 4 (S' := (1372, [(4, .int 5), (6, .int 0), (5, .int 1), (3, .ref 464), (2, .ref 317), (1, .ref 0), (0, .float 0)], [.int 1])) rfl ?_
    exact ev_ret rfl rfl rfl rfl
  · refine ⟨(((hp2.1 ++ [Sum.inr (15, [])]).set 317 (Sum.inr (12, (fs317.set 0 (.int 1))))), hp2.2 + 6), ?_, by simp only [List.length_append, List.length_set, List.length_cons, List.length_nil]; rw [hp2_len]; decide, by show hp2.2 + 6 ≤ _; rw [hp2_sl]; decide⟩
    refine ev_n 5 (S' := (697, [(4, .int 0), (3, .ref 464), (2, .ref 317), (1, .ref 0), (0, .float 0)], [.int 1, .float 0, .ref 0])) rfl ?_
    refine ev_sc (L := 5) (xs := xs) (v := a1) rfl rfl (by decide) h1 ?_
    refine ev_n 4 (S' := (703, [(4, .int 0), (3, .ref 464), (2, .ref 317), (1, .ref 0), (0, .float 0)], [.int 2, .float 0, .int a1, .ref 0])) rfl ?_
    refine ev_sc (L := 5) (xs := xs) (v := a2) rfl rfl (by decide) h2 ?_
    refine ev_n 4 (S' := (709, [(4, .int 0), (3, .ref 464), (2, .ref 317), (1, .ref 0), (0, .float 0)], [.int 3, .float 0, .int a2, .int a1, .ref 0])) rfl ?_
    refine ev_sc (L := 5) (xs := xs) (v := a3) rfl rfl (by decide) h3 ?_
    refine ev_n 4 (S' := (715, [(4, .int 0), (3, .ref 464), (2, .ref 317), (1, .ref 0), (0, .float 0)], [.int 4, .float 0, .int a3, .int a2, .int a1, .ref 0])) rfl ?_
    refine ev_sc (L := 5) (xs := xs) (v := a4) rfl rfl (by decide) h4 ?_
    refine ev_n 1 (S' := (717, [(4, .int 0), (3, .ref 464), (2, .ref 317), (1, .ref 0), (0, .float 0)], [.ref 464, .int a4, .int a3, .int a2, .int a1, .ref 0])) rfl ?_
    refine ev_cs (v := some (.int 1)) (G1 := ((hp2.1 ++ [Sum.inr (15, [])]), hp2.2 + 6)) [.ref 464, .int a4, .int a3, .int a2, .int a1, .ref 0] rfl rfl rfl rfl rfl rfl ?_ ?_
    · refine ev_n 7 (S' := (9, [(0, .ref 0), (1, .int a1), (2, .int a2), (3, .int a3), (4, .int a4), (5, .ref 464)], [.int a4, .int a3, .int a2, .int a1, .ref 0, .int 0, .ref 464])) rfl ?_
      refine ev_cvx (x := 465) (G1 := ((hp2.1 ++ [Sum.inr (15, [])]), hp2.2 + 6)) (hpc := 24) [.int a4, .int a3, .int a2, .int a1] rfl rfl rfl rfl hp_at_0 rfl rfl rfl rfl ?_ (hx_end (by decide +kernel)) (by decide +kernel) (by decide +kernel) ?_
      · refine ev_n 3 (S' := (3, [(0, .ref 0), (1, .int a1), (2, .int a2), (3, .int a3), (4, .int a4)], [.int a2, .int a1, .ref 0])) rfl ?_
        refine ev_cvo (x := 465) (G1 := ((hp2.1 ++ [Sum.inr (15, [])]), hp2.2 + 6)) [.int a2, .int a1] rfl rfl rfl rfl hp_at_0 rfl rfl rfl rfl ?_ (hx_end (by decide +kernel)) rfl
        · refine ev_n 2 (S' := (2, [(0, .ref 0), (1, .int a1), (2, .int a2)], [.int a1, .ref 0])) rfl ?_
          refine ev_cvo (x := 465) (G1 := ((hp2.1 ++ [Sum.inr (15, [])]), hp2.2 + 6)) [.int a1] rfl rfl rfl rfl hp_at_0 rfl rfl rfl rfl ?_ (hx_end (by decide +kernel)) rfl
          · refine ev_n 1 (S' := (1, [(0, .ref 0), (1, .int a1)], [.int a1])) rfl ?_
            refine px_ev.p (S' := (4, [(0, .ref 0), (1, .int a1)], [])) rfl (px_ifF (t := 12) (cA_lt_F 0 rfl (by omega)) rfl) ?_
            refine ev_n 2 (S' := (6, [(0, .ref 0), (1, .int a1)], [.ref 0, .int a1])) rfl ?_
            refine ev_get (v := .int 0) rfl rfl hp_at_0 rfl ?_
            refine px_ev.p (S' := (12, [(0, .ref 0), (1, .int a1)], [])) rfl (px_icF (t := 22) (cA_lt_F 0 rfl (by omega)) rfl) ?_
            exact ev_thr rfl rfl rfl (by decide +kernel) (by decide +kernel)
      refine ev_n 2 (S' := (27, [(6, .ref 465), (0, .ref 0), (1, .int a1), (2, .int a2), (3, .int a3), (4, .int a4), (5, .ref 464)], [.int 1])) rfl ?_
      exact ev_ret rfl rfl rfl rfl
    refine ev_n 6 (S' := (728, [(5, .int 1), (4, .int 0), (3, .ref 464), (2, .ref 317), (1, .ref 0), (0, .float 0)], [.int 1, .float 0, .ref 317])) rfl ?_
    refine ev_sc (L := 5) (xs := xs) (v := a1) rfl rfl (by decide) h1 ?_
    refine ev_n 4 (S' := (734, [(5, .int 1), (4, .int 0), (3, .ref 464), (2, .ref 317), (1, .ref 0), (0, .float 0)], [.int 2, .float 0, .int a1, .ref 317])) rfl ?_
    refine ev_sc (L := 5) (xs := xs) (v := a2) rfl rfl (by decide) h2 ?_
    refine ev_n 4 (S' := (740, [(5, .int 1), (4, .int 0), (3, .ref 464), (2, .ref 317), (1, .ref 0), (0, .float 0)], [.int 3, .float 0, .int a2, .int a1, .ref 317])) rfl ?_
    refine ev_sc (L := 5) (xs := xs) (v := a3) rfl rfl (by decide) h3 ?_
    refine ev_n 4 (S' := (746, [(5, .int 1), (4, .int 0), (3, .ref 464), (2, .ref 317), (1, .ref 0), (0, .float 0)], [.int 4, .float 0, .int a3, .int a2, .int a1, .ref 317])) rfl ?_
    refine ev_sc (L := 5) (xs := xs) (v := a4) rfl rfl (by decide) h4 ?_
    refine ev_cv (v := some (.int 0)) (G1 := (((hp2.1 ++ [Sum.inr (15, [])]).set 317 (Sum.inr (12, (fs317.set 0 (.int 1))))), hp2.2 + 6)) [.int a4, .int a3, .int a2, .int a1] rfl rfl rfl rfl (hx_app hp_at_317) rfl rfl rfl rfl ?_ ?_
    · refine ev_n 4 (S' := (4, [(0, .ref 317), (1, .int a1), (2, .int a2), (3, .int a3), (4, .int a4)], [.int a2, .int a1, .ref 317, .ref 317])) rfl ?_
      refine ev_cv (v := some (.int 0)) (G1 := ((hp2.1 ++ [Sum.inr (15, [])]), hp2.2 + 6)) [.int a2, .int a1] rfl rfl rfl rfl (hx_app hp_at_317) rfl rfl rfl rfl ?_ ?_
      · refine ev_n 2 (S' := (2, [(0, .ref 317), (1, .int a1), (2, .int a2)], [.int a1, .ref 317])) rfl ?_
        refine ev_cv (v := some (.int 0)) (G1 := ((hp2.1 ++ [Sum.inr (15, [])]), hp2.2 + 6)) [.int a1] rfl rfl rfl rfl (hx_app hp_at_317) rfl rfl rfl rfl ?_ ?_
        · refine ev_n 4 (S' := (4, [(0, .ref 317), (1, .int a1)], [.ref 317, .long 0, .long ((a1).toInt64)])) rfl ?_
          refine ev_get (v := .int 0) rfl rfl (hx_app hp_at_317) rfl ?_
          refine ev_n 3 (S' := (10, [(0, .ref 317), (1, .int a1)], [.long (-1), .long 0, .long ((a1).toInt64)])) rfl ?_
          refine ev_cs (v := some (.int 0)) (G1 := ((hp2.1 ++ [Sum.inr (15, [])]), hp2.2 + 6)) [.long (-1), .long 0, .long ((a1).toInt64)] rfl rfl rfl rfl rfl rfl ?_ ?_
          · refine ev_n 3 (S' := (3, [(0, .long ((a1).toInt64)), (2, .long 0), (4, .long (-1))], [.int (lg_cmp ((a1).toInt64) (0))])) rfl ?_
            refine px_ev.p (S' := (6, [(0, .long ((a1).toInt64)), (2, .long 0), (4, .long (-1))], [])) rfl (px_ifF (t := 17) (cL_lt_F 0 rfl (by omega)) rfl) ?_
            refine ev_n 3 (S' := (10, [(0, .long ((a1).toInt64)), (2, .long 0), (4, .long (-1))], [.int (lg_cmp ((a1).toInt64) ((-1)))])) rfl ?_
            refine px_ev.p (S' := (17, [(0, .long ((a1).toInt64)), (2, .long 0), (4, .long (-1))], [])) rfl (px_ifT (t := 17) (cL_gt_T (-1) rfl (by omega)) rfl) ?_
            refine ev_n 1 (S' := (18, [(0, .long ((a1).toInt64)), (2, .long 0), (4, .long (-1))], [.int 0])) rfl ?_
            exact ev_ret rfl rfl rfl rfl
          exact ev_ret rfl rfl rfl rfl
        refine ev_n 2 (S' := (43, [(0, .ref 317), (1, .int a1), (2, .int a2)], [.int 0])) rfl ?_
        exact ev_ret rfl rfl rfl rfl
      refine ev_n 2 (S' := (25, [(0, .ref 317), (1, .int a1), (2, .int a2), (3, .int a3), (4, .int a4)], [.int 1, .ref 317])) rfl ?_
      refine ev_put rfl rfl (hx_app hp_at_317) rfl rfl (by decide +kernel) ?_
      refine ev_n 1 (S' := (29, [(0, .ref 317), (1, .int a1), (2, .int a2), (3, .int a3), (4, .int a4)], [.ref 317])) rfl ?_
      refine ev_get (v := .int 1) rfl rfl (hx_self (hx_app hp_at_317)) rfl ?_
      refine ev_n 2 (S' := (36, [(0, .ref 317), (1, .int a1), (2, .int a2), (3, .int a3), (4, .int a4)], [.int 0])) rfl ?_
      exact ev_ret rfl rfl rfl rfl
    refine ev_n 2 (S' := (753, [(6, .int 0), (5, .int 1), (4, .int 0), (3, .ref 464), (2, .ref 317), (1, .ref 0), (0, .float 0)], [.ref 317])) rfl ?_
    refine ev_cv (v := some (.int 1)) (G1 := (((hp2.1 ++ [Sum.inr (15, [])]).set 317 (Sum.inr (12, (fs317.set 0 (.int 1))))), hp2.2 + 6)) [] rfl rfl rfl rfl (hx_self (hx_app hp_at_317)) rfl rfl rfl rfl ?_ ?_
    · refine ev_n 1 (S' := (1, [(0, .ref 317)], [.ref 317])) rfl ?_
      refine ev_get (v := .int 1) rfl rfl (hx_self (hx_app hp_at_317)) rfl ?_
      exact ev_ret rfl rfl rfl rfl
    refine ev_n 9 (S' := (26, [(4, .int 5), (6, .int 0), (5, .int 1), (3, .ref 464), (2, .ref 317), (1, .ref 0), (0, .float 0)], [.float 0, .int 5])) rfl ?_
    refine ev_sl (L := 5) (xs := xs) (v := 5) rfl rfl rfl ?_
    refine ev_n 4 (S' := (1372, [(4, .int 5), (6, .int 0), (5, .int 1), (3, .ref 464), (2, .ref 317), (1, .ref 0), (0, .float 0)], [.int 1])) rfl ?_
    exact ev_ret rfl rfl rfl rfl

set_option maxHeartbeats 4000000 in
set_option maxRecDepth 100000 in
theorem op_11 (xs : Nat → Int32) (b : Bool) (a0 a1 a2 a3 a4 : Int32) (h0 : xs 0 = a0) (h1 : xs 1 = a1) (h2 : xs 2 = a2) (h3 : xs 3 = a3) (h4 : xs 4 = a4) : ∃ G', px_ev cx_cl cx_fty cx_PM cx_na (cx_V (some (5, xs)) b) 1500 mxL (790, [(4, .int 0), (3, .ref 464), (2, .ref 317), (1, .ref 0), (0, .float 0)], []) hp2 (Sum.inl (some (.int 1))) G' ∧ G'.1.length ≤ 600002 ∧ G'.2 ≤ 7302232 := by
  by_cases q0 : a1.toInt < 0
  · refine ⟨(((hp2.1 ++ [Sum.inr (15, [])]).set 317 (Sum.inr (12, (fs317.set 0 (.int 1))))), hp2.2 + 6), ?_, by simp only [List.length_append, List.length_set, List.length_cons, List.length_nil]; rw [hp2_len]; decide, by show hp2.2 + 6 ≤ _; rw [hp2_sl]; decide⟩
    refine ev_n 5 (S' := (796, [(4, .int 0), (3, .ref 464), (2, .ref 317), (1, .ref 0), (0, .float 0)], [.int 1, .float 0, .ref 0])) rfl ?_
    refine ev_sc (L := 5) (xs := xs) (v := a1) rfl rfl (by decide) h1 ?_
    refine ev_n 4 (S' := (802, [(4, .int 0), (3, .ref 464), (2, .ref 317), (1, .ref 0), (0, .float 0)], [.int 2, .float 0, .int a1, .ref 0])) rfl ?_
    refine ev_sc (L := 5) (xs := xs) (v := a2) rfl rfl (by decide) h2 ?_
    refine ev_n 1 (S' := (804, [(4, .int 0), (3, .ref 464), (2, .ref 317), (1, .ref 0), (0, .float 0)], [.ref 464, .int a2, .int a1, .ref 0])) rfl ?_
    refine ev_cs (v := some (.int 1)) (G1 := ((hp2.1 ++ [Sum.inr (15, [])]), hp2.2 + 6)) [.ref 464, .int a2, .int a1, .ref 0] rfl rfl rfl rfl rfl rfl ?_ ?_
    · refine ev_n 5 (S' := (5, [(0, .ref 0), (1, .int a1), (2, .int a2), (3, .ref 464)], [.int a2, .int a1, .ref 0, .int 0, .ref 464])) rfl ?_
      refine ev_cvx (x := 465) (G1 := ((hp2.1 ++ [Sum.inr (15, [])]), hp2.2 + 6)) (hpc := 13) [.int a2, .int a1] rfl rfl rfl rfl hp_at_0 rfl rfl rfl rfl ?_ (hx_end (by decide +kernel)) (by decide +kernel) (by decide +kernel) ?_
      · refine ev_n 3 (S' := (3, [(0, .ref 0), (1, .int a1), (2, .int a2)], [.int a2, .int a1, .ref 0])) rfl ?_
        refine ev_cvo (x := 465) (G1 := ((hp2.1 ++ [Sum.inr (15, [])]), hp2.2 + 6)) [.int a2, .int a1] rfl rfl rfl rfl hp_at_0 rfl rfl rfl rfl ?_ (hx_end (by decide +kernel)) rfl
        · refine ev_n 2 (S' := (2, [(0, .ref 0), (1, .int a1), (2, .int a2)], [.int a1, .ref 0])) rfl ?_
          refine ev_cvo (x := 465) (G1 := ((hp2.1 ++ [Sum.inr (15, [])]), hp2.2 + 6)) [.int a1] rfl rfl rfl rfl hp_at_0 rfl rfl rfl rfl ?_ (hx_end (by decide +kernel)) rfl
          · refine ev_n 1 (S' := (1, [(0, .ref 0), (1, .int a1)], [.int a1])) rfl ?_
            refine px_ev.p (S' := (12, [(0, .ref 0), (1, .int a1)], [])) rfl (px_ifT (t := 12) (cA_lt_T 0 rfl (by omega)) rfl) ?_
            exact ev_thr rfl rfl rfl (by decide +kernel) (by decide +kernel)
      refine ev_n 2 (S' := (16, [(4, .ref 465), (0, .ref 0), (1, .int a1), (2, .int a2), (3, .ref 464)], [.int 1])) rfl ?_
      exact ev_ret rfl rfl rfl rfl
    refine ev_n 6 (S' := (815, [(5, .int 1), (4, .int 0), (3, .ref 464), (2, .ref 317), (1, .ref 0), (0, .float 0)], [.int 1, .float 0, .ref 317])) rfl ?_
    refine ev_sc (L := 5) (xs := xs) (v := a1) rfl rfl (by decide) h1 ?_
    refine ev_n 4 (S' := (821, [(5, .int 1), (4, .int 0), (3, .ref 464), (2, .ref 317), (1, .ref 0), (0, .float 0)], [.int 2, .float 0, .int a1, .ref 317])) rfl ?_
    refine ev_sc (L := 5) (xs := xs) (v := a2) rfl rfl (by decide) h2 ?_
    refine ev_cv (v := some (.int 0)) (G1 := (((hp2.1 ++ [Sum.inr (15, [])]).set 317 (Sum.inr (12, (fs317.set 0 (.int 1))))), hp2.2 + 6)) [.int a2, .int a1] rfl rfl rfl rfl (hx_app hp_at_317) rfl rfl rfl rfl ?_ ?_
    · refine ev_n 4 (S' := (4, [(0, .ref 317), (1, .int a1), (2, .int a2)], [.int a2, .int a1, .ref 317, .ref 317])) rfl ?_
      refine ev_cv (v := some (.int 0)) (G1 := ((hp2.1 ++ [Sum.inr (15, [])]), hp2.2 + 6)) [.int a2, .int a1] rfl rfl rfl rfl (hx_app hp_at_317) rfl rfl rfl rfl ?_ ?_
      · refine ev_n 2 (S' := (2, [(0, .ref 317), (1, .int a1), (2, .int a2)], [.int a1, .ref 317])) rfl ?_
        refine ev_cv (v := some (.int 0)) (G1 := ((hp2.1 ++ [Sum.inr (15, [])]), hp2.2 + 6)) [.int a1] rfl rfl rfl rfl (hx_app hp_at_317) rfl rfl rfl rfl ?_ ?_
        · refine ev_n 4 (S' := (4, [(0, .ref 317), (1, .int a1)], [.ref 317, .long 0, .long ((a1).toInt64)])) rfl ?_
          refine ev_get (v := .int 0) rfl rfl (hx_app hp_at_317) rfl ?_
          refine ev_n 3 (S' := (10, [(0, .ref 317), (1, .int a1)], [.long (-1), .long 0, .long ((a1).toInt64)])) rfl ?_
          refine ev_cs (v := some (.int 0)) (G1 := ((hp2.1 ++ [Sum.inr (15, [])]), hp2.2 + 6)) [.long (-1), .long 0, .long ((a1).toInt64)] rfl rfl rfl rfl rfl rfl ?_ ?_
          · refine ev_n 3 (S' := (3, [(0, .long ((a1).toInt64)), (2, .long 0), (4, .long (-1))], [.int (lg_cmp ((a1).toInt64) (0))])) rfl ?_
            refine px_ev.p (S' := (17, [(0, .long ((a1).toInt64)), (2, .long 0), (4, .long (-1))], [])) rfl (px_ifT (t := 17) (cL_lt_T 0 rfl (by omega)) rfl) ?_
            refine ev_n 1 (S' := (18, [(0, .long ((a1).toInt64)), (2, .long 0), (4, .long (-1))], [.int 0])) rfl ?_
            exact ev_ret rfl rfl rfl rfl
          exact ev_ret rfl rfl rfl rfl
        refine ev_n 2 (S' := (43, [(0, .ref 317), (1, .int a1), (2, .int a2)], [.int 0])) rfl ?_
        exact ev_ret rfl rfl rfl rfl
      refine ev_n 2 (S' := (15, [(0, .ref 317), (1, .int a1), (2, .int a2)], [.int 1, .ref 317])) rfl ?_
      refine ev_put rfl rfl (hx_app hp_at_317) rfl rfl (by decide +kernel) ?_
      refine ev_n 1 (S' := (19, [(0, .ref 317), (1, .int a1), (2, .int a2)], [.ref 317])) rfl ?_
      refine ev_get (v := .int 1) rfl rfl (hx_self (hx_app hp_at_317)) rfl ?_
      refine ev_n 2 (S' := (26, [(0, .ref 317), (1, .int a1), (2, .int a2)], [.int 0])) rfl ?_
      exact ev_ret rfl rfl rfl rfl
    refine ev_n 2 (S' := (828, [(6, .int 0), (5, .int 1), (4, .int 0), (3, .ref 464), (2, .ref 317), (1, .ref 0), (0, .float 0)], [.ref 317])) rfl ?_
    refine ev_cv (v := some (.int 1)) (G1 := (((hp2.1 ++ [Sum.inr (15, [])]).set 317 (Sum.inr (12, (fs317.set 0 (.int 1))))), hp2.2 + 6)) [] rfl rfl rfl rfl (hx_self (hx_app hp_at_317)) rfl rfl rfl rfl ?_ ?_
    · refine ev_n 1 (S' := (1, [(0, .ref 317)], [.ref 317])) rfl ?_
      refine ev_get (v := .int 1) rfl rfl (hx_self (hx_app hp_at_317)) rfl ?_
      exact ev_ret rfl rfl rfl rfl
    refine ev_n 9 (S' := (26, [(4, .int 5), (6, .int 0), (5, .int 1), (3, .ref 464), (2, .ref 317), (1, .ref 0), (0, .float 0)], [.float 0, .int 5])) rfl ?_
    refine ev_sl (L := 5) (xs := xs) (v := 5) rfl rfl rfl ?_
    refine ev_n 4 (S' := (1372, [(4, .int 5), (6, .int 0), (5, .int 1), (3, .ref 464), (2, .ref 317), (1, .ref 0), (0, .float 0)], [.int 1])) rfl ?_
    exact ev_ret rfl rfl rfl rfl
  · refine ⟨(((hp2.1 ++ [Sum.inr (15, [])]).set 317 (Sum.inr (12, (fs317.set 0 (.int 1))))), hp2.2 + 6), ?_, by simp only [List.length_append, List.length_set, List.length_cons, List.length_nil]; rw [hp2_len]; decide, by show hp2.2 + 6 ≤ _; rw [hp2_sl]; decide⟩
    refine ev_n 5 (S' := (796, [(4, .int 0), (3, .ref 464), (2, .ref 317), (1, .ref 0), (0, .float 0)], [.int 1, .float 0, .ref 0])) rfl ?_
    refine ev_sc (L := 5) (xs := xs) (v := a1) rfl rfl (by decide) h1 ?_
    refine ev_n 4 (S' := (802, [(4, .int 0), (3, .ref 464), (2, .ref 317), (1, .ref 0), (0, .float 0)], [.int 2, .float 0, .int a1, .ref 0])) rfl ?_
    refine ev_sc (L := 5) (xs := xs) (v := a2) rfl rfl (by decide) h2 ?_
    refine ev_n 1 (S' := (804, [(4, .int 0), (3, .ref 464), (2, .ref 317), (1, .ref 0), (0, .float 0)], [.ref 464, .int a2, .int a1, .ref 0])) rfl ?_
    refine ev_cs (v := some (.int 1)) (G1 := ((hp2.1 ++ [Sum.inr (15, [])]), hp2.2 + 6)) [.ref 464, .int a2, .int a1, .ref 0] rfl rfl rfl rfl rfl rfl ?_ ?_
    · refine ev_n 5 (S' := (5, [(0, .ref 0), (1, .int a1), (2, .int a2), (3, .ref 464)], [.int a2, .int a1, .ref 0, .int 0, .ref 464])) rfl ?_
      refine ev_cvx (x := 465) (G1 := ((hp2.1 ++ [Sum.inr (15, [])]), hp2.2 + 6)) (hpc := 13) [.int a2, .int a1] rfl rfl rfl rfl hp_at_0 rfl rfl rfl rfl ?_ (hx_end (by decide +kernel)) (by decide +kernel) (by decide +kernel) ?_
      · refine ev_n 3 (S' := (3, [(0, .ref 0), (1, .int a1), (2, .int a2)], [.int a2, .int a1, .ref 0])) rfl ?_
        refine ev_cvo (x := 465) (G1 := ((hp2.1 ++ [Sum.inr (15, [])]), hp2.2 + 6)) [.int a2, .int a1] rfl rfl rfl rfl hp_at_0 rfl rfl rfl rfl ?_ (hx_end (by decide +kernel)) rfl
        · refine ev_n 2 (S' := (2, [(0, .ref 0), (1, .int a1), (2, .int a2)], [.int a1, .ref 0])) rfl ?_
          refine ev_cvo (x := 465) (G1 := ((hp2.1 ++ [Sum.inr (15, [])]), hp2.2 + 6)) [.int a1] rfl rfl rfl rfl hp_at_0 rfl rfl rfl rfl ?_ (hx_end (by decide +kernel)) rfl
          · refine ev_n 1 (S' := (1, [(0, .ref 0), (1, .int a1)], [.int a1])) rfl ?_
            refine px_ev.p (S' := (4, [(0, .ref 0), (1, .int a1)], [])) rfl (px_ifF (t := 12) (cA_lt_F 0 rfl (by omega)) rfl) ?_
            refine ev_n 2 (S' := (6, [(0, .ref 0), (1, .int a1)], [.ref 0, .int a1])) rfl ?_
            refine ev_get (v := .int 0) rfl rfl hp_at_0 rfl ?_
            refine px_ev.p (S' := (12, [(0, .ref 0), (1, .int a1)], [])) rfl (px_icF (t := 22) (cA_lt_F 0 rfl (by omega)) rfl) ?_
            exact ev_thr rfl rfl rfl (by decide +kernel) (by decide +kernel)
      refine ev_n 2 (S' := (16, [(4, .ref 465), (0, .ref 0), (1, .int a1), (2, .int a2), (3, .ref 464)], [.int 1])) rfl ?_
      exact ev_ret rfl rfl rfl rfl
    refine ev_n 6 (S' := (815, [(5, .int 1), (4, .int 0), (3, .ref 464), (2, .ref 317), (1, .ref 0), (0, .float 0)], [.int 1, .float 0, .ref 317])) rfl ?_
    refine ev_sc (L := 5) (xs := xs) (v := a1) rfl rfl (by decide) h1 ?_
    refine ev_n 4 (S' := (821, [(5, .int 1), (4, .int 0), (3, .ref 464), (2, .ref 317), (1, .ref 0), (0, .float 0)], [.int 2, .float 0, .int a1, .ref 317])) rfl ?_
    refine ev_sc (L := 5) (xs := xs) (v := a2) rfl rfl (by decide) h2 ?_
    refine ev_cv (v := some (.int 0)) (G1 := (((hp2.1 ++ [Sum.inr (15, [])]).set 317 (Sum.inr (12, (fs317.set 0 (.int 1))))), hp2.2 + 6)) [.int a2, .int a1] rfl rfl rfl rfl (hx_app hp_at_317) rfl rfl rfl rfl ?_ ?_
    · refine ev_n 4 (S' := (4, [(0, .ref 317), (1, .int a1), (2, .int a2)], [.int a2, .int a1, .ref 317, .ref 317])) rfl ?_
      refine ev_cv (v := some (.int 0)) (G1 := ((hp2.1 ++ [Sum.inr (15, [])]), hp2.2 + 6)) [.int a2, .int a1] rfl rfl rfl rfl (hx_app hp_at_317) rfl rfl rfl rfl ?_ ?_
      · refine ev_n 2 (S' := (2, [(0, .ref 317), (1, .int a1), (2, .int a2)], [.int a1, .ref 317])) rfl ?_
        refine ev_cv (v := some (.int 0)) (G1 := ((hp2.1 ++ [Sum.inr (15, [])]), hp2.2 + 6)) [.int a1] rfl rfl rfl rfl (hx_app hp_at_317) rfl rfl rfl rfl ?_ ?_
        · refine ev_n 4 (S' := (4, [(0, .ref 317), (1, .int a1)], [.ref 317, .long 0, .long ((a1).toInt64)])) rfl ?_
          refine ev_get (v := .int 0) rfl rfl (hx_app hp_at_317) rfl ?_
          refine ev_n 3 (S' := (10, [(0, .ref 317), (1, .int a1)], [.long (-1), .long 0, .long ((a1).toInt64)])) rfl ?_
          refine ev_cs (v := some (.int 0)) (G1 := ((hp2.1 ++ [Sum.inr (15, [])]), hp2.2 + 6)) [.long (-1), .long 0, .long ((a1).toInt64)] rfl rfl rfl rfl rfl rfl ?_ ?_
          · refine ev_n 3 (S' := (3, [(0, .long ((a1).toInt64)), (2, .long 0), (4, .long (-1))], [.int (lg_cmp ((a1).toInt64) (0))])) rfl ?_
            refine px_ev.p (S' := (6, [(0, .long ((a1).toInt64)), (2, .long 0), (4, .long (-1))], [])) rfl (px_ifF (t := 17) (cL_lt_F 0 rfl (by omega)) rfl) ?_
            refine ev_n 3 (S' := (10, [(0, .long ((a1).toInt64)), (2, .long 0), (4, .long (-1))], [.int (lg_cmp ((a1).toInt64) ((-1)))])) rfl ?_
            refine px_ev.p (S' := (17, [(0, .long ((a1).toInt64)), (2, .long 0), (4, .long (-1))], [])) rfl (px_ifT (t := 17) (cL_gt_T (-1) rfl (by omega)) rfl) ?_
            refine ev_n 1 (S' := (18, [(0, .long ((a1).toInt64)), (2, .long 0), (4, .long (-1))], [.int 0])) rfl ?_
            exact ev_ret rfl rfl rfl rfl
          exact ev_ret rfl rfl rfl rfl
        refine ev_n 2 (S' := (43, [(0, .ref 317), (1, .int a1), (2, .int a2)], [.int 0])) rfl ?_
        exact ev_ret rfl rfl rfl rfl
      refine ev_n 2 (S' := (15, [(0, .ref 317), (1, .int a1), (2, .int a2)], [.int 1, .ref 317])) rfl ?_
      refine ev_put rfl rfl (hx_app hp_at_317) rfl rfl (by decide +kernel) ?_
      refine ev_n 1 (S' := (19, [(0, .ref 317), (1, .int a1), (2, .int a2)], [.ref 317])) rfl ?_
      refine ev_get (v := .int 1) rfl rfl (hx_self (hx_app hp_at_317)) rfl ?_
      refine ev_n 2 (S' := (26, [(0, .ref 317), (1, .int a1), (2, .int a2)], [.int 0])) rfl ?_
      exact ev_ret rfl rfl rfl rfl
    refine ev_n 2 (S' := (828, [(6, .int 0), (5, .int 1), (4, .int 0), (3, .ref 464), (2, .ref 317), (1, .ref 0), (0, .float 0)], [.ref 317])) rfl ?_
    refine ev_cv (v := some (.int 1)) (G1 := (((hp2.1 ++ [Sum.inr (15, [])]).set 317 (Sum.inr (12, (fs317.set 0 (.int 1))))), hp2.2 + 6)) [] rfl rfl rfl rfl (hx_self (hx_app hp_at_317)) rfl rfl rfl rfl ?_ ?_
    · refine ev_n 1 (S' := (1, [(0, .ref 317)], [.ref 317])) rfl ?_
      refine ev_get (v := .int 1) rfl rfl (hx_self (hx_app hp_at_317)) rfl ?_
      exact ev_ret rfl rfl rfl rfl
    refine ev_n 9 (S' := (26, [(4, .int 5), (6, .int 0), (5, .int 1), (3, .ref 464), (2, .ref 317), (1, .ref 0), (0, .float 0)], [.float 0, .int 5])) rfl ?_
    refine ev_sl (L := 5) (xs := xs) (v := 5) rfl rfl rfl ?_
    refine ev_n 4 (S' := (1372, [(4, .int 5), (6, .int 0), (5, .int 1), (3, .ref 464), (2, .ref 317), (1, .ref 0), (0, .float 0)], [.int 1])) rfl ?_
    exact ev_ret rfl rfl rfl rfl

set_option maxHeartbeats 4000000 in
set_option maxRecDepth 100000 in
theorem op_12 (xs : Nat → Int32) (b : Bool) (a0 a1 a2 a3 a4 : Int32) (h0 : xs 0 = a0) (h1 : xs 1 = a1) (h2 : xs 2 = a2) (h3 : xs 3 = a3) (h4 : xs 4 = a4) (e : Int64) (hE : ((a2).toInt64) <<< ((32 : Int32).toInt64 &&& 63) ||| ((a3).toInt64) &&& (4294967295) = e) : ∃ G', px_ev cx_cl cx_fty cx_PM cx_na (cx_V (some (5, xs)) b) 1500 mxL (858, [(4, .int 0), (3, .ref 464), (2, .ref 317), (1, .ref 0), (0, .float 0)], []) hp2 (Sum.inl (some (.int 1))) G' ∧ G'.1.length ≤ 600002 ∧ G'.2 ≤ 7302232 := by
  by_cases q0 : a1.toInt < 0
  · refine ⟨(((hp2.1 ++ [Sum.inr (15, [])]).set 317 (Sum.inr (12, (fs317.set 0 (.int 1))))), hp2.2 + 6), ?_, by simp only [List.length_append, List.length_set, List.length_cons, List.length_nil]; rw [hp2_len]; decide, by show hp2.2 + 6 ≤ _; rw [hp2_sl]; decide⟩
    refine ev_n 5 (S' := (864, [(4, .int 0), (3, .ref 464), (2, .ref 317), (1, .ref 0), (0, .float 0)], [.int 1, .float 0, .ref 0])) rfl ?_
    refine ev_sc (L := 5) (xs := xs) (v := a1) rfl rfl (by decide) h1 ?_
    refine ev_n 4 (S' := (870, [(4, .int 0), (3, .ref 464), (2, .ref 317), (1, .ref 0), (0, .float 0)], [.int 2, .float 0, .int a1, .ref 0])) rfl ?_
    refine ev_sc (L := 5) (xs := xs) (v := a2) rfl rfl (by decide) h2 ?_
    refine ev_n 7 (S' := (880, [(4, .int 0), (3, .ref 464), (2, .ref 317), (1, .ref 0), (0, .float 0)], [.int 3, .float 0, .long (((a2).toInt64) <<< ((32 : Int32).toInt64 &&& 63)), .int a1, .ref 0])) rfl ?_
    refine ev_sc (L := 5) (xs := xs) (v := a3) rfl rfl (by decide) h3 ?_
    refine ev_n 1 (S' := (882, [(4, .int 0), (3, .ref 464), (2, .ref 317), (1, .ref 0), (0, .float 0)], [.long ((a3).toInt64), .long (((a2).toInt64) <<< ((32 : Int32).toInt64 &&& 63)), .int a1, .ref 0])) rfl ?_
    refine ev_csl (v := 4294967295) rfl rfl ?_
    refine ev_n 2 (S' := (887, [(4, .int 0), (3, .ref 464), (2, .ref 317), (1, .ref 0), (0, .float 0)], [.long ((((a2).toInt64) <<< ((32 : Int32).toInt64 &&& 63)) ||| (((a3).toInt64) &&& (4294967295))), .int a1, .ref 0])) rfl ?_
    rw [hE]
    refine ev_n 4 (S' := (892, [(4, .int 0), (3, .ref 464), (2, .ref 317), (1, .ref 0), (0, .float 0)], [.int 4, .float 0, .long e, .int a1, .ref 0])) rfl ?_
    refine ev_sc (L := 5) (xs := xs) (v := a4) rfl rfl (by decide) h4 ?_
    refine ev_n 1 (S' := (894, [(4, .int 0), (3, .ref 464), (2, .ref 317), (1, .ref 0), (0, .float 0)], [.ref 464, .int a4, .long e, .int a1, .ref 0])) rfl ?_
    refine ev_cs (v := some (.int 1)) (G1 := ((hp2.1 ++ [Sum.inr (15, [])]), hp2.2 + 6)) [.ref 464, .int a4, .long e, .int a1, .ref 0] rfl rfl rfl rfl rfl rfl ?_ ?_
    · refine ev_n 6 (S' := (8, [(0, .ref 0), (1, .int a1), (2, .long e), (4, .int a4), (5, .ref 464)], [.int a4, .long e, .int a1, .ref 0, .int 0, .ref 464])) rfl ?_
      refine ev_cvx (x := 465) (G1 := ((hp2.1 ++ [Sum.inr (15, [])]), hp2.2 + 6)) (hpc := 16) [.int a4, .long e, .int a1] rfl rfl rfl rfl hp_at_0 rfl rfl rfl rfl ?_ (hx_end (by decide +kernel)) (by decide +kernel) (by decide +kernel) ?_
      · refine ev_n 2 (S' := (2, [(0, .ref 0), (1, .int a1), (2, .long e), (4, .int a4)], [.int a1, .ref 0])) rfl ?_
        refine ev_cvo (x := 465) (G1 := ((hp2.1 ++ [Sum.inr (15, [])]), hp2.2 + 6)) [.int a1] rfl rfl rfl rfl hp_at_0 rfl rfl rfl rfl ?_ (hx_end (by decide +kernel)) rfl
        · refine ev_n 1 (S' := (1, [(0, .ref 0), (1, .int a1)], [.int a1])) rfl ?_
          refine px_ev.p (S' := (12, [(0, .ref 0), (1, .int a1)], [])) rfl (px_ifT (t := 12) (cA_lt_T 0 rfl (by omega)) rfl) ?_
          exact ev_thr rfl rfl rfl (by decide +kernel) (by decide +kernel)
      refine ev_n 2 (S' := (19, [(6, .ref 465), (0, .ref 0), (1, .int a1), (2, .long e), (4, .int a4), (5, .ref 464)], [.int 1])) rfl ?_
      exact ev_ret rfl rfl rfl rfl
    refine ev_n 6 (S' := (905, [(5, .int 1), (4, .int 0), (3, .ref 464), (2, .ref 317), (1, .ref 0), (0, .float 0)], [.int 1, .float 0, .ref 317])) rfl ?_
    refine ev_sc (L := 5) (xs := xs) (v := a1) rfl rfl (by decide) h1 ?_
    refine ev_n 4 (S' := (911, [(5, .int 1), (4, .int 0), (3, .ref 464), (2, .ref 317), (1, .ref 0), (0, .float 0)], [.int 2, .float 0, .int a1, .ref 317])) rfl ?_
    refine ev_sc (L := 5) (xs := xs) (v := a2) rfl rfl (by decide) h2 ?_
    refine ev_n 7 (S' := (921, [(5, .int 1), (4, .int 0), (3, .ref 464), (2, .ref 317), (1, .ref 0), (0, .float 0)], [.int 3, .float 0, .long (((a2).toInt64) <<< ((32 : Int32).toInt64 &&& 63)), .int a1, .ref 317])) rfl ?_
    refine ev_sc (L := 5) (xs := xs) (v := a3) rfl rfl (by decide) h3 ?_
    refine ev_n 1 (S' := (923, [(5, .int 1), (4, .int 0), (3, .ref 464), (2, .ref 317), (1, .ref 0), (0, .float 0)], [.long ((a3).toInt64), .long (((a2).toInt64) <<< ((32 : Int32).toInt64 &&& 63)), .int a1, .ref 317])) rfl ?_
    refine ev_csl (v := 4294967295) rfl rfl ?_
    refine ev_n 2 (S' := (928, [(5, .int 1), (4, .int 0), (3, .ref 464), (2, .ref 317), (1, .ref 0), (0, .float 0)], [.long ((((a2).toInt64) <<< ((32 : Int32).toInt64 &&& 63)) ||| (((a3).toInt64) &&& (4294967295))), .int a1, .ref 317])) rfl ?_
    rw [hE]
    refine ev_n 4 (S' := (933, [(5, .int 1), (4, .int 0), (3, .ref 464), (2, .ref 317), (1, .ref 0), (0, .float 0)], [.int 4, .float 0, .long e, .int a1, .ref 317])) rfl ?_
    refine ev_sc (L := 5) (xs := xs) (v := a4) rfl rfl (by decide) h4 ?_
    refine ev_cv (v := some (.int 0)) (G1 := (((hp2.1 ++ [Sum.inr (15, [])]).set 317 (Sum.inr (12, (fs317.set 0 (.int 1))))), hp2.2 + 6)) [.int a4, .long e, .int a1] rfl rfl rfl rfl (hx_app hp_at_317) rfl rfl rfl rfl ?_ ?_
    · refine ev_n 3 (S' := (3, [(0, .ref 317), (1, .int a1), (2, .long e), (4, .int a4)], [.int a1, .ref 317, .ref 317])) rfl ?_
      refine ev_cv (v := some (.int 0)) (G1 := ((hp2.1 ++ [Sum.inr (15, [])]), hp2.2 + 6)) [.int a1] rfl rfl rfl rfl (hx_app hp_at_317) rfl rfl rfl rfl ?_ ?_
      · refine ev_n 4 (S' := (4, [(0, .ref 317), (1, .int a1)], [.ref 317, .long 0, .long ((a1).toInt64)])) rfl ?_
        refine ev_get (v := .int 0) rfl rfl (hx_app hp_at_317) rfl ?_
        refine ev_n 3 (S' := (10, [(0, .ref 317), (1, .int a1)], [.long (-1), .long 0, .long ((a1).toInt64)])) rfl ?_
        refine ev_cs (v := some (.int 0)) (G1 := ((hp2.1 ++ [Sum.inr (15, [])]), hp2.2 + 6)) [.long (-1), .long 0, .long ((a1).toInt64)] rfl rfl rfl rfl rfl rfl ?_ ?_
        · refine ev_n 3 (S' := (3, [(0, .long ((a1).toInt64)), (2, .long 0), (4, .long (-1))], [.int (lg_cmp ((a1).toInt64) (0))])) rfl ?_
          refine px_ev.p (S' := (17, [(0, .long ((a1).toInt64)), (2, .long 0), (4, .long (-1))], [])) rfl (px_ifT (t := 17) (cL_lt_T 0 rfl (by omega)) rfl) ?_
          refine ev_n 1 (S' := (18, [(0, .long ((a1).toInt64)), (2, .long 0), (4, .long (-1))], [.int 0])) rfl ?_
          exact ev_ret rfl rfl rfl rfl
        exact ev_ret rfl rfl rfl rfl
      refine ev_n 3 (S' := (31, [(0, .ref 317), (1, .int a1), (2, .long e), (4, .int a4)], [.int 1, .ref 317])) rfl ?_
      refine ev_put rfl rfl (hx_app hp_at_317) rfl rfl (by decide +kernel) ?_
      refine ev_n 1 (S' := (35, [(0, .ref 317), (1, .int a1), (2, .long e), (4, .int a4)], [.ref 317])) rfl ?_
      refine ev_get (v := .int 1) rfl rfl (hx_self (hx_app hp_at_317)) rfl ?_
      refine ev_n 2 (S' := (42, [(0, .ref 317), (1, .int a1), (2, .long e), (4, .int a4)], [.int 0])) rfl ?_
      exact ev_ret rfl rfl rfl rfl
    refine ev_n 2 (S' := (940, [(6, .int 0), (5, .int 1), (4, .int 0), (3, .ref 464), (2, .ref 317), (1, .ref 0), (0, .float 0)], [.ref 317])) rfl ?_
    refine ev_cv (v := some (.int 1)) (G1 := (((hp2.1 ++ [Sum.inr (15, [])]).set 317 (Sum.inr (12, (fs317.set 0 (.int 1))))), hp2.2 + 6)) [] rfl rfl rfl rfl (hx_self (hx_app hp_at_317)) rfl rfl rfl rfl ?_ ?_
    · refine ev_n 1 (S' := (1, [(0, .ref 317)], [.ref 317])) rfl ?_
      refine ev_get (v := .int 1) rfl rfl (hx_self (hx_app hp_at_317)) rfl ?_
      exact ev_ret rfl rfl rfl rfl
    refine ev_n 9 (S' := (26, [(4, .int 5), (6, .int 0), (5, .int 1), (3, .ref 464), (2, .ref 317), (1, .ref 0), (0, .float 0)], [.float 0, .int 5])) rfl ?_
    refine ev_sl (L := 5) (xs := xs) (v := 5) rfl rfl rfl ?_
    refine ev_n 4 (S' := (1372, [(4, .int 5), (6, .int 0), (5, .int 1), (3, .ref 464), (2, .ref 317), (1, .ref 0), (0, .float 0)], [.int 1])) rfl ?_
    exact ev_ret rfl rfl rfl rfl
  · refine ⟨(((hp2.1 ++ [Sum.inr (15, [])]).set 317 (Sum.inr (12, (fs317.set 0 (.int 1))))), hp2.2 + 6), ?_, by simp only [List.length_append, List.length_set, List.length_cons, List.length_nil]; rw [hp2_len]; decide, by show hp2.2 + 6 ≤ _; rw [hp2_sl]; decide⟩
    refine ev_n 5 (S' := (864, [(4, .int 0), (3, .ref 464), (2, .ref 317), (1, .ref 0), (0, .float 0)], [.int 1, .float 0, .ref 0])) rfl ?_
    refine ev_sc (L := 5) (xs := xs) (v := a1) rfl rfl (by decide) h1 ?_
    refine ev_n 4 (S' := (870, [(4, .int 0), (3, .ref 464), (2, .ref 317), (1, .ref 0), (0, .float 0)], [.int 2, .float 0, .int a1, .ref 0])) rfl ?_
    refine ev_sc (L := 5) (xs := xs) (v := a2) rfl rfl (by decide) h2 ?_
    refine ev_n 7 (S' := (880, [(4, .int 0), (3, .ref 464), (2, .ref 317), (1, .ref 0), (0, .float 0)], [.int 3, .float 0, .long (((a2).toInt64) <<< ((32 : Int32).toInt64 &&& 63)), .int a1, .ref 0])) rfl ?_
    refine ev_sc (L := 5) (xs := xs) (v := a3) rfl rfl (by decide) h3 ?_
    refine ev_n 1 (S' := (882, [(4, .int 0), (3, .ref 464), (2, .ref 317), (1, .ref 0), (0, .float 0)], [.long ((a3).toInt64), .long (((a2).toInt64) <<< ((32 : Int32).toInt64 &&& 63)), .int a1, .ref 0])) rfl ?_
    refine ev_csl (v := 4294967295) rfl rfl ?_
    refine ev_n 2 (S' := (887, [(4, .int 0), (3, .ref 464), (2, .ref 317), (1, .ref 0), (0, .float 0)], [.long ((((a2).toInt64) <<< ((32 : Int32).toInt64 &&& 63)) ||| (((a3).toInt64) &&& (4294967295))), .int a1, .ref 0])) rfl ?_
    rw [hE]
    refine ev_n 4 (S' := (892, [(4, .int 0), (3, .ref 464), (2, .ref 317), (1, .ref 0), (0, .float 0)], [.int 4, .float 0, .long e, .int a1, .ref 0])) rfl ?_
    refine ev_sc (L := 5) (xs := xs) (v := a4) rfl rfl (by decide) h4 ?_
    refine ev_n 1 (S' := (894, [(4, .int 0), (3, .ref 464), (2, .ref 317), (1, .ref 0), (0, .float 0)], [.ref 464, .int a4, .long e, .int a1, .ref 0])) rfl ?_
    refine ev_cs (v := some (.int 1)) (G1 := ((hp2.1 ++ [Sum.inr (15, [])]), hp2.2 + 6)) [.ref 464, .int a4, .long e, .int a1, .ref 0] rfl rfl rfl rfl rfl rfl ?_ ?_
    · refine ev_n 6 (S' := (8, [(0, .ref 0), (1, .int a1), (2, .long e), (4, .int a4), (5, .ref 464)], [.int a4, .long e, .int a1, .ref 0, .int 0, .ref 464])) rfl ?_
      refine ev_cvx (x := 465) (G1 := ((hp2.1 ++ [Sum.inr (15, [])]), hp2.2 + 6)) (hpc := 16) [.int a4, .long e, .int a1] rfl rfl rfl rfl hp_at_0 rfl rfl rfl rfl ?_ (hx_end (by decide +kernel)) (by decide +kernel) (by decide +kernel) ?_
      · refine ev_n 2 (S' := (2, [(0, .ref 0), (1, .int a1), (2, .long e), (4, .int a4)], [.int a1, .ref 0])) rfl ?_
        refine ev_cvo (x := 465) (G1 := ((hp2.1 ++ [Sum.inr (15, [])]), hp2.2 + 6)) [.int a1] rfl rfl rfl rfl hp_at_0 rfl rfl rfl rfl ?_ (hx_end (by decide +kernel)) rfl
        · refine ev_n 1 (S' := (1, [(0, .ref 0), (1, .int a1)], [.int a1])) rfl ?_
          refine px_ev.p (S' := (4, [(0, .ref 0), (1, .int a1)], [])) rfl (px_ifF (t := 12) (cA_lt_F 0 rfl (by omega)) rfl) ?_
          refine ev_n 2 (S' := (6, [(0, .ref 0), (1, .int a1)], [.ref 0, .int a1])) rfl ?_
          refine ev_get (v := .int 0) rfl rfl hp_at_0 rfl ?_
          refine px_ev.p (S' := (12, [(0, .ref 0), (1, .int a1)], [])) rfl (px_icF (t := 22) (cA_lt_F 0 rfl (by omega)) rfl) ?_
          exact ev_thr rfl rfl rfl (by decide +kernel) (by decide +kernel)
      refine ev_n 2 (S' := (19, [(6, .ref 465), (0, .ref 0), (1, .int a1), (2, .long e), (4, .int a4), (5, .ref 464)], [.int 1])) rfl ?_
      exact ev_ret rfl rfl rfl rfl
    refine ev_n 6 (S' := (905, [(5, .int 1), (4, .int 0), (3, .ref 464), (2, .ref 317), (1, .ref 0), (0, .float 0)], [.int 1, .float 0, .ref 317])) rfl ?_
    refine ev_sc (L := 5) (xs := xs) (v := a1) rfl rfl (by decide) h1 ?_
    refine ev_n 4 (S' := (911, [(5, .int 1), (4, .int 0), (3, .ref 464), (2, .ref 317), (1, .ref 0), (0, .float 0)], [.int 2, .float 0, .int a1, .ref 317])) rfl ?_
    refine ev_sc (L := 5) (xs := xs) (v := a2) rfl rfl (by decide) h2 ?_
    refine ev_n 7 (S' := (921, [(5, .int 1), (4, .int 0), (3, .ref 464), (2, .ref 317), (1, .ref 0), (0, .float 0)], [.int 3, .float 0, .long (((a2).toInt64) <<< ((32 : Int32).toInt64 &&& 63)), .int a1, .ref 317])) rfl ?_
    refine ev_sc (L := 5) (xs := xs) (v := a3) rfl rfl (by decide) h3 ?_
    refine ev_n 1 (S' := (923, [(5, .int 1), (4, .int 0), (3, .ref 464), (2, .ref 317), (1, .ref 0), (0, .float 0)], [.long ((a3).toInt64), .long (((a2).toInt64) <<< ((32 : Int32).toInt64 &&& 63)), .int a1, .ref 317])) rfl ?_
    refine ev_csl (v := 4294967295) rfl rfl ?_
    refine ev_n 2 (S' := (928, [(5, .int 1), (4, .int 0), (3, .ref 464), (2, .ref 317), (1, .ref 0), (0, .float 0)], [.long ((((a2).toInt64) <<< ((32 : Int32).toInt64 &&& 63)) ||| (((a3).toInt64) &&& (4294967295))), .int a1, .ref 317])) rfl ?_
    rw [hE]
    refine ev_n 4 (S' := (933, [(5, .int 1), (4, .int 0), (3, .ref 464), (2, .ref 317), (1, .ref 0), (0, .float 0)], [.int 4, .float 0, .long e, .int a1, .ref 317])) rfl ?_
    refine ev_sc (L := 5) (xs := xs) (v := a4) rfl rfl (by decide) h4 ?_
    refine ev_cv (v := some (.int 0)) (G1 := (((hp2.1 ++ [Sum.inr (15, [])]).set 317 (Sum.inr (12, (fs317.set 0 (.int 1))))), hp2.2 + 6)) [.int a4, .long e, .int a1] rfl rfl rfl rfl (hx_app hp_at_317) rfl rfl rfl rfl ?_ ?_
    · refine ev_n 3 (S' := (3, [(0, .ref 317), (1, .int a1), (2, .long e), (4, .int a4)], [.int a1, .ref 317, .ref 317])) rfl ?_
      refine ev_cv (v := some (.int 0)) (G1 := ((hp2.1 ++ [Sum.inr (15, [])]), hp2.2 + 6)) [.int a1] rfl rfl rfl rfl (hx_app hp_at_317) rfl rfl rfl rfl ?_ ?_
      · refine ev_n 4 (S' := (4, [(0, .ref 317), (1, .int a1)], [.ref 317, .long 0, .long ((a1).toInt64)])) rfl ?_
        refine ev_get (v := .int 0) rfl rfl (hx_app hp_at_317) rfl ?_
        refine ev_n 3 (S' := (10, [(0, .ref 317), (1, .int a1)], [.long (-1), .long 0, .long ((a1).toInt64)])) rfl ?_
        refine ev_cs (v := some (.int 0)) (G1 := ((hp2.1 ++ [Sum.inr (15, [])]), hp2.2 + 6)) [.long (-1), .long 0, .long ((a1).toInt64)] rfl rfl rfl rfl rfl rfl ?_ ?_
        · refine ev_n 3 (S' := (3, [(0, .long ((a1).toInt64)), (2, .long 0), (4, .long (-1))], [.int (lg_cmp ((a1).toInt64) (0))])) rfl ?_
          refine px_ev.p (S' := (6, [(0, .long ((a1).toInt64)), (2, .long 0), (4, .long (-1))], [])) rfl (px_ifF (t := 17) (cL_lt_F 0 rfl (by omega)) rfl) ?_
          refine ev_n 3 (S' := (10, [(0, .long ((a1).toInt64)), (2, .long 0), (4, .long (-1))], [.int (lg_cmp ((a1).toInt64) ((-1)))])) rfl ?_
          refine px_ev.p (S' := (17, [(0, .long ((a1).toInt64)), (2, .long 0), (4, .long (-1))], [])) rfl (px_ifT (t := 17) (cL_gt_T (-1) rfl (by omega)) rfl) ?_
          refine ev_n 1 (S' := (18, [(0, .long ((a1).toInt64)), (2, .long 0), (4, .long (-1))], [.int 0])) rfl ?_
          exact ev_ret rfl rfl rfl rfl
        exact ev_ret rfl rfl rfl rfl
      refine ev_n 3 (S' := (31, [(0, .ref 317), (1, .int a1), (2, .long e), (4, .int a4)], [.int 1, .ref 317])) rfl ?_
      refine ev_put rfl rfl (hx_app hp_at_317) rfl rfl (by decide +kernel) ?_
      refine ev_n 1 (S' := (35, [(0, .ref 317), (1, .int a1), (2, .long e), (4, .int a4)], [.ref 317])) rfl ?_
      refine ev_get (v := .int 1) rfl rfl (hx_self (hx_app hp_at_317)) rfl ?_
      refine ev_n 2 (S' := (42, [(0, .ref 317), (1, .int a1), (2, .long e), (4, .int a4)], [.int 0])) rfl ?_
      exact ev_ret rfl rfl rfl rfl
    refine ev_n 2 (S' := (940, [(6, .int 0), (5, .int 1), (4, .int 0), (3, .ref 464), (2, .ref 317), (1, .ref 0), (0, .float 0)], [.ref 317])) rfl ?_
    refine ev_cv (v := some (.int 1)) (G1 := (((hp2.1 ++ [Sum.inr (15, [])]).set 317 (Sum.inr (12, (fs317.set 0 (.int 1))))), hp2.2 + 6)) [] rfl rfl rfl rfl (hx_self (hx_app hp_at_317)) rfl rfl rfl rfl ?_ ?_
    · refine ev_n 1 (S' := (1, [(0, .ref 317)], [.ref 317])) rfl ?_
      refine ev_get (v := .int 1) rfl rfl (hx_self (hx_app hp_at_317)) rfl ?_
      exact ev_ret rfl rfl rfl rfl
    refine ev_n 9 (S' := (26, [(4, .int 5), (6, .int 0), (5, .int 1), (3, .ref 464), (2, .ref 317), (1, .ref 0), (0, .float 0)], [.float 0, .int 5])) rfl ?_
    refine ev_sl (L := 5) (xs := xs) (v := 5) rfl rfl rfl ?_
    refine ev_n 4 (S' := (1372, [(4, .int 5), (6, .int 0), (5, .int 1), (3, .ref 464), (2, .ref 317), (1, .ref 0), (0, .float 0)], [.int 1])) rfl ?_
    exact ev_ret rfl rfl rfl rfl

set_option maxHeartbeats 4000000 in
set_option maxRecDepth 100000 in
theorem op_13 (xs : Nat → Int32) (b : Bool) (a0 a1 a2 a3 a4 : Int32) (h0 : xs 0 = a0) (h1 : xs 1 = a1) (h2 : xs 2 = a2) (h3 : xs 3 = a3) (h4 : xs 4 = a4) : ∃ G', px_ev cx_cl cx_fty cx_PM cx_na (cx_V (some (5, xs)) b) 1500 mxL (970, [(4, .int 0), (3, .ref 464), (2, .ref 317), (1, .ref 0), (0, .float 0)], []) hp2 (Sum.inl (some (.int 1))) G' ∧ G'.1.length ≤ 600002 ∧ G'.2 ≤ 7302232 := by
  refine ⟨((hp2.1.set 317 (Sum.inr (12, (fs317.set 0 (.int 0))))), hp2.2), ?_, by simp only [List.length_append, List.length_set, List.length_cons, List.length_nil]; rw [hp2_len]; decide, by show hp2.2 ≤ _; rw [hp2_sl]; decide⟩
  refine ev_n 1 (S' := (971, [(4, .int 0), (3, .ref 464), (2, .ref 317), (1, .ref 0), (0, .float 0)], [.ref 0])) rfl ?_
  refine ev_cv (v := some (.int 0)) (G1 := hp2) [] rfl rfl rfl rfl hp_at_0 rfl rfl rfl rfl ?_ ?_
  · refine ev_n 1 (S' := (1, [(0, .ref 0)], [.ref 0])) rfl ?_
    refine ev_get (v := .ref 90) rfl rfl hp_at_0 rfl ?_
    refine ev_get (v := .int 0) rfl rfl hp_at_90 rfl ?_
    exact ev_ret rfl rfl rfl rfl
  refine ev_n 1 (S' := (975, [(4, .int 0), (3, .ref 464), (2, .ref 317), (1, .ref 0), (0, .float 0)], [.ref 317, .int 0])) rfl ?_
  refine ev_cv (v := some (.int 0)) (G1 := ((hp2.1.set 317 (Sum.inr (12, (fs317.set 0 (.int 0))))), hp2.2)) [] rfl rfl rfl rfl hp_at_317 rfl rfl rfl rfl ?_ ?_
  · refine ev_n 2 (S' := (2, [(0, .ref 317)], [.int 0, .ref 317])) rfl ?_
    refine ev_put rfl rfl hp_at_317 rfl rfl (by decide +kernel) ?_
    refine ev_n 1 (S' := (6, [(0, .ref 317)], [.ref 317])) rfl ?_
    refine ev_get (v := .int 0) rfl rfl (hx_self hp_at_317) rfl ?_
    exact ev_ret rfl rfl rfl rfl
  refine ev_n 5 (S' := (26, [(4, .int 5), (3, .ref 464), (2, .ref 317), (1, .ref 0), (0, .float 0)], [.float 0, .int 5])) rfl ?_
  refine ev_sl (L := 5) (xs := xs) (v := 5) rfl rfl rfl ?_
  refine ev_n 4 (S' := (1372, [(4, .int 5), (3, .ref 464), (2, .ref 317), (1, .ref 0), (0, .float 0)], [.int 1])) rfl ?_
  exact ev_ret rfl rfl rfl rfl

/-! ===== printed by wip/tools/sym.py: one call on new objects (op_0 by hand) ===== -/
set_option maxHeartbeats 4000000 in
set_option maxRecDepth 100000 in
theorem op_0 (xs : Nat → Int32) (b : Bool) (a0 a1 a2 a3 a4 : Int32) (h0 : xs 0 = a0) (h1 : xs 1 = a1) (h2 : xs 2 = a2) (h3 : xs 3 = a3) (h4 : xs 4 = a4) (e : Int64) (hE : ((a1).toInt64) <<< ((32 : Int32).toInt64 &&& 63) ||| ((a2).toInt64) &&& (4294967295) = e) : ∃ G', px_ev cx_cl cx_fty cx_PM cx_na (cx_V (some (5, xs)) b) 1500 mxL (132, [(4, .int 0), (3, .ref 464), (2, .ref 317), (1, .ref 0), (0, .float 0)], []) hp2 (Sum.inl (some (.int 1))) G' ∧ G'.1.length ≤ 600002 ∧ G'.2 ≤ 7302232 := by
  obtain ⟨k, hk⟩ := ty_ex e
  have hk8 : k ≤ 8 := hk.1
  obtain ⟨G1, w1, A1, A2, A3, A4, A5, A6⟩ := tyA (V := cx_V (some (5, xs)) b) (d := 1499) (G := hp2) hk (N := 0) (by omega) hp_at_0 rfl hp_at_2 rfl rfl hp_at_3
  obtain ⟨G2, w2, B1, B2, B3, B4, B5, B6⟩ := tyM (V := cx_V (some (5, xs)) b) (d := 1499) (G := G1) hk (N := 0) (by omega) ((A6 317 (by decide) (by decide)).trans hp_at_317) rfl rfl rfl ((A6 318 (by decide) (by decide)).trans hp_at_318)
  refine ⟨G2, ?_, by rw [B2, A2, hp2_len]; decide, by rw [B3, A3, hp2_sl]; decide⟩
  refine ev_n 5 (S' := (138, [(4, .int 0), (3, .ref 464), (2, .ref 317), (1, .ref 0), (0, .float 0)], [.int 1, .float 0, .ref 0])) rfl ?_
  refine ev_sc (L := 5) (xs := xs) (v := a1) rfl rfl (by decide) h1 ?_
  refine ev_n 7 (S' := (148, [(4, .int 0), (3, .ref 464), (2, .ref 317), (1, .ref 0), (0, .float 0)], [.int 2, .float 0, .long (((a1).toInt64) <<< ((32 : Int32).toInt64 &&& 63)), .ref 0])) rfl ?_
  refine ev_sc (L := 5) (xs := xs) (v := a2) rfl rfl (by decide) h2 ?_
  refine ev_n 1 (S' := (150, [(4, .int 0), (3, .ref 464), (2, .ref 317), (1, .ref 0), (0, .float 0)], [.long ((a2).toInt64), .long (((a1).toInt64) <<< ((32 : Int32).toInt64 &&& 63)), .ref 0])) rfl ?_
  refine ev_csl (v := 4294967295) rfl rfl ?_
  refine ev_n 2 (S' := (155, [(4, .int 0), (3, .ref 464), (2, .ref 317), (1, .ref 0), (0, .float 0)], [.long ((((a1).toInt64) <<< ((32 : Int32).toInt64 &&& 63)) ||| (((a2).toInt64) &&& (4294967295))), .ref 0])) rfl ?_
  rw [hE]
  refine ev_cv (v := some (.int (Int32.ofNat (0 + k)))) (G1 := G1) [.long e] rfl rfl rfl rfl hp_at_0 rfl rfl rfl rfl A1 ?_
  refine ev_n 5 (S' := (164, [(4, .int 0), (3, .ref 464), (2, .ref 317), (1, .ref 0), (0, .float 0)], [.int 1, .float 0, .ref 317, .int (Int32.ofNat (0 + k))])) rfl ?_
  refine ev_sc (L := 5) (xs := xs) (v := a1) rfl rfl (by decide) h1 ?_
  refine ev_n 7 (S' := (174, [(4, .int 0), (3, .ref 464), (2, .ref 317), (1, .ref 0), (0, .float 0)], [.int 2, .float 0, .long (((a1).toInt64) <<< ((32 : Int32).toInt64 &&& 63)), .ref 317, .int (Int32.ofNat (0 + k))])) rfl ?_
  refine ev_sc (L := 5) (xs := xs) (v := a2) rfl rfl (by decide) h2 ?_
  refine ev_n 1 (S' := (176, [(4, .int 0), (3, .ref 464), (2, .ref 317), (1, .ref 0), (0, .float 0)], [.long ((a2).toInt64), .long (((a1).toInt64) <<< ((32 : Int32).toInt64 &&& 63)), .ref 317, .int (Int32.ofNat (0 + k))])) rfl ?_
  refine ev_csl (v := 4294967295) rfl rfl ?_
  refine ev_n 2 (S' := (181, [(4, .int 0), (3, .ref 464), (2, .ref 317), (1, .ref 0), (0, .float 0)], [.long ((((a1).toInt64) <<< ((32 : Int32).toInt64 &&& 63)) ||| (((a2).toInt64) &&& (4294967295))), .ref 317, .int (Int32.ofNat (0 + k))])) rfl ?_
  rw [hE]
  refine ev_cv (v := some (.int (Int32.ofNat (0 + k)))) (G1 := G2) [.long e] rfl rfl rfl rfl ((A6 317 (by decide) (by decide)).trans hp_at_317) rfl rfl rfl rfl B1 ?_
  refine px_ev.p (S' := (1365, [(4, .int 0), (3, .ref 464), (2, .ref 317), (1, .ref 0), (0, .float 0)], [])) rfl (px_icT (t := 1365) (decide_eq_true rfl) rfl) ?_
  refine ev_n 4 (S' := (26, [(4, .int 5), (3, .ref 464), (2, .ref 317), (1, .ref 0), (0, .float 0)], [.float 0, .int 5])) rfl ?_
  refine ev_sl (L := 5) (xs := xs) (v := 5) rfl rfl rfl ?_
  refine ev_n 4 (S' := (1372, [(4, .int 5), (3, .ref 464), (2, .ref 317), (1, .ref 0), (0, .float 0)], [.int 1])) rfl ?_
  exact ev_ret rfl rfl rfl rfl

set_option maxHeartbeats 4000000 in
set_option maxRecDepth 100000 in
theorem op_1 (xs : Nat → Int32) (b : Bool) (a0 a1 a2 a3 a4 : Int32) (h0 : xs 0 = a0) (h1 : xs 1 = a1) (h2 : xs 2 = a2) (h3 : xs 3 = a3) (h4 : xs 4 = a4) : ∃ G', px_ev cx_cl cx_fty cx_PM cx_na (cx_V (some (5, xs)) b) 1500 mxL (189, [(4, .int 0), (3, .ref 464), (2, .ref 317), (1, .ref 0), (0, .float 0)], []) hp2 (Sum.inl (some (.int 1))) G' ∧ G'.1.length ≤ 600002 ∧ G'.2 ≤ 7302232 := by
  refine ⟨hp_read2, ?_, by decide +kernel, by decide +kernel⟩
  refine ev_n 2 (S' := (191, [(4, .int 0), (3, .ref 464), (2, .ref 317), (1, .ref 0), (0, .float 0)], [.ref 464, .ref 0])) rfl ?_
  refine ev_cs (v := some (.int 0)) (G1 := hp_read1) [.ref 464, .ref 0] rfl rfl rfl rfl rfl rfl (px_ev.of (rn_read1 b)) ?_
  refine ev_n 2 (S' := (197, [(5, .int 0), (4, .int 0), (3, .ref 464), (2, .ref 317), (1, .ref 0), (0, .float 0)], [.ref 317])) rfl ?_
  refine ev_cv (v := some (.int (-1))) (G1 := hp_read2) [] rfl rfl rfl rfl hp_read1_at_317 rfl rfl rfl rfl (px_ev.of (rn_read2 b)) ?_
  refine ev_n 2 (S' := (203, [(6, .int (-1)), (5, .int 0), (4, .int 0), (3, .ref 464), (2, .ref 317), (1, .ref 0), (0, .float 0)], [.ref 317])) rfl ?_
  refine ev_cv (v := some (.int 0)) (G1 := hp_read2) [] rfl rfl rfl rfl hp_read2_at_317 rfl rfl rfl rfl ?_ ?_
  · refine ev_n 1 (S' := (1, [(0, .ref 317)], [.ref 317])) rfl ?_
    refine ev_get (v := .int 0) rfl rfl hp_read2_at_317 rfl ?_
    exact ev_ret rfl rfl rfl rfl
  refine ev_n 6 (S' := (220, [(6, .int (-1)), (5, .int 0), (4, .int 0), (3, .ref 464), (2, .ref 317), (1, .ref 0), (0, .float 0)], [.int 0, .ref 464])) rfl ?_
  refine ev_lld (v := (-1)) rfl hp_read2_at_464 (by decide) rfl ?_
  refine ev_n 9 (S' := (26, [(4, .int 5), (6, .int (-1)), (5, .int 0), (3, .ref 464), (2, .ref 317), (1, .ref 0), (0, .float 0)], [.float 0, .int 5])) rfl ?_
  refine ev_sl (L := 5) (xs := xs) (v := 5) rfl rfl rfl ?_
  refine ev_n 4 (S' := (1372, [(4, .int 5), (6, .int (-1)), (5, .int 0), (3, .ref 464), (2, .ref 317), (1, .ref 0), (0, .float 0)], [.int 1])) rfl ?_
  exact ev_ret rfl rfl rfl rfl

set_option maxHeartbeats 4000000 in
set_option maxRecDepth 100000 in
theorem op_2 (xs : Nat → Int32) (b : Bool) (a0 a1 a2 a3 a4 : Int32) (h0 : xs 0 = a0) (h1 : xs 1 = a1) (h2 : xs 2 = a2) (h3 : xs 3 = a3) (h4 : xs 4 = a4) : ∃ G', px_ev cx_cl cx_fty cx_PM cx_na (cx_V (some (5, xs)) b) 1500 mxL (233, [(4, .int 0), (3, .ref 464), (2, .ref 317), (1, .ref 0), (0, .float 0)], []) hp2 (Sum.inl (some (.int 1))) G' ∧ G'.1.length ≤ 600002 ∧ G'.2 ≤ 7302232 := by
  by_cases q0 : a1.toInt = 0
  · obtain rfl : a1 = 0 := Int32.toInt_inj.mp q0
    refine ⟨(((hp2.1.set 464 (Sum.inl (1, 1, Sum.inr (Sum.inl (px_wr ar464 (0 : Int32).toNatClampNeg (0)))))).set 317 (Sum.inr (12, (fs317.set 0 (.int 0))))), hp2.2), ?_, by simp only [List.length_append, List.length_set, List.length_cons, List.length_nil]; rw [hp2_len]; decide, by show hp2.2 ≤ _; rw [hp2_sl]; decide⟩
    refine ev_n 5 (S' := (239, [(4, .int 0), (3, .ref 464), (2, .ref 317), (1, .ref 0), (0, .float 0)], [.int 1, .float 0, .ref 0])) rfl ?_
    refine ev_sc (L := 5) (xs := xs) (v := 0) rfl rfl (by decide) h1 ?_
    refine ev_n 1 (S' := (241, [(4, .int 0), (3, .ref 464), (2, .ref 317), (1, .ref 0), (0, .float 0)], [.ref 464, .int 0, .ref 0])) rfl ?_
    refine ev_cs (v := some (.int 0)) (G1 := ((hp2.1.set 464 (Sum.inl (1, 1, Sum.inr (Sum.inl (px_wr ar464 (0 : Int32).toNatClampNeg (0)))))), hp2.2)) [.ref 464, .int 0, .ref 0] rfl rfl rfl rfl rfl rfl ?_ ?_
    · refine ev_n 4 (S' := (4, [(0, .ref 0), (1, .int 0), (2, .ref 464)], [.int 0, .ref 0, .int 0, .ref 464])) rfl ?_
      refine ev_cv (v := some (.int 0)) (G1 := hp2) [.int 0] rfl rfl rfl rfl hp_at_0 rfl rfl rfl rfl ?_ ?_
      · refine ev_n 5 (S' := (24, [(0, .ref 0), (1, .int 0)], [.ref 0])) rfl ?_
        refine ev_get (v := .int 0) rfl rfl hp_at_0 rfl ?_
        refine ev_n 1 (S' := (34, [(0, .ref 0), (1, .int 0)], [.int 0])) rfl ?_
        exact ev_ret rfl rfl rfl rfl
      refine ev_n 1 (S' := (8, [(0, .ref 0), (1, .int 0), (2, .ref 464)], [.long 0, .int 0, .ref 464])) rfl ?_
      refine ev_lst rfl hp_at_464 (by decide) ?_
      refine ev_n 2 (S' := (16, [(0, .ref 0), (1, .int 0), (2, .ref 464)], [.int 0])) rfl ?_
      exact ev_ret rfl rfl rfl rfl
    refine ev_n 6 (S' := (252, [(5, .int 0), (4, .int 0), (3, .ref 464), (2, .ref 317), (1, .ref 0), (0, .float 0)], [.int 1, .float 0, .ref 317])) rfl ?_
    refine ev_sc (L := 5) (xs := xs) (v := 0) rfl rfl (by decide) h1 ?_
    refine ev_cv (v := some (.int 0)) (G1 := (((hp2.1.set 464 (Sum.inl (1, 1, Sum.inr (Sum.inl (px_wr ar464 (0 : Int32).toNatClampNeg (0)))))).set 317 (Sum.inr (12, (fs317.set 0 (.int 0))))), hp2.2)) [.int 0] rfl rfl rfl rfl (hx_set hp_at_317 (by decide)) rfl rfl rfl rfl ?_ ?_
    · refine ev_n 5 (S' := (5, [(0, .ref 317), (1, .int 0)], [.long 1, .long 0, .long 0, .ref 317])) rfl ?_
      refine ev_cs (v := some (.int 1)) (G1 := ((hp2.1.set 464 (Sum.inl (1, 1, Sum.inr (Sum.inl (px_wr ar464 (0 : Int32).toNatClampNeg (0)))))), hp2.2)) [.long 1, .long 0, .long 0] rfl rfl rfl rfl rfl rfl ?_ ?_
      · refine ev_n 10 (S' := (18, [(0, .long 0), (2, .long 0), (4, .long 1)], [.int 1])) rfl ?_
        exact ev_ret rfl rfl rfl rfl
      refine ev_n 3 (S' := (16, [(0, .ref 317), (1, .int 0)], [.int 0, .ref 317])) rfl ?_
      refine ev_put rfl rfl (hx_set hp_at_317 (by decide)) rfl rfl (by decide +kernel) ?_
      refine ev_n 1 (S' := (20, [(0, .ref 317), (1, .int 0)], [.ref 317])) rfl ?_
      refine ev_get (v := .int 0) rfl rfl (hx_self (hx_set hp_at_317 (by decide))) rfl ?_
      refine ev_n 4 (S' := (35, [(0, .ref 317), (1, .int 0)], [.ref 317])) rfl ?_
      refine ev_get (v := .int 0) rfl rfl (hx_self (hx_set hp_at_317 (by decide))) rfl ?_
      refine ev_n 1 (S' := (45, [(0, .ref 317), (1, .int 0)], [.int 0])) rfl ?_
      exact ev_ret rfl rfl rfl rfl
    refine ev_n 2 (S' := (259, [(6, .int 0), (5, .int 0), (4, .int 0), (3, .ref 464), (2, .ref 317), (1, .ref 0), (0, .float 0)], [.ref 317])) rfl ?_
    refine ev_cv (v := some (.int 0)) (G1 := (((hp2.1.set 464 (Sum.inl (1, 1, Sum.inr (Sum.inl (px_wr ar464 (0 : Int32).toNatClampNeg (0)))))).set 317 (Sum.inr (12, (fs317.set 0 (.int 0))))), hp2.2)) [] rfl rfl rfl rfl (hx_self (hx_set hp_at_317 (by decide))) rfl rfl rfl rfl ?_ ?_
    · refine ev_n 1 (S' := (1, [(0, .ref 317)], [.ref 317])) rfl ?_
      refine ev_get (v := .int 0) rfl rfl (hx_self (hx_set hp_at_317 (by decide))) rfl ?_
      exact ev_ret rfl rfl rfl rfl
    refine ev_n 6 (S' := (276, [(6, .int 0), (5, .int 0), (4, .int 0), (3, .ref 464), (2, .ref 317), (1, .ref 0), (0, .float 0)], [.int 0, .ref 464])) rfl ?_
    refine ev_lld (v := 0) rfl (hx_set (hx_self hp_at_464) (by decide)) (by decide) rfl ?_
    refine ev_n 9 (S' := (26, [(4, .int 5), (6, .int 0), (5, .int 0), (3, .ref 464), (2, .ref 317), (1, .ref 0), (0, .float 0)], [.float 0, .int 5])) rfl ?_
    refine ev_sl (L := 5) (xs := xs) (v := 5) rfl rfl rfl ?_
    refine ev_n 4 (S' := (1372, [(4, .int 5), (6, .int 0), (5, .int 0), (3, .ref 464), (2, .ref 317), (1, .ref 0), (0, .float 0)], [.int 1])) rfl ?_
    exact ev_ret rfl rfl rfl rfl
  · by_cases q1 : a1.toInt = 1
    · obtain rfl : a1 = 1 := Int32.toInt_inj.mp q1
      refine ⟨(((hp2.1.set 464 (Sum.inl (1, 1, Sum.inr (Sum.inl (px_wr ar464 (0 : Int32).toNatClampNeg ((-1))))))).set 317 (Sum.inr (12, (fs317.set 0 (.int 0))))), hp2.2), ?_, by simp only [List.length_append, List.length_set, List.length_cons, List.length_nil]; rw [hp2_len]; decide, by show hp2.2 ≤ _; rw [hp2_sl]; decide⟩
      refine ev_n 5 (S' := (239, [(4, .int 0), (3, .ref 464), (2, .ref 317), (1, .ref 0), (0, .float 0)], [.int 1, .float 0, .ref 0])) rfl ?_
      refine ev_sc (L := 5) (xs := xs) (v := 1) rfl rfl (by decide) h1 ?_
      refine ev_n 1 (S' := (241, [(4, .int 0), (3, .ref 464), (2, .ref 317), (1, .ref 0), (0, .float 0)], [.ref 464, .int 1, .ref 0])) rfl ?_
      refine ev_cs (v := some (.int 0)) (G1 := ((hp2.1.set 464 (Sum.inl (1, 1, Sum.inr (Sum.inl (px_wr ar464 (0 : Int32).toNatClampNeg ((-1))))))), hp2.2)) [.ref 464, .int 1, .ref 0] rfl rfl rfl rfl rfl rfl ?_ ?_
      · refine ev_n 4 (S' := (4, [(0, .ref 0), (1, .int 1), (2, .ref 464)], [.int 1, .ref 0, .int 0, .ref 464])) rfl ?_
        refine ev_cv (v := some (.int (-1))) (G1 := hp2) [.int 1] rfl rfl rfl rfl hp_at_0 rfl rfl rfl rfl ?_ ?_
        · refine ev_n 8 (S' := (31, [(0, .ref 0), (1, .int 1)], [.ref 0])) rfl ?_
          refine ev_get (v := .int (-1)) rfl rfl hp_at_0 rfl ?_
          exact ev_ret rfl rfl rfl rfl
        refine ev_n 1 (S' := (8, [(0, .ref 0), (1, .int 1), (2, .ref 464)], [.long (-1), .int 0, .ref 464])) rfl ?_
        refine ev_lst rfl hp_at_464 (by decide) ?_
        refine ev_n 2 (S' := (16, [(0, .ref 0), (1, .int 1), (2, .ref 464)], [.int 0])) rfl ?_
        exact ev_ret rfl rfl rfl rfl
      refine ev_n 6 (S' := (252, [(5, .int 0), (4, .int 0), (3, .ref 464), (2, .ref 317), (1, .ref 0), (0, .float 0)], [.int 1, .float 0, .ref 317])) rfl ?_
      refine ev_sc (L := 5) (xs := xs) (v := 1) rfl rfl (by decide) h1 ?_
      refine ev_cv (v := some (.int (-1))) (G1 := (((hp2.1.set 464 (Sum.inl (1, 1, Sum.inr (Sum.inl (px_wr ar464 (0 : Int32).toNatClampNeg ((-1))))))).set 317 (Sum.inr (12, (fs317.set 0 (.int 0))))), hp2.2)) [.int 1] rfl rfl rfl rfl (hx_set hp_at_317 (by decide)) rfl rfl rfl rfl ?_ ?_
      · refine ev_n 5 (S' := (5, [(0, .ref 317), (1, .int 1)], [.long 1, .long 0, .long 1, .ref 317])) rfl ?_
        refine ev_cs (v := some (.int 1)) (G1 := ((hp2.1.set 464 (Sum.inl (1, 1, Sum.inr (Sum.inl (px_wr ar464 (0 : Int32).toNatClampNeg ((-1))))))), hp2.2)) [.long 1, .long 0, .long 1] rfl rfl rfl rfl rfl rfl ?_ ?_
        · refine ev_n 10 (S' := (18, [(0, .long 1), (2, .long 0), (4, .long 1)], [.int 1])) rfl ?_
          exact ev_ret rfl rfl rfl rfl
        refine ev_n 3 (S' := (16, [(0, .ref 317), (1, .int 1)], [.int 0, .ref 317])) rfl ?_
        refine ev_put rfl rfl (hx_set hp_at_317 (by decide)) rfl rfl (by decide +kernel) ?_
        refine ev_n 1 (S' := (20, [(0, .ref 317), (1, .int 1)], [.ref 317])) rfl ?_
        refine ev_get (v := .int 0) rfl rfl (hx_self (hx_set hp_at_317 (by decide))) rfl ?_
        refine ev_n 4 (S' := (42, [(0, .ref 317), (1, .int 1)], [.ref 317])) rfl ?_
        refine ev_get (v := .int (-1)) rfl rfl (hx_self (hx_set hp_at_317 (by decide))) rfl ?_
        exact ev_ret rfl rfl rfl rfl
      refine ev_n 2 (S' := (259, [(6, .int (-1)), (5, .int 0), (4, .int 0), (3, .ref 464), (2, .ref 317), (1, .ref 0), (0, .float 0)], [.ref 317])) rfl ?_
      refine ev_cv (v := some (.int 0)) (G1 := (((hp2.1.set 464 (Sum.inl (1, 1, Sum.inr (Sum.inl (px_wr ar464 (0 : Int32).toNatClampNeg ((-1))))))).set 317 (Sum.inr (12, (fs317.set 0 (.int 0))))), hp2.2)) [] rfl rfl rfl rfl (hx_self (hx_set hp_at_317 (by decide))) rfl rfl rfl rfl ?_ ?_
      · refine ev_n 1 (S' := (1, [(0, .ref 317)], [.ref 317])) rfl ?_
        refine ev_get (v := .int 0) rfl rfl (hx_self (hx_set hp_at_317 (by decide))) rfl ?_
        exact ev_ret rfl rfl rfl rfl
      refine ev_n 6 (S' := (276, [(6, .int (-1)), (5, .int 0), (4, .int 0), (3, .ref 464), (2, .ref 317), (1, .ref 0), (0, .float 0)], [.int 0, .ref 464])) rfl ?_
      refine ev_lld (v := (-1)) rfl (hx_set (hx_self hp_at_464) (by decide)) (by decide) rfl ?_
      refine ev_n 9 (S' := (26, [(4, .int 5), (6, .int (-1)), (5, .int 0), (3, .ref 464), (2, .ref 317), (1, .ref 0), (0, .float 0)], [.float 0, .int 5])) rfl ?_
      refine ev_sl (L := 5) (xs := xs) (v := 5) rfl rfl rfl ?_
      refine ev_n 4 (S' := (1372, [(4, .int 5), (6, .int (-1)), (5, .int 0), (3, .ref 464), (2, .ref 317), (1, .ref 0), (0, .float 0)], [.int 1])) rfl ?_
      exact ev_ret rfl rfl rfl rfl
    · by_cases q2 : a1.toInt < 0
      · refine ⟨(((hp2.1 ++ [Sum.inr (14, [])]).set 317 (Sum.inr (12, (fs317.set 0 (.int 1))))), hp2.2 + 6), ?_, by simp only [List.length_append, List.length_set, List.length_cons, List.length_nil]; rw [hp2_len]; decide, by show hp2.2 + 6 ≤ _; rw [hp2_sl]; decide⟩
        refine ev_n 5 (S' := (239, [(4, .int 0), (3, .ref 464), (2, .ref 317), (1, .ref 0), (0, .float 0)], [.int 1, .float 0, .ref 0])) rfl ?_
        refine ev_sc (L := 5) (xs := xs) (v := a1) rfl rfl (by decide) h1 ?_
        refine ev_n 1 (S' := (241, [(4, .int 0), (3, .ref 464), (2, .ref 317), (1, .ref 0), (0, .float 0)], [.ref 464, .int a1, .ref 0])) rfl ?_
        refine ev_cs (v := some (.int 1)) (G1 := ((hp2.1 ++ [Sum.inr (14, [])]), hp2.2 + 6)) [.ref 464, .int a1, .ref 0] rfl rfl rfl rfl rfl rfl ?_ ?_
        · refine ev_n 4 (S' := (4, [(0, .ref 0), (1, .int a1), (2, .ref 464)], [.int a1, .ref 0, .int 0, .ref 464])) rfl ?_
          refine ev_cvx (x := 465) (G1 := ((hp2.1 ++ [Sum.inr (14, [])]), hp2.2 + 6)) (hpc := 12) [.int a1] rfl rfl rfl rfl hp_at_0 rfl rfl rfl rfl ?_ (hx_end (by decide +kernel)) (by decide +kernel) (by decide +kernel) ?_
          · refine ev_n 1 (S' := (1, [(0, .ref 0), (1, .int a1)], [.int a1])) rfl ?_
            refine px_ev.p (S' := (4, [(0, .ref 0), (1, .int a1)], [])) rfl (px_ifF (t := 19) (cA_eq_F 0 rfl (by omega)) rfl) ?_
            refine ev_n 2 (S' := (6, [(0, .ref 0), (1, .int a1)], [.int 1, .int a1])) rfl ?_
            refine px_ev.p (S' := (9, [(0, .ref 0), (1, .int a1)], [])) rfl (px_icF (t := 19) (cA_eq_F 1 rfl (by omega)) rfl) ?_
            exact ev_thr rfl rfl rfl (by decide +kernel) (by decide +kernel)
          refine ev_n 2 (S' := (14, [(3, .ref 465), (0, .ref 0), (1, .int a1), (2, .ref 464)], [.int 1])) rfl ?_
          exact ev_ret rfl rfl rfl rfl
        refine ev_n 6 (S' := (252, [(5, .int 1), (4, .int 0), (3, .ref 464), (2, .ref 317), (1, .ref 0), (0, .float 0)], [.int 1, .float 0, .ref 317])) rfl ?_
        refine ev_sc (L := 5) (xs := xs) (v := a1) rfl rfl (by decide) h1 ?_
        refine ev_cv (v := some (.int 0)) (G1 := (((hp2.1 ++ [Sum.inr (14, [])]).set 317 (Sum.inr (12, (fs317.set 0 (.int 1))))), hp2.2 + 6)) [.int a1] rfl rfl rfl rfl (hx_app hp_at_317) rfl rfl rfl rfl ?_ ?_
        · refine ev_n 5 (S' := (5, [(0, .ref 317), (1, .int a1)], [.long 1, .long 0, .long ((a1).toInt64), .ref 317])) rfl ?_
          refine ev_cs (v := some (.int 0)) (G1 := ((hp2.1 ++ [Sum.inr (14, [])]), hp2.2 + 6)) [.long 1, .long 0, .long ((a1).toInt64)] rfl rfl rfl rfl rfl rfl ?_ ?_
          · refine ev_n 3 (S' := (3, [(0, .long ((a1).toInt64)), (2, .long 0), (4, .long 1)], [.int (lg_cmp ((a1).toInt64) (0))])) rfl ?_
            refine px_ev.p (S' := (17, [(0, .long ((a1).toInt64)), (2, .long 0), (4, .long 1)], [])) rfl (px_ifT (t := 17) (cL_lt_T 0 rfl (by omega)) rfl) ?_
            refine ev_n 1 (S' := (18, [(0, .long ((a1).toInt64)), (2, .long 0), (4, .long 1)], [.int 0])) rfl ?_
            exact ev_ret rfl rfl rfl rfl
          refine ev_n 2 (S' := (16, [(0, .ref 317), (1, .int a1)], [.int 1, .ref 317])) rfl ?_
          refine ev_put rfl rfl (hx_app hp_at_317) rfl rfl (by decide +kernel) ?_
          refine ev_n 1 (S' := (20, [(0, .ref 317), (1, .int a1)], [.ref 317])) rfl ?_
          refine ev_get (v := .int 1) rfl rfl (hx_self (hx_app hp_at_317)) rfl ?_
          refine ev_n 3 (S' := (45, [(0, .ref 317), (1, .int a1)], [.int 0])) rfl ?_
          exact ev_ret rfl rfl rfl rfl
        refine ev_n 2 (S' := (259, [(6, .int 0), (5, .int 1), (4, .int 0), (3, .ref 464), (2, .ref 317), (1, .ref 0), (0, .float 0)], [.ref 317])) rfl ?_
        refine ev_cv (v := some (.int 1)) (G1 := (((hp2.1 ++ [Sum.inr (14, [])]).set 317 (Sum.inr (12, (fs317.set 0 (.int 1))))), hp2.2 + 6)) [] rfl rfl rfl rfl (hx_self (hx_app hp_at_317)) rfl rfl rfl rfl ?_ ?_
        · refine ev_n 1 (S' := (1, [(0, .ref 317)], [.ref 317])) rfl ?_
          refine ev_get (v := .int 1) rfl rfl (hx_self (hx_app hp_at_317)) rfl ?_
          exact ev_ret rfl rfl rfl rfl
        refine ev_n 9 (S' := (26, [(4, .int 5), (6, .int 0), (5, .int 1), (3, .ref 464), (2, .ref 317), (1, .ref 0), (0, .float 0)], [.float 0, .int 5])) rfl ?_
        refine ev_sl (L := 5) (xs := xs) (v := 5) rfl rfl rfl ?_
        refine ev_n 4 (S' := (1372, [(4, .int 5), (6, .int 0), (5, .int 1), (3, .ref 464), (2, .ref 317), (1, .ref 0), (0, .float 0)], [.int 1])) rfl ?_
        exact ev_ret rfl rfl rfl rfl
      · refine ⟨(((hp2.1 ++ [Sum.inr (14, [])]).set 317 (Sum.inr (12, (fs317.set 0 (.int 1))))), hp2.2 + 6), ?_, by simp only [List.length_append, List.length_set, List.length_cons, List.length_nil]; rw [hp2_len]; decide, by show hp2.2 + 6 ≤ _; rw [hp2_sl]; decide⟩
        refine ev_n 5 (S' := (239, [(4, .int 0), (3, .ref 464), (2, .ref 317), (1, .ref 0), (0, .float 0)], [.int 1, .float 0, .ref 0])) rfl ?_
        refine ev_sc (L := 5) (xs := xs) (v := a1) rfl rfl (by decide) h1 ?_
        refine ev_n 1 (S' := (241, [(4, .int 0), (3, .ref 464), (2, .ref 317), (1, .ref 0), (0, .float 0)], [.ref 464, .int a1, .ref 0])) rfl ?_
        refine ev_cs (v := some (.int 1)) (G1 := ((hp2.1 ++ [Sum.inr (14, [])]), hp2.2 + 6)) [.ref 464, .int a1, .ref 0] rfl rfl rfl rfl rfl rfl ?_ ?_
        · refine ev_n 4 (S' := (4, [(0, .ref 0), (1, .int a1), (2, .ref 464)], [.int a1, .ref 0, .int 0, .ref 464])) rfl ?_
          refine ev_cvx (x := 465) (G1 := ((hp2.1 ++ [Sum.inr (14, [])]), hp2.2 + 6)) (hpc := 12) [.int a1] rfl rfl rfl rfl hp_at_0 rfl rfl rfl rfl ?_ (hx_end (by decide +kernel)) (by decide +kernel) (by decide +kernel) ?_
          · refine ev_n 1 (S' := (1, [(0, .ref 0), (1, .int a1)], [.int a1])) rfl ?_
            refine px_ev.p (S' := (4, [(0, .ref 0), (1, .int a1)], [])) rfl (px_ifF (t := 19) (cA_eq_F 0 rfl (by omega)) rfl) ?_
            refine ev_n 2 (S' := (6, [(0, .ref 0), (1, .int a1)], [.int 1, .int a1])) rfl ?_
            refine px_ev.p (S' := (9, [(0, .ref 0), (1, .int a1)], [])) rfl (px_icF (t := 19) (cA_eq_F 1 rfl (by omega)) rfl) ?_
            exact ev_thr rfl rfl rfl (by decide +kernel) (by decide +kernel)
          refine ev_n 2 (S' := (14, [(3, .ref 465), (0, .ref 0), (1, .int a1), (2, .ref 464)], [.int 1])) rfl ?_
          exact ev_ret rfl rfl rfl rfl
        refine ev_n 6 (S' := (252, [(5, .int 1), (4, .int 0), (3, .ref 464), (2, .ref 317), (1, .ref 0), (0, .float 0)], [.int 1, .float 0, .ref 317])) rfl ?_
        refine ev_sc (L := 5) (xs := xs) (v := a1) rfl rfl (by decide) h1 ?_
        refine ev_cv (v := some (.int 0)) (G1 := (((hp2.1 ++ [Sum.inr (14, [])]).set 317 (Sum.inr (12, (fs317.set 0 (.int 1))))), hp2.2 + 6)) [.int a1] rfl rfl rfl rfl (hx_app hp_at_317) rfl rfl rfl rfl ?_ ?_
        · refine ev_n 5 (S' := (5, [(0, .ref 317), (1, .int a1)], [.long 1, .long 0, .long ((a1).toInt64), .ref 317])) rfl ?_
          refine ev_cs (v := some (.int 0)) (G1 := ((hp2.1 ++ [Sum.inr (14, [])]), hp2.2 + 6)) [.long 1, .long 0, .long ((a1).toInt64)] rfl rfl rfl rfl rfl rfl ?_ ?_
          · refine ev_n 3 (S' := (3, [(0, .long ((a1).toInt64)), (2, .long 0), (4, .long 1)], [.int (lg_cmp ((a1).toInt64) (0))])) rfl ?_
            refine px_ev.p (S' := (6, [(0, .long ((a1).toInt64)), (2, .long 0), (4, .long 1)], [])) rfl (px_ifF (t := 17) (cL_lt_F 0 rfl (by omega)) rfl) ?_
            refine ev_n 3 (S' := (10, [(0, .long ((a1).toInt64)), (2, .long 0), (4, .long 1)], [.int (lg_cmp ((a1).toInt64) (1))])) rfl ?_
            refine px_ev.p (S' := (17, [(0, .long ((a1).toInt64)), (2, .long 0), (4, .long 1)], [])) rfl (px_ifT (t := 17) (cL_gt_T 1 rfl (by omega)) rfl) ?_
            refine ev_n 1 (S' := (18, [(0, .long ((a1).toInt64)), (2, .long 0), (4, .long 1)], [.int 0])) rfl ?_
            exact ev_ret rfl rfl rfl rfl
          refine ev_n 2 (S' := (16, [(0, .ref 317), (1, .int a1)], [.int 1, .ref 317])) rfl ?_
          refine ev_put rfl rfl (hx_app hp_at_317) rfl rfl (by decide +kernel) ?_
          refine ev_n 1 (S' := (20, [(0, .ref 317), (1, .int a1)], [.ref 317])) rfl ?_
          refine ev_get (v := .int 1) rfl rfl (hx_self (hx_app hp_at_317)) rfl ?_
          refine ev_n 3 (S' := (45, [(0, .ref 317), (1, .int a1)], [.int 0])) rfl ?_
          exact ev_ret rfl rfl rfl rfl
        refine ev_n 2 (S' := (259, [(6, .int 0), (5, .int 1), (4, .int 0), (3, .ref 464), (2, .ref 317), (1, .ref 0), (0, .float 0)], [.ref 317])) rfl ?_
        refine ev_cv (v := some (.int 1)) (G1 := (((hp2.1 ++ [Sum.inr (14, [])]).set 317 (Sum.inr (12, (fs317.set 0 (.int 1))))), hp2.2 + 6)) [] rfl rfl rfl rfl (hx_self (hx_app hp_at_317)) rfl rfl rfl rfl ?_ ?_
        · refine ev_n 1 (S' := (1, [(0, .ref 317)], [.ref 317])) rfl ?_
          refine ev_get (v := .int 1) rfl rfl (hx_self (hx_app hp_at_317)) rfl ?_
          exact ev_ret rfl rfl rfl rfl
        refine ev_n 9 (S' := (26, [(4, .int 5), (6, .int 0), (5, .int 1), (3, .ref 464), (2, .ref 317), (1, .ref 0), (0, .float 0)], [.float 0, .int 5])) rfl ?_
        refine ev_sl (L := 5) (xs := xs) (v := 5) rfl rfl rfl ?_
        refine ev_n 4 (S' := (1372, [(4, .int 5), (6, .int 0), (5, .int 1), (3, .ref 464), (2, .ref 317), (1, .ref 0), (0, .float 0)], [.int 1])) rfl ?_
        exact ev_ret rfl rfl rfl rfl

set_option maxHeartbeats 4000000 in
set_option maxRecDepth 100000 in
theorem op_3 (xs : Nat → Int32) (b : Bool) (a0 a1 a2 a3 a4 : Int32) (h0 : xs 0 = a0) (h1 : xs 1 = a1) (h2 : xs 2 = a2) (h3 : xs 3 = a3) (h4 : xs 4 = a4) : ∃ G', px_ev cx_cl cx_fty cx_PM cx_na (cx_V (some (5, xs)) b) 1500 mxL (289, [(4, .int 0), (3, .ref 464), (2, .ref 317), (1, .ref 0), (0, .float 0)], []) hp2 (Sum.inl (some (.int 1))) G' ∧ G'.1.length ≤ 600002 ∧ G'.2 ≤ 7302232 := by
  refine ⟨((hp2.1.set 317 (Sum.inr (12, (fs317.set 0 (.int 0))))), hp2.2), ?_, by simp only [List.length_append, List.length_set, List.length_cons, List.length_nil]; rw [hp2_len]; decide, by show hp2.2 ≤ _; rw [hp2_sl]; decide⟩
  refine ev_n 1 (S' := (290, [(4, .int 0), (3, .ref 464), (2, .ref 317), (1, .ref 0), (0, .float 0)], [.ref 0])) rfl ?_
  refine ev_cv (v := some (.int 0)) (G1 := hp2) [] rfl rfl rfl rfl hp_at_0 rfl rfl rfl rfl ?_ ?_
  · refine ev_n 1 (S' := (1, [(0, .ref 0)], [.ref 0])) rfl ?_
    refine ev_get (v := .int 0) rfl rfl hp_at_0 rfl ?_
    exact ev_ret rfl rfl rfl rfl
  refine ev_n 1 (S' := (294, [(4, .int 0), (3, .ref 464), (2, .ref 317), (1, .ref 0), (0, .float 0)], [.ref 317, .int 0])) rfl ?_
  refine ev_cv (v := some (.int 0)) (G1 := ((hp2.1.set 317 (Sum.inr (12, (fs317.set 0 (.int 0))))), hp2.2)) [] rfl rfl rfl rfl hp_at_317 rfl rfl rfl rfl ?_ ?_
  · refine ev_n 2 (S' := (2, [(0, .ref 317)], [.int 0, .ref 317])) rfl ?_
    refine ev_put rfl rfl hp_at_317 rfl rfl (by decide +kernel) ?_
    refine ev_n 1 (S' := (6, [(0, .ref 317)], [.ref 317])) rfl ?_
    refine ev_get (v := .int 0) rfl rfl (hx_self hp_at_317) rfl ?_
    exact ev_ret rfl rfl rfl rfl
  refine ev_n 5 (S' := (26, [(4, .int 5), (3, .ref 464), (2, .ref 317), (1, .ref 0), (0, .float 0)], [.float 0, .int 5])) rfl ?_
  refine ev_sl (L := 5) (xs := xs) (v := 5) rfl rfl rfl ?_
  refine ev_n 4 (S' := (1372, [(4, .int 5), (3, .ref 464), (2, .ref 317), (1, .ref 0), (0, .float 0)], [.int 1])) rfl ?_
  exact ev_ret rfl rfl rfl rfl

set_option maxHeartbeats 4000000 in
set_option maxRecDepth 100000 in
theorem op_4 (xs : Nat → Int32) (b : Bool) (a0 a1 a2 a3 a4 : Int32) (h0 : xs 0 = a0) (h1 : xs 1 = a1) (h2 : xs 2 = a2) (h3 : xs 3 = a3) (h4 : xs 4 = a4) : ∃ G', px_ev cx_cl cx_fty cx_PM cx_na (cx_V (some (5, xs)) b) 1500 mxL (302, [(4, .int 0), (3, .ref 464), (2, .ref 317), (1, .ref 0), (0, .float 0)], []) hp2 (Sum.inl (some (.int 1))) G' ∧ G'.1.length ≤ 600002 ∧ G'.2 ≤ 7302232 := by
  refine ⟨((((hp2.1.set 0 (Sum.inr (0, (fs0.set 6 (.int 0))))).set 317 (Sum.inr (12, (fs317.set 0 (.int 0))))).set 317 (Sum.inr (12, ((fs317.set 0 (.int 0)).set 3 (.int 0))))), hp2.2), ?_, by simp only [List.length_append, List.length_set, List.length_cons, List.length_nil]; rw [hp2_len]; decide, by show hp2.2 ≤ _; rw [hp2_sl]; decide⟩
  refine ev_n 1 (S' := (303, [(4, .int 0), (3, .ref 464), (2, .ref 317), (1, .ref 0), (0, .float 0)], [.ref 0])) rfl ?_
  refine ev_cv (v := some (.int 0)) (G1 := ((hp2.1.set 0 (Sum.inr (0, (fs0.set 6 (.int 0))))), hp2.2)) [] rfl rfl rfl rfl hp_at_0 rfl rfl rfl rfl ?_ ?_
  · refine ev_n 1 (S' := (1, [(0, .ref 0)], [.ref 0])) rfl ?_
    refine ev_get (v := .int 0) rfl rfl hp_at_0 rfl ?_
    refine ev_n 3 (S' := (7, [(1, .int 0), (0, .ref 0)], [.int 0, .ref 0])) rfl ?_
    refine ev_put rfl rfl hp_at_0 rfl rfl (by decide +kernel) ?_
    refine ev_n 1 (S' := (11, [(1, .int 0), (0, .ref 0)], [.int 0])) rfl ?_
    exact ev_ret rfl rfl rfl rfl
  refine ev_n 1 (S' := (307, [(4, .int 0), (3, .ref 464), (2, .ref 317), (1, .ref 0), (0, .float 0)], [.ref 317, .int 0])) rfl ?_
  refine ev_cv (v := some (.int 0)) (G1 := ((((hp2.1.set 0 (Sum.inr (0, (fs0.set 6 (.int 0))))).set 317 (Sum.inr (12, (fs317.set 0 (.int 0))))).set 317 (Sum.inr (12, ((fs317.set 0 (.int 0)).set 3 (.int 0))))), hp2.2)) [] rfl rfl rfl rfl (hx_set hp_at_317 (by decide)) rfl rfl rfl rfl ?_ ?_
  · refine ev_n 2 (S' := (2, [(0, .ref 317)], [.int 0, .ref 317])) rfl ?_
    refine ev_put rfl rfl (hx_set hp_at_317 (by decide)) rfl rfl (by decide +kernel) ?_
    refine ev_n 1 (S' := (6, [(0, .ref 317)], [.ref 317])) rfl ?_
    refine ev_get (v := .int 0) rfl rfl (hx_self (hx_set hp_at_317 (by decide))) rfl ?_
    refine ev_n 3 (S' := (12, [(1, .int 0), (0, .ref 317)], [.int 0, .ref 317])) rfl ?_
    refine ev_put rfl rfl (hx_self (hx_set hp_at_317 (by decide))) rfl rfl (by decide +kernel) ?_
    refine ev_n 1 (S' := (16, [(1, .int 0), (0, .ref 317)], [.int 0])) rfl ?_
    exact ev_ret rfl rfl rfl rfl
  refine ev_n 5 (S' := (26, [(4, .int 5), (3, .ref 464), (2, .ref 317), (1, .ref 0), (0, .float 0)], [.float 0, .int 5])) rfl ?_
  refine ev_sl (L := 5) (xs := xs) (v := 5) rfl rfl rfl ?_
  refine ev_n 4 (S' := (1372, [(4, .int 5), (3, .ref 464), (2, .ref 317), (1, .ref 0), (0, .float 0)], [.int 1])) rfl ?_
  exact ev_ret rfl rfl rfl rfl

set_option maxHeartbeats 4000000 in
set_option maxRecDepth 100000 in
theorem op_5 (xs : Nat → Int32) (b : Bool) (a0 a1 a2 a3 a4 : Int32) (h0 : xs 0 = a0) (h1 : xs 1 = a1) (h2 : xs 2 = a2) (h3 : xs 3 = a3) (h4 : xs 4 = a4) : ∃ G', px_ev cx_cl cx_fty cx_PM cx_na (cx_V (some (5, xs)) b) 1500 mxL (315, [(4, .int 0), (3, .ref 464), (2, .ref 317), (1, .ref 0), (0, .float 0)], []) hp2 (Sum.inl (some (.int 1))) G' ∧ G'.1.length ≤ 600002 ∧ G'.2 ≤ 7302232 := by
  by_cases q0 : a1.toInt < 0
  · refine ⟨(((hp2.1 ++ [Sum.inr (15, [])]).set 317 (Sum.inr (12, (fs317.set 0 (.int 1))))), hp2.2 + 6), ?_, by simp only [List.length_append, List.length_set, List.length_cons, List.length_nil]; rw [hp2_len]; decide, by show hp2.2 + 6 ≤ _; rw [hp2_sl]; decide⟩
    refine ev_n 5 (S' := (321, [(4, .int 0), (3, .ref 464), (2, .ref 317), (1, .ref 0), (0, .float 0)], [.int 1, .float 0, .ref 0])) rfl ?_
    refine ev_sc (L := 5) (xs := xs) (v := a1) rfl rfl (by decide) h1 ?_
    refine ev_n 1 (S' := (323, [(4, .int 0), (3, .ref 464), (2, .ref 317), (1, .ref 0), (0, .float 0)], [.ref 464, .int a1, .ref 0])) rfl ?_
    refine ev_cs (v := some (.int 1)) (G1 := ((hp2.1 ++ [Sum.inr (15, [])]), hp2.2 + 6)) [.ref 464, .int a1, .ref 0] rfl rfl rfl rfl rfl rfl ?_ ?_
    · refine ev_n 4 (S' := (4, [(0, .ref 0), (1, .int a1), (2, .ref 464)], [.int a1, .ref 0, .int 0, .ref 464])) rfl ?_
      refine ev_cvx (x := 465) (G1 := ((hp2.1 ++ [Sum.inr (15, [])]), hp2.2 + 6)) (hpc := 12) [.int a1] rfl rfl rfl rfl hp_at_0 rfl rfl rfl rfl ?_ (hx_end (by decide +kernel)) (by decide +kernel) (by decide +kernel) ?_
      · refine ev_n 2 (S' := (2, [(0, .ref 0), (1, .int a1)], [.int a1, .ref 0])) rfl ?_
        refine ev_cvo (x := 465) (G1 := ((hp2.1 ++ [Sum.inr (15, [])]), hp2.2 + 6)) [.int a1] rfl rfl rfl rfl hp_at_0 rfl rfl rfl rfl ?_ (hx_end (by decide +kernel)) rfl
        · refine ev_n 1 (S' := (1, [(0, .ref 0), (1, .int a1)], [.int a1])) rfl ?_
          refine px_ev.p (S' := (12, [(0, .ref 0), (1, .int a1)], [])) rfl (px_ifT (t := 12) (cA_lt_T 0 rfl (by omega)) rfl) ?_
          exact ev_thr rfl rfl rfl (by decide +kernel) (by decide +kernel)
      refine ev_n 2 (S' := (14, [(3, .ref 465), (0, .ref 0), (1, .int a1), (2, .ref 464)], [.int 1])) rfl ?_
      exact ev_ret rfl rfl rfl rfl
    refine ev_n 6 (S' := (334, [(5, .int 1), (4, .int 0), (3, .ref 464), (2, .ref 317), (1, .ref 0), (0, .float 0)], [.int 1, .float 0, .ref 317])) rfl ?_
    refine ev_sc (L := 5) (xs := xs) (v := a1) rfl rfl (by decide) h1 ?_
    refine ev_cv (v := some (.int 0)) (G1 := (((hp2.1 ++ [Sum.inr (15, [])]).set 317 (Sum.inr (12, (fs317.set 0 (.int 1))))), hp2.2 + 6)) [.int a1] rfl rfl rfl rfl (hx_app hp_at_317) rfl rfl rfl rfl ?_ ?_
    · refine ev_n 3 (S' := (3, [(0, .ref 317), (1, .int a1)], [.int a1, .ref 317, .ref 317])) rfl ?_
      refine ev_cv (v := some (.int 0)) (G1 := ((hp2.1 ++ [Sum.inr (15, [])]), hp2.2 + 6)) [.int a1] rfl rfl rfl rfl (hx_app hp_at_317) rfl rfl rfl rfl ?_ ?_
      · refine ev_n 4 (S' := (4, [(0, .ref 317), (1, .int a1)], [.ref 317, .long 0, .long ((a1).toInt64)])) rfl ?_
        refine ev_get (v := .int 0) rfl rfl (hx_app hp_at_317) rfl ?_
        refine ev_n 3 (S' := (10, [(0, .ref 317), (1, .int a1)], [.long (-1), .long 0, .long ((a1).toInt64)])) rfl ?_
        refine ev_cs (v := some (.int 0)) (G1 := ((hp2.1 ++ [Sum.inr (15, [])]), hp2.2 + 6)) [.long (-1), .long 0, .long ((a1).toInt64)] rfl rfl rfl rfl rfl rfl ?_ ?_
        · refine ev_n 3 (S' := (3, [(0, .long ((a1).toInt64)), (2, .long 0), (4, .long (-1))], [.int (lg_cmp ((a1).toInt64) (0))])) rfl ?_
          refine px_ev.p (S' := (17, [(0, .long ((a1).toInt64)), (2, .long 0), (4, .long (-1))], [])) rfl (px_ifT (t := 17) (cL_lt_T 0 rfl (by omega)) rfl) ?_
          refine ev_n 1 (S' := (18, [(0, .long ((a1).toInt64)), (2, .long 0), (4, .long (-1))], [.int 0])) rfl ?_
          exact ev_ret rfl rfl rfl rfl
        exact ev_ret rfl rfl rfl rfl
      refine ev_n 2 (S' := (14, [(0, .ref 317), (1, .int a1)], [.int 1, .ref 317])) rfl ?_
      refine ev_put rfl rfl (hx_app hp_at_317) rfl rfl (by decide +kernel) ?_
      refine ev_n 1 (S' := (18, [(0, .ref 317), (1, .int a1)], [.ref 317])) rfl ?_
      refine ev_get (v := .int 1) rfl rfl (hx_self (hx_app hp_at_317)) rfl ?_
      refine ev_n 3 (S' := (34, [(0, .ref 317), (1, .int a1)], [.int 0])) rfl ?_
      exact ev_ret rfl rfl rfl rfl
    refine ev_n 2 (S' := (341, [(6, .int 0), (5, .int 1), (4, .int 0), (3, .ref 464), (2, .ref 317), (1, .ref 0), (0, .float 0)], [.ref 317])) rfl ?_
    refine ev_cv (v := some (.int 1)) (G1 := (((hp2.1 ++ [Sum.inr (15, [])]).set 317 (Sum.inr (12, (fs317.set 0 (.int 1))))), hp2.2 + 6)) [] rfl rfl rfl rfl (hx_self (hx_app hp_at_317)) rfl rfl rfl rfl ?_ ?_
    · refine ev_n 1 (S' := (1, [(0, .ref 317)], [.ref 317])) rfl ?_
      refine ev_get (v := .int 1) rfl rfl (hx_self (hx_app hp_at_317)) rfl ?_
      exact ev_ret rfl rfl rfl rfl
    refine ev_n 9 (S' := (26, [(4, .int 5), (6, .int 0), (5, .int 1), (3, .ref 464), (2, .ref 317), (1, .ref 0), (0, .float 0)], [.float 0, .int 5])) rfl ?_
    refine ev_sl (L := 5) (xs := xs) (v := 5) rfl rfl rfl ?_
    refine ev_n 4 (S' := (1372, [(4, .int 5), (6, .int 0), (5, .int 1), (3, .ref 464), (2, .ref 317), (1, .ref 0), (0, .float 0)], [.int 1])) rfl ?_
    exact ev_ret rfl rfl rfl rfl
  · refine ⟨(((hp2.1 ++ [Sum.inr (15, [])]).set 317 (Sum.inr (12, (fs317.set 0 (.int 1))))), hp2.2 + 6), ?_, by simp only [List.length_append, List.length_set, List.length_cons, List.length_nil]; rw [hp2_len]; decide, by show hp2.2 + 6 ≤ _; rw [hp2_sl]; decide⟩
    refine ev_n 5 (S' := (321, [(4, .int 0), (3, .ref 464), (2, .ref 317), (1, .ref 0), (0, .float 0)], [.int 1, .float 0, .ref 0])) rfl ?_
    refine ev_sc (L := 5) (xs := xs) (v := a1) rfl rfl (by decide) h1 ?_
    refine ev_n 1 (S' := (323, [(4, .int 0), (3, .ref 464), (2, .ref 317), (1, .ref 0), (0, .float 0)], [.ref 464, .int a1, .ref 0])) rfl ?_
    refine ev_cs (v := some (.int 1)) (G1 := ((hp2.1 ++ [Sum.inr (15, [])]), hp2.2 + 6)) [.ref 464, .int a1, .ref 0] rfl rfl rfl rfl rfl rfl ?_ ?_
    · refine ev_n 4 (S' := (4, [(0, .ref 0), (1, .int a1), (2, .ref 464)], [.int a1, .ref 0, .int 0, .ref 464])) rfl ?_
      refine ev_cvx (x := 465) (G1 := ((hp2.1 ++ [Sum.inr (15, [])]), hp2.2 + 6)) (hpc := 12) [.int a1] rfl rfl rfl rfl hp_at_0 rfl rfl rfl rfl ?_ (hx_end (by decide +kernel)) (by decide +kernel) (by decide +kernel) ?_
      · refine ev_n 2 (S' := (2, [(0, .ref 0), (1, .int a1)], [.int a1, .ref 0])) rfl ?_
        refine ev_cvo (x := 465) (G1 := ((hp2.1 ++ [Sum.inr (15, [])]), hp2.2 + 6)) [.int a1] rfl rfl rfl rfl hp_at_0 rfl rfl rfl rfl ?_ (hx_end (by decide +kernel)) rfl
        · refine ev_n 1 (S' := (1, [(0, .ref 0), (1, .int a1)], [.int a1])) rfl ?_
          refine px_ev.p (S' := (4, [(0, .ref 0), (1, .int a1)], [])) rfl (px_ifF (t := 12) (cA_lt_F 0 rfl (by omega)) rfl) ?_
          refine ev_n 2 (S' := (6, [(0, .ref 0), (1, .int a1)], [.ref 0, .int a1])) rfl ?_
          refine ev_get (v := .int 0) rfl rfl hp_at_0 rfl ?_
          refine px_ev.p (S' := (12, [(0, .ref 0), (1, .int a1)], [])) rfl (px_icF (t := 22) (cA_lt_F 0 rfl (by omega)) rfl) ?_
          exact ev_thr rfl rfl rfl (by decide +kernel) (by decide +kernel)
      refine ev_n 2 (S' := (14, [(3, .ref 465), (0, .ref 0), (1, .int a1), (2, .ref 464)], [.int 1])) rfl ?_
      exact ev_ret rfl rfl rfl rfl
    refine ev_n 6 (S' := (334, [(5, .int 1), (4, .int 0), (3, .ref 464), (2, .ref 317), (1, .ref 0), (0, .float 0)], [.int 1, .float 0, .ref 317])) rfl ?_
    refine ev_sc (L := 5) (xs := xs) (v := a1) rfl rfl (by decide) h1 ?_
    refine ev_cv (v := some (.int 0)) (G1 := (((hp2.1 ++ [Sum.inr (15, [])]).set 317 (Sum.inr (12, (fs317.set 0 (.int 1))))), hp2.2 + 6)) [.int a1] rfl rfl rfl rfl (hx_app hp_at_317) rfl rfl rfl rfl ?_ ?_
    · refine ev_n 3 (S' := (3, [(0, .ref 317), (1, .int a1)], [.int a1, .ref 317, .ref 317])) rfl ?_
      refine ev_cv (v := some (.int 0)) (G1 := ((hp2.1 ++ [Sum.inr (15, [])]), hp2.2 + 6)) [.int a1] rfl rfl rfl rfl (hx_app hp_at_317) rfl rfl rfl rfl ?_ ?_
      · refine ev_n 4 (S' := (4, [(0, .ref 317), (1, .int a1)], [.ref 317, .long 0, .long ((a1).toInt64)])) rfl ?_
        refine ev_get (v := .int 0) rfl rfl (hx_app hp_at_317) rfl ?_
        refine ev_n 3 (S' := (10, [(0, .ref 317), (1, .int a1)], [.long (-1), .long 0, .long ((a1).toInt64)])) rfl ?_
        refine ev_cs (v := some (.int 0)) (G1 := ((hp2.1 ++ [Sum.inr (15, [])]), hp2.2 + 6)) [.long (-1), .long 0, .long ((a1).toInt64)] rfl rfl rfl rfl rfl rfl ?_ ?_
        · refine ev_n 3 (S' := (3, [(0, .long ((a1).toInt64)), (2, .long 0), (4, .long (-1))], [.int (lg_cmp ((a1).toInt64) (0))])) rfl ?_
          refine px_ev.p (S' := (6, [(0, .long ((a1).toInt64)), (2, .long 0), (4, .long (-1))], [])) rfl (px_ifF (t := 17) (cL_lt_F 0 rfl (by omega)) rfl) ?_
          refine ev_n 3 (S' := (10, [(0, .long ((a1).toInt64)), (2, .long 0), (4, .long (-1))], [.int (lg_cmp ((a1).toInt64) ((-1)))])) rfl ?_
          refine px_ev.p (S' := (17, [(0, .long ((a1).toInt64)), (2, .long 0), (4, .long (-1))], [])) rfl (px_ifT (t := 17) (cL_gt_T (-1) rfl (by omega)) rfl) ?_
          refine ev_n 1 (S' := (18, [(0, .long ((a1).toInt64)), (2, .long 0), (4, .long (-1))], [.int 0])) rfl ?_
          exact ev_ret rfl rfl rfl rfl
        exact ev_ret rfl rfl rfl rfl
      refine ev_n 2 (S' := (14, [(0, .ref 317), (1, .int a1)], [.int 1, .ref 317])) rfl ?_
      refine ev_put rfl rfl (hx_app hp_at_317) rfl rfl (by decide +kernel) ?_
      refine ev_n 1 (S' := (18, [(0, .ref 317), (1, .int a1)], [.ref 317])) rfl ?_
      refine ev_get (v := .int 1) rfl rfl (hx_self (hx_app hp_at_317)) rfl ?_
      refine ev_n 3 (S' := (34, [(0, .ref 317), (1, .int a1)], [.int 0])) rfl ?_
      exact ev_ret rfl rfl rfl rfl
    refine ev_n 2 (S' := (341, [(6, .int 0), (5, .int 1), (4, .int 0), (3, .ref 464), (2, .ref 317), (1, .ref 0), (0, .float 0)], [.ref 317])) rfl ?_
    refine ev_cv (v := some (.int 1)) (G1 := (((hp2.1 ++ [Sum.inr (15, [])]).set 317 (Sum.inr (12, (fs317.set 0 (.int 1))))), hp2.2 + 6)) [] rfl rfl rfl rfl (hx_self (hx_app hp_at_317)) rfl rfl rfl rfl ?_ ?_
    · refine ev_n 1 (S' := (1, [(0, .ref 317)], [.ref 317])) rfl ?_
      refine ev_get (v := .int 1) rfl rfl (hx_self (hx_app hp_at_317)) rfl ?_
      exact ev_ret rfl rfl rfl rfl
    refine ev_n 9 (S' := (26, [(4, .int 5), (6, .int 0), (5, .int 1), (3, .ref 464), (2, .ref 317), (1, .ref 0), (0, .float 0)], [.float 0, .int 5])) rfl ?_
    refine ev_sl (L := 5) (xs := xs) (v := 5) rfl rfl rfl ?_
    refine ev_n 4 (S' := (1372, [(4, .int 5), (6, .int 0), (5, .int 1), (3, .ref 464), (2, .ref 317), (1, .ref 0), (0, .float 0)], [.int 1])) rfl ?_
    exact ev_ret rfl rfl rfl rfl

set_option maxHeartbeats 4000000 in
set_option maxRecDepth 100000 in
theorem op_6 (xs : Nat → Int32) (b : Bool) (a0 a1 a2 a3 a4 : Int32) (h0 : xs 0 = a0) (h1 : xs 1 = a1) (h2 : xs 2 = a2) (h3 : xs 3 = a3) (h4 : xs 4 = a4) : ∃ G', px_ev cx_cl cx_fty cx_PM cx_na (cx_V (some (5, xs)) b) 1500 mxL (371, [(4, .int 0), (3, .ref 464), (2, .ref 317), (1, .ref 0), (0, .float 0)], []) hp2 (Sum.inl (some (.int 1))) G' ∧ G'.1.length ≤ 600002 ∧ G'.2 ≤ 7302232 := by
  by_cases q0 : a1.toInt < 0
  · refine ⟨(((hp2.1 ++ [Sum.inr (15, [])]).set 317 (Sum.inr (12, (fs317.set 0 (.int 1))))), hp2.2 + 6), ?_, by simp only [List.length_append, List.length_set, List.length_cons, List.length_nil]; rw [hp2_len]; decide, by show hp2.2 + 6 ≤ _; rw [hp2_sl]; decide⟩
    refine ev_n 5 (S' := (377, [(4, .int 0), (3, .ref 464), (2, .ref 317), (1, .ref 0), (0, .float 0)], [.int 1, .float 0, .ref 0])) rfl ?_
    refine ev_sc (L := 5) (xs := xs) (v := a1) rfl rfl (by decide) h1 ?_
    refine ev_n 4 (S' := (383, [(4, .int 0), (3, .ref 464), (2, .ref 317), (1, .ref 0), (0, .float 0)], [.int 2, .float 0, .int a1, .ref 0])) rfl ?_
    refine ev_sc (L := 5) (xs := xs) (v := a2) rfl rfl (by decide) h2 ?_
    refine ev_n 4 (S' := (389, [(4, .int 0), (3, .ref 464), (2, .ref 317), (1, .ref 0), (0, .float 0)], [.int 3, .float 0, .int a2, .int a1, .ref 0])) rfl ?_
    refine ev_sc (L := 5) (xs := xs) (v := a3) rfl rfl (by decide) h3 ?_
    refine ev_n 1 (S' := (391, [(4, .int 0), (3, .ref 464), (2, .ref 317), (1, .ref 0), (0, .float 0)], [.ref 464, .int a3, .int a2, .int a1, .ref 0])) rfl ?_
    refine ev_cs (v := some (.int 1)) (G1 := ((hp2.1 ++ [Sum.inr (15, [])]), hp2.2 + 6)) [.ref 464, .int a3, .int a2, .int a1, .ref 0] rfl rfl rfl rfl rfl rfl ?_ ?_
    · refine ev_n 6 (S' := (7, [(0, .ref 0), (1, .int a1), (2, .int a2), (3, .int a3), (4, .ref 464)], [.int a3, .int a2, .int a1, .ref 0, .int 0, .ref 464])) rfl ?_
      refine ev_cvx (x := 465) (G1 := ((hp2.1 ++ [Sum.inr (15, [])]), hp2.2 + 6)) (hpc := 15) [.int a3, .int a2, .int a1] rfl rfl rfl rfl hp_at_0 rfl rfl rfl rfl ?_ (hx_end (by decide +kernel)) (by decide +kernel) (by decide +kernel) ?_
      · refine ev_n 3 (S' := (3, [(0, .ref 0), (1, .int a1), (2, .int a2), (3, .int a3)], [.int a2, .int a1, .ref 0])) rfl ?_
        refine ev_cvo (x := 465) (G1 := ((hp2.1 ++ [Sum.inr (15, [])]), hp2.2 + 6)) [.int a2, .int a1] rfl rfl rfl rfl hp_at_0 rfl rfl rfl rfl ?_ (hx_end (by decide +kernel)) rfl
        · refine ev_n 2 (S' := (2, [(0, .ref 0), (1, .int a1), (2, .int a2)], [.int a1, .ref 0])) rfl ?_
          refine ev_cvo (x := 465) (G1 := ((hp2.1 ++ [Sum.inr (15, [])]), hp2.2 + 6)) [.int a1] rfl rfl rfl rfl hp_at_0 rfl rfl rfl rfl ?_ (hx_end (by decide +kernel)) rfl
          · refine ev_n 1 (S' := (1, [(0, .ref 0), (1, .int a1)], [.int a1])) rfl ?_
            refine px_ev.p (S' := (12, [(0, .ref 0), (1, .int a1)], [])) rfl (px_ifT (t := 12) (cA_lt_T 0 rfl (by omega)) rfl) ?_
            exact ev_thr rfl rfl rfl (by decide +kernel) (by decide +kernel)
      refine ev_n 2 (S' := (18, [(5, .ref 465), (0, .ref 0), (1, .int a1), (2, .int a2), (3, .int a3), (4, .ref 464)], [.int 1])) rfl ?_
      exact ev_ret rfl rfl rfl rfl
    refine ev_n 6 (S' := (402, [(5, .int 1), (4, .int 0), (3, .ref 464), (2, .ref 317), (1, .ref 0), (0, .float 0)], [.int 1, .float 0, .ref 317])) rfl ?_
    refine ev_sc (L := 5) (xs := xs) (v := a1) rfl rfl (by decide) h1 ?_
    refine ev_n 4 (S' := (408, [(5, .int 1), (4, .int 0), (3, .ref 464), (2, .ref 317), (1, .ref 0), (0, .float 0)], [.int 2, .float 0, .int a1, .ref 317])) rfl ?_
    refine ev_sc (L := 5) (xs := xs) (v := a2) rfl rfl (by decide) h2 ?_
    refine ev_n 4 (S' := (414, [(5, .int 1), (4, .int 0), (3, .ref 464), (2, .ref 317), (1, .ref 0), (0, .float 0)], [.int 3, .float 0, .int a2, .int a1, .ref 317])) rfl ?_
    refine ev_sc (L := 5) (xs := xs) (v := a3) rfl rfl (by decide) h3 ?_
    refine ev_cv (v := some (.int 0)) (G1 := (((hp2.1 ++ [Sum.inr (15, [])]).set 317 (Sum.inr (12, (fs317.set 0 (.int 1))))), hp2.2 + 6)) [.int a3, .int a2, .int a1] rfl rfl rfl rfl (hx_app hp_at_317) rfl rfl rfl rfl ?_ ?_
    · refine ev_n 4 (S' := (4, [(0, .ref 317), (1, .int a1), (2, .int a2), (3, .int a3)], [.int a2, .int a1, .ref 317, .ref 317])) rfl ?_
      refine ev_cv (v := some (.int 0)) (G1 := ((hp2.1 ++ [Sum.inr (15, [])]), hp2.2 + 6)) [.int a2, .int a1] rfl rfl rfl rfl (hx_app hp_at_317) rfl rfl rfl rfl ?_ ?_
      · refine ev_n 2 (S' := (2, [(0, .ref 317), (1, .int a1), (2, .int a2)], [.int a1, .ref 317])) rfl ?_
        refine ev_cv (v := some (.int 0)) (G1 := ((hp2.1 ++ [Sum.inr (15, [])]), hp2.2 + 6)) [.int a1] rfl rfl rfl rfl (hx_app hp_at_317) rfl rfl rfl rfl ?_ ?_
        · refine ev_n 4 (S' := (4, [(0, .ref 317), (1, .int a1)], [.ref 317, .long 0, .long ((a1).toInt64)])) rfl ?_
          refine ev_get (v := .int 0) rfl rfl (hx_app hp_at_317) rfl ?_
          refine ev_n 3 (S' := (10, [(0, .ref 317), (1, .int a1)], [.long (-1), .long 0, .long ((a1).toInt64)])) rfl ?_
          refine ev_cs (v := some (.int 0)) (G1 := ((hp2.1 ++ [Sum.inr (15, [])]), hp2.2 + 6)) [.long (-1), .long 0, .long ((a1).toInt64)] rfl rfl rfl rfl rfl rfl ?_ ?_
          · refine ev_n 3 (S' := (3, [(0, .long ((a1).toInt64)), (2, .long 0), (4, .long (-1))], [.int (lg_cmp ((a1).toInt64) (0))])) rfl ?_
            refine px_ev.p (S' := (17, [(0, .long ((a1).toInt64)), (2, .long 0), (4, .long (-1))], [])) rfl (px_ifT (t := 17) (cL_lt_T 0 rfl (by omega)) rfl) ?_
            refine ev_n 1 (S' := (18, [(0, .long ((a1).toInt64)), (2, .long 0), (4, .long (-1))], [.int 0])) rfl ?_
            exact ev_ret rfl rfl rfl rfl
          exact ev_ret rfl rfl rfl rfl
        refine ev_n 2 (S' := (43, [(0, .ref 317), (1, .int a1), (2, .int a2)], [.int 0])) rfl ?_
        exact ev_ret rfl rfl rfl rfl
      refine ev_n 3 (S' := (31, [(0, .ref 317), (1, .int a1), (2, .int a2), (3, .int a3)], [.int 1, .ref 317])) rfl ?_
      refine ev_put rfl rfl (hx_app hp_at_317) rfl rfl (by decide +kernel) ?_
      refine ev_n 1 (S' := (35, [(0, .ref 317), (1, .int a1), (2, .int a2), (3, .int a3)], [.ref 317])) rfl ?_
      refine ev_get (v := .int 1) rfl rfl (hx_self (hx_app hp_at_317)) rfl ?_
      refine ev_n 2 (S' := (42, [(0, .ref 317), (1, .int a1), (2, .int a2), (3, .int a3)], [.int 0])) rfl ?_
      exact ev_ret rfl rfl rfl rfl
    refine ev_n 2 (S' := (421, [(6, .int 0), (5, .int 1), (4, .int 0), (3, .ref 464), (2, .ref 317), (1, .ref 0), (0, .float 0)], [.ref 317])) rfl ?_
    refine ev_cv (v := some (.int 1)) (G1 := (((hp2.1 ++ [Sum.inr (15, [])]).set 317 (Sum.inr (12, (fs317.set 0 (.int 1))))), hp2.2 + 6)) [] rfl rfl rfl rfl (hx_self (hx_app hp_at_317)) rfl rfl rfl rfl ?_ ?_
    · refine ev_n 1 (S' := (1, [(0, .ref 317)], [.ref 317])) rfl ?_
      refine ev_get (v := .int 1) rfl rfl (hx_self (hx_app hp_at_317)) rfl ?_
      exact ev_ret rfl rfl rfl rfl
    refine ev_n 9 (S' := (26, [(4, .int 5), (6, .int 0), (5, .int 1), (3, .ref 464), (2, .ref 317), (1, .ref 0), (0, .float 0)], [.float 0, .int 5])) rfl ?_
    refine ev_sl (L := 5) (xs := xs) (v := 5) rfl rfl rfl ?_
    refine ev_n 4 (S' := (1372, [(4, .int 5), (6, .int 0), (5, .int 1), (3, .ref 464), (2, .ref 317), (1, .ref 0), (0, .float 0)], [.int 1])) rfl ?_
    exact ev_ret rfl rfl rfl rfl
  · refine ⟨(((hp2.1 ++ [Sum.inr (15, [])]).set 317 (Sum.inr (12, (fs317.set 0 (.int 1))))), hp2.2 + 6), ?_, by simp only [List.length_append, List.length_set, List.length_cons, List.length_nil]; rw [hp2_len]; decide, by show hp2.2 + 6 ≤ _; rw [hp2_sl]; decide⟩
    refine ev_n 5 (S' := (377, [(4, .int 0), (3, .ref 464), (2, .ref 317), (1, .ref 0), (0, .float 0)], [.int 1, .float 0, .ref 0])) rfl ?_
    refine ev_sc (L := 5) (xs := xs) (v := a1) rfl rfl (by decide) h1 ?_
    refine ev_n 4 (S' := (383, [(4, .int 0), (3, .ref 464), (2, .ref 317), (1, .ref 0), (0, .float 0)], [.int 2, .float 0, .int a1, .ref 0])) rfl ?_
    refine ev_sc (L := 5) (xs := xs) (v := a2) rfl rfl (by decide) h2 ?_
    refine ev_n 4 (S' := (389, [(4, .int 0), (3, .ref 464), (2, .ref 317), (1, .ref 0), (0, .float 0)], [.int 3, .float 0, .int a2, .int a1, .ref 0])) rfl ?_
    refine ev_sc (L := 5) (xs := xs) (v := a3) rfl rfl (by decide) h3 ?_
    refine ev_n 1 (S' := (391, [(4, .int 0), (3, .ref 464), (2, .ref 317), (1, .ref 0), (0, .float 0)], [.ref 464, .int a3, .int a2, .int a1, .ref 0])) rfl ?_
    refine ev_cs (v := some (.int 1)) (G1 := ((hp2.1 ++ [Sum.inr (15, [])]), hp2.2 + 6)) [.ref 464, .int a3, .int a2, .int a1, .ref 0] rfl rfl rfl rfl rfl rfl ?_ ?_
    · refine ev_n 6 (S' := (7, [(0, .ref 0), (1, .int a1), (2, .int a2), (3, .int a3), (4, .ref 464)], [.int a3, .int a2, .int a1, .ref 0, .int 0, .ref 464])) rfl ?_
      refine ev_cvx (x := 465) (G1 := ((hp2.1 ++ [Sum.inr (15, [])]), hp2.2 + 6)) (hpc := 15) [.int a3, .int a2, .int a1] rfl rfl rfl rfl hp_at_0 rfl rfl rfl rfl ?_ (hx_end (by decide +kernel)) (by decide +kernel) (by decide +kernel) ?_
      · refine ev_n 3 (S' := (3, [(0, .ref 0), (1, .int a1), (2, .int a2), (3, .int a3)], [.int a2, .int a1, .ref 0])) rfl ?_
        refine ev_cvo (x := 465) (G1 := ((hp2.1 ++ [Sum.inr (15, [])]), hp2.2 + 6)) [.int a2, .int a1] rfl rfl rfl rfl hp_at_0 rfl rfl rfl rfl ?_ (hx_end (by decide +kernel)) rfl
        · refine ev_n 2 (S' := (2, [(0, .ref 0), (1, .int a1), (2, .int a2)], [.int a1, .ref 0])) rfl ?_
          refine ev_cvo (x := 465) (G1 := ((hp2.1 ++ [Sum.inr (15, [])]), hp2.2 + 6)) [.int a1] rfl rfl rfl rfl hp_at_0 rfl rfl rfl rfl ?_ (hx_end (by decide +kernel)) rfl
          · refine ev_n 1 (S' := (1, [(0, .ref 0), (1, .int a1)], [.int a1])) rfl ?_
            refine px_ev.p (S' := (4, [(0, .ref 0), (1, .int a1)], [])) rfl (px_ifF (t := 12) (cA_lt_F 0 rfl (by omega)) rfl) ?_
            refine ev_n 2 (S' := (6, [(0, .ref 0), (1, .int a1)], [.ref 0, .int a1])) rfl ?_
            refine ev_get (v := .int 0) rfl rfl hp_at_0 rfl ?_
            refine px_ev.p (S' := (12, [(0, .ref 0), (1, .int a1)], [])) rfl (px_icF (t := 22) (cA_lt_F 0 rfl (by omega)) rfl) ?_
            exact ev_thr rfl rfl rfl (by decide +kernel) (by decide +kernel)
      refine ev_n 2 (S' := (18, [(5, .ref 465), (0, .ref 0), (1, .int a1), (2, .int a2), (3, .int a3), (4, .ref 464)], [.int 1])) rfl ?_
      exact ev_ret rfl rfl rfl rfl
    refine ev_n 6 (S' := (402, [(5, .int 1), (4, .int 0), (3, .ref 464), (2, .ref 317), (1, .ref 0), (0, .float 0)], [.int 1, .float 0, .ref 317])) rfl ?_
    refine ev_sc (L := 5) (xs := xs) (v := a1) rfl rfl (by decide) h1 ?_
    refine ev_n 4 (S' := (408, [(5, .int 1), (4, .int 0), (3, .ref 464), (2, .ref 317), (1, .ref 0), (0, .float 0)], [.int 2, .float 0, .int a1, .ref 317])) rfl ?_
    refine ev_sc (L := 5) (xs := xs) (v := a2) rfl rfl (by decide) h2 ?_
    refine ev_n 4 (S' := (414, [(5, .int 1), (4, .int 0), (3, .ref 464), (2, .ref 317), (1, .ref 0), (0, .float 0)], [.int 3, .float 0, .int a2, .int a1, .ref 317])) rfl ?_
    refine ev_sc (L := 5) (xs := xs) (v := a3) rfl rfl (by decide) h3 ?_
    refine ev_cv (v := some (.int 0)) (G1 := (((hp2.1 ++ [Sum.inr (15, [])]).set 317 (Sum.inr (12, (fs317.set 0 (.int 1))))), hp2.2 + 6)) [.int a3, .int a2, .int a1] rfl rfl rfl rfl (hx_app hp_at_317) rfl rfl rfl rfl ?_ ?_
    · refine ev_n 4 (S' := (4, [(0, .ref 317), (1, .int a1), (2, .int a2), (3, .int a3)], [.int a2, .int a1, .ref 317, .ref 317])) rfl ?_
      refine ev_cv (v := some (.int 0)) (G1 := ((hp2.1 ++ [Sum.inr (15, [])]), hp2.2 + 6)) [.int a2, .int a1] rfl rfl rfl rfl (hx_app hp_at_317) rfl rfl rfl rfl ?_ ?_
      · refine ev_n 2 (S' := (2, [(0, .ref 317), (1, .int a1), (2, .int a2)], [.int a1, .ref 317])) rfl ?_
        refine ev_cv (v := some (.int 0)) (G1 := ((hp2.1 ++ [Sum.inr (15, [])]), hp2.2 + 6)) [.int a1] rfl rfl rfl rfl (hx_app hp_at_317) rfl rfl rfl rfl ?_ ?_
        · refine ev_n 4 (S' := (4, [(0, .ref 317), (1, .int a1)], [.ref 317, .long 0, .long ((a1).toInt64)])) rfl ?_
          refine ev_get (v := .int 0) rfl rfl (hx_app hp_at_317) rfl ?_
          refine ev_n 3 (S' := (10, [(0, .ref 317), (1, .int a1)], [.long (-1), .long 0, .long ((a1).toInt64)])) rfl ?_
          refine ev_cs (v := some (.int 0)) (G1 := ((hp2.1 ++ [Sum.inr (15, [])]), hp2.2 + 6)) [.long (-1), .long 0, .long ((a1).toInt64)] rfl rfl rfl rfl rfl rfl ?_ ?_
          · refine ev_n 3 (S' := (3, [(0, .long ((a1).toInt64)), (2, .long 0), (4, .long (-1))], [.int (lg_cmp ((a1).toInt64) (0))])) rfl ?_
            refine px_ev.p (S' := (6, [(0, .long ((a1).toInt64)), (2, .long 0), (4, .long (-1))], [])) rfl (px_ifF (t := 17) (cL_lt_F 0 rfl (by omega)) rfl) ?_
            refine ev_n 3 (S' := (10, [(0, .long ((a1).toInt64)), (2, .long 0), (4, .long (-1))], [.int (lg_cmp ((a1).toInt64) ((-1)))])) rfl ?_
            refine px_ev.p (S' := (17, [(0, .long ((a1).toInt64)), (2, .long 0), (4, .long (-1))], [])) rfl (px_ifT (t := 17) (cL_gt_T (-1) rfl (by omega)) rfl) ?_
            refine ev_n 1 (S' := (18, [(0, .long ((a1).toInt64)), (2, .long 0), (4, .long (-1))], [.int 0])) rfl ?_
            exact ev_ret rfl rfl rfl rfl
          exact ev_ret rfl rfl rfl rfl
        refine ev_n 2 (S' := (43, [(0, .ref 317), (1, .int a1), (2, .int a2)], [.int 0])) rfl ?_
        exact ev_ret rfl rfl rfl rfl
      refine ev_n 3 (S' := (31, [(0, .ref 317), (1, .int a1), (2, .int a2), (3, .int a3)], [.int 1, .ref 317])) rfl ?_
      refine ev_put rfl rfl (hx_app hp_at_317) rfl rfl (by decide +kernel) ?_
      refine ev_n 1 (S' := (35, [(0, .ref 317), (1, .int a1), (2, .int a2), (3, .int a3)], [.ref 317])) rfl ?_
      refine ev_get (v := .int 1) rfl rfl (hx_self (hx_app hp_at_317)) rfl ?_
      refine ev_n 2 (S' := (42, [(0, .ref 317), (1, .int a1), (2, .int a2), (3, .int a3)], [.int 0])) rfl ?_
      exact ev_ret rfl rfl rfl rfl
    refine ev_n 2 (S' := (421, [(6, .int 0), (5, .int 1), (4, .int 0), (3, .ref 464), (2, .ref 317), (1, .ref 0), (0, .float 0)], [.ref 317])) rfl ?_
    refine ev_cv (v := some (.int 1)) (G1 := (((hp2.1 ++ [Sum.inr (15, [])]).set 317 (Sum.inr (12, (fs317.set 0 (.int 1))))), hp2.2 + 6)) [] rfl rfl rfl rfl (hx_self (hx_app hp_at_317)) rfl rfl rfl rfl ?_ ?_
    · refine ev_n 1 (S' := (1, [(0, .ref 317)], [.ref 317])) rfl ?_
      refine ev_get (v := .int 1) rfl rfl (hx_self (hx_app hp_at_317)) rfl ?_
      exact ev_ret rfl rfl rfl rfl
    refine ev_n 9 (S' := (26, [(4, .int 5), (6, .int 0), (5, .int 1), (3, .ref 464), (2, .ref 317), (1, .ref 0), (0, .float 0)], [.float 0, .int 5])) rfl ?_
    refine ev_sl (L := 5) (xs := xs) (v := 5) rfl rfl rfl ?_
    refine ev_n 4 (S' := (1372, [(4, .int 5), (6, .int 0), (5, .int 1), (3, .ref 464), (2, .ref 317), (1, .ref 0), (0, .float 0)], [.int 1])) rfl ?_
    exact ev_ret rfl rfl rfl rfl

set_option maxHeartbeats 4000000 in
set_option maxRecDepth 100000 in
theorem op_7 (xs : Nat → Int32) (b : Bool) (a0 a1 a2 a3 a4 : Int32) (h0 : xs 0 = a0) (h1 : xs 1 = a1) (h2 : xs 2 = a2) (h3 : xs 3 = a3) (h4 : xs 4 = a4) : ∃ G', px_ev cx_cl cx_fty cx_PM cx_na (cx_V (some (5, xs)) b) 1500 mxL (451, [(4, .int 0), (3, .ref 464), (2, .ref 317), (1, .ref 0), (0, .float 0)], []) hp2 (Sum.inl (some (.int 1))) G' ∧ G'.1.length ≤ 600002 ∧ G'.2 ≤ 7302232 := by
  by_cases q0 : a1.toInt < 0
  · refine ⟨(((hp2.1 ++ [Sum.inr (15, [])]).set 317 (Sum.inr (12, (fs317.set 0 (.int 1))))), hp2.2 + 6), ?_, by simp only [List.length_append, List.length_set, List.length_cons, List.length_nil]; rw [hp2_len]; decide, by show hp2.2 + 6 ≤ _; rw [hp2_sl]; decide⟩
    refine ev_n 5 (S' := (457, [(4, .int 0), (3, .ref 464), (2, .ref 317), (1, .ref 0), (0, .float 0)], [.int 1, .float 0, .ref 0])) rfl ?_
    refine ev_sc (L := 5) (xs := xs) (v := a1) rfl rfl (by decide) h1 ?_
    refine ev_n 4 (S' := (463, [(4, .int 0), (3, .ref 464), (2, .ref 317), (1, .ref 0), (0, .float 0)], [.int 2, .float 0, .int a1, .ref 0])) rfl ?_
    refine ev_sc (L := 5) (xs := xs) (v := a2) rfl rfl (by decide) h2 ?_
    refine ev_n 4 (S' := (469, [(4, .int 0), (3, .ref 464), (2, .ref 317), (1, .ref 0), (0, .float 0)], [.int 3, .float 0, .int a2, .int a1, .ref 0])) rfl ?_
    refine ev_sc (L := 5) (xs := xs) (v := a3) rfl rfl (by decide) h3 ?_
    refine ev_n 1 (S' := (471, [(4, .int 0), (3, .ref 464), (2, .ref 317), (1, .ref 0), (0, .float 0)], [.ref 464, .int a3, .int a2, .int a1, .ref 0])) rfl ?_
    refine ev_cs (v := some (.int 1)) (G1 := ((hp2.1 ++ [Sum.inr (15, [])]), hp2.2 + 6)) [.ref 464, .int a3, .int a2, .int a1, .ref 0] rfl rfl rfl rfl rfl rfl ?_ ?_
    · refine ev_n 6 (S' := (7, [(0, .ref 0), (1, .int a1), (2, .int a2), (3, .int a3), (4, .ref 464)], [.int a3, .int a2, .int a1, .ref 0, .int 0, .ref 464])) rfl ?_
      refine ev_cvx (x := 465) (G1 := ((hp2.1 ++ [Sum.inr (15, [])]), hp2.2 + 6)) (hpc := 15) [.int a3, .int a2, .int a1] rfl rfl rfl rfl hp_at_0 rfl rfl rfl rfl ?_ (hx_end (by decide +kernel)) (by decide +kernel) (by decide +kernel) ?_
      · refine ev_n 3 (S' := (3, [(0, .ref 0), (1, .int a1), (2, .int a2), (3, .int a3)], [.int a2, .int a1, .ref 0])) rfl ?_
        refine ev_cvo (x := 465) (G1 := ((hp2.1 ++ [Sum.inr (15, [])]), hp2.2 + 6)) [.int a2, .int a1] rfl rfl rfl rfl hp_at_0 rfl rfl rfl rfl ?_ (hx_end (by decide +kernel)) rfl
        · refine ev_n 2 (S' := (2, [(0, .ref 0), (1, .int a1), (2, .int a2)], [.int a1, .ref 0])) rfl ?_
          refine ev_cvo (x := 465) (G1 := ((hp2.1 ++ [Sum.inr (15, [])]), hp2.2 + 6)) [.int a1] rfl rfl rfl rfl hp_at_0 rfl rfl rfl rfl ?_ (hx_end (by decide +kernel)) rfl
          · refine ev_n 1 (S' := (1, [(0, .ref 0), (1, .int a1)], [.int a1])) rfl ?_
            refine px_ev.p (S' := (12, [(0, .ref 0), (1, .int a1)], [])) rfl (px_ifT (t := 12) (cA_lt_T 0 rfl (by omega)) rfl) ?_
            exact ev_thr rfl rfl rfl (by decide +kernel) (by decide +kernel)
      refine ev_n 2 (S' := (18, [(5, .ref 465), (0, .ref 0), (1, .int a1), (2, .int a2), (3, .int a3), (4, .ref 464)], [.int 1])) rfl ?_
      exact ev_ret rfl rfl rfl rfl
    refine ev_n 6 (S' := (482, [(5, .int 1), (4, .int 0), (3, .ref 464), (2, .ref 317), (1, .ref 0), (0, .float 0)], [.int 1, .float 0, .ref 317])) rfl ?_
    refine ev_sc (L := 5) (xs := xs) (v := a1) rfl rfl (by decide) h1 ?_
    refine ev_n 4 (S' := (488, [(5, .int 1), (4, .int 0), (3, .ref 464), (2, .ref 317), (1, .ref 0), (0, .float 0)], [.int 2, .float 0, .int a1, .ref 317])) rfl ?_
    refine ev_sc (L := 5) (xs := xs) (v := a2) rfl rfl (by decide) h2 ?_
    refine ev_n 4 (S' := (494, [(5, .int 1), (4, .int 0), (3, .ref 464), (2, .ref 317), (1, .ref 0), (0, .float 0)], [.int 3, .float 0, .int a2, .int a1, .ref 317])) rfl ?_
    refine ev_sc (L := 5) (xs := xs) (v := a3) rfl rfl (by decide) h3 ?_
    refine ev_cv (v := some (.int 0)) (G1 := (((hp2.1 ++ [Sum.inr (15, [])]).set 317 (Sum.inr (12, (fs317.set 0 (.int 1))))), hp2.2 + 6)) [.int a3, .int a2, .int a1] rfl rfl rfl rfl (hx_app hp_at_317) rfl rfl rfl rfl ?_ ?_
    · refine ev_n 4 (S' := (4, [(0, .ref 317), (1, .int a1), (2, .int a2), (3, .int a3)], [.int a2, .int a1, .ref 317, .ref 317])) rfl ?_
      refine ev_cv (v := some (.int 0)) (G1 := ((hp2.1 ++ [Sum.inr (15, [])]), hp2.2 + 6)) [.int a2, .int a1] rfl rfl rfl rfl (hx_app hp_at_317) rfl rfl rfl rfl ?_ ?_
      · refine ev_n 2 (S' := (2, [(0, .ref 317), (1, .int a1), (2, .int a2)], [.int a1, .ref 317])) rfl ?_
        refine ev_cv (v := some (.int 0)) (G1 := ((hp2.1 ++ [Sum.inr (15, [])]), hp2.2 + 6)) [.int a1] rfl rfl rfl rfl (hx_app hp_at_317) rfl rfl rfl rfl ?_ ?_
        · refine ev_n 4 (S' := (4, [(0, .ref 317), (1, .int a1)], [.ref 317, .long 0, .long ((a1).toInt64)])) rfl ?_
          refine ev_get (v := .int 0) rfl rfl (hx_app hp_at_317) rfl ?_
          refine ev_n 3 (S' := (10, [(0, .ref 317), (1, .int a1)], [.long (-1), .long 0, .long ((a1).toInt64)])) rfl ?_
          refine ev_cs (v := some (.int 0)) (G1 := ((hp2.1 ++ [Sum.inr (15, [])]), hp2.2 + 6)) [.long (-1), .long 0, .long ((a1).toInt64)] rfl rfl rfl rfl rfl rfl ?_ ?_
          · refine ev_n 3 (S' := (3, [(0, .long ((a1).toInt64)), (2, .long 0), (4, .long (-1))], [.int (lg_cmp ((a1).toInt64) (0))])) rfl ?_
            refine px_ev.p (S' := (17, [(0, .long ((a1).toInt64)), (2, .long 0), (4, .long (-1))], [])) rfl (px_ifT (t := 17) (cL_lt_T 0 rfl (by omega)) rfl) ?_
            refine ev_n 1 (S' := (18, [(0, .long ((a1).toInt64)), (2, .long 0), (4, .long (-1))], [.int 0])) rfl ?_
            exact ev_ret rfl rfl rfl rfl
          exact ev_ret rfl rfl rfl rfl
        refine ev_n 2 (S' := (43, [(0, .ref 317), (1, .int a1), (2, .int a2)], [.int 0])) rfl ?_
        exact ev_ret rfl rfl rfl rfl
      refine ev_n 2 (S' := (15, [(0, .ref 317), (1, .int a1), (2, .int a2), (3, .int a3)], [.int 1, .ref 317])) rfl ?_
      refine ev_put rfl rfl (hx_app hp_at_317) rfl rfl (by decide +kernel) ?_
      refine ev_n 1 (S' := (19, [(0, .ref 317), (1, .int a1), (2, .int a2), (3, .int a3)], [.ref 317])) rfl ?_
      refine ev_get (v := .int 1) rfl rfl (hx_self (hx_app hp_at_317)) rfl ?_
      refine ev_n 2 (S' := (26, [(0, .ref 317), (1, .int a1), (2, .int a2), (3, .int a3)], [.int 0])) rfl ?_
      exact ev_ret rfl rfl rfl rfl
    refine ev_n 2 (S' := (501, [(6, .int 0), (5, .int 1), (4, .int 0), (3, .ref 464), (2, .ref 317), (1, .ref 0), (0, .float 0)], [.ref 317])) rfl ?_
    refine ev_cv (v := some (.int 1)) (G1 := (((hp2.1 ++ [Sum.inr (15, [])]).set 317 (Sum.inr (12, (fs317.set 0 (.int 1))))), hp2.2 + 6)) [] rfl rfl rfl rfl (hx_self (hx_app hp_at_317)) rfl rfl rfl rfl ?_ ?_
    · refine ev_n 1 (S' := (1, [(0, .ref 317)], [.ref 317])) rfl ?_
      refine ev_get (v := .int 1) rfl rfl (hx_self (hx_app hp_at_317)) rfl ?_
      exact ev_ret rfl rfl rfl rfl
    refine ev_n 9 (S' := (26, [(4, .int 5), (6, .int 0), (5, .int 1), (3, .ref 464), (2, .ref 317), (1, .ref 0), (0, .float 0)], [.float 0, .int 5])) rfl ?_
    refine ev_sl (L := 5) (xs := xs) (v := 5) rfl rfl rfl ?_
    refine ev_n 4 (S' := (1372, [(4, .int 5), (6, .int 0), (5, .int 1), (3, .ref 464), (2, .ref 317), (1, .ref 0), (0, .float 0)], [.int 1])) rfl ?_
    exact ev_ret rfl rfl rfl rfl
  · refine ⟨(((hp2.1 ++ [Sum.inr (15, [])]).set 317 (Sum.inr (12, (fs317.set 0 (.int 1))))), hp2.2 + 6), ?_, by simp only [List.length_append, List.length_set, List.length_cons, List.length_nil]; rw [hp2_len]; decide, by show hp2.2 + 6 ≤ _; rw [hp2_sl]; decide⟩
    refine ev_n 5 (S' := (457, [(4, .int 0), (3, .ref 464), (2, .ref 317), (1, .ref 0), (0, .float 0)], [.int 1, .float 0, .ref 0])) rfl ?_
    refine ev_sc (L := 5) (xs := xs) (v := a1) rfl rfl (by decide) h1 ?_
    refine ev_n 4 (S' := (463, [(4, .int 0), (3, .ref 464), (2, .ref 317), (1, .ref 0), (0, .float 0)], [.int 2, .float 0, .int a1, .ref 0])) rfl ?_
    refine ev_sc (L := 5) (xs := xs) (v := a2) rfl rfl (by decide) h2 ?_
    refine ev_n 4 (S' := (469, [(4, .int 0), (3, .ref 464), (2, .ref 317), (1, .ref 0), (0, .float 0)], [.int 3, .float 0, .int a2, .int a1, .ref 0])) rfl ?_
    refine ev_sc (L := 5) (xs := xs) (v := a3) rfl rfl (by decide) h3 ?_
    refine ev_n 1 (S' := (471, [(4, .int 0), (3, .ref 464), (2, .ref 317), (1, .ref 0), (0, .float 0)], [.ref 464, .int a3, .int a2, .int a1, .ref 0])) rfl ?_
    refine ev_cs (v := some (.int 1)) (G1 := ((hp2.1 ++ [Sum.inr (15, [])]), hp2.2 + 6)) [.ref 464, .int a3, .int a2, .int a1, .ref 0] rfl rfl rfl rfl rfl rfl ?_ ?_
    · refine ev_n 6 (S' := (7, [(0, .ref 0), (1, .int a1), (2, .int a2), (3, .int a3), (4, .ref 464)], [.int a3, .int a2, .int a1, .ref 0, .int 0, .ref 464])) rfl ?_
      refine ev_cvx (x := 465) (G1 := ((hp2.1 ++ [Sum.inr (15, [])]), hp2.2 + 6)) (hpc := 15) [.int a3, .int a2, .int a1] rfl rfl rfl rfl hp_at_0 rfl rfl rfl rfl ?_ (hx_end (by decide +kernel)) (by decide +kernel) (by decide +kernel) ?_
      · refine ev_n 3 (S' := (3, [(0, .ref 0), (1, .int a1), (2, .int a2), (3, .int a3)], [.int a2, .int a1, .ref 0])) rfl ?_
        refine ev_cvo (x := 465) (G1 := ((hp2.1 ++ [Sum.inr (15, [])]), hp2.2 + 6)) [.int a2, .int a1] rfl rfl rfl rfl hp_at_0 rfl rfl rfl rfl ?_ (hx_end (by decide +kernel)) rfl
        · refine ev_n 2 (S' := (2, [(0, .ref 0), (1, .int a1), (2, .int a2)], [.int a1, .ref 0])) rfl ?_
          refine ev_cvo (x := 465) (G1 := ((hp2.1 ++ [Sum.inr (15, [])]), hp2.2 + 6)) [.int a1] rfl rfl rfl rfl hp_at_0 rfl rfl rfl rfl ?_ (hx_end (by decide +kernel)) rfl
          · refine ev_n 1 (S' := (1, [(0, .ref 0), (1, .int a1)], [.int a1])) rfl ?_
            refine px_ev.p (S' := (4, [(0, .ref 0), (1, .int a1)], [])) rfl (px_ifF (t := 12) (cA_lt_F 0 rfl (by omega)) rfl) ?_
            refine ev_n 2 (S' := (6, [(0, .ref 0), (1, .int a1)], [.ref 0, .int a1])) rfl ?_
            refine ev_get (v := .int 0) rfl rfl hp_at_0 rfl ?_
            refine px_ev.p (S' := (12, [(0, .ref 0), (1, .int a1)], [])) rfl (px_icF (t := 22) (cA_lt_F 0 rfl (by omega)) rfl) ?_
            exact ev_thr rfl rfl rfl (by decide +kernel) (by decide +kernel)
      refine ev_n 2 (S' := (18, [(5, .ref 465), (0, .ref 0), (1, .int a1), (2, .int a2), (3, .int a3), (4, .ref 464)], [.int 1])) rfl ?_
      exact ev_ret rfl rfl rfl rfl
    refine ev_n 6 (S' := (482, [(5, .int 1), (4, .int 0), (3, .ref 464), (2, .ref 317), (1, .ref 0), (0, .float 0)], [.int 1, .float 0, .ref 317])) rfl ?_
    refine ev_sc (L := 5) (xs := xs) (v := a1) rfl rfl (by decide) h1 ?_
    refine ev_n 4 (S' := (488, [(5, .int 1), (4, .int 0), (3, .ref 464), (2, .ref 317), (1, .ref 0), (0, .float 0)], [.int 2, .float 0, .int a1, .ref 317])) rfl ?_
    refine ev_sc (L := 5) (xs := xs) (v := a2) rfl rfl (by decide) h2 ?_
    refine ev_n 4 (S' := (494, [(5, .int 1), (4, .int 0), (3, .ref 464), (2, .ref 317), (1, .ref 0), (0, .float 0)], [.int 3, .float 0, .int a2, .int a1, .ref 317])) rfl ?_
    refine ev_sc (L := 5) (xs := xs) (v := a3) rfl rfl (by decide) h3 ?_
    refine ev_cv (v := some (.int 0)) (G1 := (((hp2.1 ++ [Sum.inr (15, [])]).set 317 (Sum.inr (12, (fs317.set 0 (.int 1))))), hp2.2 + 6)) [.int a3, .int a2, .int a1] rfl rfl rfl rfl (hx_app hp_at_317) rfl rfl rfl rfl ?_ ?_
    · refine ev_n 4 (S' := (4, [(0, .ref 317), (1, .int a1), (2, .int a2), (3, .int a3)], [.int a2, .int a1, .ref 317, .ref 317])) rfl ?_
      refine ev_cv (v := some (.int 0)) (G1 := ((hp2.1 ++ [Sum.inr (15, [])]), hp2.2 + 6)) [.int a2, .int a1] rfl rfl rfl rfl (hx_app hp_at_317) rfl rfl rfl rfl ?_ ?_
      · refine ev_n 2 (S' := (2, [(0, .ref 317), (1, .int a1), (2, .int a2)], [.int a1, .ref 317])) rfl ?_
        refine ev_cv (v := some (.int 0)) (G1 := ((hp2.1 ++ [Sum.inr (15, [])]), hp2.2 + 6)) [.int a1] rfl rfl rfl rfl (hx_app hp_at_317) rfl rfl rfl rfl ?_ ?_
        · refine ev_n 4 (S' := (4, [(0, .ref 317), (1, .int a1)], [.ref 317, .long 0, .long ((a1).toInt64)])) rfl ?_
          refine ev_get (v := .int 0) rfl rfl (hx_app hp_at_317) rfl ?_
          refine ev_n 3 (S' := (10, [(0, .ref 317), (1, .int a1)], [.long (-1), .long 0, .long ((a1).toInt64)])) rfl ?_
          refine ev_cs (v := some (.int 0)) (G1 := ((hp2.1 ++ [Sum.inr (15, [])]), hp2.2 + 6)) [.long (-1), .long 0, .long ((a1).toInt64)] rfl rfl rfl rfl rfl rfl ?_ ?_
          · refine ev_n 3 (S' := (3, [(0, .long ((a1).toInt64)), (2, .long 0), (4, .long (-1))], [.int (lg_cmp ((a1).toInt64) (0))])) rfl ?_
            refine px_ev.p (S' := (6, [(0, .long ((a1).toInt64)), (2, .long 0), (4, .long (-1))], [])) rfl (px_ifF (t := 17) (cL_lt_F 0 rfl (by omega)) rfl) ?_
            refine ev_n 3 (S' := (10, [(0, .long ((a1).toInt64)), (2, .long 0), (4, .long (-1))], [.int (lg_cmp ((a1).toInt64) ((-1)))])) rfl ?_
            refine px_ev.p (S' := (17, [(0, .long ((a1).toInt64)), (2, .long 0), (4, .long (-1))], [])) rfl (px_ifT (t := 17) (cL_gt_T (-1) rfl (by omega)) rfl) ?_
            refine ev_n 1 (S' := (18, [(0, .long ((a1).toInt64)), (2, .long 0), (4, .long (-1))], [.int 0])) rfl ?_
            exact ev_ret rfl rfl rfl rfl
          exact ev_ret rfl rfl rfl rfl
        refine ev_n 2 (S' := (43, [(0, .ref 317), (1, .int a1), (2, .int a2)], [.int 0])) rfl ?_
        exact ev_ret rfl rfl rfl rfl
      refine ev_n 2 (S' := (15, [(0, .ref 317), (1, .int a1), (2, .int a2), (3, .int a3)], [.int 1, .ref 317])) rfl ?_
      refine ev_put rfl rfl (hx_app hp_at_317) rfl rfl (by decide +kernel) ?_
      refine ev_n 1 (S' := (19, [(0, .ref 317), (1, .int a1), (2, .int a2), (3, .int a3)], [.ref 317])) rfl ?_
      refine ev_get (v := .int 1) rfl rfl (hx_self (hx_app hp_at_317)) rfl ?_
      refine ev_n 2 (S' := (26, [(0, .ref 317), (1, .int a1), (2, .int a2), (3, .int a3)], [.int 0])) rfl ?_
      exact ev_ret rfl rfl rfl rfl
    refine ev_n 2 (S' := (501, [(6, .int 0), (5, .int 1), (4, .int 0), (3, .ref 464), (2, .ref 317), (1, .ref 0), (0, .float 0)], [.ref 317])) rfl ?_
    refine ev_cv (v := some (.int 1)) (G1 := (((hp2.1 ++ [Sum.inr (15, [])]).set 317 (Sum.inr (12, (fs317.set 0 (.int 1))))), hp2.2 + 6)) [] rfl rfl rfl rfl (hx_self (hx_app hp_at_317)) rfl rfl rfl rfl ?_ ?_
    · refine ev_n 1 (S' := (1, [(0, .ref 317)], [.ref 317])) rfl ?_
      refine ev_get (v := .int 1) rfl rfl (hx_self (hx_app hp_at_317)) rfl ?_
      exact ev_ret rfl rfl rfl rfl
    refine ev_n 9 (S' := (26, [(4, .int 5), (6, .int 0), (5, .int 1), (3, .ref 464), (2, .ref 317), (1, .ref 0), (0, .float 0)], [.float 0, .int 5])) rfl ?_
    refine ev_sl (L := 5) (xs := xs) (v := 5) rfl rfl rfl ?_
    refine ev_n 4 (S' := (1372, [(4, .int 5), (6, .int 0), (5, .int 1), (3, .ref 464), (2, .ref 317), (1, .ref 0), (0, .float 0)], [.int 1])) rfl ?_
    exact ev_ret rfl rfl rfl rfl

/-! ===== printed by wip/tools/gen3.py: the class's constructor, a closed run ===== -/
set_option maxRecDepth 1000000 in
theorem rnA_true : px_run cx_cl cx_fty cx_PM cx_na (cx_V none true) 22281 1499 mx0 (0, lv_args 0 [.ref 0], []) hp0 = some (.inl none, hpA) := px_eqR_ok (by decide +kernel)
set_option maxRecDepth 1000000 in
theorem rnA_false : px_run cx_cl cx_fty cx_PM cx_na (cx_V none false) 22281 1499 mx0 (0, lv_args 0 [.ref 0], []) hp0 = some (.inl none, hpA) := px_eqR_ok (by decide +kernel)
theorem rnA : ∀ b : Bool, px_run cx_cl cx_fty cx_PM cx_na (cx_V none b) 22281 1499 mx0 (0, lv_args 0 [.ref 0], []) hp0 = some (.inl none, hpA) := fun b => match b with
  | true => rnA_true
  | false => rnA_false

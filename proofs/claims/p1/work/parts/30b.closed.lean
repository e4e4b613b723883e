/-! ===== printed by wip/tools/gen3.py: closed runs ===== -/
set_option maxRecDepth 1000000 in
theorem rnB_true : px_run cx_cl cx_fty cx_PM cx_na (cx_V none true) 696 1499 mx85 (0, lv_args 0 [.ref 317], []) hp1 = some (.inl none, hpB) := px_eqR_ok (by decide +kernel)
set_option maxRecDepth 1000000 in
theorem rnB_false : px_run cx_cl cx_fty cx_PM cx_na (cx_V none false) 696 1499 mx85 (0, lv_args 0 [.ref 317], []) hp1 = some (.inl none, hpB) := px_eqR_ok (by decide +kernel)
theorem rnB : ∀ b : Bool, px_run cx_cl cx_fty cx_PM cx_na (cx_V none b) 696 1499 mx85 (0, lv_args 0 [.ref 317], []) hp1 = some (.inl none, hpB) := fun b => match b with
  | true => rnB_true
  | false => rnB_false
set_option maxRecDepth 1000000 in
theorem rn_read1_true : px_run cx_cl cx_fty cx_PM cx_na (cx_V none true) 2570 1499 mx82 (0, lv_args 0 [.ref 0, .ref 464], []) hp2 = some (.inl (some (.int 0)), hp_read1) := px_eqR_ok (by decide +kernel)
set_option maxRecDepth 1000000 in
theorem rn_read1_false : px_run cx_cl cx_fty cx_PM cx_na (cx_V none false) 2570 1499 mx82 (0, lv_args 0 [.ref 0, .ref 464], []) hp2 = some (.inl (some (.int 0)), hp_read1) := px_eqR_ok (by decide +kernel)
theorem rn_read1 : ∀ b : Bool, px_run cx_cl cx_fty cx_PM cx_na (cx_V none b) 2570 1499 mx82 (0, lv_args 0 [.ref 0, .ref 464], []) hp2 = some (.inl (some (.int 0)), hp_read1) := fun b => match b with
  | true => rn_read1_true
  | false => rn_read1_false
set_option maxRecDepth 1000000 in
theorem rn_read2_true : px_run cx_cl cx_fty cx_PM cx_na (cx_V none true) 1390 1499 mx123 (0, lv_args 0 [.ref 317], []) hp_read1 = some (.inl (some (.int (-1))), hp_read2) := px_eqR_ok (by decide +kernel)
set_option maxRecDepth 1000000 in
theorem rn_read2_false : px_run cx_cl cx_fty cx_PM cx_na (cx_V none false) 1390 1499 mx123 (0, lv_args 0 [.ref 317], []) hp_read1 = some (.inl (some (.int (-1))), hp_read2) := px_eqR_ok (by decide +kernel)
theorem rn_read2 : ∀ b : Bool, px_run cx_cl cx_fty cx_PM cx_na (cx_V none b) 1390 1499 mx123 (0, lv_args 0 [.ref 317], []) hp_read1 = some (.inl (some (.int (-1))), hp_read2) := fun b => match b with
  | true => rn_read2_true
  | false => rn_read2_false
set_option maxRecDepth 1000000 in
theorem rn_read3_true : px_run cx_cl cx_fty cx_PM cx_na (cx_V none true) 103 1499 mx129 (0, lv_args 0 [.ref 317], []) hp_read2 = some (.inl (some (.int 0)), hp_read2) := px_eqR_ok (by decide +kernel)
set_option maxRecDepth 1000000 in
theorem rn_read3_false : px_run cx_cl cx_fty cx_PM cx_na (cx_V none false) 103 1499 mx129 (0, lv_args 0 [.ref 317], []) hp_read2 = some (.inl (some (.int 0)), hp_read2) := px_eqR_ok (by decide +kernel)
theorem rn_read3 : ∀ b : Bool, px_run cx_cl cx_fty cx_PM cx_na (cx_V none b) 103 1499 mx129 (0, lv_args 0 [.ref 317], []) hp_read2 = some (.inl (some (.int 0)), hp_read2) := fun b => match b with
  | true => rn_read3_true
  | false => rn_read3_false
set_option maxRecDepth 1000000 in
theorem rn_prog1_true : px_run cx_cl cx_fty cx_PM cx_na (cx_V none true) 103 1499 mx20 (0, lv_args 0 [.ref 0], []) hp2 = some (.inl (some (.int 0)), hp_prog1) := px_eqR_ok (by decide +kernel)
set_option maxRecDepth 1000000 in
theorem rn_prog1_false : px_run cx_cl cx_fty cx_PM cx_na (cx_V none false) 103 1499 mx20 (0, lv_args 0 [.ref 0], []) hp2 = some (.inl (some (.int 0)), hp_prog1) := px_eqR_ok (by decide +kernel)
theorem rn_prog1 : ∀ b : Bool, px_run cx_cl cx_fty cx_PM cx_na (cx_V none b) 103 1499 mx20 (0, lv_args 0 [.ref 0], []) hp2 = some (.inl (some (.int 0)), hp_prog1) := fun b => match b with
  | true => rn_prog1_true
  | false => rn_prog1_false
set_option maxRecDepth 1000000 in
theorem rn_prog2_true : px_run cx_cl cx_fty cx_PM cx_na (cx_V none true) 106 1499 mx120 (0, lv_args 0 [.ref 317], []) hp_prog1 = some (.inl (some (.int 0)), hp_prog2) := px_eqR_ok (by decide +kernel)
set_option maxRecDepth 1000000 in
theorem rn_prog2_false : px_run cx_cl cx_fty cx_PM cx_na (cx_V none false) 106 1499 mx120 (0, lv_args 0 [.ref 317], []) hp_prog1 = some (.inl (some (.int 0)), hp_prog2) := px_eqR_ok (by decide +kernel)
theorem rn_prog2 : ∀ b : Bool, px_run cx_cl cx_fty cx_PM cx_na (cx_V none b) 106 1499 mx120 (0, lv_args 0 [.ref 317], []) hp_prog1 = some (.inl (some (.int 0)), hp_prog2) := fun b => match b with
  | true => rn_prog2_true
  | false => rn_prog2_false
set_option maxRecDepth 1000000 in
theorem rn_clear1_true : px_run cx_cl cx_fty cx_PM cx_na (cx_V none true) 108 1499 mx4 (0, lv_args 0 [.ref 0], []) hp2 = some (.inl (some (.int 0)), hp_clear1) := px_eqR_ok (by decide +kernel)
set_option maxRecDepth 1000000 in
theorem rn_clear1_false : px_run cx_cl cx_fty cx_PM cx_na (cx_V none false) 108 1499 mx4 (0, lv_args 0 [.ref 0], []) hp2 = some (.inl (some (.int 0)), hp_clear1) := px_eqR_ok (by decide +kernel)
theorem rn_clear1 : ∀ b : Bool, px_run cx_cl cx_fty cx_PM cx_na (cx_V none b) 108 1499 mx4 (0, lv_args 0 [.ref 0], []) hp2 = some (.inl (some (.int 0)), hp_clear1) := fun b => match b with
  | true => rn_clear1_true
  | false => rn_clear1_false
set_option maxRecDepth 1000000 in
theorem rn_clear2_true : px_run cx_cl cx_fty cx_PM cx_na (cx_V none true) 111 1499 mx90 (0, lv_args 0 [.ref 317], []) hp_clear1 = some (.inl (some (.int 0)), hp_clear2) := px_eqR_ok (by decide +kernel)
set_option maxRecDepth 1000000 in
theorem rn_clear2_false : px_run cx_cl cx_fty cx_PM cx_na (cx_V none false) 111 1499 mx90 (0, lv_args 0 [.ref 317], []) hp_clear1 = some (.inl (some (.int 0)), hp_clear2) := px_eqR_ok (by decide +kernel)
theorem rn_clear2 : ∀ b : Bool, px_run cx_cl cx_fty cx_PM cx_na (cx_V none b) 111 1499 mx90 (0, lv_args 0 [.ref 317], []) hp_clear1 = some (.inl (some (.int 0)), hp_clear2) := fun b => match b with
  | true => rn_clear2_true
  | false => rn_clear2_false
set_option maxRecDepth 1000000 in
theorem rn_told1_true : px_run cx_cl cx_fty cx_PM cx_na (cx_V none true) 104 1499 mx25 (0, lv_args 0 [.ref 0], []) hp2 = some (.inl (some (.int 0)), hp_told1) := px_eqR_ok (by decide +kernel)
set_option maxRecDepth 1000000 in
theorem rn_told1_false : px_run cx_cl cx_fty cx_PM cx_na (cx_V none false) 104 1499 mx25 (0, lv_args 0 [.ref 0], []) hp2 = some (.inl (some (.int 0)), hp_told1) := px_eqR_ok (by decide +kernel)
theorem rn_told1 : ∀ b : Bool, px_run cx_cl cx_fty cx_PM cx_na (cx_V none b) 104 1499 mx25 (0, lv_args 0 [.ref 0], []) hp2 = some (.inl (some (.int 0)), hp_told1) := fun b => match b with
  | true => rn_told1_true
  | false => rn_told1_false
set_option maxRecDepth 1000000 in
theorem rn_told2_true : px_run cx_cl cx_fty cx_PM cx_na (cx_V none true) 106 1499 mx132 (0, lv_args 0 [.ref 317], []) hp_told1 = some (.inl (some (.int 0)), hp_told2) := px_eqR_ok (by decide +kernel)
set_option maxRecDepth 1000000 in
theorem rn_told2_false : px_run cx_cl cx_fty cx_PM cx_na (cx_V none false) 106 1499 mx132 (0, lv_args 0 [.ref 317], []) hp_told1 = some (.inl (some (.int 0)), hp_told2) := px_eqR_ok (by decide +kernel)
theorem rn_told2 : ∀ b : Bool, px_run cx_cl cx_fty cx_PM cx_na (cx_V none b) 106 1499 mx132 (0, lv_args 0 [.ref 317], []) hp_told1 = some (.inl (some (.int 0)), hp_told2) := fun b => match b with
  | true => rn_told2_true
  | false => rn_told2_false

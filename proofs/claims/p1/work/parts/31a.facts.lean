/-! ===== printed by wip/tools/sym.py: facts on the heap behind the constructors; numbers compared ===== -/
theorem hp2_len : hp2.1.length = 465 := by decide +kernel
theorem hp2_sl : hp2.2 = 2356566 := by decide +kernel
def fs0 : List Value := [.ref 1, .ref 2, .ref 45, .ref 58, .ref 60, .ref 89, .int 0, .int 0, .int (-1), .ref 90, .ref 93, .ref 94, .int 0]
theorem hp_at_0 : hp2.1[0]? = some (.inr (0, fs0)) := px_eqE_ok (by decide +kernel)
def fs2 : List Value := [.ref 3, .int 0, .ref 4, .ref 5, .ref 6, .ref 7, .int 0, .ref 8, .ref 9, .ref 10, .int 0]
theorem hp_at_2 : hp2.1[2]? = some (.inr (10, fs2)) := px_eqE_ok (by decide +kernel)
def ar3 : List (Nat × Int32) := []
theorem hp_at_3 : hp2.1[3]? = some (.inl (0, 480, .inl ar3)) := px_eqE_ok (by decide +kernel)
def fs90 : List Value := [.ref 91, .ref 92, .int 0, .int 0, .int (-1), .int 0, .int 0, .int 0, .int 0]
theorem hp_at_90 : hp2.1[90]? = some (.inr (9, fs90)) := px_eqE_ok (by decide +kernel)
def fs317 : List Value := [.int 0, .ref 318, .int 0, .int 0, .int 0, .int (-1), .int 0, .ref 319, .ref 320, .ref 321, .ref 322, .int 0, .int 0, .int 0, .int 0, .ref 323, .ref 324, .ref 325, .ref 326, .ref 327, .ref 328, .int 0, .ref 329, .ref 330, .int 0, .ref 331, .ref 332, .ref 333, .ref 334, .int 0, .ref 335, .ref 336, .ref 337, .ref 338, .ref 339, .ref 340, .ref 341, .ref 342, .ref 343, .ref 344, .ref 345, .ref 346, .int 0, .ref 347, .ref 348, .ref 349, .ref 350, .int 0, .ref 351, .ref 352, .ref 353, .ref 354, .ref 355, .ref 356, .int 0, .int 0, .int 0, .int 0, .int 0, .int 0, .int 0, .ref 357, .int 0, .ref 358, .ref 359, .int 0, .ref 360, .int 0, .ref 361, .ref 362, .int 0, .int 0, .ref 363, .ref 364, .ref 365, .ref 366, .ref 367, .ref 368, .ref 369, .ref 370, .ref 371, .ref 372, .ref 373, .ref 374, .ref 375, .ref 376, .ref 377, .ref 378, .ref 379, .ref 380, .ref 381, .ref 382, .ref 383, .ref 384, .ref 385, .ref 386, .ref 387, .ref 388, .ref 389, .ref 390, .int 0, .int 0, .ref 391, .ref 392, .ref 393, .ref 394, .ref 395, .ref 396, .ref 397, .ref 398, .ref 399, .int 0, .ref 400, .int 0, .ref 401, .ref 402, .int 0, .ref 403, .int 0, .ref 404, .ref 405, .int 0, .ref 406, .ref 407, .int 0, .int 0, .ref 408, .ref 409, .ref 410, .int 0, .int (-1), .int 0, .ref 411, .ref 412, .ref 413, .ref 414, .ref 415, .ref 416, .ref 417, .int 0, .ref 418, .int 0, .ref 419, .ref 420, .ref 421, .ref 422, .ref 423, .ref 424, .ref 425, .ref 426, .ref 427, .int 0, .ref 428, .ref 429, .ref 430, .ref 431, .ref 432, .int 0, .int 0, .int 0, .int 0, .int 0, .int 0, .ref 433, .ref 434, .int 0, .ref 435, .ref 436, .ref 437, .ref 438, .int 0, .ref 439, .int 0, .int 0, .ref 440, .ref 441, .ref 442, .ref 443, .ref 444, .ref 445, .ref 446, .int 0, .ref 447, .int 0, .long 0, .int 0, .int 0, .int 0, .int 0, .ref 448, .ref 449, .ref 450, .ref 451, .ref 452, .int 0, .int 0, .int (-1), .int 0, .int 0, .int 0, .int 0, .ref 453, .ref 454, .ref 455, .ref 456, .ref 457, .ref 458, .int 0, .ref 459, .ref 460, .ref 461, .ref 462, .ref 463]
theorem hp_at_317 : hp2.1[317]? = some (.inr (12, fs317)) := px_eqE_ok (by decide +kernel)
def ar318 : List (Nat × Int32) := []
theorem hp_at_318 : hp2.1[318]? = some (.inl (0, 480, .inl ar318)) := px_eqE_ok (by decide +kernel)
def ar464 : List (Nat × Int64) := []
theorem hp_at_464 : hp2.1[464]? = some (.inl (1, 1, .inr (.inl ar464))) := px_eqE_ok (by decide +kernel)
def fs_read1317 : List Value := [.int 0, .ref 318, .int 0, .int 0, .int 0, .int (-1), .int 0, .ref 319, .ref 320, .ref 321, .ref 322, .int 0, .int 0, .int 0, .int 0, .ref 323, .ref 324, .ref 325, .ref 326, .ref 327, .ref 328, .int 0, .ref 329, .ref 330, .int 0, .ref 331, .ref 332, .ref 333, .ref 334, .int 0, .ref 335, .ref 336, .ref 337, .ref 338, .ref 339, .ref 340, .ref 341, .ref 342, .ref 343, .ref 344, .ref 345, .ref 346, .int 0, .ref 347, .ref 348, .ref 349, .ref 350, .int 0, .ref 351, .ref 352, .ref 353, .ref 354, .ref 355, .ref 356, .int 0, .int 0, .int 0, .int 0, .int 0, .int 0, .int 0, .ref 357, .int 0, .ref 358, .ref 359, .int 0, .ref 360, .int 0, .ref 361, .ref 362, .int 0, .int 0, .ref 363, .ref 364, .ref 365, .ref 366, .ref 367, .ref 368, .ref 369, .ref 370, .ref 371, .ref 372, .ref 373, .ref 374, .ref 375, .ref 376, .ref 377, .ref 378, .ref 379, .ref 380, .ref 381, .ref 382, .ref 383, .ref 384, .ref 385, .ref 386, .ref 387, .ref 388, .ref 389, .ref 390, .int 0, .int 0, .ref 391, .ref 392, .ref 393, .ref 394, .ref 395, .ref 396, .ref 397, .ref 398, .ref 399, .int 0, .ref 400, .int 0, .ref 401, .ref 402, .int 0, .ref 403, .int 0, .ref 404, .ref 405, .int 0, .ref 406, .ref 407, .int 0, .int 0, .ref 408, .ref 409, .ref 410, .int 0, .int (-1), .int 0, .ref 411, .ref 412, .ref 413, .ref 414, .ref 415, .ref 416, .ref 417, .int 0, .ref 418, .int 0, .ref 419, .ref 420, .ref 421, .ref 422, .ref 423, .ref 424, .ref 425, .ref 426, .ref 427, .int 0, .ref 428, .ref 429, .ref 430, .ref 431, .ref 432, .int 0, .int 0, .int 0, .int 0, .int 0, .int 0, .ref 433, .ref 434, .int 0, .ref 435, .ref 436, .ref 437, .ref 438, .int 0, .ref 439, .int 0, .int 0, .ref 440, .ref 441, .ref 442, .ref 443, .ref 444, .ref 445, .ref 446, .int 0, .ref 447, .int 0, .long 0, .int 0, .int 0, .int 0, .int 0, .ref 448, .ref 449, .ref 450, .ref 451, .ref 452, .int 0, .int 0, .int (-1), .int 0, .int 0, .int 0, .int 0, .ref 453, .ref 454, .ref 455, .ref 456, .ref 457, .ref 458, .int 0, .ref 459, .ref 460, .ref 461, .ref 462, .ref 463]
theorem hp_read1_at_317 : hp_read1.1[317]? = some (.inr (12, fs_read1317)) := px_eqE_ok (by decide +kernel)
def fs_read2317 : List Value := [.int 0, .ref 318, .int 0, .int 0, .int 1, .int 0, .int 1, .ref 319, .ref 320, .ref 321, .ref 322, .int 0, .int 0, .int 0, .int 4, .ref 323, .ref 324, .ref 325, .ref 326, .ref 327, .ref 328, .int 0, .ref 329, .ref 330, .int 0, .ref 331, .ref 332, .ref 333, .ref 334, .int 1, .ref 335, .ref 336, .ref 337, .ref 338, .ref 339, .ref 340, .ref 341, .ref 342, .ref 343, .ref 344, .ref 345, .ref 346, .int 0, .ref 347, .ref 348, .ref 349, .ref 350, .int 3, .ref 351, .ref 352, .ref 353, .ref 354, .ref 355, .ref 356, .int 0, .int 0, .int 0, .int 0, .int 0, .int 0, .int 0, .ref 357, .int 0, .ref 358, .ref 359, .int 0, .ref 360, .int 0, .ref 361, .ref 362, .int 0, .int 0, .ref 363, .ref 364, .ref 365, .ref 366, .ref 367, .ref 368, .ref 369, .ref 370, .ref 371, .ref 372, .ref 373, .ref 374, .ref 375, .ref 376, .ref 377, .ref 378, .ref 379, .ref 380, .ref 381, .ref 382, .ref 383, .ref 384, .ref 385, .ref 386, .ref 387, .ref 388, .ref 389, .ref 390, .int 0, .int 0, .ref 391, .ref 392, .ref 393, .ref 394, .ref 395, .ref 396, .ref 397, .ref 398, .ref 399, .int 0, .ref 400, .int 0, .ref 401, .ref 402, .int 0, .ref 403, .int 0, .ref 404, .ref 405, .int 0, .ref 406, .ref 407, .int 0, .int 0, .ref 408, .ref 409, .ref 410, .int 1, .int 0, .int 0, .ref 411, .ref 412, .ref 413, .ref 414, .ref 415, .ref 416, .ref 417, .int 0, .ref 418, .int 0, .ref 419, .ref 420, .ref 421, .ref 422, .ref 423, .ref 424, .ref 425, .ref 426, .ref 427, .int 0, .ref 428, .ref 429, .ref 430, .ref 431, .ref 432, .int 0, .int 0, .int 0, .int 0, .int 0, .int 0, .ref 433, .ref 434, .int 0, .ref 435, .ref 436, .ref 437, .ref 438, .int 0, .ref 439, .int 0, .int 0, .ref 440, .ref 441, .ref 442, .ref 443, .ref 444, .ref 445, .ref 446, .int 0, .ref 447, .int 0, .long 0, .int 0, .int 0, .int 0, .int 0, .ref 448, .ref 449, .ref 450, .ref 451, .ref 452, .int 0, .int 0, .int (-1), .int 0, .int 0, .int 0, .int 0, .ref 453, .ref 454, .ref 455, .ref 456, .ref 457, .ref 458, .int 0, .ref 459, .ref 460, .ref 461, .ref 462, .ref 463]
theorem hp_read2_at_317 : hp_read2.1[317]? = some (.inr (12, fs_read2317)) := px_eqE_ok (by decide +kernel)
def ar_read2464 : List (Nat × Int64) := [(0, (-1))]
theorem hp_read2_at_464 : hp_read2.1[464]? = some (.inl (1, 1, .inr (.inl ar_read2464))) := px_eqE_ok (by decide +kernel)
theorem lg_t (a : Int32) (k : Int64) : (a.toInt64 < k ↔ a.toInt < k.toInt) ∧ (k < a.toInt64 ↔ k.toInt < a.toInt) ∧ (a.toInt64 = k ↔ a.toInt = k.toInt) := by
  have e : a.toInt64.toInt = a.toInt := Int32.toInt_toInt64 a
  refine ⟨?_, ?_, ?_⟩
  · rw [Int64.lt_iff_toInt_lt, e]
  · rw [Int64.lt_iff_toInt_lt, e]
  · rw [← Int64.toInt_inj, e]
theorem sh_all (e : Int64) (n : Nat) (hn : n + 8 ≤ 64) (s1 : Int64) (s2 : UInt64) (h1 : (s1.toBitVec.smod 64).toNat = n) (h2 : s2.toNat % 64 = n) : e >>> s1 &&& 255 = (e.toUInt64 >>> s2).toInt64 &&& 255 := by
  apply Int64.toBitVec_inj.mp
  have a1 : (e >>> s1).toBitVec = e.toBitVec.sshiftRight n := by
    rw [← h1]
    rfl
  have a2 : ((e.toUInt64 >>> s2).toInt64).toBitVec = e.toBitVec >>> n := by
    rw [← h2]
    rfl
  rw [Int64.toBitVec_and, Int64.toBitVec_and, a1, a2]
  apply BitVec.eq_of_getLsbD_eq
  intro i hi
  rw [BitVec.getLsbD_and, BitVec.getLsbD_and, BitVec.getLsbD_sshiftRight, BitVec.getLsbD_ushiftRight]
  by_cases h8 : i < 8
  · have h3 : n + i < 64 := by omega
    have h9 : ¬ 64 ≤ i := by omega
    simp [h3, h9]
  · have h4 : (255 : Int64).toBitVec.getLsbD i = false := by
      have : ∀ j : Fin 64, 8 ≤ j.val → (255 : Int64).toBitVec.getLsbD j.val = false := by decide
      exact this ⟨i, hi⟩ (by show 8 ≤ i; omega)
    rw [h4, Bool.and_false, Bool.and_false]
theorem cA_eq_T {a k : Int32} (kk : Int) (hk : k.toInt = kk) (h : a.toInt = kk) : decide (a = k) = true := by
  apply decide_eq_true
  first | (rw [← Int32.toInt_inj, hk]; exact h) | (rw [Int32.lt_iff_toInt_lt, hk]; exact h) | (rw [Int32.le_iff_toInt_le, hk]; exact h)
theorem cB_eq_T {a k : Int32} (kk : Int) (hk : k.toInt = kk) (h : a.toInt = kk) : decide (k = a) = true := by
  apply decide_eq_true
  first | (rw [← Int32.toInt_inj, hk]; omega) | (rw [Int32.lt_iff_toInt_lt, hk]; omega) | (rw [Int32.le_iff_toInt_le, hk]; omega)
theorem cL_eq_T {a : Int32} {k : Int64} (kk : Int) (hk : k.toInt = kk) (h : a.toInt = kk) : decide (lg_cmp a.toInt64 k = 0) = true := by
  apply decide_eq_true
  rw [lg_cmp_eq]
  have e : a.toInt64.toInt = a.toInt := Int32.toInt_toInt64 a
  first | (rw [← Int64.toInt_inj, e, hk]; omega) | (rw [Int64.lt_iff_toInt_lt, e, hk]; omega) | (rw [Int64.le_iff_toInt_le, e, hk]; omega)
theorem cA_eq_F {a k : Int32} (kk : Int) (hk : k.toInt = kk) (h : ¬ (a.toInt = kk)) : decide (a = k) = false := by
  apply decide_eq_false
  first | (rw [← Int32.toInt_inj, hk]; exact h) | (rw [Int32.lt_iff_toInt_lt, hk]; exact h) | (rw [Int32.le_iff_toInt_le, hk]; exact h)
theorem cB_eq_F {a k : Int32} (kk : Int) (hk : k.toInt = kk) (h : ¬ (a.toInt = kk)) : decide (k = a) = false := by
  apply decide_eq_false
  first | (rw [← Int32.toInt_inj, hk]; omega) | (rw [Int32.lt_iff_toInt_lt, hk]; omega) | (rw [Int32.le_iff_toInt_le, hk]; omega)
theorem cL_eq_F {a : Int32} {k : Int64} (kk : Int) (hk : k.toInt = kk) (h : ¬ (a.toInt = kk)) : decide (lg_cmp a.toInt64 k = 0) = false := by
  apply decide_eq_false
  rw [lg_cmp_eq]
  have e : a.toInt64.toInt = a.toInt := Int32.toInt_toInt64 a
  first | (rw [← Int64.toInt_inj, e, hk]; omega) | (rw [Int64.lt_iff_toInt_lt, e, hk]; omega) | (rw [Int64.le_iff_toInt_le, e, hk]; omega)
theorem cA_ne_T {a k : Int32} (kk : Int) (hk : k.toInt = kk) (h : ¬ a.toInt = kk) : decide (¬ a = k) = true := by
  apply decide_eq_true
  first | (rw [← Int32.toInt_inj, hk]; exact h) | (rw [Int32.lt_iff_toInt_lt, hk]; exact h) | (rw [Int32.le_iff_toInt_le, hk]; exact h)
theorem cB_ne_T {a k : Int32} (kk : Int) (hk : k.toInt = kk) (h : ¬ a.toInt = kk) : decide (¬ k = a) = true := by
  apply decide_eq_true
  first | (rw [← Int32.toInt_inj, hk]; omega) | (rw [Int32.lt_iff_toInt_lt, hk]; omega) | (rw [Int32.le_iff_toInt_le, hk]; omega)
theorem cL_ne_T {a : Int32} {k : Int64} (kk : Int) (hk : k.toInt = kk) (h : ¬ a.toInt = kk) : decide (¬ lg_cmp a.toInt64 k = 0) = true := by
  apply decide_eq_true
  rw [lg_cmp_eq]
  have e : a.toInt64.toInt = a.toInt := Int32.toInt_toInt64 a
  first | (rw [← Int64.toInt_inj, e, hk]; omega) | (rw [Int64.lt_iff_toInt_lt, e, hk]; omega) | (rw [Int64.le_iff_toInt_le, e, hk]; omega)
theorem cA_ne_F {a k : Int32} (kk : Int) (hk : k.toInt = kk) (h : ¬ (¬ a.toInt = kk)) : decide (¬ a = k) = false := by
  apply decide_eq_false
  first | (rw [← Int32.toInt_inj, hk]; exact h) | (rw [Int32.lt_iff_toInt_lt, hk]; exact h) | (rw [Int32.le_iff_toInt_le, hk]; exact h)
theorem cB_ne_F {a k : Int32} (kk : Int) (hk : k.toInt = kk) (h : ¬ (¬ a.toInt = kk)) : decide (¬ k = a) = false := by
  apply decide_eq_false
  first | (rw [← Int32.toInt_inj, hk]; omega) | (rw [Int32.lt_iff_toInt_lt, hk]; omega) | (rw [Int32.le_iff_toInt_le, hk]; omega)
theorem cL_ne_F {a : Int32} {k : Int64} (kk : Int) (hk : k.toInt = kk) (h : ¬ (¬ a.toInt = kk)) : decide (¬ lg_cmp a.toInt64 k = 0) = false := by
  apply decide_eq_false
  rw [lg_cmp_eq]
  have e : a.toInt64.toInt = a.toInt := Int32.toInt_toInt64 a
  first | (rw [← Int64.toInt_inj, e, hk]; omega) | (rw [Int64.lt_iff_toInt_lt, e, hk]; omega) | (rw [Int64.le_iff_toInt_le, e, hk]; omega)
theorem cA_lt_T {a k : Int32} (kk : Int) (hk : k.toInt = kk) (h : a.toInt < kk) : decide (a < k) = true := by
  apply decide_eq_true
  first | (rw [← Int32.toInt_inj, hk]; exact h) | (rw [Int32.lt_iff_toInt_lt, hk]; exact h) | (rw [Int32.le_iff_toInt_le, hk]; exact h)
theorem cB_lt_T {a k : Int32} (kk : Int) (hk : k.toInt = kk) (h : kk < a.toInt) : decide (k < a) = true := by
  apply decide_eq_true
  first | (rw [← Int32.toInt_inj, hk]; omega) | (rw [Int32.lt_iff_toInt_lt, hk]; omega) | (rw [Int32.le_iff_toInt_le, hk]; omega)
theorem cL_lt_T {a : Int32} {k : Int64} (kk : Int) (hk : k.toInt = kk) (h : a.toInt < kk) : decide (lg_cmp a.toInt64 k < 0) = true := by
  apply decide_eq_true
  rw [lg_cmp_lt]
  have e : a.toInt64.toInt = a.toInt := Int32.toInt_toInt64 a
  first | (rw [← Int64.toInt_inj, e, hk]; omega) | (rw [Int64.lt_iff_toInt_lt, e, hk]; omega) | (rw [Int64.le_iff_toInt_le, e, hk]; omega)
theorem cA_lt_F {a k : Int32} (kk : Int) (hk : k.toInt = kk) (h : ¬ (a.toInt < kk)) : decide (a < k) = false := by
  apply decide_eq_false
  first | (rw [← Int32.toInt_inj, hk]; exact h) | (rw [Int32.lt_iff_toInt_lt, hk]; exact h) | (rw [Int32.le_iff_toInt_le, hk]; exact h)
theorem cB_lt_F {a k : Int32} (kk : Int) (hk : k.toInt = kk) (h : ¬ (kk < a.toInt)) : decide (k < a) = false := by
  apply decide_eq_false
  first | (rw [← Int32.toInt_inj, hk]; omega) | (rw [Int32.lt_iff_toInt_lt, hk]; omega) | (rw [Int32.le_iff_toInt_le, hk]; omega)
theorem cL_lt_F {a : Int32} {k : Int64} (kk : Int) (hk : k.toInt = kk) (h : ¬ (a.toInt < kk)) : decide (lg_cmp a.toInt64 k < 0) = false := by
  apply decide_eq_false
  rw [lg_cmp_lt]
  have e : a.toInt64.toInt = a.toInt := Int32.toInt_toInt64 a
  first | (rw [← Int64.toInt_inj, e, hk]; omega) | (rw [Int64.lt_iff_toInt_lt, e, hk]; omega) | (rw [Int64.le_iff_toInt_le, e, hk]; omega)
theorem cA_ge_T {a k : Int32} (kk : Int) (hk : k.toInt = kk) (h : kk ≤ a.toInt) : decide (k ≤ a) = true := by
  apply decide_eq_true
  first | (rw [← Int32.toInt_inj, hk]; exact h) | (rw [Int32.lt_iff_toInt_lt, hk]; exact h) | (rw [Int32.le_iff_toInt_le, hk]; exact h)
theorem cB_ge_T {a k : Int32} (kk : Int) (hk : k.toInt = kk) (h : a.toInt ≤ kk) : decide (a ≤ k) = true := by
  apply decide_eq_true
  first | (rw [← Int32.toInt_inj, hk]; omega) | (rw [Int32.lt_iff_toInt_lt, hk]; omega) | (rw [Int32.le_iff_toInt_le, hk]; omega)
theorem cL_ge_T {a : Int32} {k : Int64} (kk : Int) (hk : k.toInt = kk) (h : kk ≤ a.toInt) : decide (0 ≤ lg_cmp a.toInt64 k) = true := by
  apply decide_eq_true
  rw [lg_cmp_ge]
  have e : a.toInt64.toInt = a.toInt := Int32.toInt_toInt64 a
  first | (rw [← Int64.toInt_inj, e, hk]; omega) | (rw [Int64.lt_iff_toInt_lt, e, hk]; omega) | (rw [Int64.le_iff_toInt_le, e, hk]; omega)
theorem cA_ge_F {a k : Int32} (kk : Int) (hk : k.toInt = kk) (h : ¬ (kk ≤ a.toInt)) : decide (k ≤ a) = false := by
  apply decide_eq_false
  first | (rw [← Int32.toInt_inj, hk]; exact h) | (rw [Int32.lt_iff_toInt_lt, hk]; exact h) | (rw [Int32.le_iff_toInt_le, hk]; exact h)
theorem cB_ge_F {a k : Int32} (kk : Int) (hk : k.toInt = kk) (h : ¬ (a.toInt ≤ kk)) : decide (a ≤ k) = false := by
  apply decide_eq_false
  first | (rw [← Int32.toInt_inj, hk]; omega) | (rw [Int32.lt_iff_toInt_lt, hk]; omega) | (rw [Int32.le_iff_toInt_le, hk]; omega)
theorem cL_ge_F {a : Int32} {k : Int64} (kk : Int) (hk : k.toInt = kk) (h : ¬ (kk ≤ a.toInt)) : decide (0 ≤ lg_cmp a.toInt64 k) = false := by
  apply decide_eq_false
  rw [lg_cmp_ge]
  have e : a.toInt64.toInt = a.toInt := Int32.toInt_toInt64 a
  first | (rw [← Int64.toInt_inj, e, hk]; omega) | (rw [Int64.lt_iff_toInt_lt, e, hk]; omega) | (rw [Int64.le_iff_toInt_le, e, hk]; omega)
theorem cA_gt_T {a k : Int32} (kk : Int) (hk : k.toInt = kk) (h : kk < a.toInt) : decide (k < a) = true := by
  apply decide_eq_true
  first | (rw [← Int32.toInt_inj, hk]; exact h) | (rw [Int32.lt_iff_toInt_lt, hk]; exact h) | (rw [Int32.le_iff_toInt_le, hk]; exact h)
theorem cB_gt_T {a k : Int32} (kk : Int) (hk : k.toInt = kk) (h : a.toInt < kk) : decide (a < k) = true := by
  apply decide_eq_true
  first | (rw [← Int32.toInt_inj, hk]; omega) | (rw [Int32.lt_iff_toInt_lt, hk]; omega) | (rw [Int32.le_iff_toInt_le, hk]; omega)
theorem cL_gt_T {a : Int32} {k : Int64} (kk : Int) (hk : k.toInt = kk) (h : kk < a.toInt) : decide (0 < lg_cmp a.toInt64 k) = true := by
  apply decide_eq_true
  rw [lg_cmp_gt]
  have e : a.toInt64.toInt = a.toInt := Int32.toInt_toInt64 a
  first | (rw [← Int64.toInt_inj, e, hk]; omega) | (rw [Int64.lt_iff_toInt_lt, e, hk]; omega) | (rw [Int64.le_iff_toInt_le, e, hk]; omega)
theorem cA_gt_F {a k : Int32} (kk : Int) (hk : k.toInt = kk) (h : ¬ (kk < a.toInt)) : decide (k < a) = false := by
  apply decide_eq_false
  first | (rw [← Int32.toInt_inj, hk]; exact h) | (rw [Int32.lt_iff_toInt_lt, hk]; exact h) | (rw [Int32.le_iff_toInt_le, hk]; exact h)
theorem cB_gt_F {a k : Int32} (kk : Int) (hk : k.toInt = kk) (h : ¬ (a.toInt < kk)) : decide (a < k) = false := by
  apply decide_eq_false
  first | (rw [← Int32.toInt_inj, hk]; omega) | (rw [Int32.lt_iff_toInt_lt, hk]; omega) | (rw [Int32.le_iff_toInt_le, hk]; omega)
theorem cL_gt_F {a : Int32} {k : Int64} (kk : Int) (hk : k.toInt = kk) (h : ¬ (kk < a.toInt)) : decide (0 < lg_cmp a.toInt64 k) = false := by
  apply decide_eq_false
  rw [lg_cmp_gt]
  have e : a.toInt64.toInt = a.toInt := Int32.toInt_toInt64 a
  first | (rw [← Int64.toInt_inj, e, hk]; omega) | (rw [Int64.lt_iff_toInt_lt, e, hk]; omega) | (rw [Int64.le_iff_toInt_le, e, hk]; omega)
theorem cA_le_T {a k : Int32} (kk : Int) (hk : k.toInt = kk) (h : a.toInt ≤ kk) : decide (a ≤ k) = true := by
  apply decide_eq_true
  first | (rw [← Int32.toInt_inj, hk]; exact h) | (rw [Int32.lt_iff_toInt_lt, hk]; exact h) | (rw [Int32.le_iff_toInt_le, hk]; exact h)
theorem cB_le_T {a k : Int32} (kk : Int) (hk : k.toInt = kk) (h : kk ≤ a.toInt) : decide (k ≤ a) = true := by
  apply decide_eq_true
  first | (rw [← Int32.toInt_inj, hk]; omega) | (rw [Int32.lt_iff_toInt_lt, hk]; omega) | (rw [Int32.le_iff_toInt_le, hk]; omega)
theorem cL_le_T {a : Int32} {k : Int64} (kk : Int) (hk : k.toInt = kk) (h : a.toInt ≤ kk) : decide (lg_cmp a.toInt64 k ≤ 0) = true := by
  apply decide_eq_true
  rw [lg_cmp_le]
  have e : a.toInt64.toInt = a.toInt := Int32.toInt_toInt64 a
  first | (rw [← Int64.toInt_inj, e, hk]; omega) | (rw [Int64.lt_iff_toInt_lt, e, hk]; omega) | (rw [Int64.le_iff_toInt_le, e, hk]; omega)
theorem cA_le_F {a k : Int32} (kk : Int) (hk : k.toInt = kk) (h : ¬ (a.toInt ≤ kk)) : decide (a ≤ k) = false := by
  apply decide_eq_false
  first | (rw [← Int32.toInt_inj, hk]; exact h) | (rw [Int32.lt_iff_toInt_lt, hk]; exact h) | (rw [Int32.le_iff_toInt_le, hk]; exact h)
theorem cB_le_F {a k : Int32} (kk : Int) (hk : k.toInt = kk) (h : ¬ (kk ≤ a.toInt)) : decide (k ≤ a) = false := by
  apply decide_eq_false
  first | (rw [← Int32.toInt_inj, hk]; omega) | (rw [Int32.lt_iff_toInt_lt, hk]; omega) | (rw [Int32.le_iff_toInt_le, hk]; omega)
theorem cL_le_F {a : Int32} {k : Int64} (kk : Int) (hk : k.toInt = kk) (h : ¬ (a.toInt ≤ kk)) : decide (lg_cmp a.toInt64 k ≤ 0) = false := by
  apply decide_eq_false
  rw [lg_cmp_le]
  have e : a.toInt64.toInt = a.toInt := Int32.toInt_toInt64 a
  first | (rw [← Int64.toInt_inj, e, hk]; omega) | (rw [Int64.lt_iff_toInt_lt, e, hk]; omega) | (rw [Int64.le_iff_toInt_le, e, hk]; omega)
theorem sh_0 (e : Int64) : (e) >>> ((0 : Int32).toInt64 &&& 63) &&& (255) = ((e).toUInt64 >>> ((0 : Int32).toInt64.toUInt64 &&& Int64.toUInt64 63)).toInt64 &&& (255) := sh_all e 0 (by decide) _ _ (by decide +kernel) (by decide +kernel)
theorem sh_8 (e : Int64) : (e) >>> ((8 : Int32).toInt64 &&& 63) &&& (255) = ((e).toUInt64 >>> ((8 : Int32).toInt64.toUInt64 &&& Int64.toUInt64 63)).toInt64 &&& (255) := sh_all e 8 (by decide) _ _ (by decide +kernel) (by decide +kernel)
theorem sh_16 (e : Int64) : (e) >>> ((16 : Int32).toInt64 &&& 63) &&& (255) = ((e).toUInt64 >>> ((16 : Int32).toInt64.toUInt64 &&& Int64.toUInt64 63)).toInt64 &&& (255) := sh_all e 16 (by decide) _ _ (by decide +kernel) (by decide +kernel)
theorem sh_24 (e : Int64) : (e) >>> ((24 : Int32).toInt64 &&& 63) &&& (255) = ((e).toUInt64 >>> ((24 : Int32).toInt64.toUInt64 &&& Int64.toUInt64 63)).toInt64 &&& (255) := sh_all e 24 (by decide) _ _ (by decide +kernel) (by decide +kernel)
theorem sh_32 (e : Int64) : (e) >>> ((32 : Int32).toInt64 &&& 63) &&& (255) = ((e).toUInt64 >>> ((32 : Int32).toInt64.toUInt64 &&& Int64.toUInt64 63)).toInt64 &&& (255) := sh_all e 32 (by decide) _ _ (by decide +kernel) (by decide +kernel)
theorem sh_40 (e : Int64) : (e) >>> ((40 : Int32).toInt64 &&& 63) &&& (255) = ((e).toUInt64 >>> ((40 : Int32).toInt64.toUInt64 &&& Int64.toUInt64 63)).toInt64 &&& (255) := sh_all e 40 (by decide) _ _ (by decide +kernel) (by decide +kernel)
theorem sh_48 (e : Int64) : (e) >>> ((48 : Int32).toInt64 &&& 63) &&& (255) = ((e).toUInt64 >>> ((48 : Int32).toInt64.toUInt64 &&& Int64.toUInt64 63)).toInt64 &&& (255) := sh_all e 48 (by decide) _ _ (by decide +kernel) (by decide +kernel)
theorem sh_56 (e : Int64) : (e) >>> ((56 : Int32).toInt64 &&& 63) &&& (255) = ((e).toUInt64 >>> ((56 : Int32).toInt64.toUInt64 &&& Int64.toUInt64 63)).toInt64 &&& (255) := sh_all e 56 (by decide) _ _ (by decide +kernel) (by decide +kernel)
section PXZ
variable {cl : List vw_C} {fty : Nat → Nat → FieldType} {PM : List px_M} {na : Nat → Nat → Bool} {V : px_V} {d pc : Nat} {M : px_M} {lv : px_L} {r : List Value} {G G' : px_G} {out : px_Out}
theorem px_tswO {x : Int32} {dflt lo hi : Int} {offs : Array Int} {t : Nat} (h : x.toInt < lo ∨ hi < x.toInt) (ht : px_to pc dflt = some t) : px_tsw pc lv (.int x :: r) dflt lo hi offs = some (t, lv, r) := by
  unfold px_tsw
  simp only [if_pos h, px_jump, ht]
theorem ev_sc {L : Nat} {xs : Nat → Int32} {i v : Int32} (hV : V.1 = some (L, xs)) (hi : px_mi M pc = some .iaload) (hin : ¬ (i < 0 ∨ L ≤ i.toNatClampNeg)) (hv : xs i.toNatClampNeg = v)
    (kk : px_ev cl fty PM na V d M (pc + 1, lv, .int v :: r) G out G') : px_ev cl fty PM na V d M (pc, lv, .int i :: .float 0 :: r) G out G' := ev_scr hV hi hin hv kk
theorem ev_sl {L : Nat} {xs : Nat → Int32} {v : Int32} (hV : V.1 = some (L, xs)) (hi : px_mi M pc = some .arraylength) (hv : Int32.ofNat L = v)
    (kk : px_ev cl fty PM na V d M (pc + 1, lv, .int v :: r) G out G') : px_ev cl fty PM na V d M (pc, lv, .float 0 :: r) G out G' := ev_sln hV hi hv kk
end PXZ

/-! the check of the law's blocks -/
def mj_lck (b : Nat) : Bool := mj_ck 13 false (some .boolean) (mj_sp 392) code (mj_blk 392 b) (mj_sp 392 b)
set_option maxRecDepth 100000 in
theorem mj_l_0 : (List.range' 0 12).all mj_lck = true := by decide +kernel
set_option maxRecDepth 100000 in
theorem mj_l_12 : (List.range' 12 12).all mj_lck = true := by decide +kernel
set_option maxRecDepth 100000 in
theorem mj_l_24 : (List.range' 24 12).all mj_lck = true := by decide +kernel
set_option maxRecDepth 100000 in
theorem mj_l_36 : (List.range' 36 12).all mj_lck = true := by decide +kernel
set_option maxRecDepth 100000 in
theorem mj_l_48 : (List.range' 48 12).all mj_lck = true := by decide +kernel
set_option maxRecDepth 100000 in
theorem mj_l_60 : (List.range' 60 12).all mj_lck = true := by decide +kernel
set_option maxRecDepth 100000 in
theorem mj_l_72 : (List.range' 72 12).all mj_lck = true := by decide +kernel
set_option maxRecDepth 100000 in
theorem mj_l_84 : (List.range' 84 12).all mj_lck = true := by decide +kernel
set_option maxRecDepth 100000 in
theorem mj_l_96 : (List.range' 96 12).all mj_lck = true := by decide +kernel
set_option maxRecDepth 100000 in
theorem mj_l_108 : (List.range' 108 12).all mj_lck = true := by decide +kernel
set_option maxRecDepth 100000 in
theorem mj_l_120 : (List.range' 120 3).all mj_lck = true := by decide +kernel
theorem mj_law_ck (b : Nat) : mj_ck (mj_meth mj_n).1.1 (mj_ini mj_n) (mj_meth mj_n).2.2.2 (mj_sp mj_n) (mj_meth mj_n).2.1 (mj_blk mj_n b) (mj_sp mj_n b) = true := by
  show mj_lck b = true
  by_cases h0 : b < 12
  · exact mj_rng mj_l_0 (by omega) (by omega)
  by_cases h12 : b < 24
  · exact mj_rng mj_l_12 (by omega) (by omega)
  by_cases h24 : b < 36
  · exact mj_rng mj_l_24 (by omega) (by omega)
  by_cases h36 : b < 48
  · exact mj_rng mj_l_36 (by omega) (by omega)
  by_cases h48 : b < 60
  · exact mj_rng mj_l_48 (by omega) (by omega)
  by_cases h60 : b < 72
  · exact mj_rng mj_l_60 (by omega) (by omega)
  by_cases h72 : b < 84
  · exact mj_rng mj_l_72 (by omega) (by omega)
  by_cases h84 : b < 96
  · exact mj_rng mj_l_84 (by omega) (by omega)
  by_cases h96 : b < 108
  · exact mj_rng mj_l_96 (by omega) (by omega)
  by_cases h108 : b < 120
  · exact mj_rng mj_l_108 (by omega) (by omega)
  by_cases h120 : b < 123
  · exact mj_rng mj_l_120 (by omega) (by omega)
  have hl : (mj_bs.getD 392 []).length = 123 := by decide +kernel
  have e : mj_blk 392 b = [] := by
    unfold mj_blk
    rw [List.getD_eq_getElem?_getD (l := mj_bs.getD 392 []), List.getElem?_eq_none (by omega)]
    rfl
  unfold mj_lck
  rw [e]
  rfl
theorem mj_law_0 : mj_sp mj_n 0 = 0 := by decide +kernel

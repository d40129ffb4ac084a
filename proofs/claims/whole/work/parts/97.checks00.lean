/-! THE PROGRAM (8): written by program: the small code is the bytes' own. -/
abbrev mz_ck0 := mz_ckb mz_FL0 mz_ML0 mz_KI0 mz_KL0 mz_BL0 mz_SL0 mz_NL0 mz_OL0 mz_TL0 mz_MU0
theorem mzk_0 : mz_ck0 11 (decode prog_1_method_1_code) true [] 0 mk_0 = true := by decide +kernel
theorem mzk_1 : mz_ck0 4 (decode prog_6_method_1_code) true [] 0 mk_1 = true := by decide +kernel
theorem mzk_2 : mz_ck0 5 (decode prog_7_method_1_code) true [] 0 mk_2 = true := by decide +kernel
theorem mzk_3 : mz_ck0 6 (decode prog_8_method_1_code) true [] 0 mk_3 = true := by decide +kernel
theorem mzk_4 : mz_ck0 7 (decode prog_9_method_1_code) true [] 0 mk_4 = true := by decide +kernel
theorem mzk_5 : mz_ck0 9 (decode prog_11_method_1_code) true [] 0 mk_5 = true := by decide +kernel
theorem mzk_6 : mz_ck0 3 (decode prog_5_method_1_code) true [] 0 mk_6 = true := by decide +kernel
theorem mzk_7 : mz_ck0 10 (decode prog_12_method_1_code) true [] 0 mk_7 = true := by decide +kernel
theorem mzk_8 : mz_ck0 0 (decode prog_2_method_1_code) true [] 0 mk_8 = true := by decide +kernel
theorem mzk_9 : mz_ck0 2 (decode prog_4_method_1_code) true [] 0 mk_9 = true := by decide +kernel
theorem mzk_10 : mz_ck0 1 (decode prog_3_method_1_code) true [] 0 mk_10 = true := by decide +kernel
theorem mzk_11 : mz_ck0 8 (decode prog_10_method_1_code) true [] 0 mk_11 = true := by decide +kernel
theorem mzk_12 : mz_ck0 8 (decode prog_10_method_11_code) false [] 0 mk_12 = true := by decide +kernel
theorem mzk_13 : mz_ck0 14 (decode prog_30_method_103_code) false [] 0 mk_13 = true := by decide +kernel
theorem mzk_14 : mz_ck0 8 (decode prog_10_method_2_code) false [] 0 mk_14 = true := by decide +kernel
theorem mzk_15 : mz_ck0 8 (decode prog_10_method_12_code) false [] 0 mk_15 = true := by decide +kernel
theorem mzk_16 : mz_ck0 8 (decode prog_10_method_6_code) false [] 0 mk_16 = true := by decide +kernel
theorem mzk_17 : mz_ck0 4 (decode prog_6_method_2_code) false [] 0 mk_17 = true := by decide +kernel
theorem mzk_18 : mz_ck0 5 (decode prog_7_method_10_code) false [] 0 mk_18 = true := by decide +kernel
theorem mzk_19 : mz_ck0 5 (decode prog_7_method_11_code) false [] 0 mk_19 = true := by decide +kernel
theorem mzk_20 : mz_ck0 5 (decode prog_7_method_8_code) false [] 0 mk_20 = true := by decide +kernel
theorem mzk_21 : mz_ck0 5 (decode prog_7_method_3_code) false [] 0 mk_21 = true := by decide +kernel
theorem mzk_22 : mz_ck0 6 (decode prog_8_method_2_code) false [] 0 mk_22 = true := by decide +kernel
theorem mzk_23 : mz_ck0 7 (decode prog_9_method_2_code) false [] 0 mk_23 = true := by decide +kernel

/-! THE PROGRAM (8): written by program: the small code is the bytes' own. -/
theorem mzk_24 : mz_ck0 7 (decode prog_9_method_6_code) false [] 0 mk_24 = true := by decide +kernel
theorem mzk_25 : mz_ck0 7 (decode prog_9_method_4_code) false [] 0 mk_25 = true := by decide +kernel
theorem mzk_26 : mz_ck0 7 (decode prog_9_method_7_code) false [] 0 mk_26 = true := by decide +kernel
theorem mzk_27 : mz_ck0 7 (decode prog_9_method_3_code) false [] 0 mk_27 = true := by decide +kernel
theorem mzk_28 : mz_ck0 7 (decode prog_9_method_5_code) false [] 0 mk_28 = true := by decide +kernel
theorem mzk_29 : mz_ck0 7 (decode prog_9_method_8_code) false [] 0 mk_29 = true := by decide +kernel
theorem mzk_30 : mz_ck0 7 (decode prog_9_method_9_code) false [] 0 mk_30 = true := by decide +kernel
theorem mzk_31 : mz_ck0 7 (decode prog_9_method_10_code) false [] 0 mk_31 = true := by decide +kernel
theorem mzk_32 : mz_ck0 7 (decode prog_9_method_12_code) false [] 0 mk_32 = true := by decide +kernel
theorem mzk_33 : mz_ck0 7 (decode prog_9_method_13_code) false [] 0 mk_33 = true := by decide +kernel
theorem mzk_34 : mz_ck0 7 (decode prog_9_method_14_code) false [] 0 mk_34 = true := by decide +kernel
theorem mzk_35 : mz_ck0 7 (decode prog_9_method_11_code) false [] 0 mk_35 = true := by decide +kernel
theorem mzk_36 : mz_ck0 7 (decode prog_9_method_18_code) false [] 0 mk_36 = true := by decide +kernel
theorem mzk_37 : mz_ck0 7 (decode prog_9_method_17_code) false [] 0 mk_37 = true := by decide +kernel
theorem mzk_38 : mz_ck0 7 (decode prog_9_method_15_code) false [] 0 mk_38 = true := by decide +kernel
theorem mzk_39 : mz_ck0 7 (decode prog_9_method_16_code) false [] 0 mk_39 = true := by decide +kernel
theorem mzk_40 : mz_ck0 7 (decode prog_9_method_19_code) false [] 0 mk_40 = true := by decide +kernel
theorem mzk_41 : mz_ck0 7 (decode prog_9_method_20_code) false [] 0 mk_41 = true := by decide +kernel
theorem mzk_42 : mz_ck0 7 (decode prog_9_method_21_code) false [] 0 mk_42 = true := by decide +kernel
theorem mzk_43 : mz_ck0 7 (decode prog_9_method_22_code) false [] 0 mk_43 = true := by decide +kernel
theorem mzk_44 : mz_ck0 6 (decode prog_8_method_3_code) false [] 0 mk_44 = true := by decide +kernel
theorem mzk_45 : mz_ck0 14 (decode prog_30_method_104_code) false [] 0 mk_45 = true := by decide +kernel
theorem mzk_46 : mz_ck0 14 (decode prog_30_method_30_code) false [] 0 mk_46 = true := by decide +kernel
theorem mzk_47 : mz_ck0 9 (decode prog_11_method_2_code) false [] 0 mk_47 = true := by decide +kernel
theorem mzk_48 : mz_ck0 3 (decode prog_5_method_2_code) false [] 0 mk_48 = true := by decide +kernel
theorem mzk_49 : mz_ck0 14 (decode prog_30_method_101_code) false [] 0 mk_49 = true := by decide +kernel
theorem mzk_50 : mz_ck0 10 (decode prog_12_method_2_code) false [] 0 mk_50 = true := by decide +kernel
theorem mzk_51 : mz_ck0 0 (decode prog_2_method_2_code) false [] 0 mk_51 = true := by decide +kernel
theorem mzk_52 : mz_ck0 2 (decode prog_4_method_2_code) false [] 0 mk_52 = true := by decide +kernel
theorem mzk_53 : mz_ck0 1 (decode prog_3_method_3_code) false [] 0 mk_53 = true := by decide +kernel
theorem mzk_54 : mz_ck0 1 (decode prog_3_method_4_code) false [] 0 mk_54 = true := by decide +kernel
theorem mzk_55 : mz_ck0 8 (decode prog_10_method_8_code) false [] 0 mk_55 = true := by decide +kernel
theorem mzk_56 : mz_ck0 8 (decode prog_10_method_9_code) false [] 0 mk_56 = true := by decide +kernel
def mw_57_0 : ByteArray := .mk #[27, 170, 0, 0, 0, 0, 1, 26, 0, 0, 0, 1, 0, 0, 0, 14, 0, 0, 0, 71, 0, 0, 0, 88, 0, 0, 0, 102, 0, 0, 0, 124, 0, 0, 0, 138, 0, 0, 0, 160, 0, 0, 0, 163, 0, 0, 0, 177, 0, 0, 0, 191, 0, 0, 0, 204, 0, 0, 0, 217, 0, 0, 0, 231, 0, 0, 0, 245, 0, 0, 1, 12, 28, 45, 21, 4, 42, 180, 0, 12, 180, 0, 220, 184, 0, 223, 167, 0, 217, 42, 180, 0, 12, 28, 45, 21, 4, 182, 0, 227, 167, 0, 203, 45, 21, 4, 42, 180, 0, 12, 180, 0, 175, 28, 16, 24, 104, 16, 24, 184, 0, 178, 167, 0, 181, 42, 180, 0, 35, 28, 45, 21, 4, 182, 0, 230, 167, 0, 167, 45, 21, 4, 42, 180, 0, 35, 180, 0, 187, 28]
theorem mzw_57_0 : mz_winb prog_6_method_7_code.data.toList mw_57_0.data.toList 0 = true := by decide +kernel
theorem mzk_57_0 : mz_ck0 4 (fun z => if 0 ≤ z then decode mw_57_0 (z - 0) else .error (.truncated 0)) false [] 0 ((mk_57.drop 0).take 41) = true := by decide +kernel

/-! THE PROGRAM (8): written by program: the small code is the bytes' own. -/
def mw_57_1 : ByteArray := .mk #[187, 28, 16, 24, 104, 16, 24, 184, 0, 178, 167, 0, 145, 167, 0, 142, 42, 180, 0, 28, 28, 45, 21, 4, 182, 0, 233, 167, 0, 128, 42, 180, 0, 63, 28, 45, 21, 4, 182, 0, 236, 167, 0, 114, 42, 180, 0, 63, 45, 21, 4, 182, 0, 239, 167, 0, 101, 42, 180, 0, 63, 45, 21, 4, 182, 0, 242, 167, 0, 88, 42, 180, 0, 56, 28, 45, 21, 4, 182, 0, 245, 167, 0, 74, 42, 180, 0, 56, 28, 45, 21, 4, 182, 0, 248, 167, 0, 60, 42, 180, 0, 49, 28, 45, 21, 4, 4, 96, 46, 45, 21, 4, 5, 96, 46, 182, 0, 251, 167, 0, 37, 42, 180, 0, 49, 28, 45, 21, 4, 182, 0, 255, 167, 0, 23, 42, 180, 0, 42, 28, 45, 21, 4, 4, 96, 46, 45, 21, 4, 5, 96, 46]
theorem mzw_57_1 : mz_winb prog_6_method_7_code.data.toList mw_57_1.data.toList 148 = true := by decide +kernel
theorem mzk_57_1 : mz_ck0 4 (fun z => if 148 ≤ z then decode mw_57_1 (z - 148) else .error (.truncated 0)) false [] 150 ((mk_57.drop 41).take 81) = true := by decide +kernel
def mw_57_2 : ByteArray := .mk #[182, 1, 2, 177]
theorem mzw_57_2 : mz_winb prog_6_method_7_code.data.toList mw_57_2.data.toList 300 = true := by decide +kernel
theorem mzk_57_2 : mz_ck0 4 (fun z => if 300 ≤ z then decode mw_57_2 (z - 300) else .error (.truncated 0)) false [] 300 ((mk_57.drop 122).take 2) = true := by decide +kernel
theorem mzk_58 : mz_ck0 5 (decode prog_7_method_38_code) false [] 0 mk_58 = true := by decide +kernel
theorem mzk_59 : mz_ck0 5 (decode prog_7_method_41_code) false [] 0 mk_59 = true := by decide +kernel
theorem mzk_60 : mz_ck0 3 (decode prog_5_method_30_code) false [] 0 mk_60 = true := by decide +kernel
theorem mzk_61 : mz_ck0 8 (decode prog_10_method_3_code) false [] 0 mk_61 = true := by decide +kernel
theorem mzk_62 : mz_ck0 9 (decode prog_11_method_16_code) false [] 0 mk_62 = true := by decide +kernel
theorem mzk_63 : mz_ck0 1 (decode prog_3_method_14_code) false [] 0 mk_63 = true := by decide +kernel
theorem mzk_64 : mz_ck0 1 (decode prog_3_method_19_code) false [] 0 mk_64 = true := by decide +kernel
theorem mzk_65 : mz_ck0 1 (decode prog_3_method_22_code) false [] 0 mk_65 = true := by decide +kernel
theorem mzk_66 : mz_ck0 2 (decode prog_4_method_30_code) false [] 0 mk_66 = true := by decide +kernel
theorem mzk_67 : mz_ck0 2 (decode prog_4_method_33_code) false [] 0 mk_67 = true := by decide +kernel
theorem mzk_68 : mz_ck0 2 (decode prog_4_method_5_code) false [] 0 mk_68 = true := by decide +kernel
theorem mzk_69 : mz_ck0 0 (decode prog_2_method_5_code) false [] 0 mk_69 = true := by decide +kernel
theorem mzk_70 : mz_ck0 0 (decode prog_2_method_20_code) false [] 0 mk_70 = true := by decide +kernel
theorem mzk_71 : mz_ck0 0 (decode prog_2_method_6_code) false [] 0 mk_71 = true := by decide +kernel
theorem mzk_72 : mz_ck0 10 (decode prog_12_method_6_code) false [] 0 mk_72 = true := by decide +kernel
theorem mzk_73 : mz_ck0 6 (decode prog_8_method_14_code) false [] 0 mk_73 = true := by decide +kernel
theorem mzk_74 : mz_ck0 6 (decode prog_8_method_13_code) false [] 0 mk_74 = true := by decide +kernel
theorem mzk_75 : mz_ck0 8 (decode prog_10_method_5_code) false [] 0 mk_75 = true := by decide +kernel
theorem mzk_76 : mz_ck0 6 (decode prog_8_method_5_code) false [] 0 mk_76 = true := by decide +kernel
theorem mzk_77 : mz_ck0 5 (decode prog_7_method_25_code) false [] 0 mk_77 = true := by decide +kernel
theorem mzk_78 : mz_ck0 5 (decode prog_7_method_23_code) false [] 0 mk_78 = true := by decide +kernel
theorem mzk_79 : mz_ck0 5 (decode prog_7_method_24_code) false [] 0 mk_79 = true := by decide +kernel
theorem mzk_80 : mz_ck0 5 (decode prog_7_method_7_code) false [] 0 mk_80 = true := by decide +kernel
theorem mzk_81 : mz_ck0 5 (decode prog_7_method_6_code) false [] 0 mk_81 = true := by decide +kernel

/-! THE PROGRAM (8): written by program: the small code is the bytes' own. -/
theorem mzk_82 : mz_ck0 5 (decode prog_7_method_26_code) false [] 0 mk_82 = true := by decide +kernel
theorem mzk_83 : mz_ck0 5 (decode prog_7_method_27_code) false [] 0 mk_83 = true := by decide +kernel
theorem mzk_84 : mz_ck0 5 (decode prog_7_method_4_code) false [] 0 mk_84 = true := by decide +kernel
theorem mzk_85 : mz_ck0 5 (decode prog_7_method_5_code) false [] 0 mk_85 = true := by decide +kernel
theorem mzk_86 : mz_ck0 5 (decode prog_7_method_28_code) false [] 0 mk_86 = true := by decide +kernel
theorem mzk_87 : mz_ck0 5 (decode prog_7_method_29_code) false [] 0 mk_87 = true := by decide +kernel
theorem mzk_88 : mz_ck0 5 (decode prog_7_method_30_code) false [] 0 mk_88 = true := by decide +kernel
theorem mzk_89 : mz_ck0 5 (decode prog_7_method_31_code) false [] 0 mk_89 = true := by decide +kernel
theorem mzk_90 : mz_ck0 5 (decode prog_7_method_12_code) false [] 0 mk_90 = true := by decide +kernel
theorem mzk_91 : mz_ck0 11 (decode prog_1_method_62_code) false [] 0 mk_91 = true := by decide +kernel
theorem mzk_92 : mz_ck0 8 (decode prog_10_method_18_code) false [] 0 mk_92 = true := by decide +kernel
theorem mzk_93 : mz_ck0 8 (decode prog_10_method_22_code) false [] 0 mk_93 = true := by decide +kernel
theorem mzk_94 : mz_ck0 8 (decode prog_10_method_19_code) false [] 0 mk_94 = true := by decide +kernel
theorem mzk_95 : mz_ck0 8 (decode prog_10_method_21_code) false [] 0 mk_95 = true := by decide +kernel
theorem mzk_96 : mz_ck0 8 (decode prog_10_method_13_code) false [] 0 mk_96 = true := by decide +kernel
theorem mzk_97 : mz_ck0 8 (decode prog_10_method_20_code) false [] 0 mk_97 = true := by decide +kernel
theorem mzk_98 : mz_ck0 8 (decode prog_10_method_7_code) false [] 0 mk_98 = true := by decide +kernel
theorem mzk_99 : mz_ck0 8 (decode prog_10_method_23_code) false [] 0 mk_99 = true := by decide +kernel
theorem mzk_100 : mz_ck0 11 (decode prog_1_method_63_code) false [] 0 mk_100 = true := by decide +kernel
theorem mzk_101 : mz_ck0 13 (decode method_2_code) false [] 0 mk_101 = true := by decide +kernel
theorem mzk_102 : mz_ck0 13 (decode method_3_code) false [(0, 9, 12, 13), (0, 9, 15, 15)] 0 mk_102 = true := by decide +kernel
theorem mzk_103 : mz_ck0 11 (decode prog_1_method_7_code) false [] 0 mk_103 = true := by decide +kernel
theorem mzk_104 : mz_ck0 11 (decode prog_1_method_2_code) false [] 0 mk_104 = true := by decide +kernel
theorem mzk_105 : mz_ck0 11 (decode prog_1_method_3_code) false [] 0 mk_105 = true := by decide +kernel
theorem mzk_106 : mz_ck0 13 (decode method_4_code) false [(0, 18, 21, 13), (0, 18, 25, 15)] 0 mk_106 = true := by decide +kernel

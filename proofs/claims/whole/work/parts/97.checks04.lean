/-! THE PROGRAM (8): written by program: the small code is the bytes' own. -/
theorem mzk_107 : mz_ck0 11 (decode prog_1_method_8_code) false [] 0 mk_107 = true := by decide +kernel
theorem mzk_108 : mz_ck0 5 (decode prog_7_method_13_code) false [] 0 mk_108 = true := by decide +kernel
theorem mzk_109 : mz_ck0 5 (decode prog_7_method_9_code) false [] 0 mk_109 = true := by decide +kernel
theorem mzk_110 : mz_ck0 13 (decode method_5_code) false [(0, 9, 12, 13), (0, 9, 15, 15)] 0 mk_110 = true := by decide +kernel
theorem mzk_111 : mz_ck0 11 (decode prog_1_method_9_code) false [] 0 mk_111 = true := by decide +kernel
theorem mzk_112 : mz_ck0 5 (decode prog_7_method_16_code) false [] 0 mk_112 = true := by decide +kernel
theorem mzk_113 : mz_ck0 5 (decode prog_7_method_15_code) false [] 0 mk_113 = true := by decide +kernel
theorem mzk_114 : mz_ck0 5 (decode prog_7_method_14_code) false [] 0 mk_114 = true := by decide +kernel
theorem mzk_115 : mz_ck0 5 (decode prog_7_method_19_code) false [] 0 mk_115 = true := by decide +kernel
theorem mzk_116 : mz_ck0 5 (decode prog_7_method_20_code) false [] 0 mk_116 = true := by decide +kernel
theorem mzk_117 : mz_ck0 4 (decode prog_6_method_3_code) false [] 0 mk_117 = true := by decide +kernel
theorem mzk_118 : mz_ck0 5 (decode prog_7_method_21_code) false [] 0 mk_118 = true := by decide +kernel
theorem mzk_119 : mz_ck0 4 (decode prog_6_method_4_code) false [] 0 mk_119 = true := by decide +kernel
theorem mzk_120 : mz_ck0 5 (decode prog_7_method_22_code) false [] 0 mk_120 = true := by decide +kernel
theorem mzk_121 : mz_ck0 4 (decode prog_6_method_5_code) false [] 0 mk_121 = true := by decide +kernel
def mw_122_0 : ByteArray := .mk #[45, 21, 4, 21, 4, 16, 28, 96, 3, 184, 0, 162, 27, 170, 0, 0, 0, 0, 1, 25, 0, 0, 0, 1, 0, 0, 0, 14, 0, 0, 0, 71, 0, 0, 0, 85, 0, 0, 0, 99, 0, 0, 0, 121, 0, 0, 0, 135, 0, 0, 0, 157, 0, 0, 0, 171, 0, 0, 0, 185, 0, 0, 0, 199, 0, 0, 0, 212, 0, 0, 0, 225, 0, 0, 0, 239, 0, 0, 0, 253, 0, 0, 1, 11, 42, 180, 0, 12, 28, 45, 21, 4, 182, 0, 168, 167, 0, 210, 42, 180, 0, 12, 28, 45, 21, 4, 182, 0, 172, 167, 0, 196, 42, 180, 0, 12, 180, 0, 175, 28, 16, 24, 104, 45, 21, 4, 16, 24, 184, 0, 178, 167, 0, 174, 42, 180, 0, 35, 28, 45, 21, 4, 182, 0, 184, 167, 0, 160, 42]
theorem mzw_122_0 : mz_winb prog_6_method_6_code.data.toList mw_122_0.data.toList 0 = true := by decide +kernel
theorem mzk_122_0 : mz_ck0 4 (fun z => if 0 ≤ z then decode mw_122_0 (z - 0) else .error (.truncated 0)) false [] 0 ((mk_122.drop 0).take 42) = true := by decide +kernel
def mw_122_1 : ByteArray := .mk #[42, 180, 0, 35, 180, 0, 187, 28, 16, 24, 104, 45, 21, 4, 16, 24, 184, 0, 178, 167, 0, 138, 42, 180, 0, 21, 28, 45, 21, 4, 182, 0, 190, 167, 0, 124, 42, 180, 0, 28, 28, 45, 21, 4, 182, 0, 193, 167, 0, 110, 42, 180, 0, 63, 28, 45, 21, 4, 182, 0, 196, 167, 0, 96, 42, 180, 0, 63, 45, 21, 4, 182, 0, 199, 167, 0, 83, 42, 180, 0, 63, 45, 21, 4, 182, 0, 202, 167, 0, 70, 42, 180, 0, 56, 28, 45, 21, 4, 182, 0, 205, 167, 0, 56, 42, 180, 0, 56, 28, 45, 21, 4, 182, 0, 208, 167, 0, 42, 42, 180, 0, 49, 28, 45, 21, 4, 182, 0, 211, 167, 0, 28, 42, 180, 0, 49, 28, 45, 21, 4, 182, 0, 214, 167, 0, 14, 42, 180, 0, 42, 28]
theorem mzw_122_1 : mz_winb prog_6_method_6_code.data.toList mw_122_1.data.toList 148 = true := by decide +kernel
theorem mzk_122_1 : mz_ck0 4 (fun z => if 148 ≤ z then decode mw_122_1 (z - 148) else .error (.truncated 0)) false [] 149 ((mk_122.drop 42).take 74) = true := by decide +kernel
def mw_122_2 : ByteArray := .mk #[0, 42, 28, 45, 21, 4, 182, 0, 217, 177]
theorem mzw_122_2 : mz_winb prog_6_method_6_code.data.toList mw_122_2.data.toList 296 = true := by decide +kernel
theorem mzk_122_2 : mz_ck0 4 (fun z => if 296 ≤ z then decode mw_122_2 (z - 296) else .error (.truncated 0)) false [] 299 ((mk_122.drop 116).take 4) = true := by decide +kernel
theorem mzk_123 : mz_ck0 5 (decode prog_7_method_37_code) false [] 0 mk_123 = true := by decide +kernel
theorem mzk_124 : mz_ck0 5 (decode prog_7_method_40_code) false [] 0 mk_124 = true := by decide +kernel
theorem mzk_125 : mz_ck0 3 (decode prog_5_method_29_code) false [] 0 mk_125 = true := by decide +kernel
theorem mzk_126 : mz_ck0 6 (decode prog_8_method_12_code) false [] 0 mk_126 = true := by decide +kernel
theorem mzk_127 : mz_ck0 9 (decode prog_11_method_15_code) false [] 0 mk_127 = true := by decide +kernel
theorem mzk_128 : mz_ck0 1 (decode prog_3_method_13_code) false [] 0 mk_128 = true := by decide +kernel
theorem mzk_129 : mz_ck0 1 (decode prog_3_method_18_code) false [] 0 mk_129 = true := by decide +kernel
theorem mzk_130 : mz_ck0 1 (decode prog_3_method_21_code) false [] 0 mk_130 = true := by decide +kernel
theorem mzk_131 : mz_ck0 2 (decode prog_4_method_29_code) false [] 0 mk_131 = true := by decide +kernel
theorem mzk_132 : mz_ck0 2 (decode prog_4_method_32_code) false [] 0 mk_132 = true := by decide +kernel
theorem mzk_133 : mz_ck0 0 (decode prog_2_method_17_code) false [] 0 mk_133 = true := by decide +kernel
theorem mzk_134 : mz_ck0 0 (decode prog_2_method_19_code) false [] 0 mk_134 = true := by decide +kernel
theorem mzk_135 : mz_ck0 10 (decode prog_12_method_8_code) false [] 0 mk_135 = true := by decide +kernel
theorem mzk_136 : mz_ck0 8 (decode prog_10_method_15_code) false [] 0 mk_136 = true := by decide +kernel

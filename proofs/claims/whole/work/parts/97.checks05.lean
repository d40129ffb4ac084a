/-! THE PROGRAM (8): written by program: the small code is the bytes' own. -/
theorem mzk_137 : mz_ck0 8 (decode prog_10_method_14_code) false [] 0 mk_137 = true := by decide +kernel
theorem mzk_138 : mz_ck0 8 (decode prog_10_method_10_code) false [] 0 mk_138 = true := by decide +kernel
theorem mzk_139 : mz_ck0 8 (decode prog_10_method_16_code) false [] 0 mk_139 = true := by decide +kernel
theorem mzk_140 : mz_ck0 13 (decode method_6_code) false [(0, 10, 13, 13), (0, 10, 17, 15)] 0 mk_140 = true := by decide +kernel
theorem mzk_141 : mz_ck0 11 (decode prog_1_method_10_code) false [] 0 mk_141 = true := by decide +kernel
theorem mzk_142 : mz_ck0 11 (decode prog_1_method_4_code) false [] 0 mk_142 = true := by decide +kernel
theorem mzk_143 : mz_ck0 5 (decode prog_7_method_17_code) false [] 0 mk_143 = true := by decide +kernel
theorem mzk_144 : mz_ck0 13 (decode method_7_code) false [(0, 12, 15, 13), (0, 12, 19, 15)] 0 mk_144 = true := by decide +kernel
theorem mzk_145 : mz_ck0 11 (decode prog_1_method_11_code) false [] 0 mk_145 = true := by decide +kernel
theorem mzk_146 : mz_ck0 5 (decode prog_7_method_18_code) false [] 0 mk_146 = true := by decide +kernel
theorem mzk_147 : mz_ck0 13 (decode method_8_code) false [(0, 10, 13, 13), (0, 10, 17, 15)] 0 mk_147 = true := by decide +kernel
theorem mzk_148 : mz_ck0 11 (decode prog_1_method_12_code) false [] 0 mk_148 = true := by decide +kernel
theorem mzk_149 : mz_ck0 13 (decode method_9_code) false [(0, 12, 15, 13), (0, 12, 19, 15)] 0 mk_149 = true := by decide +kernel
theorem mzk_150 : mz_ck0 11 (decode prog_1_method_13_code) false [] 0 mk_150 = true := by decide +kernel
theorem mzk_151 : mz_ck0 13 (decode method_10_code) false [(0, 8, 11, 15)] 0 mk_151 = true := by decide +kernel
theorem mzk_152 : mz_ck0 11 (decode prog_1_method_14_code) false [] 0 mk_152 = true := by decide +kernel
theorem mzk_153 : mz_ck0 13 (decode method_11_code) false [(0, 8, 11, 15)] 0 mk_153 = true := by decide +kernel
theorem mzk_154 : mz_ck0 11 (decode prog_1_method_15_code) false [] 0 mk_154 = true := by decide +kernel
theorem mzk_155 : mz_ck0 13 (decode method_12_code) false [(0, 10, 13, 13), (0, 10, 17, 15)] 0 mk_155 = true := by decide +kernel
theorem mzk_156 : mz_ck0 11 (decode prog_1_method_16_code) false [] 0 mk_156 = true := by decide +kernel
theorem mzk_157 : mz_ck0 3 (decode prog_5_method_5_code) false [] 0 mk_157 = true := by decide +kernel
theorem mzk_158 : mz_ck0 3 (decode prog_5_method_3_code) false [] 0 mk_158 = true := by decide +kernel
theorem mzk_159 : mz_ck0 3 (decode prog_5_method_4_code) false [] 0 mk_159 = true := by decide +kernel
theorem mzk_160 : mz_ck0 15 (decode prog_22_method_49_code) false [] 0 mk_160 = true := by decide +kernel
theorem mzk_161 : mz_ck0 13 (decode method_13_code) false [(0, 10, 13, 13), (0, 10, 17, 15)] 0 mk_161 = true := by decide +kernel
theorem mzk_162 : mz_ck0 11 (decode prog_1_method_17_code) false [] 0 mk_162 = true := by decide +kernel
theorem mzk_163 : mz_ck0 13 (decode method_14_code) false [(0, 12, 15, 13), (0, 12, 19, 15)] 0 mk_163 = true := by decide +kernel
theorem mzk_164 : mz_ck0 11 (decode prog_1_method_18_code) false [] 0 mk_164 = true := by decide +kernel
theorem mzk_165 : mz_ck0 5 (decode prog_7_method_32_code) false [] 0 mk_165 = true := by decide +kernel
theorem mzk_166 : mz_ck0 5 (decode prog_7_method_34_code) false [] 0 mk_166 = true := by decide +kernel
theorem mzk_167 : mz_ck0 5 (decode prog_7_method_33_code) false [] 0 mk_167 = true := by decide +kernel
theorem mzk_168 : mz_ck0 13 (decode method_15_code) false [(0, 12, 15, 13), (0, 12, 19, 15)] 0 mk_168 = true := by decide +kernel
theorem mzk_169 : mz_ck0 11 (decode prog_1_method_19_code) false [] 0 mk_169 = true := by decide +kernel
theorem mzk_170 : mz_ck0 5 (decode prog_7_method_2_code) false [] 0 mk_170 = true := by decide +kernel
theorem mzk_171 : mz_ck0 11 (decode prog_1_method_6_code) false [] 0 mk_171 = true := by decide +kernel
theorem mzk_172 : mz_ck0 13 (decode method_16_code) false [(0, 12, 15, 13), (0, 12, 19, 15)] 0 mk_172 = true := by decide +kernel
theorem mzk_173 : mz_ck0 11 (decode prog_1_method_20_code) false [] 0 mk_173 = true := by decide +kernel
theorem mzk_174 : mz_ck0 13 (decode method_17_code) false [(0, 10, 13, 13), (0, 10, 17, 15)] 0 mk_174 = true := by decide +kernel
theorem mzk_175 : mz_ck0 11 (decode prog_1_method_21_code) false [] 0 mk_175 = true := by decide +kernel
theorem mzk_176 : mz_ck0 13 (decode method_18_code) false [(0, 12, 15, 13), (0, 12, 19, 15)] 0 mk_176 = true := by decide +kernel
theorem mzk_177 : mz_ck0 11 (decode prog_1_method_22_code) false [] 0 mk_177 = true := by decide +kernel
theorem mzk_178 : mz_ck0 13 (decode method_19_code) false [(0, 12, 15, 13), (0, 12, 19, 15)] 0 mk_178 = true := by decide +kernel
theorem mzk_179 : mz_ck0 11 (decode prog_1_method_23_code) false [] 0 mk_179 = true := by decide +kernel
theorem mzk_180 : mz_ck0 13 (decode method_20_code) false [(0, 10, 13, 13), (0, 10, 17, 15)] 0 mk_180 = true := by decide +kernel
theorem mzk_181 : mz_ck0 11 (decode prog_1_method_24_code) false [] 0 mk_181 = true := by decide +kernel
theorem mzk_182 : mz_ck0 1 (decode prog_3_method_2_code) false [] 0 mk_182 = true := by decide +kernel
theorem mzk_183 : mz_ck0 13 (decode method_21_code) false [(0, 10, 13, 13), (0, 10, 17, 15)] 0 mk_183 = true := by decide +kernel
theorem mzk_184 : mz_ck0 11 (decode prog_1_method_25_code) false [] 0 mk_184 = true := by decide +kernel

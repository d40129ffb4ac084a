/-! THE PROGRAM (8): written by program: the small code is the bytes' own. -/
theorem mzk_185 : mz_ck0 13 (decode method_22_code) false [(0, 9, 12, 13), (0, 9, 15, 15)] 0 mk_185 = true := by decide +kernel
theorem mzk_186 : mz_ck0 11 (decode prog_1_method_26_code) false [] 0 mk_186 = true := by decide +kernel
theorem mzk_187 : mz_ck0 11 (decode prog_1_method_5_code) false [] 0 mk_187 = true := by decide +kernel
theorem mzk_188 : mz_ck0 13 (decode method_23_code) false [(0, 8, 11, 15)] 0 mk_188 = true := by decide +kernel
theorem mzk_189 : mz_ck0 11 (decode prog_1_method_27_code) false [] 0 mk_189 = true := by decide +kernel
theorem mzk_190 : mz_ck0 13 (decode method_24_code) false [(0, 8, 11, 15)] 0 mk_190 = true := by decide +kernel
theorem mzk_191 : mz_ck0 11 (decode prog_1_method_28_code) false [] 0 mk_191 = true := by decide +kernel
theorem mzk_192 : mz_ck0 6 (decode prog_8_method_4_code) false [] 0 mk_192 = true := by decide +kernel
theorem mzk_193 : mz_ck0 13 (decode method_25_code) false [(0, 9, 12, 13), (0, 9, 15, 15)] 0 mk_193 = true := by decide +kernel
theorem mzk_194 : mz_ck0 11 (decode prog_1_method_29_code) false [] 0 mk_194 = true := by decide +kernel
theorem mzk_195 : mz_ck0 13 (decode method_26_code) false [(0, 9, 12, 13), (0, 9, 15, 15)] 0 mk_195 = true := by decide +kernel
theorem mzk_196 : mz_ck0 11 (decode prog_1_method_30_code) false [] 0 mk_196 = true := by decide +kernel
theorem mzk_197 : mz_ck0 13 (decode method_27_code) false [(0, 9, 12, 13), (0, 9, 15, 15)] 0 mk_197 = true := by decide +kernel
theorem mzk_198 : mz_ck0 11 (decode prog_1_method_31_code) false [] 0 mk_198 = true := by decide +kernel
theorem mzk_199 : mz_ck0 11 (decode prog_1_method_73_code) false [] 0 mk_199 = true := by decide +kernel
theorem mzk_200 : mz_ck0 1 (decode prog_3_method_5_code) false [] 0 mk_200 = true := by decide +kernel
theorem mzk_201 : mz_ck0 11 (decode prog_1_method_74_code) false [] 0 mk_201 = true := by decide +kernel
theorem mzk_202 : mz_ck0 2 (decode prog_4_method_23_code) false [] 0 mk_202 = true := by decide +kernel
theorem mzk_203 : mz_ck0 2 (decode prog_4_method_24_code) false [] 0 mk_203 = true := by decide +kernel
theorem mzk_204 : mz_ck0 2 (decode prog_4_method_19_code) false [] 0 mk_204 = true := by decide +kernel
theorem mzk_205 : mz_ck0 11 (decode prog_1_method_75_code) false [] 0 mk_205 = true := by decide +kernel
theorem mzk_206 : mz_ck0 2 (decode prog_4_method_20_code) false [] 0 mk_206 = true := by decide +kernel
theorem mzk_207 : mz_ck0 2 (decode prog_4_method_21_code) false [] 0 mk_207 = true := by decide +kernel
def mw_208_0 : ByteArray := .mk #[42, 180, 0, 25, 180, 0, 236, 180, 0, 240, 154, 0, 4, 177, 3, 61, 28, 16, 10, 162, 0, 127, 42, 180, 0, 20, 180, 2, 38, 28, 46, 62, 29, 2, 159, 0, 7, 4, 167, 0, 4, 3, 54, 4, 42, 180, 0, 67, 16, 16, 28, 96, 21, 4, 153, 0, 19, 42, 180, 0, 35, 42, 180, 0, 20, 29, 182, 0, 167, 136, 167, 0, 4, 3, 79, 42, 180, 0, 67, 16, 26, 28, 96, 21, 4, 153, 0, 19, 42, 180, 0, 35, 42, 180, 0, 20, 29, 182, 2, 41, 136, 167, 0, 4, 3, 79, 42, 180, 0, 67, 16, 36, 28, 96, 21, 4, 153, 0, 22, 42, 180, 0, 35, 42, 180, 0, 20, 29, 182, 1, 62, 153, 0, 7, 4, 167, 0, 4, 3, 79, 132, 2, 1, 167, 255, 129, 42, 180, 0, 67]
theorem mzw_208_0 : mz_winb prog_1_method_76_code.data.toList mw_208_0.data.toList 0 = true := by decide +kernel
theorem mzk_208_0 : mz_ck0 11 (fun z => if 0 ≤ z then decode mw_208_0 (z - 0) else .error (.truncated 0)) false [] 0 ((mk_208.drop 0).take 80) = true := by decide +kernel
def mw_208_1 : ByteArray := .mk #[0, 67, 16, 46, 42, 180, 0, 35, 42, 180, 0, 20, 182, 2, 44, 153, 0, 7, 4, 167, 0, 4, 3, 79, 42, 180, 0, 67, 16, 47, 42, 180, 0, 35, 180, 0, 201, 27, 46, 79, 42, 180, 0, 67, 16, 48, 27, 79, 42, 180, 0, 67, 16, 49, 42, 180, 0, 55, 180, 0, 251, 17, 0, 240, 112, 79, 42, 180, 0, 67, 16, 50, 42, 180, 0, 30, 180, 1, 19, 79, 42, 180, 0, 67, 16, 51, 42, 180, 0, 30, 182, 2, 48, 79, 42, 180, 0, 67, 16, 52, 42, 180, 0, 30, 180, 1, 2, 153, 0, 7, 4, 167, 0, 4, 3, 79, 42, 180, 0, 25, 182, 2, 51, 177]
theorem mzw_208_1 : mz_winb prog_1_method_76_code.data.toList mw_208_1.data.toList 148 = true := by decide +kernel
theorem mzk_208_1 : mz_ck0 11 (fun z => if 148 ≤ z then decode mw_208_1 (z - 148) else .error (.truncated 0)) false [] 150 ((mk_208.drop 80).take 63) = true := by decide +kernel
theorem mzk_209 : mz_ck0 3 (decode prog_5_method_6_code) false [] 0 mk_209 = true := by decide +kernel
theorem mzk_210 : mz_ck0 3 (decode prog_5_method_8_code) false [] 0 mk_210 = true := by decide +kernel
theorem mzk_211 : mz_ck0 3 (decode prog_5_method_9_code) false [] 0 mk_211 = true := by decide +kernel
theorem mzk_212 : mz_ck0 9 (decode prog_11_method_5_code) false [] 0 mk_212 = true := by decide +kernel
theorem mzk_213 : mz_ck0 6 (decode prog_8_method_6_code) false [] 0 mk_213 = true := by decide +kernel
theorem mzk_214 : mz_ck0 6 (decode prog_8_method_7_code) false [] 0 mk_214 = true := by decide +kernel
theorem mzk_215 : mz_ck0 6 (decode prog_8_method_11_code) false [] 0 mk_215 = true := by decide +kernel
theorem mzk_216 : mz_ck0 6 (decode prog_8_method_8_code) false [] 0 mk_216 = true := by decide +kernel
theorem mzk_217 : mz_ck0 6 (decode prog_8_method_9_code) false [] 0 mk_217 = true := by decide +kernel
theorem mzk_218 : mz_ck0 6 (decode prog_8_method_10_code) false [] 0 mk_218 = true := by decide +kernel

/-! THE PROGRAM (8): written by program: the small code is the bytes' own. -/
def mw_239_0 : ByteArray := .mk #[43, 180, 0, 100, 54, 5, 9, 55, 6, 3, 54, 8, 21, 8, 21, 5, 162, 0, 103, 43, 180, 0, 73, 5, 50, 21, 8, 46, 54, 9, 43, 180, 0, 73, 6, 50, 21, 8, 46, 54, 10, 20, 0, 137, 21, 9, 133, 105, 21, 10, 16, 10, 162, 0, 11, 25, 4, 21, 10, 46, 167, 0, 6, 17, 0, 150, 133, 105, 42, 180, 0, 37, 21, 8, 47, 101, 55, 11, 42, 180, 0, 43, 21, 8, 20, 0, 139, 21, 9, 133, 105, 9, 22, 11, 184, 0, 141, 184, 0, 144, 80, 22, 6, 42, 180, 0, 43, 21, 8, 47, 97, 55, 6, 132, 8, 1, 167, 255, 152, 42, 180, 0, 43, 21, 5, 17, 1, 44, 17, 78, 32, 44, 180, 0, 147, 100, 184, 0, 150, 133, 80, 22, 6, 42, 180, 0, 43, 21, 5, 47]
theorem mzw_239_0 : mz_winb prog_5_method_16_code.data.toList mw_239_0.data.toList 0 = true := by decide +kernel
theorem mzk_239_0 : mz_ck0 3 (fun z => if 0 ≤ z then decode mw_239_0 (z - 0) else .error (.truncated 0)) false [] 0 ((mk_239.drop 0).take 81) = true := by decide +kernel
def mw_239_1 : ByteArray := .mk #[5, 47, 97, 55, 6, 45, 180, 0, 152, 3, 46, 133, 22, 6, 184, 0, 144, 55, 8, 22, 8, 42, 180, 0, 43, 21, 5, 4, 96, 42, 180, 0, 46, 42, 180, 0, 49, 184, 0, 157, 87, 3, 54, 10, 21, 10, 21, 5, 162, 0, 58, 42, 180, 0, 37, 21, 10, 92, 47, 42, 180, 0, 46, 21, 10, 47, 97, 80, 45, 180, 0, 161, 3, 50, 43, 180, 0, 73, 6, 50, 21, 10, 46, 16, 10, 184, 0, 150, 92, 46, 42, 180, 0, 46, 21, 10, 47, 136, 96, 79, 132, 10, 1, 167, 255, 197, 44, 89, 180, 0, 147, 42, 180, 0, 46, 21, 5, 47, 136, 96, 181, 0, 147, 45, 180, 0, 161, 3, 50, 16, 10, 92, 46, 42, 180, 0, 46, 21, 5, 47, 136, 96, 79, 45, 89, 180, 0, 164, 20, 0, 167]
theorem mzw_239_1 : mz_winb prog_5_method_16_code.data.toList mw_239_1.data.toList 148 = true := by decide +kernel
theorem mzk_239_1 : mz_ck0 3 (fun z => if 148 ≤ z then decode mw_239_1 (z - 148) else .error (.truncated 0)) false [] 150 ((mk_239.drop 81).take 89) = true := by decide +kernel
def mw_239_2 : ByteArray := .mk #[20, 0, 167, 22, 8, 105, 20, 0, 169, 97, 20, 0, 122, 109, 136, 96, 181, 0, 164, 44, 22, 8, 136, 181, 0, 171, 177]
theorem mzw_239_2 : mz_winb prog_5_method_16_code.data.toList mw_239_2.data.toList 296 = true := by decide +kernel
theorem mzk_239_2 : mz_ck0 3 (fun z => if 296 ≤ z then decode mw_239_2 (z - 296) else .error (.truncated 0)) false [] 299 ((mk_239.drop 170).take 14) = true := by decide +kernel
theorem mzk_240 : mz_ck0 1 (decode prog_3_method_6_code) false [] 0 mk_240 = true := by decide +kernel
theorem mzk_241 : mz_ck0 1 (decode prog_3_method_7_code) false [] 0 mk_241 = true := by decide +kernel
theorem mzk_242 : mz_ck0 3 (decode prog_5_method_17_code) false [] 0 mk_242 = true := by decide +kernel
theorem mzk_243 : mz_ck0 3 (decode prog_5_method_12_code) false [] 0 mk_243 = true := by decide +kernel
theorem mzk_244 : mz_ck0 3 (decode prog_5_method_18_code) false [] 0 mk_244 = true := by decide +kernel
theorem mzk_245 : mz_ck0 3 (decode prog_5_method_19_code) false [] 0 mk_245 = true := by decide +kernel
theorem mzk_246 : mz_ck0 3 (decode prog_5_method_20_code) false [] 0 mk_246 = true := by decide +kernel
theorem mzk_247 : mz_ck0 3 (decode prog_5_method_22_code) false [] 0 mk_247 = true := by decide +kernel
theorem mzk_248 : mz_ck0 3 (decode prog_5_method_23_code) false [] 0 mk_248 = true := by decide +kernel
theorem mzk_249 : mz_ck0 3 (decode prog_5_method_24_code) false [] 0 mk_249 = true := by decide +kernel
theorem mzk_250 : mz_ck0 3 (decode prog_5_method_21_code) false [] 0 mk_250 = true := by decide +kernel
theorem mzk_251 : mz_ck0 3 (decode prog_5_method_25_code) false [] 0 mk_251 = true := by decide +kernel
theorem mzk_252 : mz_ck0 3 (decode prog_5_method_26_code) false [] 0 mk_252 = true := by decide +kernel
theorem mzk_253 : mz_ck0 3 (decode prog_5_method_27_code) false [] 0 mk_253 = true := by decide +kernel
theorem mzk_254 : mz_ck0 3 (decode prog_5_method_28_code) false [] 0 mk_254 = true := by decide +kernel

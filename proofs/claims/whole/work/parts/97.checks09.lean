/-! THE PROGRAM (8): written by program: the small code is the bytes' own. -/
theorem mzk_255 : mz_ck0 11 (decode prog_1_method_80_code) false [] 0 mk_255 = true := by decide +kernel
theorem mzk_256 : mz_ck0 2 (decode prog_4_method_27_code) false [] 0 mk_256 = true := by decide +kernel
theorem mzk_257 : mz_ck0 2 (decode prog_4_method_28_code) false [] 0 mk_257 = true := by decide +kernel
theorem mzk_258 : mz_ck0 11 (decode prog_1_method_81_code) false [] 0 mk_258 = true := by decide +kernel
theorem mzk_259 : mz_ck0 2 (decode prog_4_method_3_code) false [] 0 mk_259 = true := by decide +kernel
theorem mzk_260 : mz_ck0 2 (decode prog_4_method_4_code) false [] 0 mk_260 = true := by decide +kernel
def mw_261_0 : ByteArray := .mk #[42, 180, 0, 55, 180, 0, 251, 60, 3, 61, 3, 62, 29, 16, 10, 162, 0, 112, 42, 180, 0, 20, 180, 2, 38, 29, 46, 54, 4, 21, 4, 2, 159, 0, 35, 42, 180, 0, 67, 29, 46, 133, 42, 180, 0, 35, 42, 180, 0, 20, 21, 4, 182, 0, 167, 101, 20, 2, 114, 148, 158, 0, 7, 4, 167, 0, 4, 3, 54, 5, 42, 180, 0, 40, 29, 42, 180, 0, 40, 29, 21, 5, 182, 2, 116, 27, 182, 2, 120, 28, 154, 0, 25, 21, 4, 2, 159, 0, 23, 42, 180, 0, 35, 42, 180, 0, 20, 21, 4, 182, 2, 124, 153, 0, 7, 4, 167, 0, 4, 3, 61, 132, 3, 1, 167, 255, 144, 42, 180, 0, 40, 16, 10, 42, 180, 0, 30, 180, 2, 76, 27, 182, 2, 120, 42, 180, 0, 40, 16, 11]
theorem mzw_261_0 : mz_winb prog_1_method_82_code.data.toList mw_261_0.data.toList 0 = true := by decide +kernel
theorem mzk_261_0 : mz_ck0 11 (fun z => if 0 ≤ z then decode mw_261_0 (z - 0) else .error (.truncated 0)) false [] 0 ((mk_261.drop 0).take 78) = true := by decide +kernel
def mw_261_1 : ByteArray := .mk #[16, 11, 42, 180, 0, 30, 180, 1, 28, 17, 0, 240, 161, 0, 7, 4, 167, 0, 4, 3, 27, 182, 2, 120, 42, 180, 0, 40, 16, 12, 42, 180, 0, 30, 5, 182, 2, 127, 27, 182, 2, 120, 42, 180, 0, 40, 16, 13, 42, 180, 0, 50, 182, 2, 130, 27, 182, 2, 120, 42, 180, 0, 40, 16, 14, 42, 180, 0, 30, 6, 182, 2, 127, 27, 182, 2, 120, 42, 180, 0, 40, 16, 15, 28, 27, 182, 2, 120, 42, 180, 0, 40, 16, 16, 42, 180, 0, 35, 42, 180, 0, 20, 182, 2, 44, 27, 182, 2, 120, 42, 180, 0, 40, 16, 17, 42, 180, 0, 35, 182, 2, 133, 27, 182, 2, 120, 177]
theorem mzw_261_1 : mz_winb prog_1_method_82_code.data.toList mw_261_1.data.toList 148 = true := by decide +kernel
theorem mzk_261_1 : mz_ck0 11 (fun z => if 148 ≤ z then decode mw_261_1 (z - 148) else .error (.truncated 0)) false [] 150 ((mk_261.drop 78).take 61) = true := by decide +kernel
theorem mzk_262 : mz_ck0 10 (decode prog_12_method_3_code) false [] 0 mk_262 = true := by decide +kernel
theorem mzk_263 : mz_ck0 10 (decode prog_12_method_4_code) false [] 0 mk_263 = true := by decide +kernel
theorem mzk_264 : mz_ck0 3 (decode prog_5_method_7_code) false [] 0 mk_264 = true := by decide +kernel
theorem mzk_265 : mz_ck0 9 (decode prog_11_method_11_code) false [] 0 mk_265 = true := by decide +kernel
theorem mzk_266 : mz_ck0 2 (decode prog_4_method_26_code) false [] 0 mk_266 = true := by decide +kernel
theorem mzk_267 : mz_ck0 3 (decode prog_5_method_10_code) false [] 0 mk_267 = true := by decide +kernel
theorem mzk_268 : mz_ck0 11 (decode prog_1_method_83_code) false [] 0 mk_268 = true := by decide +kernel
theorem mzk_269 : mz_ck0 11 (decode prog_1_method_84_code) false [] 0 mk_269 = true := by decide +kernel
theorem mzk_270 : mz_ck0 11 (decode prog_1_method_85_code) false [] 0 mk_270 = true := by decide +kernel
theorem mzk_271 : mz_ck0 10 (decode prog_12_method_7_code) false [] 0 mk_271 = true := by decide +kernel
theorem mzk_272 : mz_ck0 1 (decode prog_3_method_8_code) false [] 0 mk_272 = true := by decide +kernel
theorem mzk_273 : mz_ck0 1 (decode prog_3_method_9_code) false [] 0 mk_273 = true := by decide +kernel
theorem mzk_274 : mz_ck0 1 (decode prog_3_method_10_code) false [] 0 mk_274 = true := by decide +kernel
theorem mzk_275 : mz_ck0 1 (decode prog_3_method_12_code) false [] 0 mk_275 = true := by decide +kernel
theorem mzk_276 : mz_ck0 1 (decode prog_3_method_11_code) false [] 0 mk_276 = true := by decide +kernel
theorem mzk_277 : mz_ck0 11 (decode prog_1_method_86_code) false [] 0 mk_277 = true := by decide +kernel
theorem mzk_278 : mz_ck0 13 (decode method_28_code) false [(0, 16, 19, 15)] 0 mk_278 = true := by decide +kernel
theorem mzk_279 : mz_ck0 11 (decode prog_1_method_32_code) false [] 0 mk_279 = true := by decide +kernel
theorem mzk_280 : mz_ck0 13 (decode method_29_code) false [(0, 9, 12, 13), (0, 9, 15, 15)] 0 mk_280 = true := by decide +kernel
theorem mzk_281 : mz_ck0 11 (decode prog_1_method_33_code) false [] 0 mk_281 = true := by decide +kernel
theorem mzk_282 : mz_ck0 13 (decode method_30_code) false [(0, 16, 19, 13), (0, 16, 22, 15)] 0 mk_282 = true := by decide +kernel
theorem mzk_283 : mz_ck0 11 (decode prog_1_method_34_code) false [] 0 mk_283 = true := by decide +kernel
theorem mzk_284 : mz_ck0 13 (decode method_31_code) false [(0, 10, 13, 13), (0, 10, 17, 15)] 0 mk_284 = true := by decide +kernel
theorem mzk_285 : mz_ck0 11 (decode prog_1_method_35_code) false [] 0 mk_285 = true := by decide +kernel
theorem mzk_286 : mz_ck0 13 (decode method_32_code) false [(0, 9, 12, 13), (0, 9, 15, 15)] 0 mk_286 = true := by decide +kernel
theorem mzk_287 : mz_ck0 11 (decode prog_1_method_36_code) false [] 0 mk_287 = true := by decide +kernel

/-! THE PROGRAM (8): written by program: the small code is the bytes' own. -/
theorem mzk_288 : mz_ck0 13 (decode method_33_code) false [(0, 11, 14, 13), (0, 11, 18, 15)] 0 mk_288 = true := by decide +kernel
theorem mzk_289 : mz_ck0 11 (decode prog_1_method_37_code) false [] 0 mk_289 = true := by decide +kernel
theorem mzk_290 : mz_ck0 13 (decode method_34_code) false [(0, 17, 20, 13), (0, 17, 24, 15)] 0 mk_290 = true := by decide +kernel
theorem mzk_291 : mz_ck0 11 (decode prog_1_method_38_code) false [] 0 mk_291 = true := by decide +kernel
theorem mzk_292 : mz_ck0 13 (decode method_35_code) false [(0, 16, 19, 13), (0, 16, 22, 15)] 0 mk_292 = true := by decide +kernel
theorem mzk_293 : mz_ck0 11 (decode prog_1_method_39_code) false [] 0 mk_293 = true := by decide +kernel
theorem mzk_294 : mz_ck0 13 (decode method_36_code) false [(0, 8, 11, 15)] 0 mk_294 = true := by decide +kernel
theorem mzk_295 : mz_ck0 11 (decode prog_1_method_40_code) false [] 0 mk_295 = true := by decide +kernel
theorem mzk_296 : mz_ck0 13 (decode method_37_code) false [(0, 10, 13, 13), (0, 10, 17, 15)] 0 mk_296 = true := by decide +kernel
theorem mzk_297 : mz_ck0 11 (decode prog_1_method_41_code) false [] 0 mk_297 = true := by decide +kernel
theorem mzk_298 : mz_ck0 13 (decode method_38_code) false [(0, 10, 13, 13), (0, 10, 17, 15)] 0 mk_298 = true := by decide +kernel
theorem mzk_299 : mz_ck0 11 (decode prog_1_method_42_code) false [] 0 mk_299 = true := by decide +kernel
theorem mzk_300 : mz_ck0 0 (decode prog_2_method_3_code) false [] 0 mk_300 = true := by decide +kernel
theorem mzk_301 : mz_ck0 0 (decode prog_2_method_4_code) false [] 0 mk_301 = true := by decide +kernel
theorem mzk_302 : mz_ck0 13 (decode method_39_code) false [(0, 16, 19, 13), (0, 16, 23, 15)] 0 mk_302 = true := by decide +kernel
theorem mzk_303 : mz_ck0 11 (decode prog_1_method_43_code) false [] 0 mk_303 = true := by decide +kernel
theorem mzk_304 : mz_ck0 13 (decode method_40_code) false [(0, 10, 13, 13), (0, 10, 17, 15)] 0 mk_304 = true := by decide +kernel
theorem mzk_305 : mz_ck0 11 (decode prog_1_method_44_code) false [] 0 mk_305 = true := by decide +kernel
theorem mzk_306 : mz_ck0 0 (decode prog_2_method_8_code) false [] 0 mk_306 = true := by decide +kernel
theorem mzk_307 : mz_ck0 0 (decode prog_2_method_7_code) false [] 0 mk_307 = true := by decide +kernel
theorem mzk_308 : mz_ck0 0 (decode prog_2_method_12_code) false [] 0 mk_308 = true := by decide +kernel
theorem mzk_309 : mz_ck0 0 (decode prog_2_method_9_code) false [] 0 mk_309 = true := by decide +kernel
theorem mzk_310 : mz_ck0 0 (decode prog_2_method_11_code) false [] 0 mk_310 = true := by decide +kernel
theorem mzk_311 : mz_ck0 0 (decode prog_2_method_10_code) false [] 0 mk_311 = true := by decide +kernel
theorem mzk_312 : mz_ck0 0 (decode prog_2_method_13_code) false [] 0 mk_312 = true := by decide +kernel
theorem mzk_313 : mz_ck0 0 (decode prog_2_method_14_code) false [] 0 mk_313 = true := by decide +kernel
theorem mzk_314 : mz_ck0 0 (decode prog_2_method_15_code) false [] 0 mk_314 = true := by decide +kernel
theorem mzk_315 : mz_ck0 13 (decode method_41_code) false [(0, 9, 12, 13), (0, 9, 15, 15)] 0 mk_315 = true := by decide +kernel
theorem mzk_316 : mz_ck0 11 (decode prog_1_method_45_code) false [] 0 mk_316 = true := by decide +kernel
theorem mzk_317 : mz_ck0 13 (decode method_42_code) false [(0, 9, 12, 13), (0, 9, 15, 15)] 0 mk_317 = true := by decide +kernel
theorem mzk_318 : mz_ck0 11 (decode prog_1_method_46_code) false [] 0 mk_318 = true := by decide +kernel
theorem mzk_319 : mz_ck0 0 (decode prog_2_method_16_code) false [] 0 mk_319 = true := by decide +kernel
theorem mzk_320 : mz_ck0 13 (decode method_43_code) false [(0, 10, 13, 13), (0, 10, 17, 15)] 0 mk_320 = true := by decide +kernel
theorem mzk_321 : mz_ck0 11 (decode prog_1_method_47_code) false [] 0 mk_321 = true := by decide +kernel
theorem mzk_322 : mz_ck0 13 (decode method_44_code) false [(0, 12, 15, 13), (0, 12, 19, 15)] 0 mk_322 = true := by decide +kernel
theorem mzk_323 : mz_ck0 11 (decode prog_1_method_48_code) false [] 0 mk_323 = true := by decide +kernel
theorem mzk_324 : mz_ck0 10 (decode prog_12_method_5_code) false [] 0 mk_324 = true := by decide +kernel
theorem mzk_325 : mz_ck0 13 (decode method_45_code) false [(0, 9, 12, 13), (0, 9, 16, 15)] 0 mk_325 = true := by decide +kernel
theorem mzk_326 : mz_ck0 11 (decode prog_1_method_49_code) false [] 0 mk_326 = true := by decide +kernel
theorem mzk_327 : mz_ck0 13 (decode method_46_code) false [(0, 10, 13, 13), (0, 10, 17, 15)] 0 mk_327 = true := by decide +kernel
theorem mzk_328 : mz_ck0 11 (decode prog_1_method_50_code) false [] 0 mk_328 = true := by decide +kernel
theorem mzk_329 : mz_ck0 13 (decode method_47_code) false [(0, 8, 11, 15)] 0 mk_329 = true := by decide +kernel
theorem mzk_330 : mz_ck0 11 (decode prog_1_method_51_code) false [] 0 mk_330 = true := by decide +kernel
theorem mzk_331 : mz_ck0 2 (decode prog_4_method_6_code) false [] 0 mk_331 = true := by decide +kernel
theorem mzk_332 : mz_ck0 13 (decode method_48_code) false [(0, 10, 13, 13), (0, 10, 17, 15)] 0 mk_332 = true := by decide +kernel
theorem mzk_333 : mz_ck0 11 (decode prog_1_method_52_code) false [] 0 mk_333 = true := by decide +kernel
theorem mzk_334 : mz_ck0 2 (decode prog_4_method_8_code) false [] 0 mk_334 = true := by decide +kernel
theorem mzk_335 : mz_ck0 2 (decode prog_4_method_7_code) false [] 0 mk_335 = true := by decide +kernel
theorem mzk_336 : mz_ck0 13 (decode method_49_code) false [(0, 9, 12, 13), (0, 9, 15, 15)] 0 mk_336 = true := by decide +kernel
theorem mzk_337 : mz_ck0 11 (decode prog_1_method_53_code) false [] 0 mk_337 = true := by decide +kernel
theorem mzk_338 : mz_ck0 2 (decode prog_4_method_9_code) false [] 0 mk_338 = true := by decide +kernel
theorem mzk_339 : mz_ck0 2 (decode prog_4_method_10_code) false [] 0 mk_339 = true := by decide +kernel

/-! THE PROGRAM (8): written by program: the small code is the bytes' own. -/
theorem mzk_340 : mz_ck0 2 (decode prog_4_method_11_code) false [] 0 mk_340 = true := by decide +kernel
theorem mzk_341 : mz_ck0 2 (decode prog_4_method_14_code) false [] 0 mk_341 = true := by decide +kernel
theorem mzk_342 : mz_ck0 2 (decode prog_4_method_13_code) false [] 0 mk_342 = true := by decide +kernel
theorem mzk_343 : mz_ck0 2 (decode prog_4_method_16_code) false [] 0 mk_343 = true := by decide +kernel
theorem mzk_344 : mz_ck0 2 (decode prog_4_method_15_code) false [] 0 mk_344 = true := by decide +kernel
theorem mzk_345 : mz_ck0 2 (decode prog_4_method_12_code) false [] 0 mk_345 = true := by decide +kernel
theorem mzk_346 : mz_ck0 2 (decode prog_4_method_17_code) false [] 0 mk_346 = true := by decide +kernel
theorem mzk_347 : mz_ck0 13 (decode method_50_code) false [(0, 10, 13, 13), (0, 10, 17, 15)] 0 mk_347 = true := by decide +kernel
theorem mzk_348 : mz_ck0 11 (decode prog_1_method_54_code) false [] 0 mk_348 = true := by decide +kernel
theorem mzk_349 : mz_ck0 2 (decode prog_4_method_18_code) false [] 0 mk_349 = true := by decide +kernel
theorem mzk_350 : mz_ck0 13 (decode method_51_code) false [(0, 10, 13, 13), (0, 10, 17, 15)] 0 mk_350 = true := by decide +kernel
theorem mzk_351 : mz_ck0 11 (decode prog_1_method_55_code) false [] 0 mk_351 = true := by decide +kernel
theorem mzk_352 : mz_ck0 2 (decode prog_4_method_22_code) false [] 0 mk_352 = true := by decide +kernel
theorem mzk_353 : mz_ck0 13 (decode method_52_code) false [(0, 10, 13, 13), (0, 10, 17, 15)] 0 mk_353 = true := by decide +kernel
theorem mzk_354 : mz_ck0 11 (decode prog_1_method_56_code) false [] 0 mk_354 = true := by decide +kernel
theorem mzk_355 : mz_ck0 13 (decode method_53_code) false [(0, 10, 13, 13), (0, 10, 17, 15)] 0 mk_355 = true := by decide +kernel
theorem mzk_356 : mz_ck0 11 (decode prog_1_method_57_code) false [] 0 mk_356 = true := by decide +kernel
theorem mzk_357 : mz_ck0 13 (decode method_54_code) false [(0, 9, 12, 13), (0, 9, 16, 15)] 0 mk_357 = true := by decide +kernel
theorem mzk_358 : mz_ck0 11 (decode prog_1_method_58_code) false [] 0 mk_358 = true := by decide +kernel
theorem mzk_359 : mz_ck0 13 (decode method_55_code) false [(0, 8, 11, 13), (0, 8, 14, 15)] 0 mk_359 = true := by decide +kernel
theorem mzk_360 : mz_ck0 11 (decode prog_1_method_59_code) false [] 0 mk_360 = true := by decide +kernel
theorem mzk_361 : mz_ck0 13 (decode method_56_code) false [(0, 10, 13, 13), (0, 10, 17, 15)] 0 mk_361 = true := by decide +kernel
theorem mzk_362 : mz_ck0 11 (decode prog_1_method_60_code) false [] 0 mk_362 = true := by decide +kernel
theorem mzk_363 : mz_ck0 13 (decode method_57_code) false [(0, 5, 8, 13), (0, 5, 11, 15)] 0 mk_363 = true := by decide +kernel
theorem mzk_364 : mz_ck0 11 (decode prog_1_method_61_code) false [] 0 mk_364 = true := by decide +kernel
theorem mzk_365 : mz_ck0 13 (decode method_58_code) false [(0, 9, 12, 13), (0, 9, 15, 15)] 0 mk_365 = true := by decide +kernel
theorem mzk_366 : mz_ck0 11 (decode prog_1_method_64_code) false [] 0 mk_366 = true := by decide +kernel
theorem mzk_367 : mz_ck0 13 (decode method_59_code) false [(0, 12, 15, 13), (0, 12, 19, 15)] 0 mk_367 = true := by decide +kernel
theorem mzk_368 : mz_ck0 11 (decode prog_1_method_65_code) false [] 0 mk_368 = true := by decide +kernel
theorem mzk_369 : mz_ck0 13 (decode method_60_code) false [(0, 8, 11, 15)] 0 mk_369 = true := by decide +kernel
theorem mzk_370 : mz_ck0 11 (decode prog_1_method_66_code) false [] 0 mk_370 = true := by decide +kernel
theorem mzk_371 : mz_ck0 4 (decode prog_6_method_10_code) false [] 0 mk_371 = true := by decide +kernel
theorem mzk_372 : mz_ck0 13 (decode method_61_code) false [(0, 9, 12, 13), (0, 9, 15, 15)] 0 mk_372 = true := by decide +kernel
theorem mzk_373 : mz_ck0 11 (decode prog_1_method_67_code) false [] 0 mk_373 = true := by decide +kernel
theorem mzk_374 : mz_ck0 13 (decode method_62_code) false [(0, 9, 12, 13), (0, 9, 15, 15)] 0 mk_374 = true := by decide +kernel
theorem mzk_375 : mz_ck0 11 (decode prog_1_method_68_code) false [] 0 mk_375 = true := by decide +kernel
theorem mzk_376 : mz_ck0 13 (decode method_63_code) false [(0, 8, 11, 15)] 0 mk_376 = true := by decide +kernel
theorem mzk_377 : mz_ck0 11 (decode prog_1_method_69_code) false [] 0 mk_377 = true := by decide +kernel
theorem mzk_378 : mz_ck0 4 (decode prog_6_method_11_code) false [] 0 mk_378 = true := by decide +kernel
theorem mzk_379 : mz_ck0 13 (decode method_64_code) false [(0, 10, 13, 13), (0, 10, 17, 15)] 0 mk_379 = true := by decide +kernel
theorem mzk_380 : mz_ck0 11 (decode prog_1_method_70_code) false [] 0 mk_380 = true := by decide +kernel
theorem mzk_381 : mz_ck0 13 (decode method_65_code) false [(0, 8, 11, 15)] 0 mk_381 = true := by decide +kernel
theorem mzk_382 : mz_ck0 11 (decode prog_1_method_71_code) false [] 0 mk_382 = true := by decide +kernel
theorem mzk_383 : mz_ck0 13 (decode method_66_code) false [(0, 8, 11, 15)] 0 mk_383 = true := by decide +kernel
theorem mzk_384 : mz_ck0 11 (decode prog_1_method_72_code) false [] 0 mk_384 = true := by decide +kernel
theorem mzk_385 : mz_ck0 4 (decode prog_6_method_12_code) false [] 0 mk_385 = true := by decide +kernel
theorem mzk_386 : mz_ck0 4 (decode prog_6_method_13_code) false [] 0 mk_386 = true := by decide +kernel

/-! THE PROGRAM (8): written by program: the small code is the bytes' own. -/
theorem mzk_348 : mz_ck0 11 prog_1_method_54_code false [] 0 mk_348 = true := by decide +kernel
theorem mzk_349 : mz_ck0 2 prog_4_method_18_code false [] 0 mk_349 = true := by decide +kernel
theorem mzk_350 : mz_ck0 13 method_51_code false [(0, 10, 13, 13), (0, 10, 17, 15)] 0 mk_350 = true := by decide +kernel
theorem mzk_351 : mz_ck0 11 prog_1_method_55_code false [] 0 mk_351 = true := by decide +kernel
theorem mzk_352 : mz_ck0 2 prog_4_method_22_code false [] 0 mk_352 = true := by decide +kernel
theorem mzk_353 : mz_ck0 13 method_52_code false [(0, 10, 13, 13), (0, 10, 17, 15)] 0 mk_353 = true := by decide +kernel
theorem mzk_354 : mz_ck0 11 prog_1_method_56_code false [] 0 mk_354 = true := by decide +kernel
theorem mzk_355 : mz_ck0 13 method_53_code false [(0, 10, 13, 13), (0, 10, 17, 15)] 0 mk_355 = true := by decide +kernel
theorem mzk_356 : mz_ck0 11 prog_1_method_57_code false [] 0 mk_356 = true := by decide +kernel
theorem mzk_357 : mz_ck0 13 method_54_code false [(0, 9, 12, 13), (0, 9, 16, 15)] 0 mk_357 = true := by decide +kernel
theorem mzk_358 : mz_ck0 11 prog_1_method_58_code false [] 0 mk_358 = true := by decide +kernel
theorem mzk_359 : mz_ck0 13 method_55_code false [(0, 8, 11, 13), (0, 8, 14, 15)] 0 mk_359 = true := by decide +kernel
theorem mzk_360 : mz_ck0 11 prog_1_method_59_code false [] 0 mk_360 = true := by decide +kernel
theorem mzk_361 : mz_ck0 13 method_56_code false [(0, 10, 13, 13), (0, 10, 17, 15)] 0 mk_361 = true := by decide +kernel
theorem mzk_362 : mz_ck0 11 prog_1_method_60_code false [] 0 mk_362 = true := by decide +kernel
theorem mzk_363 : mz_ck0 13 method_57_code false [(0, 5, 8, 13), (0, 5, 11, 15)] 0 mk_363 = true := by decide +kernel
theorem mzk_364 : mz_ck0 11 prog_1_method_61_code false [] 0 mk_364 = true := by decide +kernel
theorem mzk_365 : mz_ck0 13 method_58_code false [(0, 9, 12, 13), (0, 9, 15, 15)] 0 mk_365 = true := by decide +kernel
theorem mzk_366 : mz_ck0 11 prog_1_method_64_code false [] 0 mk_366 = true := by decide +kernel
theorem mzk_367 : mz_ck0 13 method_59_code false [(0, 12, 15, 13), (0, 12, 19, 15)] 0 mk_367 = true := by decide +kernel
theorem mzk_368 : mz_ck0 11 prog_1_method_65_code false [] 0 mk_368 = true := by decide +kernel
theorem mzk_369 : mz_ck0 13 method_60_code false [(0, 8, 11, 15)] 0 mk_369 = true := by decide +kernel
theorem mzk_370 : mz_ck0 11 prog_1_method_66_code false [] 0 mk_370 = true := by decide +kernel
theorem mzk_371 : mz_ck0 4 prog_6_method_10_code false [] 0 mk_371 = true := by decide +kernel
theorem mzk_372 : mz_ck0 13 method_61_code false [(0, 9, 12, 13), (0, 9, 15, 15)] 0 mk_372 = true := by decide +kernel
theorem mzk_373 : mz_ck0 11 prog_1_method_67_code false [] 0 mk_373 = true := by decide +kernel
theorem mzk_374 : mz_ck0 13 method_62_code false [(0, 9, 12, 13), (0, 9, 15, 15)] 0 mk_374 = true := by decide +kernel
theorem mzk_375 : mz_ck0 11 prog_1_method_68_code false [] 0 mk_375 = true := by decide +kernel
theorem mzk_376 : mz_ck0 13 method_63_code false [(0, 8, 11, 15)] 0 mk_376 = true := by decide +kernel
theorem mzk_377 : mz_ck0 11 prog_1_method_69_code false [] 0 mk_377 = true := by decide +kernel
theorem mzk_378 : mz_ck0 4 prog_6_method_11_code false [] 0 mk_378 = true := by decide +kernel
theorem mzk_379 : mz_ck0 13 method_64_code false [(0, 10, 13, 13), (0, 10, 17, 15)] 0 mk_379 = true := by decide +kernel
theorem mzk_380 : mz_ck0 11 prog_1_method_70_code false [] 0 mk_380 = true := by decide +kernel
theorem mzk_381 : mz_ck0 13 method_65_code false [(0, 8, 11, 15)] 0 mk_381 = true := by decide +kernel
theorem mzk_382 : mz_ck0 11 prog_1_method_71_code false [] 0 mk_382 = true := by decide +kernel
theorem mzk_383 : mz_ck0 13 method_66_code false [(0, 8, 11, 15)] 0 mk_383 = true := by decide +kernel
theorem mzk_384 : mz_ck0 11 prog_1_method_72_code false [] 0 mk_384 = true := by decide +kernel
theorem mzk_385 : mz_ck0 4 prog_6_method_12_code false [] 0 mk_385 = true := by decide +kernel
theorem mzk_386 : mz_ck0 4 prog_6_method_13_code false [] 0 mk_386 = true := by decide +kernel
theorem mzk_387 : mz_ck0 4 prog_6_method_14_code false [] 0 mk_387 = true := by decide +kernel
theorem mzk_388 : mz_ck0 4 prog_6_method_8_code false [] 0 mk_388 = true := by decide +kernel
theorem mzk_389 : mz_ck0 5 prog_7_method_39_code false [] 0 mk_389 = true := by decide +kernel
theorem mzk_390 : mz_ck0 5 prog_7_method_42_code false [] 0 mk_390 = true := by decide +kernel
theorem mzk_391 : mz_ck0 4 prog_6_method_9_code false [] 0 mk_391 = true := by decide +kernel
theorem mzk_392 : mz_ck0 3 prog_5_method_31_code false [] 0 mk_392 = true := by decide +kernel
theorem mzk_393 : mz_ck0 8 prog_10_method_4_code false [] 0 mk_393 = true := by decide +kernel
theorem mzk_394 : mz_ck0 9 prog_11_method_17_code false [] 0 mk_394 = true := by decide +kernel
theorem mzk_395 : mz_ck0 1 prog_3_method_15_code false [] 0 mk_395 = true := by decide +kernel
theorem mzk_396 : mz_ck0 1 prog_3_method_16_code false [] 0 mk_396 = true := by decide +kernel
theorem mzk_397 : mz_ck0 1 prog_3_method_17_code false [] 0 mk_397 = true := by decide +kernel
theorem mzk_398 : mz_ck0 1 prog_3_method_20_code false [] 0 mk_398 = true := by decide +kernel
theorem mzk_399 : mz_ck0 1 prog_3_method_23_code false [] 0 mk_399 = true := by decide +kernel
theorem mzk_400 : mz_ck0 2 prog_4_method_31_code false [] 0 mk_400 = true := by decide +kernel
theorem mzk_401 : mz_ck0 2 prog_4_method_34_code false [] 0 mk_401 = true := by decide +kernel
theorem mzk_402 : mz_ck0 0 prog_2_method_18_code false [] 0 mk_402 = true := by decide +kernel
theorem mzk_403 : mz_ck0 0 prog_2_method_21_code false [] 0 mk_403 = true := by decide +kernel
theorem mzk_404 : mz_ck0 4 prog_6_method_15_code false [] 0 mk_404 = true := by decide +kernel
theorem mzk_405 : mz_ck0 4 prog_6_method_16_code false [] 0 mk_405 = true := by decide +kernel
theorem mzk_406 : mz_ck0 4 prog_6_method_17_code false [] 0 mk_406 = true := by decide +kernel
theorem mzk_407 : mz_ck0 8 prog_10_method_17_code false [] 0 mk_407 = true := by decide +kernel
theorem mzk_408 : mz_ck0 12 prog_14_method_1_code true [] 0 mk_408 = true := by decide +kernel
theorem mzk_409 : mz_ck0 12 prog_14_method_172_code false [] 0 mk_409 = true := by decide +kernel
theorem mzk_410 : mz_ck0 12 prog_14_method_165_code false [] 0 mk_410 = true := by decide +kernel
theorem mzk_411 : mz_ck0 12 prog_14_method_171_code false [] 0 mk_411 = true := by decide +kernel
theorem mzk_412 : mz_ck0 12 prog_14_method_170_code false [] 0 mk_412 = true := by decide +kernel
theorem mzk_413 : mz_ck0 12 prog_14_method_168_code false [] 0 mk_413 = true := by decide +kernel
theorem mzk_414 : mz_ck0 12 prog_14_method_186_code false [] 0 mk_414 = true := by decide +kernel
theorem mzk_415 : mz_ck0 12 prog_14_method_188_code false [] 0 mk_415 = true := by decide +kernel
theorem mzk_416 : mz_ck0 12 prog_14_method_187_code false [] 0 mk_416 = true := by decide +kernel
theorem mzk_417 : mz_ck0 12 prog_14_method_7_code false [] 0 mk_417 = true := by decide +kernel
theorem mzk_418 : mz_ck0 12 prog_14_method_189_code false [] 0 mk_418 = true := by decide +kernel
theorem mzk_419 : mz_ck0 12 prog_14_method_161_code false [] 0 mk_419 = true := by decide +kernel
theorem mzk_420 : mz_ck0 12 prog_14_method_159_code false [] 0 mk_420 = true := by decide +kernel

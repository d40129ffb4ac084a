/-! THE PROGRAM (8): written by program: the small code is the bytes' own. -/
theorem mzk_387 : mz_ck0 4 (decode prog_6_method_14_code) false [] 0 mk_387 = true := by decide +kernel
theorem mzk_388 : mz_ck0 4 (decode prog_6_method_8_code) false [] 0 mk_388 = true := by decide +kernel
theorem mzk_389 : mz_ck0 5 (decode prog_7_method_39_code) false [] 0 mk_389 = true := by decide +kernel
theorem mzk_390 : mz_ck0 5 (decode prog_7_method_42_code) false [] 0 mk_390 = true := by decide +kernel
theorem mzk_391 : mz_ck0 4 (decode prog_6_method_9_code) false [] 0 mk_391 = true := by decide +kernel
theorem mzk_392 : mz_ck0 3 (decode prog_5_method_31_code) false [] 0 mk_392 = true := by decide +kernel
theorem mzk_393 : mz_ck0 8 (decode prog_10_method_4_code) false [] 0 mk_393 = true := by decide +kernel
theorem mzk_394 : mz_ck0 9 (decode prog_11_method_17_code) false [] 0 mk_394 = true := by decide +kernel
theorem mzk_395 : mz_ck0 1 (decode prog_3_method_15_code) false [] 0 mk_395 = true := by decide +kernel
theorem mzk_396 : mz_ck0 1 (decode prog_3_method_16_code) false [] 0 mk_396 = true := by decide +kernel
theorem mzk_397 : mz_ck0 1 (decode prog_3_method_17_code) false [] 0 mk_397 = true := by decide +kernel
theorem mzk_398 : mz_ck0 1 (decode prog_3_method_20_code) false [] 0 mk_398 = true := by decide +kernel
theorem mzk_399 : mz_ck0 1 (decode prog_3_method_23_code) false [] 0 mk_399 = true := by decide +kernel
theorem mzk_400 : mz_ck0 2 (decode prog_4_method_31_code) false [] 0 mk_400 = true := by decide +kernel
theorem mzk_401 : mz_ck0 2 (decode prog_4_method_34_code) false [] 0 mk_401 = true := by decide +kernel
theorem mzk_402 : mz_ck0 0 (decode prog_2_method_18_code) false [] 0 mk_402 = true := by decide +kernel
theorem mzk_403 : mz_ck0 0 (decode prog_2_method_21_code) false [] 0 mk_403 = true := by decide +kernel
theorem mzk_404 : mz_ck0 4 (decode prog_6_method_15_code) false [] 0 mk_404 = true := by decide +kernel
theorem mzk_405 : mz_ck0 4 (decode prog_6_method_16_code) false [] 0 mk_405 = true := by decide +kernel
theorem mzk_406 : mz_ck0 4 (decode prog_6_method_17_code) false [] 0 mk_406 = true := by decide +kernel
theorem mzk_407 : mz_ck0 8 (decode prog_10_method_17_code) false [] 0 mk_407 = true := by decide +kernel
def mw_408_0 : ByteArray := .mk #[42, 183, 0, 1, 42, 17, 17, 48, 188, 10, 181, 0, 7, 42, 17, 0, 240, 188, 10, 181, 0, 13, 42, 17, 0, 240, 188, 10, 181, 0, 16, 42, 17, 0, 240, 188, 10, 181, 0, 19, 42, 17, 0, 240, 188, 10, 181, 0, 22, 42, 17, 0, 240, 188, 10, 181, 0, 25, 42, 17, 25, 0, 188, 10, 181, 0, 28, 42, 17, 0, 240, 188, 10, 181, 0, 31, 42, 17, 0, 240, 188, 10, 181, 0, 34, 42, 16, 10, 188, 10, 181, 0, 37, 42, 16, 10, 188, 10, 181, 0, 40, 42, 17, 0, 240, 188, 10, 181, 0, 43, 42, 16, 24, 188, 10, 181, 0, 46, 42, 16, 96, 188, 10, 181, 0, 49, 42, 16, 11, 188, 10, 181, 0, 52, 42, 16, 11, 188, 10, 181, 0, 55, 42, 6, 188, 10, 181, 0, 58, 42]
theorem mzw_408_0 : mz_winb prog_14_method_1_code.data.toList mw_408_0.data.toList 0 = true := by decide +kernel
theorem mzk_408_0 : mz_ck0 12 (fun z => if 0 ≤ z then decode mw_408_0 (z - 0) else .error (.truncated 0)) true [] 0 ((mk_408.drop 0).take 71) = true := by decide +kernel
def mw_408_1 : ByteArray := .mk #[58, 42, 6, 188, 10, 181, 0, 61, 42, 17, 0, 196, 188, 10, 181, 0, 64, 42, 17, 0, 196, 188, 10, 181, 0, 67, 42, 17, 1, 144, 188, 10, 181, 0, 70, 42, 17, 1, 144, 188, 10, 181, 0, 73, 42, 16, 13, 188, 10, 181, 0, 76, 42, 16, 13, 188, 10, 181, 0, 79, 42, 16, 16, 188, 10, 181, 0, 82, 42, 16, 64, 188, 11, 181, 0, 85, 42, 17, 0, 200, 188, 11, 181, 0, 89, 42, 17, 0, 240, 188, 11, 181, 0, 92, 42, 17, 0, 240, 188, 11, 181, 0, 95, 42, 17, 0, 240, 188, 11, 181, 0, 98, 42, 17, 0, 240, 188, 11, 181, 0, 101, 42, 17, 0, 240, 188, 11, 181, 0, 104, 42, 17, 0, 240, 188, 11, 181, 0, 107, 42, 17, 0, 240, 188, 11, 181, 0, 110, 42, 17, 0, 240]
theorem mzw_408_1 : mz_winb prog_14_method_1_code.data.toList mw_408_1.data.toList 148 = true := by decide +kernel
theorem mzk_408_1 : mz_ck0 12 (fun z => if 148 ≤ z then decode mw_408_1 (z - 148) else .error (.truncated 0)) true [] 150 ((mk_408.drop 71).take 69) = true := by decide +kernel
def mw_408_2 : ByteArray := .mk #[188, 11, 181, 0, 113, 42, 16, 40, 188, 11, 181, 0, 116, 42, 16, 40, 188, 11, 181, 0, 119, 42, 16, 41, 188, 11, 181, 0, 122, 42, 16, 41, 188, 11, 181, 0, 125, 42, 16, 11, 188, 10, 181, 0, 128, 42, 16, 11, 188, 4, 181, 0, 131, 42, 16, 11, 188, 10, 181, 0, 135, 42, 16, 11, 188, 4, 181, 0, 138, 42, 16, 11, 188, 4, 181, 0, 141, 42, 16, 10, 188, 10, 181, 0, 144, 42, 16, 10, 188, 10, 181, 0, 147, 42, 16, 18, 188, 4, 181, 0, 150, 42, 16, 32, 188, 10, 181, 0, 153, 42, 16, 32, 188, 11, 181, 0, 156, 42, 16, 8, 188, 4, 181, 0, 159, 42, 16, 8, 188, 10, 181, 0, 162, 42, 16, 8, 188, 10, 181, 0, 165, 42, 16, 8, 188, 10, 181, 0, 168, 42]
theorem mzw_408_2 : mz_winb prog_14_method_1_code.data.toList mw_408_2.data.toList 300 = true := by decide +kernel
theorem mzk_408_2 : mz_ck0 12 (fun z => if 300 ≤ z then decode mw_408_2 (z - 300) else .error (.truncated 0)) true [] 300 ((mk_408.drop 140).take 75) = true := by decide +kernel

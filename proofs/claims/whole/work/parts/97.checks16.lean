/-! THE PROGRAM (8): written by program: the small code is the bytes' own. -/
def mw_446_0 : ByteArray := .mk #[42, 180, 1, 72, 42, 180, 1, 248, 46, 60, 42, 180, 2, 4, 42, 180, 1, 248, 100, 61, 28, 5, 160, 0, 86, 42, 180, 1, 72, 42, 180, 1, 248, 4, 96, 46, 184, 2, 16, 153, 0, 69, 42, 180, 1, 72, 42, 180, 1, 248, 4, 96, 46, 16, 48, 100, 62, 27, 16, 115, 160, 0, 7, 29, 167, 0, 43, 27, 16, 119, 160, 0, 10, 16, 16, 29, 96, 167, 0, 30, 27, 16, 99, 160, 0, 10, 16, 26, 29, 96, 167, 0, 17, 27, 16, 100, 160, 0, 10, 16, 36, 29, 96, 167, 0, 4, 2, 172, 28, 4, 159, 0, 5, 2, 172, 27]
theorem mzw_446_0 : mz_winb prog_14_method_51_code.data.toList mw_446_0.data.toList 0 = true := by decide +kernel
theorem mzk_446_0 : mz_ck0 12 (fun z => if 0 ≤ z then decode mw_446_0 (z - 0) else .error (.truncated 0)) false [] 0 ((mk_446.drop 0).take 68) = true := by decide +kernel
def mw_446_1 : ByteArray := .mk #[170, 0, 0, 0, 0, 0, 0, 147, 0, 0, 0, 98, 0, 0, 0, 120, 0, 0, 0, 111, 0, 0, 0, 147, 0, 0, 0, 147, 0, 0, 0, 141, 0, 0, 0, 126, 0, 0, 0, 147, 0, 0, 0, 132, 0, 0, 0, 147, 0, 0, 0, 147, 0, 0, 0, 138, 0, 0, 0, 108, 0, 0, 0, 144, 0, 0, 0, 147, 0, 0, 0, 129, 0, 0, 0, 114, 0, 0, 0, 147, 0, 0, 0, 120, 0, 0, 0, 147, 0, 0, 0, 135, 0, 0, 0, 147, 0, 0, 0, 117, 0, 0, 0, 147, 0, 0, 0, 123, 16, 10, 172, 16, 11, 172, 16, 12, 172, 16, 13, 172, 16, 14, 172, 16, 15, 172, 16, 46, 172, 16, 47, 172, 16, 48, 172, 16, 49, 172, 16, 50, 172, 16, 51, 172, 16, 52, 172, 2, 172]
theorem mzw_446_1 : mz_winb prog_14_method_51_code.data.toList mw_446_1.data.toList 116 = true := by decide +kernel
theorem mzk_446_1 : mz_ck0 12 (fun z => if 116 ≤ z then decode mw_446_1 (z - 116) else .error (.truncated 0)) false [] 116 ((mk_446.drop 68).take 29) = true := by decide +kernel
theorem mzk_447 : mz_ck0 12 (decode prog_14_method_63_code) false [] 0 mk_447 = true := by decide +kernel
theorem mzk_448 : mz_ck0 12 (decode prog_14_method_61_code) false [] 0 mk_448 = true := by decide +kernel
theorem mzk_449 : mz_ck0 12 (decode prog_14_method_52_code) false [] 0 mk_449 = true := by decide +kernel
theorem mzk_450 : mz_ck0 12 (decode prog_14_method_60_code) false [] 0 mk_450 = true := by decide +kernel
theorem mzk_451 : mz_ck0 12 (decode prog_14_method_55_code) false [] 0 mk_451 = true := by decide +kernel
theorem mzk_452 : mz_ck0 12 (decode prog_14_method_56_code) false [] 0 mk_452 = true := by decide +kernel
theorem mzk_453 : mz_ck0 12 (decode prog_14_method_54_code) false [] 0 mk_453 = true := by decide +kernel
theorem mzk_454 : mz_ck0 12 (decode prog_14_method_53_code) false [] 0 mk_454 = true := by decide +kernel
theorem mzk_455 : mz_ck0 12 (decode prog_14_method_62_code) false [] 0 mk_455 = true := by decide +kernel
theorem mzk_456 : mz_ck0 12 (decode prog_14_method_57_code) false [] 0 mk_456 = true := by decide +kernel
theorem mzk_457 : mz_ck0 12 (decode prog_14_method_58_code) false [] 0 mk_457 = true := by decide +kernel
theorem mzk_458 : mz_ck0 12 (decode prog_14_method_59_code) false [] 0 mk_458 = true := by decide +kernel
theorem mzk_459 : mz_ck0 12 (decode prog_14_method_2_code) false [] 0 mk_459 = true := by decide +kernel
theorem mzk_460 : mz_ck0 12 (decode prog_14_method_23_code) false [] 0 mk_460 = true := by decide +kernel
theorem mzk_461 : mz_ck0 12 (decode prog_14_method_18_code) false [] 0 mk_461 = true := by decide +kernel
theorem mzk_462 : mz_ck0 12 (decode prog_14_method_4_code) false [] 0 mk_462 = true := by decide +kernel
theorem mzk_463 : mz_ck0 12 (decode prog_14_method_24_code) false [] 0 mk_463 = true := by decide +kernel
theorem mzk_464 : mz_ck0 12 (decode prog_14_method_21_code) false [] 0 mk_464 = true := by decide +kernel
theorem mzk_465 : mz_ck0 12 (decode prog_14_method_19_code) false [] 0 mk_465 = true := by decide +kernel
theorem mzk_466 : mz_ck0 12 (decode prog_14_method_3_code) false [] 0 mk_466 = true := by decide +kernel
theorem mzk_467 : mz_ck0 12 (decode prog_14_method_29_code) false [] 0 mk_467 = true := by decide +kernel
theorem mzk_468 : mz_ck0 12 (decode prog_14_method_27_code) false [] 0 mk_468 = true := by decide +kernel
theorem mzk_469 : mz_ck0 12 (decode prog_14_method_26_code) false [] 0 mk_469 = true := by decide +kernel
theorem mzk_470 : mz_ck0 12 (decode prog_14_method_25_code) false [] 0 mk_470 = true := by decide +kernel
theorem mzk_471 : mz_ck0 12 (decode prog_14_method_162_code) false [] 0 mk_471 = true := by decide +kernel
theorem mzk_472 : mz_ck0 12 (decode prog_14_method_163_code) false [] 0 mk_472 = true := by decide +kernel
theorem mzk_473 : mz_ck0 12 (decode prog_14_method_160_code) false [] 0 mk_473 = true := by decide +kernel

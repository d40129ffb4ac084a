/-! THE PROGRAM (8): written by program: the small code is the bytes' own. -/
def mw_477_3 : ByteArray := .mk #[42, 180, 0, 255, 28, 46, 133, 182, 3, 172, 42, 6, 4, 42, 180, 1, 2, 28, 51, 153, 0, 7, 10, 167, 0, 4, 9, 182, 3, 172, 42, 7, 7, 42, 180, 0, 249, 28, 46, 133, 182, 3, 172, 167, 0, 36, 42, 3, 4, 10, 182, 3, 172, 42, 4, 4, 42, 180, 0, 162, 28, 46, 133, 182, 3, 172, 42, 5, 4, 42, 180, 0, 165, 28, 46, 133, 182, 3, 172, 177]
theorem mzw_477_3 : mz_winb prog_14_method_167_code.data.toList mw_477_3.data.toList 448 = true := by decide +kernel
theorem mzk_477_3 : mz_ck0 12 (fun z => if 448 ≤ z then decode mw_477_3 (z - 448) else .error (.truncated 0)) false [] 449 ((mk_477.drop 253).take 51) = true := by decide +kernel
theorem mzk_478 : mz_ck0 12 (decode prog_14_method_30_code) false [] 0 mk_478 = true := by decide +kernel
theorem mzk_479 : mz_ck0 12 (decode prog_14_method_28_code) false [] 0 mk_479 = true := by decide +kernel
theorem mzk_480 : mz_ck0 12 (decode prog_14_method_31_code) false [] 0 mk_480 = true := by decide +kernel
theorem mzk_481 : mz_ck0 12 (decode prog_14_method_32_code) false [] 0 mk_481 = true := by decide +kernel
theorem mzk_482 : mz_ck0 12 (decode prog_14_method_33_code) false [] 0 mk_482 = true := by decide +kernel
theorem mzk_483 : mz_ck0 12 (decode prog_14_method_34_code) false [] 0 mk_483 = true := by decide +kernel
theorem mzk_484 : mz_ck0 12 (decode prog_14_method_5_code) false [] 0 mk_484 = true := by decide +kernel
theorem mzk_485 : mz_ck0 12 (decode prog_14_method_35_code) false [] 0 mk_485 = true := by decide +kernel
theorem mzk_486 : mz_ck0 12 (decode prog_14_method_36_code) false [] 0 mk_486 = true := by decide +kernel
theorem mzk_487 : mz_ck0 12 (decode prog_14_method_81_code) false [] 0 mk_487 = true := by decide +kernel
theorem mzk_488 : mz_ck0 12 (decode prog_14_method_80_code) false [] 0 mk_488 = true := by decide +kernel
theorem mzk_489 : mz_ck0 12 (decode prog_14_method_6_code) false [] 0 mk_489 = true := by decide +kernel
theorem mzk_490 : mz_ck0 12 (decode prog_14_method_37_code) false [] 0 mk_490 = true := by decide +kernel
theorem mzk_491 : mz_ck0 12 (decode prog_14_method_20_code) false [] 0 mk_491 = true := by decide +kernel
theorem mzk_492 : mz_ck0 12 (decode prog_14_method_38_code) false [] 0 mk_492 = true := by decide +kernel
theorem mzk_493 : mz_ck0 12 (decode prog_14_method_39_code) false [] 0 mk_493 = true := by decide +kernel
theorem mzk_494 : mz_ck0 12 (decode prog_14_method_164_code) false [] 0 mk_494 = true := by decide +kernel
theorem mzk_495 : mz_ck0 12 (decode prog_14_method_40_code) false [] 0 mk_495 = true := by decide +kernel
theorem mzk_496 : mz_ck0 12 (decode prog_14_method_41_code) false [] 0 mk_496 = true := by decide +kernel
theorem mzk_497 : mz_ck0 12 (decode prog_14_method_42_code) false [] 0 mk_497 = true := by decide +kernel
theorem mzk_498 : mz_ck0 12 (decode prog_14_method_43_code) false [] 0 mk_498 = true := by decide +kernel
theorem mzk_499 : mz_ck0 12 (decode prog_14_method_44_code) false [] 0 mk_499 = true := by decide +kernel
theorem mzk_500 : mz_ck0 12 (decode prog_14_method_45_code) false [] 0 mk_500 = true := by decide +kernel
theorem mzk_501 : mz_ck0 12 (decode prog_14_method_68_code) false [] 0 mk_501 = true := by decide +kernel
theorem mzk_502 : mz_ck0 12 (decode prog_14_method_69_code) false [] 0 mk_502 = true := by decide +kernel
theorem mzk_503 : mz_ck0 12 (decode prog_14_method_70_code) false [] 0 mk_503 = true := by decide +kernel
theorem mzk_504 : mz_ck0 12 (decode prog_14_method_71_code) false [] 0 mk_504 = true := by decide +kernel
theorem mzk_505 : mz_ck0 12 (decode prog_14_method_72_code) false [] 0 mk_505 = true := by decide +kernel
theorem mzk_506 : mz_ck0 12 (decode prog_14_method_83_code) false [] 0 mk_506 = true := by decide +kernel

/-! THE PROGRAM (8): written by program: the small code is the bytes' own. -/
theorem mzk_426 : mz_ck0 12 (decode prog_14_method_22_code) false [] 0 mk_426 = true := by decide +kernel
theorem mzk_427 : mz_ck0 12 (decode prog_14_method_14_code) false [] 0 mk_427 = true := by decide +kernel
theorem mzk_428 : mz_ck0 12 (decode prog_14_method_12_code) false [] 0 mk_428 = true := by decide +kernel
theorem mzk_429 : mz_ck0 12 (decode prog_14_method_13_code) false [] 0 mk_429 = true := by decide +kernel
theorem mzk_430 : mz_ck0 12 (decode prog_14_method_11_code) false [] 0 mk_430 = true := by decide +kernel
theorem mzk_431 : mz_ck0 12 (decode prog_14_method_10_code) false [] 0 mk_431 = true := by decide +kernel
theorem mzk_432 : mz_ck0 12 (decode prog_14_method_8_code) false [] 0 mk_432 = true := by decide +kernel
theorem mzk_433 : mz_ck0 12 (decode prog_14_method_9_code) false [] 0 mk_433 = true := by decide +kernel
theorem mzk_434 : mz_ck0 12 (decode prog_14_method_15_code) false [] 0 mk_434 = true := by decide +kernel
theorem mzk_435 : mz_ck0 12 (decode prog_14_method_17_code) false [] 0 mk_435 = true := by decide +kernel
theorem mzk_436 : mz_ck0 12 (decode prog_14_method_16_code) false [] 0 mk_436 = true := by decide +kernel
theorem mzk_437 : mz_ck0 12 (decode prog_14_method_67_code) false [] 0 mk_437 = true := by decide +kernel
theorem mzk_438 : mz_ck0 12 (decode prog_14_method_66_code) false [] 0 mk_438 = true := by decide +kernel
theorem mzk_439 : mz_ck0 12 (decode prog_14_method_64_code) false [] 0 mk_439 = true := by decide +kernel
def mw_440_0 : ByteArray := .mk #[42, 180, 1, 254, 42, 180, 2, 1, 162, 0, 30, 42, 180, 1, 72, 42, 180, 1, 254, 46, 16, 32, 160, 0, 16, 42, 89, 180, 1, 254, 4, 96, 181, 1, 254, 167, 255, 221, 42, 42, 180, 1, 254, 181, 1, 248, 42, 42, 180, 1, 254, 181, 2, 4, 42, 180, 1, 254, 42, 180, 2, 1, 160, 0, 9, 42, 3, 181, 2, 7, 177, 42, 180, 1, 72, 42, 180, 1, 254, 46, 60, 42, 27, 181, 2, 10, 27, 184, 2, 13, 153, 0, 62, 42, 4, 181, 2, 7, 42, 180, 2, 4, 42, 180, 2, 1, 162, 0, 196, 42, 180, 1, 72, 42, 180, 2, 4, 46, 184, 2, 13, 154, 0, 18, 42, 180, 1, 72, 42, 180, 2, 4, 46, 184, 2, 16, 153, 0, 166, 42, 89, 180, 2, 4, 4, 96, 181, 2, 4]
theorem mzw_440_0 : mz_winb prog_14_method_49_code.data.toList mw_440_0.data.toList 0 = true := by decide +kernel
theorem mzk_440_0 : mz_ck0 12 (fun z => if 0 ≤ z then decode mw_440_0 (z - 0) else .error (.truncated 0)) false [] 0 ((mk_440.drop 0).take 76) = true := by decide +kernel
def mw_440_1 : ByteArray := .mk #[4, 167, 255, 205, 27, 184, 2, 16, 153, 0, 119, 42, 5, 181, 2, 7, 42, 3, 181, 2, 19, 42, 180, 2, 4, 42, 180, 2, 1, 162, 0, 76, 42, 180, 1, 72, 42, 180, 2, 4, 46, 184, 2, 16, 153, 0, 61, 42, 42, 180, 2, 4, 42, 180, 1, 254, 100, 16, 6, 162, 0, 26, 16, 10, 42, 180, 2, 19, 104, 42, 180, 1, 72, 42, 180, 2, 4, 46, 96, 16, 48, 100, 167, 0, 7, 42, 180, 2, 19, 181, 2, 19, 42, 89, 180, 2, 4, 4, 96, 181, 2, 4, 167, 255, 175, 42, 180, 2, 4, 42, 180, 1, 254, 100, 16, 6, 164, 0, 38, 42, 7, 182, 2, 22, 167, 0, 30, 42, 6, 181, 2, 7, 42, 89, 180, 2, 4, 4, 96, 181, 2, 4, 27, 184, 2, 25, 154, 0, 8, 42, 4]
theorem mzw_440_1 : mz_winb prog_14_method_49_code.data.toList mw_440_1.data.toList 148 = true := by decide +kernel
theorem mzk_440_1 : mz_ck0 12 (fun z => if 148 ≤ z then decode mw_440_1 (z - 148) else .error (.truncated 0)) false [] 149 ((mk_440.drop 76).take 78) = true := by decide +kernel
def mw_440_2 : ByteArray := .mk #[8, 42, 4, 182, 2, 22, 42, 42, 180, 2, 4, 181, 1, 254, 177]
theorem mzw_440_2 : mz_winb prog_14_method_49_code.data.toList mw_440_2.data.toList 296 = true := by decide +kernel
theorem mzk_440_2 : mz_ck0 12 (fun z => if 296 ≤ z then decode mw_440_2 (z - 296) else .error (.truncated 0)) false [] 299 ((mk_440.drop 154).take 6) = true := by decide +kernel
theorem mzk_441 : mz_ck0 12 (decode prog_14_method_46_code) false [] 0 mk_441 = true := by decide +kernel
theorem mzk_442 : mz_ck0 12 (decode prog_14_method_47_code) false [] 0 mk_442 = true := by decide +kernel
theorem mzk_443 : mz_ck0 12 (decode prog_14_method_48_code) false [] 0 mk_443 = true := by decide +kernel
theorem mzk_444 : mz_ck0 12 (decode prog_14_method_50_code) false [] 0 mk_444 = true := by decide +kernel
theorem mzk_445 : mz_ck0 12 (decode prog_14_method_65_code) false [] 0 mk_445 = true := by decide +kernel

/-! THE PROGRAM (8): written by program: the small code is the bytes' own. -/
def mw_538_1 : ByteArray := .mk #[0, 12, 42, 180, 0, 131, 29, 51, 153, 0, 7, 4, 167, 0, 4, 3, 61, 132, 3, 1, 167, 255, 228, 28, 172, 42, 42, 180, 0, 95, 182, 2, 138, 3, 62, 29, 16, 10, 162, 0, 72, 42, 180, 0, 37, 29, 46, 156, 0, 7, 3, 167, 0, 9, 42, 180, 0, 37, 29, 46, 54, 4, 28, 154, 0, 35, 42, 180, 0, 37, 29, 46, 155, 0, 30, 42, 180, 1, 78, 21, 4, 47, 20, 1, 236, 42, 180, 0, 22, 21, 4, 46, 133, 105, 148, 158, 0, 7, 4, 167, 0, 4, 3, 61, 132, 3, 1, 167, 255, 184, 28, 172, 42, 42, 180, 0, 107, 182, 2, 138, 3, 62, 29, 42, 180, 1, 123, 162, 0, 40, 28, 154, 0, 24, 42, 180, 1, 78, 29, 47, 20, 1, 224, 42, 180, 0, 22, 29, 46, 133, 105, 148]
theorem mzw_538_1 : mz_winb prog_14_method_104_code.data.toList mw_538_1.data.toList 148 = true := by decide +kernel
theorem mzk_538_1 : mz_ck0 12 (fun z => if 148 ≤ z then decode mw_538_1 (z - 148) else .error (.truncated 0)) false [] 150 ((mk_538.drop 62).take 86) = true := by decide +kernel
def mw_538_2 : ByteArray := .mk #[158, 0, 7, 4, 167, 0, 4, 3, 61, 132, 3, 1, 167, 255, 214, 28, 172, 3, 62, 29, 17, 0, 240, 162, 0, 32, 28, 154, 0, 16, 42, 180, 0, 101, 29, 47, 20, 1, 228, 148, 155, 0, 7, 4, 167, 0, 4, 3, 61, 132, 3, 1, 167, 255, 223, 28, 172, 42, 180, 0, 147, 27, 46, 16, 30, 161, 0, 7, 4, 167, 0, 4, 3, 172]
theorem mzw_538_2 : mz_winb prog_14_method_104_code.data.toList mw_538_2.data.toList 300 = true := by decide +kernel
theorem mzk_538_2 : mz_ck0 12 (fun z => if 300 ≤ z then decode mw_538_2 (z - 300) else .error (.truncated 0)) false [] 300 ((mk_538.drop 148).take 41) = true := by decide +kernel
theorem mzk_539 : mz_ck0 12 (decode prog_14_method_118_code) false [] 0 mk_539 = true := by decide +kernel
theorem mzk_540 : mz_ck0 12 (decode prog_14_method_117_code) false [] 0 mk_540 = true := by decide +kernel
def mw_541_0 : ByteArray := .mk #[3, 60, 27, 16, 10, 162, 0, 16, 42, 180, 1, 32, 27, 9, 80, 132, 1, 1, 167, 255, 240, 9, 64, 9, 66, 3, 54, 5, 21, 5, 16, 11, 162, 0, 29, 31, 42, 180, 1, 23, 21, 5, 47, 97, 64, 33, 42, 180, 1, 26, 21, 5, 47, 97, 66, 132, 5, 1, 167, 255, 226, 42, 180, 3, 31, 42, 180, 0, 58, 3, 46, 133, 105, 20, 2, 142, 109, 55, 5, 31, 42, 180, 0, 58, 4, 46, 133, 105, 20, 2, 142, 109, 55, 7, 33, 42, 180, 0, 58, 5, 46, 133, 105, 20, 2, 142, 109, 55, 9, 22, 5, 20, 3, 72, 105, 20, 1, 232, 109, 55, 11, 42, 22, 11, 42, 180, 1, 20, 182, 3, 141, 42, 22, 5, 22, 11, 101, 182, 3, 145, 42, 22, 7, 42, 180, 1, 23, 182, 3, 141]
theorem mzw_541_0 : mz_winb prog_14_method_151_code.data.toList mw_541_0.data.toList 0 = true := by decide +kernel
theorem mzk_541_0 : mz_ck0 12 (fun z => if 0 ≤ z then decode mw_541_0 (z - 0) else .error (.truncated 0)) false [] 0 ((mk_541.drop 0).take 89) = true := by decide +kernel
def mw_541_1 : ByteArray := .mk #[3, 141, 42, 22, 9, 42, 180, 1, 26, 182, 3, 141, 42, 42, 180, 3, 107, 182, 3, 145, 42, 89, 180, 3, 149, 22, 5, 22, 7, 97, 22, 9, 97, 42, 180, 3, 107, 97, 101, 181, 3, 149, 3, 54, 13, 21, 13, 16, 11, 162, 0, 33, 42, 180, 1, 20, 21, 13, 9, 80, 42, 180, 1, 23, 21, 13, 9, 80, 42, 180, 1, 26, 21, 13, 9, 80, 132, 13, 1, 167, 255, 222, 42, 9, 181, 3, 31, 42, 9, 181, 3, 107, 3, 54, 13, 21, 13, 16, 10, 162, 0, 26, 42, 180, 1, 29, 21, 13, 92, 47, 42, 180, 1, 32, 21, 13, 47, 101, 80, 132, 13, 1, 167, 255, 229, 177]
theorem mzw_541_1 : mz_winb prog_14_method_151_code.data.toList mw_541_1.data.toList 148 = true := by decide +kernel
theorem mzk_541_1 : mz_ck0 12 (fun z => if 148 ≤ z then decode mw_541_1 (z - 148) else .error (.truncated 0)) false [] 150 ((mk_541.drop 89).take 69) = true := by decide +kernel
theorem mzk_542 : mz_ck0 12 (decode prog_14_method_152_code) false [] 0 mk_542 = true := by decide +kernel
theorem mzk_543 : mz_ck0 12 (decode prog_14_method_154_code) false [] 0 mk_543 = true := by decide +kernel
theorem mzk_544 : mz_ck0 12 (decode prog_14_method_153_code) false [] 0 mk_544 = true := by decide +kernel
theorem mzk_545 : mz_ck0 12 (decode prog_14_method_106_code) false [] 0 mk_545 = true := by decide +kernel
theorem mzk_546 : mz_ck0 12 (decode prog_14_method_108_code) false [] 0 mk_546 = true := by decide +kernel
theorem mzk_547 : mz_ck0 12 (decode prog_14_method_107_code) false [] 0 mk_547 = true := by decide +kernel
theorem mzk_548 : mz_ck0 12 (decode prog_14_method_109_code) false [] 0 mk_548 = true := by decide +kernel
theorem mzk_549 : mz_ck0 12 (decode prog_14_method_110_code) false [] 0 mk_549 = true := by decide +kernel
theorem mzk_550 : mz_ck0 12 (decode prog_14_method_111_code) false [] 0 mk_550 = true := by decide +kernel
theorem mzk_551 : mz_ck0 12 (decode prog_14_method_112_code) false [] 0 mk_551 = true := by decide +kernel
theorem mzk_552 : mz_ck0 12 (decode prog_14_method_113_code) false [] 0 mk_552 = true := by decide +kernel
theorem mzk_553 : mz_ck0 12 (decode prog_14_method_114_code) false [] 0 mk_553 = true := by decide +kernel
theorem mzk_554 : mz_ck0 12 (decode prog_14_method_115_code) false [] 0 mk_554 = true := by decide +kernel
theorem mzk_555 : mz_ck0 12 (decode prog_14_method_116_code) false [] 0 mk_555 = true := by decide +kernel
theorem mzk_556 : mz_ck0 12 (decode prog_14_method_82_code) false [] 0 mk_556 = true := by decide +kernel
theorem mzk_557 : mz_ck0 12 (decode prog_14_method_120_code) false [] 0 mk_557 = true := by decide +kernel
theorem mzk_558 : mz_ck0 12 (decode prog_14_method_119_code) false [] 0 mk_558 = true := by decide +kernel
theorem mzk_559 : mz_ck0 12 (decode prog_14_method_121_code) false [] 0 mk_559 = true := by decide +kernel
theorem mzk_560 : mz_ck0 12 (decode prog_14_method_124_code) false [] 0 mk_560 = true := by decide +kernel
theorem mzk_561 : mz_ck0 12 (decode prog_14_method_125_code) false [] 0 mk_561 = true := by decide +kernel

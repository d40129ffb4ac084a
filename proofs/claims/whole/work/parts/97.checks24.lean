/-! THE PROGRAM (8): written by program: the small code is the bytes' own. -/
theorem mzk_562 : mz_ck0 12 (decode prog_14_method_122_code) false [] 0 mk_562 = true := by decide +kernel
theorem mzk_563 : mz_ck0 12 (decode prog_14_method_127_code) false [] 0 mk_563 = true := by decide +kernel
theorem mzk_564 : mz_ck0 12 (decode prog_14_method_126_code) false [] 0 mk_564 = true := by decide +kernel
def mw_565_0 : ByteArray := .mk #[42, 27, 133, 9, 10, 184, 1, 171, 42, 180, 0, 207, 27, 4, 126, 47, 9, 148, 156, 0, 7, 4, 167, 0, 4, 3, 182, 1, 154, 153, 0, 5, 3, 172, 3, 61, 42, 20, 3, 36, 182, 3, 83, 62, 29, 155, 0, 104, 28, 16, 6, 162, 0, 98, 42, 180, 0, 183, 29, 46, 6, 159, 0, 29, 42, 180, 0, 231, 42, 180, 0, 183, 29, 46, 6, 112, 46, 42, 42, 180, 0, 183, 29, 46, 182, 3, 93, 164, 0, 7, 4, 167, 0, 4, 3, 54, 4, 42, 180, 0, 192, 29, 46, 156, 0, 32, 21, 4, 153, 0, 27, 42, 180, 0, 192, 29, 27, 79, 42, 180, 0, 216, 28, 29, 79, 42, 180, 0, 210, 28, 28, 79, 132, 2, 1, 42, 42, 180, 0, 189, 29, 47, 182, 3, 83, 62, 167, 255, 154, 28]
theorem mzw_565_0 : mz_winb prog_14_method_133_code.data.toList mw_565_0.data.toList 0 = true := by decide +kernel
theorem mzk_565_0 : mz_ck0 12 (fun z => if 0 ≤ z then decode mw_565_0 (z - 0) else .error (.truncated 0)) false [] 0 ((mk_565.drop 0).take 91) = true := by decide +kernel
def mw_565_1 : ByteArray := .mk #[154, 28, 154, 0, 5, 3, 172, 42, 28, 182, 3, 96, 62, 3, 54, 4, 21, 4, 28, 162, 0, 23, 42, 180, 0, 213, 21, 4, 42, 180, 0, 210, 21, 4, 46, 79, 132, 4, 1, 167, 255, 233, 42, 28, 182, 3, 99, 153, 0, 61, 42, 28, 182, 3, 96, 54, 4, 3, 54, 5, 21, 5, 28, 162, 0, 29, 21, 4, 29, 162, 0, 23, 42, 180, 0, 213, 21, 5, 42, 180, 0, 210, 21, 5, 46, 79, 132, 5, 1, 167, 255, 227, 21, 4, 29, 162, 0, 8, 21, 4, 167, 0, 4, 29, 62, 167, 255, 193, 42, 180, 2, 148, 55, 4, 2, 54, 6, 3, 54, 7, 21, 7, 28, 162, 0, 73, 42, 180, 0, 216, 42, 180, 0, 213, 21, 7, 46, 46, 54, 8, 22, 4, 42, 21, 6, 21, 8, 182, 3, 90, 133]
theorem mzw_565_1 : mz_winb prog_14_method_133_code.data.toList mw_565_1.data.toList 148 = true := by decide +kernel
theorem mzk_565_1 : mz_ck0 12 (fun z => if 148 ≤ z then decode mw_565_1 (z - 148) else .error (.truncated 0)) false [] 150 ((mk_565.drop 91).take 80) = true := by decide +kernel
def mw_565_2 : ByteArray := .mk #[3, 90, 133, 20, 2, 111, 97, 97, 55, 4, 42, 180, 0, 195, 16, 6, 27, 104, 21, 7, 96, 21, 8, 79, 42, 180, 0, 198, 16, 6, 27, 104, 21, 7, 96, 22, 4, 80, 21, 8, 54, 6, 132, 7, 1, 167, 255, 183, 42, 180, 0, 201, 27, 28, 79, 42, 180, 0, 204, 27, 3, 79, 42, 180, 0, 207, 27, 22, 4, 42, 21, 6, 2, 182, 3, 90, 133, 97, 80, 28, 172]
theorem mzw_565_2 : mz_winb prog_14_method_133_code.data.toList mw_565_2.data.toList 296 = true := by decide +kernel
theorem mzk_565_2 : mz_ck0 12 (fun z => if 296 ≤ z then decode mw_565_2 (z - 296) else .error (.truncated 0)) false [] 299 ((mk_565.drop 171).take 49) = true := by decide +kernel
theorem mzk_566 : mz_ck0 12 (decode prog_14_method_132_code) false [] 0 mk_566 = true := by decide +kernel
theorem mzk_567 : mz_ck0 12 (decode prog_14_method_131_code) false [] 0 mk_567 = true := by decide +kernel
theorem mzk_568 : mz_ck0 12 (decode prog_14_method_129_code) false [] 0 mk_568 = true := by decide +kernel
theorem mzk_569 : mz_ck0 12 (decode prog_14_method_128_code) false [] 0 mk_569 = true := by decide +kernel
theorem mzk_570 : mz_ck0 12 (decode prog_14_method_130_code) false [] 0 mk_570 = true := by decide +kernel
theorem mzk_571 : mz_ck0 12 (decode prog_14_method_134_code) false [] 0 mk_571 = true := by decide +kernel
theorem mzk_572 : mz_ck0 12 (decode prog_14_method_135_code) false [] 0 mk_572 = true := by decide +kernel
theorem mzk_573 : mz_ck0 12 (decode prog_14_method_138_code) false [] 0 mk_573 = true := by decide +kernel
theorem mzk_574 : mz_ck0 12 (decode prog_14_method_141_code) false [] 0 mk_574 = true := by decide +kernel
theorem mzk_575 : mz_ck0 12 (decode prog_14_method_140_code) false [] 0 mk_575 = true := by decide +kernel
theorem mzk_576 : mz_ck0 12 (decode prog_14_method_139_code) false [] 0 mk_576 = true := by decide +kernel

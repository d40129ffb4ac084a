/-! THE PROGRAM (8): written by program: the small code is the bytes' own. -/
theorem mzk_595 : mz_ck0 12 (decode prog_14_method_177_code) false [] 0 mk_595 = true := by decide +kernel
theorem mzk_596 : mz_ck0 12 (decode prog_14_method_179_code) false [] 0 mk_596 = true := by decide +kernel
theorem mzk_597 : mz_ck0 12 (decode prog_14_method_178_code) false [] 0 mk_597 = true := by decide +kernel
theorem mzk_598 : mz_ck0 12 (decode prog_14_method_182_code) false [] 0 mk_598 = true := by decide +kernel
theorem mzk_599 : mz_ck0 12 (decode prog_14_method_184_code) false [] 0 mk_599 = true := by decide +kernel
theorem mzk_600 : mz_ck0 12 (decode prog_14_method_185_code) false [] 0 mk_600 = true := by decide +kernel
theorem mzk_601 : mz_ck0 12 (decode prog_14_method_194_code) false [] 0 mk_601 = true := by decide +kernel
theorem mzk_602 : mz_ck0 12 (decode prog_14_method_195_code) false [] 0 mk_602 = true := by decide +kernel
theorem mzk_603 : mz_ck0 12 (decode prog_14_method_196_code) false [] 0 mk_603 = true := by decide +kernel
theorem mzk_604 : mz_ck0 12 (decode prog_14_method_197_code) false [] 0 mk_604 = true := by decide +kernel
theorem mzk_605 : mz_ck0 12 (decode prog_14_method_198_code) false [] 0 mk_605 = true := by decide +kernel
theorem mzk_606 : mz_ck0 12 (decode prog_14_method_199_code) false [] 0 mk_606 = true := by decide +kernel
theorem mzk_607 : mz_ck0 12 (decode prog_14_method_214_code) false [] 0 mk_607 = true := by decide +kernel
theorem mzk_608 : mz_ck0 12 (decode prog_14_method_213_code) false [] 0 mk_608 = true := by decide +kernel
theorem mzk_609 : mz_ck0 12 (decode prog_14_method_200_code) false [] 0 mk_609 = true := by decide +kernel
def mw_610_0 : ByteArray := .mk #[27, 184, 3, 169, 61, 27, 28, 184, 3, 160, 100, 62, 16, 28, 27, 104, 54, 4, 4, 54, 5, 28, 170, 0, 0, 0, 3, 24, 0, 0, 0, 1, 0, 0, 0, 14, 0, 0, 0, 70, 0, 0, 0, 77, 0, 0, 0, 84, 0, 0, 0, 116, 0, 0, 0, 186, 0, 0, 0, 219, 0, 0, 0, 254, 0, 0, 1, 108, 0, 0, 1, 168, 0, 0, 1, 232, 0, 0, 2, 77, 0, 0, 2, 147, 0, 0, 2, 155, 0, 0, 2, 202, 42, 21, 4, 182, 4, 22, 172, 42, 21, 4, 182, 4, 25, 172, 42, 21, 4, 3, 16, 24, 3, 16, 20, 182, 4, 7, 153, 0, 18, 42, 21, 4, 16, 24, 182, 4, 19, 153, 0, 7, 4, 167, 0, 4, 3, 172, 3, 54, 6, 21, 6, 16, 12, 162, 0, 41, 21, 5]
theorem mzw_610_0 : mz_winb prog_14_method_210_code.data.toList mw_610_0.data.toList 0 = true := by decide +kernel
theorem mzk_610_0 : mz_ck0 12 (fun z => if 0 ≤ z then decode mw_610_0 (z - 0) else .error (.truncated 0)) false [] 0 ((mk_610.drop 0).take 47) = true := by decide +kernel
def mw_610_1 : ByteArray := .mk #[21, 5, 153, 0, 27, 42, 21, 4, 5, 21, 6, 104, 5, 20, 1, 226, 20, 1, 228, 182, 4, 15, 153, 0, 7, 4, 167, 0, 4, 3, 54, 5, 132, 6, 1, 167, 255, 214, 21, 5, 153, 0, 18, 42, 21, 4, 16, 24, 182, 4, 19, 153, 0, 7, 4, 167, 0, 4, 3, 172, 42, 21, 4, 3, 16, 24, 3, 17, 0, 200, 182, 4, 7, 153, 0, 18, 42, 21, 4, 16, 24, 182, 4, 19, 153, 0, 7, 4, 167, 0, 4, 3, 172, 29, 16, 7, 161, 0, 26, 42, 21, 4, 3, 182, 4, 4, 17, 0, 197, 162, 0, 17, 42, 21, 4, 4, 182, 4, 19, 153, 0, 7, 4, 167, 0, 4, 3, 172, 3, 54, 6, 21, 6, 16, 11, 162, 0, 43, 29, 154, 0, 39, 21, 5, 153, 0, 25, 42, 21, 4, 5]
theorem mzw_610_1 : mz_winb prog_14_method_210_code.data.toList mw_610_1.data.toList 148 = true := by decide +kernel
theorem mzk_610_1 : mz_ck0 12 (fun z => if 148 ≤ z then decode mw_610_1 (z - 148) else .error (.truncated 0)) false [] 150 ((mk_610.drop 47).take 75) = true := by decide +kernel
def mw_610_2 : ByteArray := .mk #[21, 4, 5, 21, 6, 104, 5, 10, 20, 1, 228, 182, 4, 15, 153, 0, 7, 4, 167, 0, 4, 3, 54, 5, 132, 6, 1, 167, 255, 212, 29, 154, 0, 27, 21, 5, 153, 0, 18, 42, 21, 4, 16, 22, 182, 4, 19, 153, 0, 7, 4, 167, 0, 38, 3, 167, 0, 34, 42, 21, 4, 3, 16, 11, 3, 16, 9, 182, 4, 7, 153, 0, 18, 42, 21, 4, 16, 11, 182, 4, 19, 153, 0, 7, 4, 167, 0, 4, 3, 172, 42, 21, 4, 3, 182, 4, 28, 153, 0, 51, 42, 21, 4, 16, 8, 182, 4, 28, 153, 0, 40, 42, 21, 4, 16, 16, 182, 4, 31, 153, 0, 29, 42, 21, 4, 16, 20, 182, 4, 31, 153, 0, 18, 42, 21, 4, 16, 24, 182, 4, 31, 153, 0, 7, 4, 167, 0, 4, 3, 172, 42, 21, 4]
theorem mzw_610_2 : mz_winb prog_14_method_210_code.data.toList mw_610_2.data.toList 296 = true := by decide +kernel
theorem mzk_610_2 : mz_ck0 12 (fun z => if 296 ≤ z then decode mw_610_2 (z - 296) else .error (.truncated 0)) false [] 299 ((mk_610.drop 122).take 74) = true := by decide +kernel

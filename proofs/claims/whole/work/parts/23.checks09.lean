/-! THE PROGRAM (8): written by program: the small code is the bytes' own. -/
theorem mzk_622 : mz_ck0 13 code false [] 0 mk_622 = true := by decide +kernel

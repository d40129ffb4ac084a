/-! THE PROGRAM (8): written by program: the small code is the bytes' own. -/
theorem mzk_173 : mz_ck0 11 prog_1_method_20_code false [] 0 mk_173 = true := by decide +kernel
theorem mzk_174 : mz_ck0 13 method_17_code false [(0, 10, 13, 13), (0, 10, 17, 15)] 0 mk_174 = true := by decide +kernel
theorem mzk_175 : mz_ck0 11 prog_1_method_21_code false [] 0 mk_175 = true := by decide +kernel
theorem mzk_176 : mz_ck0 13 method_18_code false [(0, 12, 15, 13), (0, 12, 19, 15)] 0 mk_176 = true := by decide +kernel
theorem mzk_177 : mz_ck0 11 prog_1_method_22_code false [] 0 mk_177 = true := by decide +kernel
theorem mzk_178 : mz_ck0 13 method_19_code false [(0, 12, 15, 13), (0, 12, 19, 15)] 0 mk_178 = true := by decide +kernel
theorem mzk_179 : mz_ck0 11 prog_1_method_23_code false [] 0 mk_179 = true := by decide +kernel
theorem mzk_180 : mz_ck0 13 method_20_code false [(0, 10, 13, 13), (0, 10, 17, 15)] 0 mk_180 = true := by decide +kernel
theorem mzk_181 : mz_ck0 11 prog_1_method_24_code false [] 0 mk_181 = true := by decide +kernel
theorem mzk_182 : mz_ck0 1 prog_3_method_2_code false [] 0 mk_182 = true := by decide +kernel
theorem mzk_183 : mz_ck0 13 method_21_code false [(0, 10, 13, 13), (0, 10, 17, 15)] 0 mk_183 = true := by decide +kernel
theorem mzk_184 : mz_ck0 11 prog_1_method_25_code false [] 0 mk_184 = true := by decide +kernel
theorem mzk_185 : mz_ck0 13 method_22_code false [(0, 9, 12, 13), (0, 9, 15, 15)] 0 mk_185 = true := by decide +kernel
theorem mzk_186 : mz_ck0 11 prog_1_method_26_code false [] 0 mk_186 = true := by decide +kernel
theorem mzk_187 : mz_ck0 11 prog_1_method_5_code false [] 0 mk_187 = true := by decide +kernel
theorem mzk_188 : mz_ck0 13 method_23_code false [(0, 8, 11, 15)] 0 mk_188 = true := by decide +kernel
theorem mzk_189 : mz_ck0 11 prog_1_method_27_code false [] 0 mk_189 = true := by decide +kernel
theorem mzk_190 : mz_ck0 13 method_24_code false [(0, 8, 11, 15)] 0 mk_190 = true := by decide +kernel
theorem mzk_191 : mz_ck0 11 prog_1_method_28_code false [] 0 mk_191 = true := by decide +kernel
theorem mzk_192 : mz_ck0 6 prog_8_method_4_code false [] 0 mk_192 = true := by decide +kernel
theorem mzk_193 : mz_ck0 13 method_25_code false [(0, 9, 12, 13), (0, 9, 15, 15)] 0 mk_193 = true := by decide +kernel
theorem mzk_194 : mz_ck0 11 prog_1_method_29_code false [] 0 mk_194 = true := by decide +kernel
theorem mzk_195 : mz_ck0 13 method_26_code false [(0, 9, 12, 13), (0, 9, 15, 15)] 0 mk_195 = true := by decide +kernel
theorem mzk_196 : mz_ck0 11 prog_1_method_30_code false [] 0 mk_196 = true := by decide +kernel
theorem mzk_197 : mz_ck0 13 method_27_code false [(0, 9, 12, 13), (0, 9, 15, 15)] 0 mk_197 = true := by decide +kernel
theorem mzk_198 : mz_ck0 11 prog_1_method_31_code false [] 0 mk_198 = true := by decide +kernel
theorem mzk_199 : mz_ck0 11 prog_1_method_73_code false [] 0 mk_199 = true := by decide +kernel
theorem mzk_200 : mz_ck0 1 prog_3_method_5_code false [] 0 mk_200 = true := by decide +kernel
theorem mzk_201 : mz_ck0 11 prog_1_method_74_code false [] 0 mk_201 = true := by decide +kernel
theorem mzk_202 : mz_ck0 2 prog_4_method_23_code false [] 0 mk_202 = true := by decide +kernel
theorem mzk_203 : mz_ck0 2 prog_4_method_24_code false [] 0 mk_203 = true := by decide +kernel
theorem mzk_204 : mz_ck0 2 prog_4_method_19_code false [] 0 mk_204 = true := by decide +kernel
theorem mzk_205 : mz_ck0 11 prog_1_method_75_code false [] 0 mk_205 = true := by decide +kernel
theorem mzk_206 : mz_ck0 2 prog_4_method_20_code false [] 0 mk_206 = true := by decide +kernel
theorem mzk_207 : mz_ck0 2 prog_4_method_21_code false [] 0 mk_207 = true := by decide +kernel
theorem mzk_208 : mz_ck0 11 prog_1_method_76_code false [] 0 mk_208 = true := by decide +kernel
theorem mzk_209 : mz_ck0 3 prog_5_method_6_code false [] 0 mk_209 = true := by decide +kernel
theorem mzk_210 : mz_ck0 3 prog_5_method_8_code false [] 0 mk_210 = true := by decide +kernel
theorem mzk_211 : mz_ck0 3 prog_5_method_9_code false [] 0 mk_211 = true := by decide +kernel
theorem mzk_212 : mz_ck0 9 prog_11_method_5_code false [] 0 mk_212 = true := by decide +kernel
theorem mzk_213 : mz_ck0 6 prog_8_method_6_code false [] 0 mk_213 = true := by decide +kernel
theorem mzk_214 : mz_ck0 6 prog_8_method_7_code false [] 0 mk_214 = true := by decide +kernel
theorem mzk_215 : mz_ck0 6 prog_8_method_11_code false [] 0 mk_215 = true := by decide +kernel
theorem mzk_216 : mz_ck0 6 prog_8_method_8_code false [] 0 mk_216 = true := by decide +kernel
theorem mzk_217 : mz_ck0 6 prog_8_method_9_code false [] 0 mk_217 = true := by decide +kernel
theorem mzk_218 : mz_ck0 6 prog_8_method_10_code false [] 0 mk_218 = true := by decide +kernel
theorem mzk_219 : mz_ck0 11 prog_1_method_77_code false [] 0 mk_219 = true := by decide +kernel
theorem mzk_220 : mz_ck0 9 prog_11_method_3_code false [] 0 mk_220 = true := by decide +kernel
theorem mzk_221 : mz_ck0 5 prog_7_method_36_code false [] 0 mk_221 = true := by decide +kernel
theorem mzk_222 : mz_ck0 5 prog_7_method_35_code false [] 0 mk_222 = true := by decide +kernel
theorem mzk_223 : mz_ck0 9 prog_11_method_6_code false [] 0 mk_223 = true := by decide +kernel
theorem mzk_224 : mz_ck0 2 prog_4_method_25_code false [] 0 mk_224 = true := by decide +kernel
theorem mzk_225 : mz_ck0 9 prog_11_method_7_code false [] 0 mk_225 = true := by decide +kernel
theorem mzk_226 : mz_ck0 9 prog_11_method_8_code false [] 0 mk_226 = true := by decide +kernel
theorem mzk_227 : mz_ck0 9 prog_11_method_9_code false [] 0 mk_227 = true := by decide +kernel
theorem mzk_228 : mz_ck0 9 prog_11_method_10_code false [] 0 mk_228 = true := by decide +kernel
theorem mzk_229 : mz_ck0 11 prog_1_method_78_code false [] 0 mk_229 = true := by decide +kernel
theorem mzk_230 : mz_ck0 9 prog_11_method_13_code false [] 0 mk_230 = true := by decide +kernel
theorem mzk_231 : mz_ck0 9 prog_11_method_12_code false [] 0 mk_231 = true := by decide +kernel
theorem mzk_232 : mz_ck0 9 prog_11_method_14_code false [] 0 mk_232 = true := by decide +kernel
theorem mzk_233 : mz_ck0 11 prog_1_method_79_code false [] 0 mk_233 = true := by decide +kernel
theorem mzk_234 : mz_ck0 3 prog_5_method_14_code false [] 0 mk_234 = true := by decide +kernel
theorem mzk_235 : mz_ck0 3 prog_5_method_11_code false [] 0 mk_235 = true := by decide +kernel
theorem mzk_236 : mz_ck0 3 prog_5_method_13_code false [] 0 mk_236 = true := by decide +kernel
theorem mzk_237 : mz_ck0 3 prog_5_method_15_code false [] 0 mk_237 = true := by decide +kernel
theorem mzk_238 : mz_ck0 9 prog_11_method_4_code false [] 0 mk_238 = true := by decide +kernel
theorem mzk_239 : mz_ck0 3 prog_5_method_16_code false [] 0 mk_239 = true := by decide +kernel
theorem mzk_240 : mz_ck0 1 prog_3_method_6_code false [] 0 mk_240 = true := by decide +kernel
theorem mzk_241 : mz_ck0 1 prog_3_method_7_code false [] 0 mk_241 = true := by decide +kernel
theorem mzk_242 : mz_ck0 3 prog_5_method_17_code false [] 0 mk_242 = true := by decide +kernel
theorem mzk_243 : mz_ck0 3 prog_5_method_12_code false [] 0 mk_243 = true := by decide +kernel
theorem mzk_244 : mz_ck0 3 prog_5_method_18_code false [] 0 mk_244 = true := by decide +kernel
theorem mzk_245 : mz_ck0 3 prog_5_method_19_code false [] 0 mk_245 = true := by decide +kernel
theorem mzk_246 : mz_ck0 3 prog_5_method_20_code false [] 0 mk_246 = true := by decide +kernel
theorem mzk_247 : mz_ck0 3 prog_5_method_22_code false [] 0 mk_247 = true := by decide +kernel

/-! PURE (3): written by program: what the constructors come to, and the law. -/
/-! 2 KeptHouse$Plan.<init> ()V -/
noncomputable def cf_2_123 (N : mz_N) : mz_N := mz_nN (mz_nN (mz_nN (mz_nN N 37) 38) 39) 40
def cp_2_123 (N : mz_N) : Prop := True
noncomputable def cf_2_63 (N : mz_N) : mz_N := cf_2_123 (mz_nN (mz_nNN (mz_nN (mz_nN (mz_nNN (mz_nN N 15) 16) 30) 31) 32) 36)
def cp_2_63 (N : mz_N) : Prop := (cp_2_123 (mz_nN (mz_nNN (mz_nN (mz_nN (mz_nNN (mz_nN N 15) 16) 30) 31) 32) 36))
noncomputable def cf_2_0 (N : mz_N) : mz_N := cf_2_63 (mz_nN (mz_nN (mz_nN (mz_nNN (mz_nNN (mz_nN N 3) 4) 8) 12) 13) 14)
def cp_2_0 (N : mz_N) : Prop := (cp_2_63 (mz_nN (mz_nN (mz_nN (mz_nNN (mz_nNN (mz_nN N 3) 4) 8) 12) 13) 14))
/-! 4 KeptHouse$Reader.<init> ()V -/
noncomputable def cf_4x43_0 (N : mz_N) : mz_N := mz_nN (mz_nN (mz_nN (mz_nN N 44) 45) 46) 47
def cp_4x43_0 (N : mz_N) : Prop := True
/-! 4 KeptHouse$Reader.<init> ()V -/
noncomputable def cf_4x48_0 (N : mz_N) : mz_N := mz_nN (mz_nN (mz_nN (mz_nN N 49) 50) 51) 52
def cp_4x48_0 (N : mz_N) : Prop := True
/-! 3 KeptHouse$Program.<init> ()V -/
noncomputable def cf_3_61 (N : mz_N) : mz_N := N
def cp_3_61 (N : mz_N) : Prop := True
noncomputable def cf_3_0 (N : mz_N) : mz_N := cf_3_61 (mz_nN (mz_nN (mz_nN (cf_4x48_0 (mz_nN (cf_4x43_0 (mz_nN (mz_nN N 42) 43)) 48)) 53) 54) 55)
def cp_3_0 (N : mz_N) : Prop := (cp_4x43_0 (mz_nN (mz_nN N 42) 43)) ∧ (cp_4x48_0 (mz_nN (cf_4x43_0 (mz_nN (mz_nN N 42) 43)) 48)) ∧ (cp_3_61 (mz_nN (mz_nN (mz_nN (cf_4x48_0 (mz_nN (cf_4x43_0 (mz_nN (mz_nN N 42) 43)) 48)) 53) 54) 55))
/-! 5 KeptHouse$Supply.<init> ()V -/
noncomputable def cf_5_0 (N : mz_N) : mz_N := mz_nN (mz_nNN N 57) 64
def cp_5_0 (N : mz_N) : Prop := True
/-! 6 KeptHouse$Climate.<init> ()V -/
noncomputable def cf_6_106 (N : mz_N) : mz_N := mz_nN (mz_nN (mz_nN N 78) 79) 80
def cp_6_106 (N : mz_N) : Prop := True
noncomputable def cf_6_56 (N : mz_N) : mz_N := cf_6_106 (mz_nN (mz_nN (mz_nN (mz_nN (mz_nN (mz_nN N 72) 73) 74) 75) 76) 77)
def cp_6_56 (N : mz_N) : Prop := (cp_6_106 (mz_nN (mz_nN (mz_nN (mz_nN (mz_nN (mz_nN N 72) 73) 74) 75) 76) 77))
noncomputable def cf_6_0 (N : mz_N) : mz_N := cf_6_56 (mz_nN (mz_nN (mz_nN (mz_nN (mz_nN (mz_nN N 66) 67) 68) 69) 70) 71)
def cp_6_0 (N : mz_N) : Prop := (cp_6_56 (mz_nN (mz_nN (mz_nN (mz_nN (mz_nN (mz_nN N 66) 67) 68) 69) 70) 71))
/-! 7 KeptHouse$Watch.<init> ()V -/
noncomputable def cf_7_55 (N : mz_N) : mz_N := mz_nN (mz_nNN N 90) 99
def cp_7_55 (N : mz_N) : Prop := True
noncomputable def cf_7_0 (N : mz_N) : mz_N := cf_7_55 (mz_nN (mz_nN (mz_nN (mz_nNN (mz_nN (mz_nN N 82) 83) 84) 87) 88) 89)
def cp_7_0 (N : mz_N) : Prop := (cp_7_55 (mz_nN (mz_nN (mz_nN (mz_nNN (mz_nN (mz_nN N 82) 83) 84) 87) 88) 89))
/-! 8 KeptHouse$Access.<init> ()V -/
noncomputable def cf_8_52 (N : mz_N) : mz_N := mz_nNN (mz_nN (mz_nN (mz_nN N 107) 108) 109) 110
def cp_8_52 (N : mz_N) : Prop := True
noncomputable def cf_8_0 (N : mz_N) : mz_N := cf_8_52 (mz_nN (mz_nN (mz_nN (mz_nN (mz_nN (mz_nN N 101) 102) 103) 104) 105) 106)
def cp_8_0 (N : mz_N) : Prop := (cp_8_52 (mz_nN (mz_nN (mz_nN (mz_nN (mz_nN (mz_nN N 101) 102) 103) 104) 105) 106))
/-! 9 KeptHouse$Care.<init> ()V -/
noncomputable def cf_9_59 (N : mz_N) : mz_N := mz_nNN (mz_nN (mz_nN (mz_nNN (mz_nNN N 135) 138) 141) 142) 143
def cp_9_59 (N : mz_N) : Prop := True
noncomputable def cf_9_0 (N : mz_N) : mz_N := cf_9_59 (mz_nN (mz_nN (mz_nNN (mz_nNN (mz_nN (mz_nNN N 116) 123) 124) 129) 133) 134)
def cp_9_0 (N : mz_N) : Prop := (cp_9_59 (mz_nN (mz_nN (mz_nNN (mz_nNN (mz_nN (mz_nNN N 116) 123) 124) 129) 133) 134))
/-! 10 KeptHouse$Books.<init> ()V -/
noncomputable def cf_10_54 (N : mz_N) : mz_N := mz_nN N 218
def cp_10_54 (N : mz_N) : Prop := True
noncomputable def cf_10_0 (N : mz_N) : mz_N := cf_10_54 (mz_nN (mz_nN (mz_nN (mz_nN (mz_nN (mz_nNN N 209) 213) 214) 215) 216) 217)
def cp_10_0 (N : mz_N) : Prop := (cp_10_54 (mz_nN (mz_nN (mz_nN (mz_nN (mz_nN (mz_nNN N 209) 213) 214) 215) 216) 217))
/-! 11 KeptHouse$Store.<init> ()V -/
noncomputable def cf_11_83 (N : mz_N) : mz_N := (cf_15_0 0 0 N).2
def cp_11_83 (N : mz_N) : Prop := (cp_15_0 0 0 N) ∧ True
noncomputable def cf_11_59 (N : mz_N) : mz_N := cf_11_83 (cf_12_0 0 0 true 0 1 (mz_pI (mz_pI (mz_pI N 219 8 (-1)) 219 5 1) 219 6 1))
def cp_11_59 (N : mz_N) : Prop := (cp_12_0 0 0 true 0 1 (mz_pI (mz_pI (mz_pI N 219 8 (-1)) 219 5 1) 219 6 1)) ∧ (cp_11_83 (cf_12_0 0 0 true 0 1 (mz_pI (mz_pI (mz_pI N 219 8 (-1)) 219 5 1) 219 6 1)))
noncomputable def cf_11_0 (N : mz_N) : mz_N := cf_11_59 (mz_nN (mz_nN (mz_nN (mz_nN (mz_nN (mz_nNN N 220) 223) 224) 225) 226) 227)
def cp_11_0 (N : mz_N) : Prop := (cp_11_59 (mz_nN (mz_nN (mz_nN (mz_nN (mz_nN (mz_nNN N 220) 223) 224) 225) 226) 227))
/-! 1 KeptHouse$Keeper.<init> ()V -/
noncomputable def cf_1_92 (N : mz_N) : mz_N := mz_nN (mz_nN (mz_nN (mz_nN (cf_11_0 (mz_nN N 219)) 228) 229) 230) 231
def cp_1_92 (N : mz_N) : Prop := (cp_11_0 (mz_nN N 219)) ∧ True
noncomputable def cf_1_59 (N : mz_N) : mz_N := cf_1_92 (cf_10_0 (mz_nN (cf_9_0 (mz_nN (cf_8_0 (mz_nN N 100)) 115)) 208))
def cp_1_59 (N : mz_N) : Prop := (cp_8_0 (mz_nN N 100)) ∧ (cp_9_0 (mz_nN (cf_8_0 (mz_nN N 100)) 115)) ∧ (cp_10_0 (mz_nN (cf_9_0 (mz_nN (cf_8_0 (mz_nN N 100)) 115)) 208)) ∧ (cp_1_92 (cf_10_0 (mz_nN (cf_9_0 (mz_nN (cf_8_0 (mz_nN N 100)) 115)) 208)))
noncomputable def cf_1_0 (N : mz_N) : mz_N := cf_1_59 (cf_7_0 (mz_nN (cf_6_0 (mz_nN (cf_5_0 (mz_nN (cf_3_0 (mz_nN (cf_2_0 (mz_nN N 2)) 41)) 56)) 65)) 81))
def cp_1_0 (N : mz_N) : Prop := (cp_2_0 (mz_nN N 2)) ∧ (cp_3_0 (mz_nN (cf_2_0 (mz_nN N 2)) 41)) ∧ (cp_5_0 (mz_nN (cf_3_0 (mz_nN (cf_2_0 (mz_nN N 2)) 41)) 56)) ∧ (cp_6_0 (mz_nN (cf_5_0 (mz_nN (cf_3_0 (mz_nN (cf_2_0 (mz_nN N 2)) 41)) 56)) 65)) ∧ (cp_7_0 (mz_nN (cf_6_0 (mz_nN (cf_5_0 (mz_nN (cf_3_0 (mz_nN (cf_2_0 (mz_nN N 2)) 41)) 56)) 65)) 81)) ∧ (cp_1_59 (cf_7_0 (mz_nN (cf_6_0 (mz_nN (cf_5_0 (mz_nN (cf_3_0 (mz_nN (cf_2_0 (mz_nN N 2)) 41)) 56)) 65)) 81)))
/-! 0 KeptHouse.<init> (J)V -/
noncomputable def cf_0_0 (v1 : Int64) (N : mz_N) : (mz_N × Bool) := ((cf_17_0 (mz_pL (cf_1_0 (mz_nN N 1)) 56 15 v1) false).1, (cf_17_0 (mz_pL (cf_1_0 (mz_nN N 1)) 56 15 v1) false).2)
def cp_0_0 (v1 : Int64) (N : mz_N) : Prop := (cp_1_0 (mz_nN N 1)) ∧ (cp_17_0 (mz_pL (cf_1_0 (mz_nN N 1)) 56 15 v1) false) ∧ True
/-! 408 KeptHouseModel.<init> (J)V -/
noncomputable def cf_408_918 (v1 : Int64) (N : mz_N) : mz_N := (cf_414_0 (mz_pI ((cf_409_0 0 0 1 N).2) 232 135 1))
def cp_408_918 (v1 : Int64) (N : mz_N) : Prop := (cp_409_0 0 0 1 N) ∧ (cp_414_0 (mz_pI ((cf_409_0 0 0 1 N).2) 232 135 1)) ∧ True
noncomputable def cf_408_895 (v1 : Int64) (N : mz_N) : mz_N := cf_408_918 v1 (mz_pI (mz_pL (mz_pL (mz_nN N 341) 232 1 v1) 232 134 1) 232 136 (-1))
def cp_408_895 (v1 : Int64) (N : mz_N) : Prop := (cp_408_918 v1 (mz_pI (mz_pL (mz_pL (mz_nN N 341) 232 1 v1) 232 134 1) 232 136 (-1)))
noncomputable def cf_408_841 (v1 : Int64) (N : mz_N) : mz_N := cf_408_895 v1 (mz_nN (mz_nN (mz_nN (mz_nN (mz_nN (mz_nN N 335) 336) 337) 338) 339) 340)
def cp_408_841 (v1 : Int64) (N : mz_N) : Prop := (cp_408_895 v1 (mz_nN (mz_nN (mz_nN (mz_nN (mz_nN (mz_nN N 335) 336) 337) 338) 339) 340))
noncomputable def cf_408_788 (v1 : Int64) (N : mz_N) : mz_N := cf_408_841 v1 (mz_nN (mz_nN (mz_nN (mz_nN (mz_nN (mz_nN N 329) 330) 331) 332) 333) 334)
def cp_408_788 (v1 : Int64) (N : mz_N) : Prop := (cp_408_841 v1 (mz_nN (mz_nN (mz_nN (mz_nN (mz_nN (mz_nN N 329) 330) 331) 332) 333) 334))
noncomputable def cf_408_740 (v1 : Int64) (N : mz_N) : mz_N := cf_408_788 v1 (mz_nN (mz_nN (mz_nN (mz_nN (mz_nN (mz_nN N 323) 324) 325) 326) 327) 328)
def cp_408_740 (v1 : Int64) (N : mz_N) : Prop := (cp_408_788 v1 (mz_nN (mz_nN (mz_nN (mz_nN (mz_nN (mz_nN N 323) 324) 325) 326) 327) 328))
noncomputable def cf_408_692 (v1 : Int64) (N : mz_N) : mz_N := cf_408_740 v1 (mz_nN (mz_nN (mz_nN (mz_nN (mz_nN (mz_nN N 317) 318) 319) 320) 321) 322)
def cp_408_692 (v1 : Int64) (N : mz_N) : Prop := (cp_408_740 v1 (mz_nN (mz_nN (mz_nN (mz_nN (mz_nN (mz_nN N 317) 318) 319) 320) 321) 322))
noncomputable def cf_408_644 (v1 : Int64) (N : mz_N) : mz_N := cf_408_692 v1 (mz_nN (mz_nN (mz_nN (mz_nN (mz_nN (mz_nN N 311) 312) 313) 314) 315) 316)
def cp_408_644 (v1 : Int64) (N : mz_N) : Prop := (cp_408_692 v1 (mz_nN (mz_nN (mz_nN (mz_nN (mz_nN (mz_nN N 311) 312) 313) 314) 315) 316))
noncomputable def cf_408_599 (v1 : Int64) (N : mz_N) : mz_N := cf_408_644 v1 (mz_nN (mz_nN (mz_nN (mz_nN (mz_nN (mz_nN N 305) 306) 307) 308) 309) 310)
def cp_408_599 (v1 : Int64) (N : mz_N) : Prop := (cp_408_644 v1 (mz_nN (mz_nN (mz_nN (mz_nN (mz_nN (mz_nN N 305) 306) 307) 308) 309) 310))
noncomputable def cf_408_551 (v1 : Int64) (N : mz_N) : mz_N := cf_408_599 v1 (mz_nN (mz_nN (mz_nN (mz_nN (mz_nN (mz_nN N 299) 300) 301) 302) 303) 304)
def cp_408_551 (v1 : Int64) (N : mz_N) : Prop := (cp_408_599 v1 (mz_nN (mz_nN (mz_nN (mz_nN (mz_nN (mz_nN N 299) 300) 301) 302) 303) 304))
noncomputable def cf_408_506 (v1 : Int64) (N : mz_N) : mz_N := cf_408_551 v1 (mz_nN (mz_nN (mz_nN (mz_nN (mz_nN (mz_nN N 293) 294) 295) 296) 297) 298)
def cp_408_506 (v1 : Int64) (N : mz_N) : Prop := (cp_408_551 v1 (mz_nN (mz_nN (mz_nN (mz_nN (mz_nN (mz_nN N 293) 294) 295) 296) 297) 298))
noncomputable def cf_408_458 (v1 : Int64) (N : mz_N) : mz_N := cf_408_506 v1 (mz_nN (mz_nN (mz_nN (mz_nN (mz_nN (mz_nN N 287) 288) 289) 290) 291) 292)
def cp_408_458 (v1 : Int64) (N : mz_N) : Prop := (cp_408_506 v1 (mz_nN (mz_nN (mz_nN (mz_nN (mz_nN (mz_nN N 287) 288) 289) 290) 291) 292))
noncomputable def cf_408_409 (v1 : Int64) (N : mz_N) : mz_N := cf_408_458 v1 (mz_nN (mz_nN (mz_nN (mz_nN (mz_nN (mz_nN N 281) 282) 283) 284) 285) 286)
def cp_408_409 (v1 : Int64) (N : mz_N) : Prop := (cp_408_458 v1 (mz_nN (mz_nN (mz_nN (mz_nN (mz_nN (mz_nN N 281) 282) 283) 284) 285) 286))
noncomputable def cf_408_361 (v1 : Int64) (N : mz_N) : mz_N := cf_408_409 v1 (mz_nN (mz_nN (mz_nN (mz_nN (mz_nN (mz_nN N 275) 276) 277) 278) 279) 280)
def cp_408_361 (v1 : Int64) (N : mz_N) : Prop := (cp_408_409 v1 (mz_nN (mz_nN (mz_nN (mz_nN (mz_nN (mz_nN N 275) 276) 277) 278) 279) 280))
noncomputable def cf_408_313 (v1 : Int64) (N : mz_N) : mz_N := cf_408_361 v1 (mz_nN (mz_nN (mz_nN (mz_nN (mz_nN (mz_nN N 269) 270) 271) 272) 273) 274)
def cp_408_313 (v1 : Int64) (N : mz_N) : Prop := (cp_408_361 v1 (mz_nN (mz_nN (mz_nN (mz_nN (mz_nN (mz_nN N 269) 270) 271) 272) 273) 274))
noncomputable def cf_408_260 (v1 : Int64) (N : mz_N) : mz_N := cf_408_313 v1 (mz_nN (mz_nN (mz_nN (mz_nN (mz_nN (mz_nN N 263) 264) 265) 266) 267) 268)
def cp_408_260 (v1 : Int64) (N : mz_N) : Prop := (cp_408_313 v1 (mz_nN (mz_nN (mz_nN (mz_nN (mz_nN (mz_nN N 263) 264) 265) 266) 267) 268))
noncomputable def cf_408_208 (v1 : Int64) (N : mz_N) : mz_N := cf_408_260 v1 (mz_nN (mz_nN (mz_nN (mz_nN (mz_nN (mz_nN N 257) 258) 259) 260) 261) 262)
def cp_408_208 (v1 : Int64) (N : mz_N) : Prop := (cp_408_260 v1 (mz_nN (mz_nN (mz_nN (mz_nN (mz_nN (mz_nN N 257) 258) 259) 260) 261) 262))
noncomputable def cf_408_156 (v1 : Int64) (N : mz_N) : mz_N := cf_408_208 v1 (mz_nN (mz_nN (mz_nN (mz_nN (mz_nN (mz_nN N 251) 252) 253) 254) 255) 256)
def cp_408_156 (v1 : Int64) (N : mz_N) : Prop := (cp_408_208 v1 (mz_nN (mz_nN (mz_nN (mz_nN (mz_nN (mz_nN N 251) 252) 253) 254) 255) 256))
noncomputable def cf_408_110 (v1 : Int64) (N : mz_N) : mz_N := cf_408_156 v1 (mz_nN (mz_nN (mz_nN (mz_nN (mz_nN (mz_nN N 245) 246) 247) 248) 249) 250)
def cp_408_110 (v1 : Int64) (N : mz_N) : Prop := (cp_408_156 v1 (mz_nN (mz_nN (mz_nN (mz_nN (mz_nN (mz_nN N 245) 246) 247) 248) 249) 250))
noncomputable def cf_408_58 (v1 : Int64) (N : mz_N) : mz_N := cf_408_110 v1 (mz_nN (mz_nN (mz_nN (mz_nN (mz_nN (mz_nN N 239) 240) 241) 242) 243) 244)
def cp_408_58 (v1 : Int64) (N : mz_N) : Prop := (cp_408_110 v1 (mz_nN (mz_nN (mz_nN (mz_nN (mz_nN (mz_nN N 239) 240) 241) 242) 243) 244))
noncomputable def cf_408_0 (v1 : Int64) (N : mz_N) : mz_N := cf_408_58 v1 (mz_nN (mz_nN (mz_nN (mz_nN (mz_nN (mz_nN N 233) 234) 235) 236) 237) 238)
def cp_408_0 (v1 : Int64) (N : mz_N) : Prop := (cp_408_58 v1 (mz_nN (mz_nN (mz_nN (mz_nN (mz_nN (mz_nN N 233) 234) 235) 236) 237) 238))
/-! 622 KeptHouseLaw.law: its beginning -/
noncomputable def cf_622_0 (L : Nat) (xs : Nat → Int32) (N : mz_N) : (Bool × mz_N × Bool × Nat) := cf_622_35 L xs 1 (mz_nN (cf_408_0 ((cf_101_0 L xs 0).toInt64) (mz_nN ((cf_0_0 ((cf_101_0 L xs 0).toInt64) (mz_nN N 0)).1) 232)) 342) ((cf_0_0 ((cf_101_0 L xs 0).toInt64) (mz_nN N 0)).2) 0
def cp_622_0 (L : Nat) (xs : Nat → Int32) (N : mz_N) : Prop := (cp_101_0 L xs 0) ∧ (cp_0_0 ((cf_101_0 L xs 0).toInt64) (mz_nN N 0)) ∧ (cp_101_0 L xs 0) ∧ (cp_408_0 ((cf_101_0 L xs 0).toInt64) (mz_nN ((cf_0_0 ((cf_101_0 L xs 0).toInt64) (mz_nN N 0)).1) 232)) ∧ (cp_622_35 L xs 1 (mz_nN (cf_408_0 ((cf_101_0 L xs 0).toInt64) (mz_nN ((cf_0_0 ((cf_101_0 L xs 0).toInt64) (mz_nN N 0)).1) 232)) 342) ((cf_0_0 ((cf_101_0 L xs 0).toInt64) (mz_nN N 0)).2) 0)

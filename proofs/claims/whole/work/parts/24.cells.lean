/-! THE PROGRAM (9): written by program: the cells that the constructors make, in their order; the arrays outside. -/
def mz_fk1 : List Int32 := [0, 5, 10, 20, 22, 26, 34, 36, 46, 47, 48, 51, 67, 87, 127, 135]
def mz_su1 : List Int32 := [0, 498536548, 997073096, 651767980, 1994146192, 1802195444, 1303535960, 1342533948, -306674912, -267414716, -690576408, -882789492, -1687895376, -2032938284, -1609899400, -1111625188]
def mz_X0 (L : Nat) (xs : Nat → Int32) (a : Nat) : Option (Nat × (Nat → Int32)) := if a = 1000 then some (16, fun j => mz_fk1.getD j 0) else if a = 1001 then some (16, fun j => mz_su1.getD j 0) else if a = 1002 then some (L, xs) else none
def mz_S0 : mz_S := [(9, 11, mz_FK0 11), (9, 4, mz_FK0 4), (9, 5, mz_FK0 5), (0, 550, []), (4, 3, []), (0, 550, []), (0, 550, []), (0, 550, []), (4, 3, []), (0, 550, []), (0, 550, []), (0, 550, []), (0, 550, []), (0, 240, []), (0, 48, []), (0, 240, []), (4, 13, []), (0, 40, []), (0, 40, []), (0, 40, []), (0, 40, []), (0, 40, []), (0, 40, []), (0, 40, []), (0, 40, []), (0, 40, []), (0, 40, []), (0, 40, []), (0, 40, []), (0, 40, []), (0, 240, []), (0, 1600, []), (4, 3, []), (0, 780, []), (0, 780, []), (0, 780, []), (0, 240, []), (0, 240, []), (0, 10, []), (0, 10, []), (0, 240, []), (9, 6, mz_FK0 6), (0, 196, []), (9, 7, mz_FK0 7), (0, 196, []), (0, 196, []), (0, 196, []), (0, 196, []), (9, 7, mz_FK0 7), (0, 196, []), (0, 196, []), (0, 196, []), (0, 196, []), (0, 53, []), (0, 196, []), (0, 196, []), (9, 9, mz_FK0 9), (4, 6, []), (0, 11, []), (0, 11, []), (0, 11, []), (0, 11, []), (0, 11, []), (0, 11, []), (0, 10, []), (9, 3, mz_FK0 3), (0, 24, []), (0, 96, []), (1, 240, []), (1, 240, []), (1, 240, []), (1, 240, []), (0, 240, []), (0, 240, []), (1, 40, []), (1, 40, []), (1, 41, []), (1, 41, []), (1, 41, []), (1, 240, []), (0, 240, []), (9, 10, mz_FK0 10), (0, 10, []), (3, 18, []), (4, 2, []), (0, 32, []), (0, 32, []), (0, 8, []), (0, 8, []), (0, 8, []), (5, 8, []), (1, 48, []), (1, 48, []), (1, 48, []), (1, 48, []), (1, 48, []), (1, 48, []), (1, 48, []), (1, 48, []), (0, 8, []), (9, 0, mz_FK0 0), (0, 20, []), (0, 20, []), (0, 20, []), (0, 40, []), (0, 40, []), (0, 40, []), (0, 40, []), (0, 40, []), (0, 40, []), (4, 4, []), (0, 64, []), (0, 64, []), (0, 64, []), (0, 64, []), (9, 2, mz_FK0 2), (4, 6, []), (0, 16, []), (0, 16, []), (0, 16, []), (0, 16, []), (0, 16, []), (0, 16, []), (0, 16, []), (4, 4, []), (0, 3, []), (0, 3, []), (0, 3, []), (0, 3, []), (4, 3, []), (0, 8, []), (0, 8, []), (0, 8, []), (0, 2, []), (0, 2, []), (4, 2, []), (0, 6, []), (0, 6, []), (4, 2, []), (0, 6, []), (0, 6, []), (0, 2, []), (0, 6, []), (4, 64, []), (0, 6, []), (0, 6, []), (0, 6, []), (0, 6, []), (0, 6, []), (0, 6, []), (0, 6, []), (0, 6, []), (0, 6, []), (0, 6, []), (0, 6, []), (0, 6, []), (0, 6, []), (0, 6, []), (0, 6, []), (0, 6, []), (0, 6, []), (0, 6, []), (0, 6, []), (0, 6, []), (0, 6, []), (0, 6, []), (0, 6, []), (0, 6, []), (0, 6, []), (0, 6, []), (0, 6, []), (0, 6, []), (0, 6, []), (0, 6, []), (0, 6, []), (0, 6, []), (0, 6, []), (0, 6, []), (0, 6, []), (0, 6, []), (0, 6, []), (0, 6, []), (0, 6, []), (0, 6, []), (0, 6, []), (0, 6, []), (0, 6, []), (0, 6, []), (0, 6, []), (0, 6, []), (0, 6, []), (0, 6, []), (0, 6, []), (0, 6, []), (0, 6, []), (0, 6, []), (0, 6, []), (0, 6, []), (0, 6, []), (0, 6, []), (0, 6, []), (0, 6, []), (0, 6, []), (0, 6, []), (0, 6, []), (0, 6, []), (0, 6, []), (0, 6, []), (9, 1, mz_FK0 1), (4, 3, []), (0, 11, []), (0, 11, []), (0, 11, []), (1, 10, []), (1, 10, []), (0, 4, []), (1, 10, []), (1, 10, []), (1, 10, []), (9, 8, mz_FK0 8), (4, 2, []), (0, 9600, []), (0, 9600, []), (0, 3780, []), (0, 135, []), (0, 48, []), (0, 16, []), (0, 448, []), (0, 4056, []), (0, 4100, []), (0, 3780, []), (0, 135, []), (9, 12, mz_FK0 12), (0, 4400, []), (0, 240, []), (0, 240, []), (0, 240, []), (0, 240, []), (0, 240, []), (0, 6400, []), (0, 240, []), (0, 240, []), (0, 10, []), (0, 10, []), (0, 240, []), (0, 24, []), (0, 96, []), (0, 11, []), (0, 11, []), (0, 3, []), (0, 3, []), (0, 196, []), (0, 196, []), (0, 400, []), (0, 400, []), (0, 13, []), (0, 13, []), (0, 16, []), (1, 64, []), (1, 200, []), (1, 240, []), (1, 240, []), (1, 240, []), (1, 240, []), (1, 240, []), (1, 240, []), (1, 240, []), (1, 240, []), (1, 40, []), (1, 40, []), (1, 41, []), (1, 41, []), (0, 11, []), (3, 11, []), (0, 11, []), (3, 11, []), (3, 11, []), (0, 10, []), (0, 10, []), (3, 18, []), (0, 32, []), (1, 32, []), (3, 8, []), (0, 8, []), (0, 8, []), (0, 8, []), (1, 384, []), (3, 16, []), (0, 16, []), (0, 16, []), (0, 16, []), (1, 16, []), (1, 16, []), (0, 16, []), (0, 12, []), (1, 12, []), (0, 2, []), (0, 2, []), (1, 2, []), (0, 6, []), (0, 6, []), (0, 6, []), (0, 8, []), (0, 8, []), (1, 8, []), (1, 3, []), (0, 3, []), (3, 3, []), (3, 20, []), (0, 20, []), (0, 20, []), (3, 40, []), (0, 40, []), (0, 40, []), (0, 40, []), (3, 40, []), (0, 40, []), (1, 64, []), (0, 64, []), (0, 64, []), (0, 64, []), (1, 11, []), (1, 11, []), (1, 11, []), (1, 10, []), (1, 10, []), (1, 41, []), (1, 41, []), (1, 41, []), (2, 19200, []), (3, 135, []), (2, 3780, []), (2, 28, []), (0, 160, []), (2, 4100, []), (2, 4100, []), (3, 135, []), (2, 3780, []), (0, 196, []), (0, 400, []), (1, 240, []), (2, 48, []), (1, 1, [])]
def mz_Rt : List (List (Option Nat)) := [[some 1, some 2, some 41, some 56, some 65, some 81, some 100, some 115, some 208, some 219, some 53], [some 2, some 41, some 56, some 65, some 81, some 100, some 115, some 208, some 219, some 228, none, some 229, none, some 230, some 231], [some 3, some 4, some 8, none, some 12, some 13, some 14, none, some 15, some 16, some 30, some 31, some 32, none, some 36, some 37, some 38, some 39, some 40], [], [some 5, some 6, some 7], [], [], [], [some 9, some 10, some 11], [], [], [], [], [], [], [], [some 17, some 18, some 19, some 20, some 21, some 22, some 23, some 24, some 25, some 26, some 27, some 28, some 29], [], [], [], [], [], [], [], [], [], [], [], [], [], [], [], [some 33, some 34, some 35], [], [], [], [], [], [], [], [], [some 42, none, some 48, some 43, none, none, some 53, some 54, some 55, none], [], [some 44, none, some 45, some 46, none, none, none, none, none, none, none, none, none, none, some 47, none, none], [], [], [], [], [some 49, none, some 50, some 51, none, none, none, none, none, none, none, none, none, none, some 52, none, none], [], [], [], [], [], [], [], [some 57, none, none, none, none, none, none, none, none, none, none, none, none, none, some 64, none], [some 58, some 59, some 60, some 61, some 62, some 63], [], [], [], [], [], [], [], [some 66, some 67, some 68, some 69, some 70, some 71, some 72, some 73, none, some 74, some 75, some 76, some 77, some 78, some 79, some 80], [], [], [], [], [], [], [], [], [], [], [], [], [], [], [], [some 82, some 83, some 84, none, some 87, some 88, some 89, some 90, some 99], [], [], [some 85, some 86], [], [], [], [], [], [some 91, some 92, some 93, some 94, some 95, some 96, some 97, some 98], [], [], [], [], [], [], [], [], [], [some 101, some 102, some 103, some 104, some 105, some 106, some 107, some 108, some 109, some 110, none], [], [], [], [], [], [], [], [], [], [some 111, some 112, some 113, some 114], [], [], [], [], [some 116, some 123, none, some 124, some 129, none, some 133, some 134, some 135, some 138, some 141, some 142, some 143], [some 117, some 118, some 119, some 120, some 121, some 122], [], [], [], [], [], [], [], [some 125, some 126, some 127, some 128], [], [], [], [], [some 130, some 131, some 132], [], [], [], [], [], [some 136, some 137], [], [], [some 139, some 140], [], [], [], [], [some 144, some 145, some 146, some 147, some 148, some 149, some 150, some 151, some 152, some 153, some 154, some 155, some 156, some 157, some 158, some 159, some 160, some 161, some 162, some 163, some 164, some 165, some 166, some 167, some 168, some 169, some 170, some 171, some 172, some 173, some 174, some 175, some 176, some 177, some 178, some 179, some 180, some 181, some 182, some 183, some 184, some 185, some 186, some 187, some 188, some 189, some 190, some 191, some 192, some 193, some 194, some 195, some 196, some 197, some 198, some 199, some 200, some 201, some 202, some 203, some 204, some 205, some 206, some 207], [], [], [], [], [], [], [], [], [], [], [], [], [], [], [], [], [], [], [], [], [], [], [], [], [], [], [], [], [], [], [], [], [], [], [], [], [], [], [], [], [], [], [], [], [], [], [], [], [], [], [], [], [], [], [], [], [], [], [], [], [], [], [], [], [none, none, none, none, none, some 209, some 213, some 214, some 215, some 216, some 217, some 218], [some 210, some 211, some 212], [], [], [], [], [], [], [], [], [], [some 220, some 223, some 224, some 225, none, none, none, none, none, some 226, some 227, none], [some 221, some 222], [], [], [], [], [], [], [], [], [], [], [], [none, none, none, some 233, none, some 234, some 235, none, some 236, some 237, some 238, some 239, some 240, some 241, some 242, some 243, some 244, some 245, some 246, some 247, some 248, none, some 249, some 250, some 251, none, some 252, none, none, some 253, some 254, none, some 255, some 256, none, none, none, some 257, some 258, some 259, some 260, some 261, some 262, some 263, some 264, some 265, some 266, some 267, some 268, some 269, some 270, some 271, none, none, none, none, some 272, some 273, some 274, some 275, some 276, none, none, none, none, none, none, none, none, some 277, some 278, some 279, none, some 280, some 281, some 282, some 283, some 284, some 285, some 286, some 287, some 288, some 289, some 290, some 291, some 292, some 293, none, some 294, some 295, some 296, some 297, some 298, some 299, some 300, some 301, none, some 302, some 303, some 304, some 305, some 306, some 307, some 308, some 309, some 310, some 311, some 312, some 313, some 314, some 315, some 316, none, some 317, some 318, some 319, some 320, some 321, some 322, some 323, some 324, some 325, none, none, none, none, some 326, some 327, some 328, some 329, some 330, some 331, some 332, none, none, none, none, none, some 333, none, some 334, none, some 335, none, some 336, some 337, some 338, none, none, none, none, none, none, none, none, some 339, none, none, some 340, some 341], [], [], [], [], [], [], [], [], [], [], [], [], [], [], [], [], [], [], [], [], [], [], [], [], [], [], [], [], [], [], [], [], [], [], [], [], [], [], [], [], [], [], [], [], [], [], [], [], [], [], [], [], [], [], [], [], [], [], [], [], [], [], [], [], [], [], [], [], [], [], [], [], [], [], [], [], [], [], [], [], [], [], [], [], [], [], [], [], [], [], [], [], [], [], [], [], [], [], [], [], [], [], [], [], [], [], [], [], [], []]
def mz_R0 (a k : Nat) : Option Nat := (mz_Rt.getD a []).getD k none
def mz_ib (i : Int32) (n : Nat) : Prop := ¬ (i < 0 ∨ n ≤ i.toNatClampNeg)
theorem mz_ib_lt {i : Int32} {n : Nat} (h : mz_ib i n) : i.toNatClampNeg < n := Nat.not_le.mp fun q => h (Or.inr q)
theorem mzS_0 : mz_S0[0]? = some (9, 11, mz_FK0 11) := rfl
theorem mzS_1 : mz_S0[1]? = some (9, 4, mz_FK0 4) := rfl
theorem mzS_2 : mz_S0[2]? = some (9, 5, mz_FK0 5) := rfl
theorem mzS_3 : mz_S0[3]? = some (0, 550, []) := rfl
theorem mzS_4 : mz_S0[4]? = some (4, 3, []) := rfl
theorem mzS_5 : mz_S0[5]? = some (0, 550, []) := rfl
theorem mzS_6 : mz_S0[6]? = some (0, 550, []) := rfl
theorem mzS_7 : mz_S0[7]? = some (0, 550, []) := rfl
theorem mzS_8 : mz_S0[8]? = some (4, 3, []) := rfl
theorem mzS_9 : mz_S0[9]? = some (0, 550, []) := rfl
theorem mzS_10 : mz_S0[10]? = some (0, 550, []) := rfl
theorem mzS_11 : mz_S0[11]? = some (0, 550, []) := rfl
theorem mzS_12 : mz_S0[12]? = some (0, 550, []) := rfl
theorem mzS_13 : mz_S0[13]? = some (0, 240, []) := rfl
theorem mzS_14 : mz_S0[14]? = some (0, 48, []) := rfl
theorem mzS_15 : mz_S0[15]? = some (0, 240, []) := rfl
theorem mzS_16 : mz_S0[16]? = some (4, 13, []) := rfl
theorem mzS_17 : mz_S0[17]? = some (0, 40, []) := rfl
theorem mzS_18 : mz_S0[18]? = some (0, 40, []) := rfl
theorem mzS_19 : mz_S0[19]? = some (0, 40, []) := rfl
theorem mzS_20 : mz_S0[20]? = some (0, 40, []) := rfl
theorem mzS_21 : mz_S0[21]? = some (0, 40, []) := rfl
theorem mzS_22 : mz_S0[22]? = some (0, 40, []) := rfl
theorem mzS_23 : mz_S0[23]? = some (0, 40, []) := rfl
theorem mzS_24 : mz_S0[24]? = some (0, 40, []) := rfl
theorem mzS_25 : mz_S0[25]? = some (0, 40, []) := rfl
theorem mzS_26 : mz_S0[26]? = some (0, 40, []) := rfl
theorem mzS_27 : mz_S0[27]? = some (0, 40, []) := rfl
theorem mzS_28 : mz_S0[28]? = some (0, 40, []) := rfl
theorem mzS_29 : mz_S0[29]? = some (0, 40, []) := rfl
theorem mzS_30 : mz_S0[30]? = some (0, 240, []) := rfl
theorem mzS_31 : mz_S0[31]? = some (0, 1600, []) := rfl
theorem mzS_32 : mz_S0[32]? = some (4, 3, []) := rfl
theorem mzS_33 : mz_S0[33]? = some (0, 780, []) := rfl
theorem mzS_34 : mz_S0[34]? = some (0, 780, []) := rfl
theorem mzS_35 : mz_S0[35]? = some (0, 780, []) := rfl
theorem mzS_36 : mz_S0[36]? = some (0, 240, []) := rfl
theorem mzS_37 : mz_S0[37]? = some (0, 240, []) := rfl
theorem mzS_38 : mz_S0[38]? = some (0, 10, []) := rfl
theorem mzS_39 : mz_S0[39]? = some (0, 10, []) := rfl
theorem mzS_40 : mz_S0[40]? = some (0, 240, []) := rfl
theorem mzS_41 : mz_S0[41]? = some (9, 6, mz_FK0 6) := rfl
theorem mzS_42 : mz_S0[42]? = some (0, 196, []) := rfl
theorem mzS_43 : mz_S0[43]? = some (9, 7, mz_FK0 7) := rfl
theorem mzS_44 : mz_S0[44]? = some (0, 196, []) := rfl
theorem mzS_45 : mz_S0[45]? = some (0, 196, []) := rfl
theorem mzS_46 : mz_S0[46]? = some (0, 196, []) := rfl
theorem mzS_47 : mz_S0[47]? = some (0, 196, []) := rfl
theorem mzS_48 : mz_S0[48]? = some (9, 7, mz_FK0 7) := rfl
theorem mzS_49 : mz_S0[49]? = some (0, 196, []) := rfl
theorem mzS_50 : mz_S0[50]? = some (0, 196, []) := rfl
theorem mzS_51 : mz_S0[51]? = some (0, 196, []) := rfl
theorem mzS_52 : mz_S0[52]? = some (0, 196, []) := rfl
theorem mzS_53 : mz_S0[53]? = some (0, 53, []) := rfl
theorem mzS_54 : mz_S0[54]? = some (0, 196, []) := rfl
theorem mzS_55 : mz_S0[55]? = some (0, 196, []) := rfl
theorem mzS_56 : mz_S0[56]? = some (9, 9, mz_FK0 9) := rfl
theorem mzS_57 : mz_S0[57]? = some (4, 6, []) := rfl
theorem mzS_58 : mz_S0[58]? = some (0, 11, []) := rfl
theorem mzS_59 : mz_S0[59]? = some (0, 11, []) := rfl
theorem mzS_60 : mz_S0[60]? = some (0, 11, []) := rfl
theorem mzS_61 : mz_S0[61]? = some (0, 11, []) := rfl
theorem mzS_62 : mz_S0[62]? = some (0, 11, []) := rfl
theorem mzS_63 : mz_S0[63]? = some (0, 11, []) := rfl
theorem mzS_64 : mz_S0[64]? = some (0, 10, []) := rfl
theorem mzS_65 : mz_S0[65]? = some (9, 3, mz_FK0 3) := rfl
theorem mzS_66 : mz_S0[66]? = some (0, 24, []) := rfl
theorem mzS_67 : mz_S0[67]? = some (0, 96, []) := rfl
theorem mzS_68 : mz_S0[68]? = some (1, 240, []) := rfl
theorem mzS_69 : mz_S0[69]? = some (1, 240, []) := rfl
theorem mzS_70 : mz_S0[70]? = some (1, 240, []) := rfl
theorem mzS_71 : mz_S0[71]? = some (1, 240, []) := rfl
theorem mzS_72 : mz_S0[72]? = some (0, 240, []) := rfl
theorem mzS_73 : mz_S0[73]? = some (0, 240, []) := rfl
theorem mzS_74 : mz_S0[74]? = some (1, 40, []) := rfl
theorem mzS_75 : mz_S0[75]? = some (1, 40, []) := rfl
theorem mzS_76 : mz_S0[76]? = some (1, 41, []) := rfl
theorem mzS_77 : mz_S0[77]? = some (1, 41, []) := rfl
theorem mzS_78 : mz_S0[78]? = some (1, 41, []) := rfl
theorem mzS_79 : mz_S0[79]? = some (1, 240, []) := rfl
theorem mzS_80 : mz_S0[80]? = some (0, 240, []) := rfl
theorem mzS_81 : mz_S0[81]? = some (9, 10, mz_FK0 10) := rfl
theorem mzS_82 : mz_S0[82]? = some (0, 10, []) := rfl
theorem mzS_83 : mz_S0[83]? = some (3, 18, []) := rfl
theorem mzS_84 : mz_S0[84]? = some (4, 2, []) := rfl
theorem mzS_85 : mz_S0[85]? = some (0, 32, []) := rfl
theorem mzS_86 : mz_S0[86]? = some (0, 32, []) := rfl
theorem mzS_87 : mz_S0[87]? = some (0, 8, []) := rfl
theorem mzS_88 : mz_S0[88]? = some (0, 8, []) := rfl
theorem mzS_89 : mz_S0[89]? = some (0, 8, []) := rfl
theorem mzS_90 : mz_S0[90]? = some (5, 8, []) := rfl
theorem mzS_91 : mz_S0[91]? = some (1, 48, []) := rfl
theorem mzS_92 : mz_S0[92]? = some (1, 48, []) := rfl
theorem mzS_93 : mz_S0[93]? = some (1, 48, []) := rfl
theorem mzS_94 : mz_S0[94]? = some (1, 48, []) := rfl
theorem mzS_95 : mz_S0[95]? = some (1, 48, []) := rfl
theorem mzS_96 : mz_S0[96]? = some (1, 48, []) := rfl
theorem mzS_97 : mz_S0[97]? = some (1, 48, []) := rfl
theorem mzS_98 : mz_S0[98]? = some (1, 48, []) := rfl
theorem mzS_99 : mz_S0[99]? = some (0, 8, []) := rfl
theorem mzS_100 : mz_S0[100]? = some (9, 0, mz_FK0 0) := rfl
theorem mzS_101 : mz_S0[101]? = some (0, 20, []) := rfl
theorem mzS_102 : mz_S0[102]? = some (0, 20, []) := rfl
theorem mzS_103 : mz_S0[103]? = some (0, 20, []) := rfl
theorem mzS_104 : mz_S0[104]? = some (0, 40, []) := rfl
theorem mzS_105 : mz_S0[105]? = some (0, 40, []) := rfl
theorem mzS_106 : mz_S0[106]? = some (0, 40, []) := rfl
theorem mzS_107 : mz_S0[107]? = some (0, 40, []) := rfl
theorem mzS_108 : mz_S0[108]? = some (0, 40, []) := rfl
theorem mzS_109 : mz_S0[109]? = some (0, 40, []) := rfl
theorem mzS_110 : mz_S0[110]? = some (4, 4, []) := rfl
theorem mzS_111 : mz_S0[111]? = some (0, 64, []) := rfl
theorem mzS_112 : mz_S0[112]? = some (0, 64, []) := rfl
theorem mzS_113 : mz_S0[113]? = some (0, 64, []) := rfl
theorem mzS_114 : mz_S0[114]? = some (0, 64, []) := rfl
theorem mzS_115 : mz_S0[115]? = some (9, 2, mz_FK0 2) := rfl
theorem mzS_116 : mz_S0[116]? = some (4, 6, []) := rfl
theorem mzS_117 : mz_S0[117]? = some (0, 16, []) := rfl
theorem mzS_118 : mz_S0[118]? = some (0, 16, []) := rfl
theorem mzS_119 : mz_S0[119]? = some (0, 16, []) := rfl
theorem mzS_120 : mz_S0[120]? = some (0, 16, []) := rfl
theorem mzS_121 : mz_S0[121]? = some (0, 16, []) := rfl
theorem mzS_122 : mz_S0[122]? = some (0, 16, []) := rfl
theorem mzS_123 : mz_S0[123]? = some (0, 16, []) := rfl
theorem mzS_124 : mz_S0[124]? = some (4, 4, []) := rfl
theorem mzS_125 : mz_S0[125]? = some (0, 3, []) := rfl
theorem mzS_126 : mz_S0[126]? = some (0, 3, []) := rfl
theorem mzS_127 : mz_S0[127]? = some (0, 3, []) := rfl
theorem mzS_128 : mz_S0[128]? = some (0, 3, []) := rfl
theorem mzS_129 : mz_S0[129]? = some (4, 3, []) := rfl
theorem mzS_130 : mz_S0[130]? = some (0, 8, []) := rfl
theorem mzS_131 : mz_S0[131]? = some (0, 8, []) := rfl
theorem mzS_132 : mz_S0[132]? = some (0, 8, []) := rfl
theorem mzS_133 : mz_S0[133]? = some (0, 2, []) := rfl
theorem mzS_134 : mz_S0[134]? = some (0, 2, []) := rfl
theorem mzS_135 : mz_S0[135]? = some (4, 2, []) := rfl
theorem mzS_136 : mz_S0[136]? = some (0, 6, []) := rfl
theorem mzS_137 : mz_S0[137]? = some (0, 6, []) := rfl
theorem mzS_138 : mz_S0[138]? = some (4, 2, []) := rfl
theorem mzS_139 : mz_S0[139]? = some (0, 6, []) := rfl
theorem mzS_140 : mz_S0[140]? = some (0, 6, []) := rfl
theorem mzS_141 : mz_S0[141]? = some (0, 2, []) := rfl
theorem mzS_142 : mz_S0[142]? = some (0, 6, []) := rfl
theorem mzS_143 : mz_S0[143]? = some (4, 64, []) := rfl
theorem mzS_144 : mz_S0[144]? = some (0, 6, []) := rfl
theorem mzS_145 : mz_S0[145]? = some (0, 6, []) := rfl
theorem mzS_146 : mz_S0[146]? = some (0, 6, []) := rfl
theorem mzS_147 : mz_S0[147]? = some (0, 6, []) := rfl
theorem mzS_148 : mz_S0[148]? = some (0, 6, []) := rfl
theorem mzS_149 : mz_S0[149]? = some (0, 6, []) := rfl
theorem mzS_150 : mz_S0[150]? = some (0, 6, []) := rfl
theorem mzS_151 : mz_S0[151]? = some (0, 6, []) := rfl
theorem mzS_152 : mz_S0[152]? = some (0, 6, []) := rfl
theorem mzS_153 : mz_S0[153]? = some (0, 6, []) := rfl
theorem mzS_154 : mz_S0[154]? = some (0, 6, []) := rfl
theorem mzS_155 : mz_S0[155]? = some (0, 6, []) := rfl
theorem mzS_156 : mz_S0[156]? = some (0, 6, []) := rfl
theorem mzS_157 : mz_S0[157]? = some (0, 6, []) := rfl
theorem mzS_158 : mz_S0[158]? = some (0, 6, []) := rfl
theorem mzS_159 : mz_S0[159]? = some (0, 6, []) := rfl
theorem mzS_160 : mz_S0[160]? = some (0, 6, []) := rfl
theorem mzS_161 : mz_S0[161]? = some (0, 6, []) := rfl
theorem mzS_162 : mz_S0[162]? = some (0, 6, []) := rfl
theorem mzS_163 : mz_S0[163]? = some (0, 6, []) := rfl
theorem mzS_164 : mz_S0[164]? = some (0, 6, []) := rfl
theorem mzS_165 : mz_S0[165]? = some (0, 6, []) := rfl
theorem mzS_166 : mz_S0[166]? = some (0, 6, []) := rfl
theorem mzS_167 : mz_S0[167]? = some (0, 6, []) := rfl
theorem mzS_168 : mz_S0[168]? = some (0, 6, []) := rfl
theorem mzS_169 : mz_S0[169]? = some (0, 6, []) := rfl
theorem mzS_170 : mz_S0[170]? = some (0, 6, []) := rfl
theorem mzS_171 : mz_S0[171]? = some (0, 6, []) := rfl
theorem mzS_172 : mz_S0[172]? = some (0, 6, []) := rfl
theorem mzS_173 : mz_S0[173]? = some (0, 6, []) := rfl
theorem mzS_174 : mz_S0[174]? = some (0, 6, []) := rfl
theorem mzS_175 : mz_S0[175]? = some (0, 6, []) := rfl
theorem mzS_176 : mz_S0[176]? = some (0, 6, []) := rfl
theorem mzS_177 : mz_S0[177]? = some (0, 6, []) := rfl
theorem mzS_178 : mz_S0[178]? = some (0, 6, []) := rfl
theorem mzS_179 : mz_S0[179]? = some (0, 6, []) := rfl
theorem mzS_180 : mz_S0[180]? = some (0, 6, []) := rfl
theorem mzS_181 : mz_S0[181]? = some (0, 6, []) := rfl
theorem mzS_182 : mz_S0[182]? = some (0, 6, []) := rfl
theorem mzS_183 : mz_S0[183]? = some (0, 6, []) := rfl
theorem mzS_184 : mz_S0[184]? = some (0, 6, []) := rfl
theorem mzS_185 : mz_S0[185]? = some (0, 6, []) := rfl
theorem mzS_186 : mz_S0[186]? = some (0, 6, []) := rfl
theorem mzS_187 : mz_S0[187]? = some (0, 6, []) := rfl
theorem mzS_188 : mz_S0[188]? = some (0, 6, []) := rfl
theorem mzS_189 : mz_S0[189]? = some (0, 6, []) := rfl
theorem mzS_190 : mz_S0[190]? = some (0, 6, []) := rfl
theorem mzS_191 : mz_S0[191]? = some (0, 6, []) := rfl
theorem mzS_192 : mz_S0[192]? = some (0, 6, []) := rfl
theorem mzS_193 : mz_S0[193]? = some (0, 6, []) := rfl
theorem mzS_194 : mz_S0[194]? = some (0, 6, []) := rfl
theorem mzS_195 : mz_S0[195]? = some (0, 6, []) := rfl
theorem mzS_196 : mz_S0[196]? = some (0, 6, []) := rfl
theorem mzS_197 : mz_S0[197]? = some (0, 6, []) := rfl
theorem mzS_198 : mz_S0[198]? = some (0, 6, []) := rfl
theorem mzS_199 : mz_S0[199]? = some (0, 6, []) := rfl
theorem mzS_200 : mz_S0[200]? = some (0, 6, []) := rfl
theorem mzS_201 : mz_S0[201]? = some (0, 6, []) := rfl
theorem mzS_202 : mz_S0[202]? = some (0, 6, []) := rfl
theorem mzS_203 : mz_S0[203]? = some (0, 6, []) := rfl
theorem mzS_204 : mz_S0[204]? = some (0, 6, []) := rfl
theorem mzS_205 : mz_S0[205]? = some (0, 6, []) := rfl
theorem mzS_206 : mz_S0[206]? = some (0, 6, []) := rfl
theorem mzS_207 : mz_S0[207]? = some (0, 6, []) := rfl
theorem mzS_208 : mz_S0[208]? = some (9, 1, mz_FK0 1) := rfl
theorem mzS_209 : mz_S0[209]? = some (4, 3, []) := rfl
theorem mzS_210 : mz_S0[210]? = some (0, 11, []) := rfl
theorem mzS_211 : mz_S0[211]? = some (0, 11, []) := rfl
theorem mzS_212 : mz_S0[212]? = some (0, 11, []) := rfl
theorem mzS_213 : mz_S0[213]? = some (1, 10, []) := rfl
theorem mzS_214 : mz_S0[214]? = some (1, 10, []) := rfl
theorem mzS_215 : mz_S0[215]? = some (0, 4, []) := rfl
theorem mzS_216 : mz_S0[216]? = some (1, 10, []) := rfl
theorem mzS_217 : mz_S0[217]? = some (1, 10, []) := rfl
theorem mzS_218 : mz_S0[218]? = some (1, 10, []) := rfl
theorem mzS_219 : mz_S0[219]? = some (9, 8, mz_FK0 8) := rfl
theorem mzS_220 : mz_S0[220]? = some (4, 2, []) := rfl
theorem mzS_221 : mz_S0[221]? = some (0, 9600, []) := rfl
theorem mzS_222 : mz_S0[222]? = some (0, 9600, []) := rfl
theorem mzS_223 : mz_S0[223]? = some (0, 3780, []) := rfl
theorem mzS_224 : mz_S0[224]? = some (0, 135, []) := rfl
theorem mzS_225 : mz_S0[225]? = some (0, 48, []) := rfl
theorem mzS_226 : mz_S0[226]? = some (0, 16, []) := rfl
theorem mzS_227 : mz_S0[227]? = some (0, 448, []) := rfl
theorem mzS_228 : mz_S0[228]? = some (0, 4056, []) := rfl
theorem mzS_229 : mz_S0[229]? = some (0, 4100, []) := rfl
theorem mzS_230 : mz_S0[230]? = some (0, 3780, []) := rfl
theorem mzS_231 : mz_S0[231]? = some (0, 135, []) := rfl
theorem mzS_232 : mz_S0[232]? = some (9, 12, mz_FK0 12) := rfl
theorem mzS_233 : mz_S0[233]? = some (0, 4400, []) := rfl
theorem mzS_234 : mz_S0[234]? = some (0, 240, []) := rfl
theorem mzS_235 : mz_S0[235]? = some (0, 240, []) := rfl
theorem mzS_236 : mz_S0[236]? = some (0, 240, []) := rfl
theorem mzS_237 : mz_S0[237]? = some (0, 240, []) := rfl
theorem mzS_238 : mz_S0[238]? = some (0, 240, []) := rfl
theorem mzS_239 : mz_S0[239]? = some (0, 6400, []) := rfl
theorem mzS_240 : mz_S0[240]? = some (0, 240, []) := rfl
theorem mzS_241 : mz_S0[241]? = some (0, 240, []) := rfl
theorem mzS_242 : mz_S0[242]? = some (0, 10, []) := rfl
theorem mzS_243 : mz_S0[243]? = some (0, 10, []) := rfl
theorem mzS_244 : mz_S0[244]? = some (0, 240, []) := rfl
theorem mzS_245 : mz_S0[245]? = some (0, 24, []) := rfl
theorem mzS_246 : mz_S0[246]? = some (0, 96, []) := rfl
theorem mzS_247 : mz_S0[247]? = some (0, 11, []) := rfl
theorem mzS_248 : mz_S0[248]? = some (0, 11, []) := rfl
theorem mzS_249 : mz_S0[249]? = some (0, 3, []) := rfl
theorem mzS_250 : mz_S0[250]? = some (0, 3, []) := rfl
theorem mzS_251 : mz_S0[251]? = some (0, 196, []) := rfl
theorem mzS_252 : mz_S0[252]? = some (0, 196, []) := rfl
theorem mzS_253 : mz_S0[253]? = some (0, 400, []) := rfl
theorem mzS_254 : mz_S0[254]? = some (0, 400, []) := rfl
theorem mzS_255 : mz_S0[255]? = some (0, 13, []) := rfl
theorem mzS_256 : mz_S0[256]? = some (0, 13, []) := rfl
theorem mzS_257 : mz_S0[257]? = some (0, 16, []) := rfl
theorem mzS_258 : mz_S0[258]? = some (1, 64, []) := rfl
theorem mzS_259 : mz_S0[259]? = some (1, 200, []) := rfl
theorem mzS_260 : mz_S0[260]? = some (1, 240, []) := rfl
theorem mzS_261 : mz_S0[261]? = some (1, 240, []) := rfl
theorem mzS_262 : mz_S0[262]? = some (1, 240, []) := rfl
theorem mzS_263 : mz_S0[263]? = some (1, 240, []) := rfl
theorem mzS_264 : mz_S0[264]? = some (1, 240, []) := rfl
theorem mzS_265 : mz_S0[265]? = some (1, 240, []) := rfl
theorem mzS_266 : mz_S0[266]? = some (1, 240, []) := rfl
theorem mzS_267 : mz_S0[267]? = some (1, 240, []) := rfl
theorem mzS_268 : mz_S0[268]? = some (1, 40, []) := rfl
theorem mzS_269 : mz_S0[269]? = some (1, 40, []) := rfl
theorem mzS_270 : mz_S0[270]? = some (1, 41, []) := rfl
theorem mzS_271 : mz_S0[271]? = some (1, 41, []) := rfl
theorem mzS_272 : mz_S0[272]? = some (0, 11, []) := rfl
theorem mzS_273 : mz_S0[273]? = some (3, 11, []) := rfl
theorem mzS_274 : mz_S0[274]? = some (0, 11, []) := rfl
theorem mzS_275 : mz_S0[275]? = some (3, 11, []) := rfl
theorem mzS_276 : mz_S0[276]? = some (3, 11, []) := rfl
theorem mzS_277 : mz_S0[277]? = some (0, 10, []) := rfl
theorem mzS_278 : mz_S0[278]? = some (0, 10, []) := rfl
theorem mzS_279 : mz_S0[279]? = some (3, 18, []) := rfl
theorem mzS_280 : mz_S0[280]? = some (0, 32, []) := rfl
theorem mzS_281 : mz_S0[281]? = some (1, 32, []) := rfl
theorem mzS_282 : mz_S0[282]? = some (3, 8, []) := rfl
theorem mzS_283 : mz_S0[283]? = some (0, 8, []) := rfl
theorem mzS_284 : mz_S0[284]? = some (0, 8, []) := rfl
theorem mzS_285 : mz_S0[285]? = some (0, 8, []) := rfl
theorem mzS_286 : mz_S0[286]? = some (1, 384, []) := rfl
theorem mzS_287 : mz_S0[287]? = some (3, 16, []) := rfl
theorem mzS_288 : mz_S0[288]? = some (0, 16, []) := rfl
theorem mzS_289 : mz_S0[289]? = some (0, 16, []) := rfl
theorem mzS_290 : mz_S0[290]? = some (0, 16, []) := rfl
theorem mzS_291 : mz_S0[291]? = some (1, 16, []) := rfl
theorem mzS_292 : mz_S0[292]? = some (1, 16, []) := rfl
theorem mzS_293 : mz_S0[293]? = some (0, 16, []) := rfl
theorem mzS_294 : mz_S0[294]? = some (0, 12, []) := rfl
theorem mzS_295 : mz_S0[295]? = some (1, 12, []) := rfl
theorem mzS_296 : mz_S0[296]? = some (0, 2, []) := rfl
theorem mzS_297 : mz_S0[297]? = some (0, 2, []) := rfl
theorem mzS_298 : mz_S0[298]? = some (1, 2, []) := rfl
theorem mzS_299 : mz_S0[299]? = some (0, 6, []) := rfl
theorem mzS_300 : mz_S0[300]? = some (0, 6, []) := rfl
theorem mzS_301 : mz_S0[301]? = some (0, 6, []) := rfl
theorem mzS_302 : mz_S0[302]? = some (0, 8, []) := rfl
theorem mzS_303 : mz_S0[303]? = some (0, 8, []) := rfl
theorem mzS_304 : mz_S0[304]? = some (1, 8, []) := rfl
theorem mzS_305 : mz_S0[305]? = some (1, 3, []) := rfl
theorem mzS_306 : mz_S0[306]? = some (0, 3, []) := rfl
theorem mzS_307 : mz_S0[307]? = some (3, 3, []) := rfl
theorem mzS_308 : mz_S0[308]? = some (3, 20, []) := rfl
theorem mzS_309 : mz_S0[309]? = some (0, 20, []) := rfl
theorem mzS_310 : mz_S0[310]? = some (0, 20, []) := rfl
theorem mzS_311 : mz_S0[311]? = some (3, 40, []) := rfl
theorem mzS_312 : mz_S0[312]? = some (0, 40, []) := rfl
theorem mzS_313 : mz_S0[313]? = some (0, 40, []) := rfl
theorem mzS_314 : mz_S0[314]? = some (0, 40, []) := rfl
theorem mzS_315 : mz_S0[315]? = some (3, 40, []) := rfl
theorem mzS_316 : mz_S0[316]? = some (0, 40, []) := rfl
theorem mzS_317 : mz_S0[317]? = some (1, 64, []) := rfl
theorem mzS_318 : mz_S0[318]? = some (0, 64, []) := rfl
theorem mzS_319 : mz_S0[319]? = some (0, 64, []) := rfl
theorem mzS_320 : mz_S0[320]? = some (0, 64, []) := rfl
theorem mzS_321 : mz_S0[321]? = some (1, 11, []) := rfl
theorem mzS_322 : mz_S0[322]? = some (1, 11, []) := rfl
theorem mzS_323 : mz_S0[323]? = some (1, 11, []) := rfl
theorem mzS_324 : mz_S0[324]? = some (1, 10, []) := rfl
theorem mzS_325 : mz_S0[325]? = some (1, 10, []) := rfl
theorem mzS_326 : mz_S0[326]? = some (1, 41, []) := rfl
theorem mzS_327 : mz_S0[327]? = some (1, 41, []) := rfl
theorem mzS_328 : mz_S0[328]? = some (1, 41, []) := rfl
theorem mzS_329 : mz_S0[329]? = some (2, 19200, []) := rfl
theorem mzS_330 : mz_S0[330]? = some (3, 135, []) := rfl
theorem mzS_331 : mz_S0[331]? = some (2, 3780, []) := rfl
theorem mzS_332 : mz_S0[332]? = some (2, 28, []) := rfl
theorem mzS_333 : mz_S0[333]? = some (0, 160, []) := rfl
theorem mzS_334 : mz_S0[334]? = some (2, 4100, []) := rfl
theorem mzS_335 : mz_S0[335]? = some (2, 4100, []) := rfl
theorem mzS_336 : mz_S0[336]? = some (3, 135, []) := rfl
theorem mzS_337 : mz_S0[337]? = some (2, 3780, []) := rfl
theorem mzS_338 : mz_S0[338]? = some (0, 196, []) := rfl
theorem mzS_339 : mz_S0[339]? = some (0, 400, []) := rfl
theorem mzS_340 : mz_S0[340]? = some (1, 240, []) := rfl
theorem mzS_341 : mz_S0[341]? = some (2, 48, []) := rfl
theorem mzS_342 : mz_S0[342]? = some (1, 1, []) := rfl
theorem mzR_0_0 : mz_R0 0 0 = some 1 := by decide +kernel
theorem mzR_0_1 : mz_R0 0 1 = some 2 := by decide +kernel
theorem mzR_0_2 : mz_R0 0 2 = some 41 := by decide +kernel
theorem mzR_0_3 : mz_R0 0 3 = some 56 := by decide +kernel
theorem mzR_0_4 : mz_R0 0 4 = some 65 := by decide +kernel
theorem mzR_0_5 : mz_R0 0 5 = some 81 := by decide +kernel
theorem mzR_0_6 : mz_R0 0 6 = some 100 := by decide +kernel
theorem mzR_0_7 : mz_R0 0 7 = some 115 := by decide +kernel
theorem mzR_0_8 : mz_R0 0 8 = some 208 := by decide +kernel
theorem mzR_0_9 : mz_R0 0 9 = some 219 := by decide +kernel
theorem mzR_0_10 : mz_R0 0 10 = some 53 := by decide +kernel
theorem mzR_1_0 : mz_R0 1 0 = some 2 := by decide +kernel
theorem mzR_1_1 : mz_R0 1 1 = some 41 := by decide +kernel
theorem mzR_1_2 : mz_R0 1 2 = some 56 := by decide +kernel
theorem mzR_1_3 : mz_R0 1 3 = some 65 := by decide +kernel
theorem mzR_1_4 : mz_R0 1 4 = some 81 := by decide +kernel
theorem mzR_1_5 : mz_R0 1 5 = some 100 := by decide +kernel
theorem mzR_1_6 : mz_R0 1 6 = some 115 := by decide +kernel
theorem mzR_1_7 : mz_R0 1 7 = some 208 := by decide +kernel
theorem mzR_1_8 : mz_R0 1 8 = some 219 := by decide +kernel
theorem mzR_1_9 : mz_R0 1 9 = some 228 := by decide +kernel
theorem mzR_1_11 : mz_R0 1 11 = some 229 := by decide +kernel
theorem mzR_1_13 : mz_R0 1 13 = some 230 := by decide +kernel
theorem mzR_1_14 : mz_R0 1 14 = some 231 := by decide +kernel
theorem mzR_2_0 : mz_R0 2 0 = some 3 := by decide +kernel
theorem mzR_2_1 : mz_R0 2 1 = some 4 := by decide +kernel
theorem mzR_2_2 : mz_R0 2 2 = some 8 := by decide +kernel
theorem mzR_2_4 : mz_R0 2 4 = some 12 := by decide +kernel
theorem mzR_2_5 : mz_R0 2 5 = some 13 := by decide +kernel
theorem mzR_2_6 : mz_R0 2 6 = some 14 := by decide +kernel
theorem mzR_2_8 : mz_R0 2 8 = some 15 := by decide +kernel
theorem mzR_2_9 : mz_R0 2 9 = some 16 := by decide +kernel
theorem mzR_2_10 : mz_R0 2 10 = some 30 := by decide +kernel
theorem mzR_2_11 : mz_R0 2 11 = some 31 := by decide +kernel
theorem mzR_2_12 : mz_R0 2 12 = some 32 := by decide +kernel
theorem mzR_2_14 : mz_R0 2 14 = some 36 := by decide +kernel
theorem mzR_2_15 : mz_R0 2 15 = some 37 := by decide +kernel
theorem mzR_2_16 : mz_R0 2 16 = some 38 := by decide +kernel
theorem mzR_2_17 : mz_R0 2 17 = some 39 := by decide +kernel
theorem mzR_2_18 : mz_R0 2 18 = some 40 := by decide +kernel
theorem mzR2_4 {i : Int32} (h : mz_ib i 3) : mz_R0 4 i.toNatClampNeg = some (5 + i.toNatClampNeg) := (by decide +kernel : ∀ j, j < 3 → mz_R0 4 j = some (5 + j)) _ (mz_ib_lt h)
theorem mzS2_4 {i : Int32} (h : mz_ib i 3) : mz_S0[5 + i.toNatClampNeg]? = some (0, 550, []) := (by decide +kernel : ∀ j, j < 3 → mz_S0[5 + j]? = some (0, 550, [])) _ (mz_ib_lt h)
theorem mzL2_4 {i : Int32} (h : mz_ib i 3) {z : Nat} (hz : 8 ≤ z) : 5 + i.toNatClampNeg < z := by have := mz_ib_lt h; omega
theorem mzR2_8 {i : Int32} (h : mz_ib i 3) : mz_R0 8 i.toNatClampNeg = some (9 + i.toNatClampNeg) := (by decide +kernel : ∀ j, j < 3 → mz_R0 8 j = some (9 + j)) _ (mz_ib_lt h)
theorem mzS2_8 {i : Int32} (h : mz_ib i 3) : mz_S0[9 + i.toNatClampNeg]? = some (0, 550, []) := (by decide +kernel : ∀ j, j < 3 → mz_S0[9 + j]? = some (0, 550, [])) _ (mz_ib_lt h)
theorem mzL2_8 {i : Int32} (h : mz_ib i 3) {z : Nat} (hz : 12 ≤ z) : 9 + i.toNatClampNeg < z := by have := mz_ib_lt h; omega
theorem mzR2_16 {i : Int32} (h : mz_ib i 13) : mz_R0 16 i.toNatClampNeg = some (17 + i.toNatClampNeg) := (by decide +kernel : ∀ j, j < 13 → mz_R0 16 j = some (17 + j)) _ (mz_ib_lt h)
theorem mzS2_16 {i : Int32} (h : mz_ib i 13) : mz_S0[17 + i.toNatClampNeg]? = some (0, 40, []) := (by decide +kernel : ∀ j, j < 13 → mz_S0[17 + j]? = some (0, 40, [])) _ (mz_ib_lt h)
theorem mzL2_16 {i : Int32} (h : mz_ib i 13) {z : Nat} (hz : 30 ≤ z) : 17 + i.toNatClampNeg < z := by have := mz_ib_lt h; omega
theorem mzR2_32 {i : Int32} (h : mz_ib i 3) : mz_R0 32 i.toNatClampNeg = some (33 + i.toNatClampNeg) := (by decide +kernel : ∀ j, j < 3 → mz_R0 32 j = some (33 + j)) _ (mz_ib_lt h)
theorem mzS2_32 {i : Int32} (h : mz_ib i 3) : mz_S0[33 + i.toNatClampNeg]? = some (0, 780, []) := (by decide +kernel : ∀ j, j < 3 → mz_S0[33 + j]? = some (0, 780, [])) _ (mz_ib_lt h)
theorem mzL2_32 {i : Int32} (h : mz_ib i 3) {z : Nat} (hz : 36 ≤ z) : 33 + i.toNatClampNeg < z := by have := mz_ib_lt h; omega
theorem mzR_41_0 : mz_R0 41 0 = some 42 := by decide +kernel
theorem mzR_41_2 : mz_R0 41 2 = some 48 := by decide +kernel
theorem mzR_41_3 : mz_R0 41 3 = some 43 := by decide +kernel
theorem mzR_41_6 : mz_R0 41 6 = some 53 := by decide +kernel
theorem mzR_41_7 : mz_R0 41 7 = some 54 := by decide +kernel
theorem mzR_41_8 : mz_R0 41 8 = some 55 := by decide +kernel
theorem mzR_43_0 : mz_R0 43 0 = some 44 := by decide +kernel
theorem mzR_43_2 : mz_R0 43 2 = some 45 := by decide +kernel
theorem mzR_43_3 : mz_R0 43 3 = some 46 := by decide +kernel
theorem mzR_43_14 : mz_R0 43 14 = some 47 := by decide +kernel
theorem mzR_48_0 : mz_R0 48 0 = some 49 := by decide +kernel
theorem mzR_48_2 : mz_R0 48 2 = some 50 := by decide +kernel
theorem mzR_48_3 : mz_R0 48 3 = some 51 := by decide +kernel
theorem mzR_48_14 : mz_R0 48 14 = some 52 := by decide +kernel
theorem mzR_56_0 : mz_R0 56 0 = some 57 := by decide +kernel
theorem mzR_56_14 : mz_R0 56 14 = some 64 := by decide +kernel
theorem mzR2_57 {i : Int32} (h : mz_ib i 6) : mz_R0 57 i.toNatClampNeg = some (58 + i.toNatClampNeg) := (by decide +kernel : ∀ j, j < 6 → mz_R0 57 j = some (58 + j)) _ (mz_ib_lt h)
theorem mzS2_57 {i : Int32} (h : mz_ib i 6) : mz_S0[58 + i.toNatClampNeg]? = some (0, 11, []) := (by decide +kernel : ∀ j, j < 6 → mz_S0[58 + j]? = some (0, 11, [])) _ (mz_ib_lt h)
theorem mzL2_57 {i : Int32} (h : mz_ib i 6) {z : Nat} (hz : 64 ≤ z) : 58 + i.toNatClampNeg < z := by have := mz_ib_lt h; omega
theorem mzR_65_0 : mz_R0 65 0 = some 66 := by decide +kernel
theorem mzR_65_1 : mz_R0 65 1 = some 67 := by decide +kernel
theorem mzR_65_2 : mz_R0 65 2 = some 68 := by decide +kernel
theorem mzR_65_3 : mz_R0 65 3 = some 69 := by decide +kernel
theorem mzR_65_4 : mz_R0 65 4 = some 70 := by decide +kernel
theorem mzR_65_5 : mz_R0 65 5 = some 71 := by decide +kernel
theorem mzR_65_6 : mz_R0 65 6 = some 72 := by decide +kernel
theorem mzR_65_7 : mz_R0 65 7 = some 73 := by decide +kernel
theorem mzR_65_9 : mz_R0 65 9 = some 74 := by decide +kernel
theorem mzR_65_10 : mz_R0 65 10 = some 75 := by decide +kernel
theorem mzR_65_11 : mz_R0 65 11 = some 76 := by decide +kernel
theorem mzR_65_12 : mz_R0 65 12 = some 77 := by decide +kernel
theorem mzR_65_13 : mz_R0 65 13 = some 78 := by decide +kernel
theorem mzR_65_14 : mz_R0 65 14 = some 79 := by decide +kernel
theorem mzR_65_15 : mz_R0 65 15 = some 80 := by decide +kernel
theorem mzR_81_0 : mz_R0 81 0 = some 82 := by decide +kernel
theorem mzR_81_1 : mz_R0 81 1 = some 83 := by decide +kernel
theorem mzR_81_2 : mz_R0 81 2 = some 84 := by decide +kernel
theorem mzR_81_4 : mz_R0 81 4 = some 87 := by decide +kernel
theorem mzR_81_5 : mz_R0 81 5 = some 88 := by decide +kernel
theorem mzR_81_6 : mz_R0 81 6 = some 89 := by decide +kernel
theorem mzR_81_7 : mz_R0 81 7 = some 90 := by decide +kernel
theorem mzR_81_8 : mz_R0 81 8 = some 99 := by decide +kernel
theorem mzR2_84 {i : Int32} (h : mz_ib i 2) : mz_R0 84 i.toNatClampNeg = some (85 + i.toNatClampNeg) := (by decide +kernel : ∀ j, j < 2 → mz_R0 84 j = some (85 + j)) _ (mz_ib_lt h)
theorem mzS2_84 {i : Int32} (h : mz_ib i 2) : mz_S0[85 + i.toNatClampNeg]? = some (0, 32, []) := (by decide +kernel : ∀ j, j < 2 → mz_S0[85 + j]? = some (0, 32, [])) _ (mz_ib_lt h)
theorem mzL2_84 {i : Int32} (h : mz_ib i 2) {z : Nat} (hz : 87 ≤ z) : 85 + i.toNatClampNeg < z := by have := mz_ib_lt h; omega
theorem mzR2_90 {i : Int32} (h : mz_ib i 8) : mz_R0 90 i.toNatClampNeg = some (91 + i.toNatClampNeg) := (by decide +kernel : ∀ j, j < 8 → mz_R0 90 j = some (91 + j)) _ (mz_ib_lt h)
theorem mzS2_90 {i : Int32} (h : mz_ib i 8) : mz_S0[91 + i.toNatClampNeg]? = some (1, 48, []) := (by decide +kernel : ∀ j, j < 8 → mz_S0[91 + j]? = some (1, 48, [])) _ (mz_ib_lt h)
theorem mzL2_90 {i : Int32} (h : mz_ib i 8) {z : Nat} (hz : 99 ≤ z) : 91 + i.toNatClampNeg < z := by have := mz_ib_lt h; omega
theorem mzR_100_0 : mz_R0 100 0 = some 101 := by decide +kernel
theorem mzR_100_1 : mz_R0 100 1 = some 102 := by decide +kernel
theorem mzR_100_2 : mz_R0 100 2 = some 103 := by decide +kernel
theorem mzR_100_3 : mz_R0 100 3 = some 104 := by decide +kernel
theorem mzR_100_4 : mz_R0 100 4 = some 105 := by decide +kernel
theorem mzR_100_5 : mz_R0 100 5 = some 106 := by decide +kernel
theorem mzR_100_6 : mz_R0 100 6 = some 107 := by decide +kernel
theorem mzR_100_7 : mz_R0 100 7 = some 108 := by decide +kernel
theorem mzR_100_8 : mz_R0 100 8 = some 109 := by decide +kernel
theorem mzR_100_9 : mz_R0 100 9 = some 110 := by decide +kernel
theorem mzR2_110 {i : Int32} (h : mz_ib i 4) : mz_R0 110 i.toNatClampNeg = some (111 + i.toNatClampNeg) := (by decide +kernel : ∀ j, j < 4 → mz_R0 110 j = some (111 + j)) _ (mz_ib_lt h)
theorem mzS2_110 {i : Int32} (h : mz_ib i 4) : mz_S0[111 + i.toNatClampNeg]? = some (0, 64, []) := (by decide +kernel : ∀ j, j < 4 → mz_S0[111 + j]? = some (0, 64, [])) _ (mz_ib_lt h)
theorem mzL2_110 {i : Int32} (h : mz_ib i 4) {z : Nat} (hz : 115 ≤ z) : 111 + i.toNatClampNeg < z := by have := mz_ib_lt h; omega
theorem mzR_115_0 : mz_R0 115 0 = some 116 := by decide +kernel
theorem mzR_115_1 : mz_R0 115 1 = some 123 := by decide +kernel
theorem mzR_115_3 : mz_R0 115 3 = some 124 := by decide +kernel
theorem mzR_115_4 : mz_R0 115 4 = some 129 := by decide +kernel
theorem mzR_115_6 : mz_R0 115 6 = some 133 := by decide +kernel
theorem mzR_115_7 : mz_R0 115 7 = some 134 := by decide +kernel
theorem mzR_115_8 : mz_R0 115 8 = some 135 := by decide +kernel
theorem mzR_115_9 : mz_R0 115 9 = some 138 := by decide +kernel
theorem mzR_115_10 : mz_R0 115 10 = some 141 := by decide +kernel
theorem mzR_115_11 : mz_R0 115 11 = some 142 := by decide +kernel
theorem mzR_115_12 : mz_R0 115 12 = some 143 := by decide +kernel
theorem mzR2_116 {i : Int32} (h : mz_ib i 6) : mz_R0 116 i.toNatClampNeg = some (117 + i.toNatClampNeg) := (by decide +kernel : ∀ j, j < 6 → mz_R0 116 j = some (117 + j)) _ (mz_ib_lt h)
theorem mzS2_116 {i : Int32} (h : mz_ib i 6) : mz_S0[117 + i.toNatClampNeg]? = some (0, 16, []) := (by decide +kernel : ∀ j, j < 6 → mz_S0[117 + j]? = some (0, 16, [])) _ (mz_ib_lt h)
theorem mzL2_116 {i : Int32} (h : mz_ib i 6) {z : Nat} (hz : 123 ≤ z) : 117 + i.toNatClampNeg < z := by have := mz_ib_lt h; omega
theorem mzR2_124 {i : Int32} (h : mz_ib i 4) : mz_R0 124 i.toNatClampNeg = some (125 + i.toNatClampNeg) := (by decide +kernel : ∀ j, j < 4 → mz_R0 124 j = some (125 + j)) _ (mz_ib_lt h)
theorem mzS2_124 {i : Int32} (h : mz_ib i 4) : mz_S0[125 + i.toNatClampNeg]? = some (0, 3, []) := (by decide +kernel : ∀ j, j < 4 → mz_S0[125 + j]? = some (0, 3, [])) _ (mz_ib_lt h)
theorem mzL2_124 {i : Int32} (h : mz_ib i 4) {z : Nat} (hz : 129 ≤ z) : 125 + i.toNatClampNeg < z := by have := mz_ib_lt h; omega
theorem mzR2_129 {i : Int32} (h : mz_ib i 3) : mz_R0 129 i.toNatClampNeg = some (130 + i.toNatClampNeg) := (by decide +kernel : ∀ j, j < 3 → mz_R0 129 j = some (130 + j)) _ (mz_ib_lt h)
theorem mzS2_129 {i : Int32} (h : mz_ib i 3) : mz_S0[130 + i.toNatClampNeg]? = some (0, 8, []) := (by decide +kernel : ∀ j, j < 3 → mz_S0[130 + j]? = some (0, 8, [])) _ (mz_ib_lt h)
theorem mzL2_129 {i : Int32} (h : mz_ib i 3) {z : Nat} (hz : 133 ≤ z) : 130 + i.toNatClampNeg < z := by have := mz_ib_lt h; omega
theorem mzR2_135 {i : Int32} (h : mz_ib i 2) : mz_R0 135 i.toNatClampNeg = some (136 + i.toNatClampNeg) := (by decide +kernel : ∀ j, j < 2 → mz_R0 135 j = some (136 + j)) _ (mz_ib_lt h)
theorem mzS2_135 {i : Int32} (h : mz_ib i 2) : mz_S0[136 + i.toNatClampNeg]? = some (0, 6, []) := (by decide +kernel : ∀ j, j < 2 → mz_S0[136 + j]? = some (0, 6, [])) _ (mz_ib_lt h)
theorem mzL2_135 {i : Int32} (h : mz_ib i 2) {z : Nat} (hz : 138 ≤ z) : 136 + i.toNatClampNeg < z := by have := mz_ib_lt h; omega
theorem mzR2_138 {i : Int32} (h : mz_ib i 2) : mz_R0 138 i.toNatClampNeg = some (139 + i.toNatClampNeg) := (by decide +kernel : ∀ j, j < 2 → mz_R0 138 j = some (139 + j)) _ (mz_ib_lt h)
theorem mzS2_138 {i : Int32} (h : mz_ib i 2) : mz_S0[139 + i.toNatClampNeg]? = some (0, 6, []) := (by decide +kernel : ∀ j, j < 2 → mz_S0[139 + j]? = some (0, 6, [])) _ (mz_ib_lt h)
theorem mzL2_138 {i : Int32} (h : mz_ib i 2) {z : Nat} (hz : 141 ≤ z) : 139 + i.toNatClampNeg < z := by have := mz_ib_lt h; omega
theorem mzR2_143 {i : Int32} (h : mz_ib i 64) : mz_R0 143 i.toNatClampNeg = some (144 + i.toNatClampNeg) := (by decide +kernel : ∀ j, j < 64 → mz_R0 143 j = some (144 + j)) _ (mz_ib_lt h)
theorem mzS2_143 {i : Int32} (h : mz_ib i 64) : mz_S0[144 + i.toNatClampNeg]? = some (0, 6, []) := (by decide +kernel : ∀ j, j < 64 → mz_S0[144 + j]? = some (0, 6, [])) _ (mz_ib_lt h)
theorem mzL2_143 {i : Int32} (h : mz_ib i 64) {z : Nat} (hz : 208 ≤ z) : 144 + i.toNatClampNeg < z := by have := mz_ib_lt h; omega
theorem mzR_208_5 : mz_R0 208 5 = some 209 := by decide +kernel
theorem mzR_208_6 : mz_R0 208 6 = some 213 := by decide +kernel
theorem mzR_208_7 : mz_R0 208 7 = some 214 := by decide +kernel
theorem mzR_208_8 : mz_R0 208 8 = some 215 := by decide +kernel
theorem mzR_208_9 : mz_R0 208 9 = some 216 := by decide +kernel
theorem mzR_208_10 : mz_R0 208 10 = some 217 := by decide +kernel
theorem mzR_208_11 : mz_R0 208 11 = some 218 := by decide +kernel
theorem mzR2_209 {i : Int32} (h : mz_ib i 3) : mz_R0 209 i.toNatClampNeg = some (210 + i.toNatClampNeg) := (by decide +kernel : ∀ j, j < 3 → mz_R0 209 j = some (210 + j)) _ (mz_ib_lt h)
theorem mzS2_209 {i : Int32} (h : mz_ib i 3) : mz_S0[210 + i.toNatClampNeg]? = some (0, 11, []) := (by decide +kernel : ∀ j, j < 3 → mz_S0[210 + j]? = some (0, 11, [])) _ (mz_ib_lt h)
theorem mzL2_209 {i : Int32} (h : mz_ib i 3) {z : Nat} (hz : 213 ≤ z) : 210 + i.toNatClampNeg < z := by have := mz_ib_lt h; omega
theorem mzR_219_0 : mz_R0 219 0 = some 220 := by decide +kernel
theorem mzR_219_1 : mz_R0 219 1 = some 223 := by decide +kernel
theorem mzR_219_2 : mz_R0 219 2 = some 224 := by decide +kernel
theorem mzR_219_3 : mz_R0 219 3 = some 225 := by decide +kernel
theorem mzR_219_9 : mz_R0 219 9 = some 226 := by decide +kernel
theorem mzR_219_10 : mz_R0 219 10 = some 227 := by decide +kernel
theorem mzR2_220 {i : Int32} (h : mz_ib i 2) : mz_R0 220 i.toNatClampNeg = some (221 + i.toNatClampNeg) := (by decide +kernel : ∀ j, j < 2 → mz_R0 220 j = some (221 + j)) _ (mz_ib_lt h)
theorem mzS2_220 {i : Int32} (h : mz_ib i 2) : mz_S0[221 + i.toNatClampNeg]? = some (0, 9600, []) := (by decide +kernel : ∀ j, j < 2 → mz_S0[221 + j]? = some (0, 9600, [])) _ (mz_ib_lt h)
theorem mzL2_220 {i : Int32} (h : mz_ib i 2) {z : Nat} (hz : 223 ≤ z) : 221 + i.toNatClampNeg < z := by have := mz_ib_lt h; omega
theorem mzR_232_3 : mz_R0 232 3 = some 233 := by decide +kernel
theorem mzR_232_5 : mz_R0 232 5 = some 234 := by decide +kernel
theorem mzR_232_6 : mz_R0 232 6 = some 235 := by decide +kernel
theorem mzR_232_8 : mz_R0 232 8 = some 236 := by decide +kernel
theorem mzR_232_9 : mz_R0 232 9 = some 237 := by decide +kernel
theorem mzR_232_10 : mz_R0 232 10 = some 238 := by decide +kernel
theorem mzR_232_11 : mz_R0 232 11 = some 239 := by decide +kernel
theorem mzR_232_12 : mz_R0 232 12 = some 240 := by decide +kernel
theorem mzR_232_13 : mz_R0 232 13 = some 241 := by decide +kernel
theorem mzR_232_14 : mz_R0 232 14 = some 242 := by decide +kernel
theorem mzR_232_15 : mz_R0 232 15 = some 243 := by decide +kernel
theorem mzR_232_16 : mz_R0 232 16 = some 244 := by decide +kernel
theorem mzR_232_17 : mz_R0 232 17 = some 245 := by decide +kernel
theorem mzR_232_18 : mz_R0 232 18 = some 246 := by decide +kernel
theorem mzR_232_19 : mz_R0 232 19 = some 247 := by decide +kernel
theorem mzR_232_20 : mz_R0 232 20 = some 248 := by decide +kernel
theorem mzR_232_22 : mz_R0 232 22 = some 249 := by decide +kernel
theorem mzR_232_23 : mz_R0 232 23 = some 250 := by decide +kernel
theorem mzR_232_24 : mz_R0 232 24 = some 251 := by decide +kernel
theorem mzR_232_26 : mz_R0 232 26 = some 252 := by decide +kernel
theorem mzR_232_29 : mz_R0 232 29 = some 253 := by decide +kernel
theorem mzR_232_30 : mz_R0 232 30 = some 254 := by decide +kernel
theorem mzR_232_32 : mz_R0 232 32 = some 255 := by decide +kernel
theorem mzR_232_33 : mz_R0 232 33 = some 256 := by decide +kernel
theorem mzR_232_37 : mz_R0 232 37 = some 257 := by decide +kernel
theorem mzR_232_38 : mz_R0 232 38 = some 258 := by decide +kernel
theorem mzR_232_39 : mz_R0 232 39 = some 259 := by decide +kernel
theorem mzR_232_40 : mz_R0 232 40 = some 260 := by decide +kernel
theorem mzR_232_41 : mz_R0 232 41 = some 261 := by decide +kernel
theorem mzR_232_42 : mz_R0 232 42 = some 262 := by decide +kernel
theorem mzR_232_43 : mz_R0 232 43 = some 263 := by decide +kernel
theorem mzR_232_44 : mz_R0 232 44 = some 264 := by decide +kernel
theorem mzR_232_45 : mz_R0 232 45 = some 265 := by decide +kernel
theorem mzR_232_46 : mz_R0 232 46 = some 266 := by decide +kernel
theorem mzR_232_47 : mz_R0 232 47 = some 267 := by decide +kernel
theorem mzR_232_48 : mz_R0 232 48 = some 268 := by decide +kernel
theorem mzR_232_49 : mz_R0 232 49 = some 269 := by decide +kernel
theorem mzR_232_50 : mz_R0 232 50 = some 270 := by decide +kernel
theorem mzR_232_51 : mz_R0 232 51 = some 271 := by decide +kernel
theorem mzR_232_56 : mz_R0 232 56 = some 272 := by decide +kernel
theorem mzR_232_57 : mz_R0 232 57 = some 273 := by decide +kernel
theorem mzR_232_58 : mz_R0 232 58 = some 274 := by decide +kernel
theorem mzR_232_59 : mz_R0 232 59 = some 275 := by decide +kernel
theorem mzR_232_60 : mz_R0 232 60 = some 276 := by decide +kernel
theorem mzR_232_69 : mz_R0 232 69 = some 277 := by decide +kernel
theorem mzR_232_70 : mz_R0 232 70 = some 278 := by decide +kernel
theorem mzR_232_71 : mz_R0 232 71 = some 279 := by decide +kernel
theorem mzR_232_73 : mz_R0 232 73 = some 280 := by decide +kernel
theorem mzR_232_74 : mz_R0 232 74 = some 281 := by decide +kernel
theorem mzR_232_75 : mz_R0 232 75 = some 282 := by decide +kernel
theorem mzR_232_76 : mz_R0 232 76 = some 283 := by decide +kernel
theorem mzR_232_77 : mz_R0 232 77 = some 284 := by decide +kernel
theorem mzR_232_78 : mz_R0 232 78 = some 285 := by decide +kernel
theorem mzR_232_79 : mz_R0 232 79 = some 286 := by decide +kernel
theorem mzR_232_80 : mz_R0 232 80 = some 287 := by decide +kernel
theorem mzR_232_81 : mz_R0 232 81 = some 288 := by decide +kernel
theorem mzR_232_82 : mz_R0 232 82 = some 289 := by decide +kernel
theorem mzR_232_83 : mz_R0 232 83 = some 290 := by decide +kernel
theorem mzR_232_84 : mz_R0 232 84 = some 291 := by decide +kernel
theorem mzR_232_85 : mz_R0 232 85 = some 292 := by decide +kernel
theorem mzR_232_86 : mz_R0 232 86 = some 293 := by decide +kernel
theorem mzR_232_88 : mz_R0 232 88 = some 294 := by decide +kernel
theorem mzR_232_89 : mz_R0 232 89 = some 295 := by decide +kernel
theorem mzR_232_90 : mz_R0 232 90 = some 296 := by decide +kernel
theorem mzR_232_91 : mz_R0 232 91 = some 297 := by decide +kernel
theorem mzR_232_92 : mz_R0 232 92 = some 298 := by decide +kernel
theorem mzR_232_93 : mz_R0 232 93 = some 299 := by decide +kernel
theorem mzR_232_94 : mz_R0 232 94 = some 300 := by decide +kernel
theorem mzR_232_95 : mz_R0 232 95 = some 301 := by decide +kernel
theorem mzR_232_97 : mz_R0 232 97 = some 302 := by decide +kernel
theorem mzR_232_98 : mz_R0 232 98 = some 303 := by decide +kernel
theorem mzR_232_99 : mz_R0 232 99 = some 304 := by decide +kernel
theorem mzR_232_100 : mz_R0 232 100 = some 305 := by decide +kernel
theorem mzR_232_101 : mz_R0 232 101 = some 306 := by decide +kernel
theorem mzR_232_102 : mz_R0 232 102 = some 307 := by decide +kernel
theorem mzR_232_103 : mz_R0 232 103 = some 308 := by decide +kernel
theorem mzR_232_104 : mz_R0 232 104 = some 309 := by decide +kernel
theorem mzR_232_105 : mz_R0 232 105 = some 310 := by decide +kernel
theorem mzR_232_106 : mz_R0 232 106 = some 311 := by decide +kernel
theorem mzR_232_107 : mz_R0 232 107 = some 312 := by decide +kernel
theorem mzR_232_108 : mz_R0 232 108 = some 313 := by decide +kernel
theorem mzR_232_109 : mz_R0 232 109 = some 314 := by decide +kernel
theorem mzR_232_110 : mz_R0 232 110 = some 315 := by decide +kernel
theorem mzR_232_111 : mz_R0 232 111 = some 316 := by decide +kernel
theorem mzR_232_113 : mz_R0 232 113 = some 317 := by decide +kernel
theorem mzR_232_114 : mz_R0 232 114 = some 318 := by decide +kernel
theorem mzR_232_115 : mz_R0 232 115 = some 319 := by decide +kernel
theorem mzR_232_116 : mz_R0 232 116 = some 320 := by decide +kernel
theorem mzR_232_117 : mz_R0 232 117 = some 321 := by decide +kernel
theorem mzR_232_118 : mz_R0 232 118 = some 322 := by decide +kernel
theorem mzR_232_119 : mz_R0 232 119 = some 323 := by decide +kernel
theorem mzR_232_120 : mz_R0 232 120 = some 324 := by decide +kernel
theorem mzR_232_121 : mz_R0 232 121 = some 325 := by decide +kernel
theorem mzR_232_126 : mz_R0 232 126 = some 326 := by decide +kernel
theorem mzR_232_127 : mz_R0 232 127 = some 327 := by decide +kernel
theorem mzR_232_128 : mz_R0 232 128 = some 328 := by decide +kernel
theorem mzR_232_129 : mz_R0 232 129 = some 329 := by decide +kernel
theorem mzR_232_130 : mz_R0 232 130 = some 330 := by decide +kernel
theorem mzR_232_131 : mz_R0 232 131 = some 331 := by decide +kernel
theorem mzR_232_132 : mz_R0 232 132 = some 332 := by decide +kernel
theorem mzR_232_138 : mz_R0 232 138 = some 333 := by decide +kernel
theorem mzR_232_140 : mz_R0 232 140 = some 334 := by decide +kernel
theorem mzR_232_142 : mz_R0 232 142 = some 335 := by decide +kernel
theorem mzR_232_144 : mz_R0 232 144 = some 336 := by decide +kernel
theorem mzR_232_145 : mz_R0 232 145 = some 337 := by decide +kernel
theorem mzR_232_146 : mz_R0 232 146 = some 338 := by decide +kernel
theorem mzR_232_155 : mz_R0 232 155 = some 339 := by decide +kernel
theorem mzR_232_158 : mz_R0 232 158 = some 340 := by decide +kernel
theorem mzR_232_159 : mz_R0 232 159 = some 341 := by decide +kernel
theorem mzf_0_0 : (mz_FK0 0)[0]? = some 2 := by decide +kernel
theorem mzf_0_1 : (mz_FK0 0)[1]? = some 2 := by decide +kernel
theorem mzf_0_2 : (mz_FK0 0)[2]? = some 2 := by decide +kernel
theorem mzf_0_3 : (mz_FK0 0)[3]? = some 2 := by decide +kernel
theorem mzf_0_4 : (mz_FK0 0)[4]? = some 2 := by decide +kernel
theorem mzf_0_5 : (mz_FK0 0)[5]? = some 2 := by decide +kernel
theorem mzf_0_6 : (mz_FK0 0)[6]? = some 2 := by decide +kernel
theorem mzf_0_7 : (mz_FK0 0)[7]? = some 2 := by decide +kernel
theorem mzf_0_8 : (mz_FK0 0)[8]? = some 2 := by decide +kernel
theorem mzf_0_9 : (mz_FK0 0)[9]? = some 2 := by decide +kernel
theorem mzf_0_10 : (mz_FK0 0)[10]? = some 0 := by decide +kernel
theorem mzf_1_0 : (mz_FK0 1)[0]? = some 0 := by decide +kernel
theorem mzf_1_1 : (mz_FK0 1)[1]? = some 1 := by decide +kernel
theorem mzf_1_2 : (mz_FK0 1)[2]? = some 1 := by decide +kernel
theorem mzf_1_3 : (mz_FK0 1)[3]? = some 0 := by decide +kernel
theorem mzf_1_4 : (mz_FK0 1)[4]? = some 0 := by decide +kernel
theorem mzf_1_5 : (mz_FK0 1)[5]? = some 2 := by decide +kernel
theorem mzf_1_6 : (mz_FK0 1)[6]? = some 2 := by decide +kernel
theorem mzf_1_7 : (mz_FK0 1)[7]? = some 2 := by decide +kernel
theorem mzf_1_8 : (mz_FK0 1)[8]? = some 2 := by decide +kernel
theorem mzf_1_9 : (mz_FK0 1)[9]? = some 2 := by decide +kernel
theorem mzf_1_10 : (mz_FK0 1)[10]? = some 2 := by decide +kernel
theorem mzf_1_11 : (mz_FK0 1)[11]? = some 2 := by decide +kernel
theorem mzf_2_0 : (mz_FK0 2)[0]? = some 2 := by decide +kernel
theorem mzf_2_1 : (mz_FK0 2)[1]? = some 2 := by decide +kernel
theorem mzf_2_2 : (mz_FK0 2)[2]? = some 0 := by decide +kernel
theorem mzf_2_3 : (mz_FK0 2)[3]? = some 2 := by decide +kernel
theorem mzf_2_4 : (mz_FK0 2)[4]? = some 2 := by decide +kernel
theorem mzf_2_5 : (mz_FK0 2)[5]? = some 0 := by decide +kernel
theorem mzf_2_6 : (mz_FK0 2)[6]? = some 2 := by decide +kernel
theorem mzf_2_7 : (mz_FK0 2)[7]? = some 2 := by decide +kernel
theorem mzf_2_8 : (mz_FK0 2)[8]? = some 2 := by decide +kernel
theorem mzf_2_9 : (mz_FK0 2)[9]? = some 2 := by decide +kernel
theorem mzf_2_10 : (mz_FK0 2)[10]? = some 2 := by decide +kernel
theorem mzf_2_11 : (mz_FK0 2)[11]? = some 2 := by decide +kernel
theorem mzf_2_12 : (mz_FK0 2)[12]? = some 2 := by decide +kernel
theorem mzf_3_0 : (mz_FK0 3)[0]? = some 2 := by decide +kernel
theorem mzf_3_1 : (mz_FK0 3)[1]? = some 2 := by decide +kernel
theorem mzf_3_2 : (mz_FK0 3)[2]? = some 2 := by decide +kernel
theorem mzf_3_3 : (mz_FK0 3)[3]? = some 2 := by decide +kernel
theorem mzf_3_4 : (mz_FK0 3)[4]? = some 2 := by decide +kernel
theorem mzf_3_5 : (mz_FK0 3)[5]? = some 2 := by decide +kernel
theorem mzf_3_6 : (mz_FK0 3)[6]? = some 2 := by decide +kernel
theorem mzf_3_7 : (mz_FK0 3)[7]? = some 2 := by decide +kernel
theorem mzf_3_8 : (mz_FK0 3)[8]? = some 3 := by decide +kernel
theorem mzf_3_9 : (mz_FK0 3)[9]? = some 2 := by decide +kernel
theorem mzf_3_10 : (mz_FK0 3)[10]? = some 2 := by decide +kernel
theorem mzf_3_11 : (mz_FK0 3)[11]? = some 2 := by decide +kernel
theorem mzf_3_12 : (mz_FK0 3)[12]? = some 2 := by decide +kernel
theorem mzf_3_13 : (mz_FK0 3)[13]? = some 2 := by decide +kernel
theorem mzf_3_14 : (mz_FK0 3)[14]? = some 2 := by decide +kernel
theorem mzf_3_15 : (mz_FK0 3)[15]? = some 2 := by decide +kernel
theorem mzf_4_0 : (mz_FK0 4)[0]? = some 2 := by decide +kernel
theorem mzf_4_1 : (mz_FK0 4)[1]? = some 2 := by decide +kernel
theorem mzf_4_2 : (mz_FK0 4)[2]? = some 2 := by decide +kernel
theorem mzf_4_3 : (mz_FK0 4)[3]? = some 2 := by decide +kernel
theorem mzf_4_4 : (mz_FK0 4)[4]? = some 2 := by decide +kernel
theorem mzf_4_5 : (mz_FK0 4)[5]? = some 2 := by decide +kernel
theorem mzf_4_6 : (mz_FK0 4)[6]? = some 2 := by decide +kernel
theorem mzf_4_7 : (mz_FK0 4)[7]? = some 2 := by decide +kernel
theorem mzf_4_8 : (mz_FK0 4)[8]? = some 2 := by decide +kernel
theorem mzf_4_9 : (mz_FK0 4)[9]? = some 2 := by decide +kernel
theorem mzf_4_10 : (mz_FK0 4)[10]? = some 0 := by decide +kernel
theorem mzf_4_11 : (mz_FK0 4)[11]? = some 2 := by decide +kernel
theorem mzf_4_12 : (mz_FK0 4)[12]? = some 0 := by decide +kernel
theorem mzf_4_13 : (mz_FK0 4)[13]? = some 2 := by decide +kernel
theorem mzf_4_14 : (mz_FK0 4)[14]? = some 2 := by decide +kernel
theorem mzf_5_0 : (mz_FK0 5)[0]? = some 2 := by decide +kernel
theorem mzf_5_1 : (mz_FK0 5)[1]? = some 2 := by decide +kernel
theorem mzf_5_2 : (mz_FK0 5)[2]? = some 2 := by decide +kernel
theorem mzf_5_3 : (mz_FK0 5)[3]? = some 0 := by decide +kernel
theorem mzf_5_4 : (mz_FK0 5)[4]? = some 2 := by decide +kernel
theorem mzf_5_5 : (mz_FK0 5)[5]? = some 2 := by decide +kernel
theorem mzf_5_6 : (mz_FK0 5)[6]? = some 2 := by decide +kernel
theorem mzf_5_7 : (mz_FK0 5)[7]? = some 0 := by decide +kernel
theorem mzf_5_8 : (mz_FK0 5)[8]? = some 2 := by decide +kernel
theorem mzf_5_9 : (mz_FK0 5)[9]? = some 2 := by decide +kernel
theorem mzf_5_10 : (mz_FK0 5)[10]? = some 2 := by decide +kernel
theorem mzf_5_11 : (mz_FK0 5)[11]? = some 2 := by decide +kernel
theorem mzf_5_12 : (mz_FK0 5)[12]? = some 2 := by decide +kernel
theorem mzf_5_13 : (mz_FK0 5)[13]? = some 0 := by decide +kernel
theorem mzf_5_14 : (mz_FK0 5)[14]? = some 2 := by decide +kernel
theorem mzf_5_15 : (mz_FK0 5)[15]? = some 2 := by decide +kernel
theorem mzf_5_16 : (mz_FK0 5)[16]? = some 2 := by decide +kernel
theorem mzf_5_17 : (mz_FK0 5)[17]? = some 2 := by decide +kernel
theorem mzf_5_18 : (mz_FK0 5)[18]? = some 2 := by decide +kernel
theorem mzf_6_0 : (mz_FK0 6)[0]? = some 2 := by decide +kernel
theorem mzf_6_1 : (mz_FK0 6)[1]? = some 0 := by decide +kernel
theorem mzf_6_2 : (mz_FK0 6)[2]? = some 2 := by decide +kernel
theorem mzf_6_3 : (mz_FK0 6)[3]? = some 2 := by decide +kernel
theorem mzf_6_4 : (mz_FK0 6)[4]? = some 0 := by decide +kernel
theorem mzf_6_5 : (mz_FK0 6)[5]? = some 0 := by decide +kernel
theorem mzf_6_6 : (mz_FK0 6)[6]? = some 2 := by decide +kernel
theorem mzf_6_7 : (mz_FK0 6)[7]? = some 2 := by decide +kernel
theorem mzf_6_8 : (mz_FK0 6)[8]? = some 2 := by decide +kernel
theorem mzf_6_9 : (mz_FK0 6)[9]? = some 0 := by decide +kernel
theorem mzf_7_0 : (mz_FK0 7)[0]? = some 2 := by decide +kernel
theorem mzf_7_1 : (mz_FK0 7)[1]? = some 0 := by decide +kernel
theorem mzf_7_2 : (mz_FK0 7)[2]? = some 2 := by decide +kernel
theorem mzf_7_3 : (mz_FK0 7)[3]? = some 2 := by decide +kernel
theorem mzf_7_4 : (mz_FK0 7)[4]? = some 0 := by decide +kernel
theorem mzf_7_5 : (mz_FK0 7)[5]? = some 0 := by decide +kernel
theorem mzf_7_6 : (mz_FK0 7)[6]? = some 0 := by decide +kernel
theorem mzf_7_7 : (mz_FK0 7)[7]? = some 0 := by decide +kernel
theorem mzf_7_8 : (mz_FK0 7)[8]? = some 0 := by decide +kernel
theorem mzf_7_9 : (mz_FK0 7)[9]? = some 0 := by decide +kernel
theorem mzf_7_10 : (mz_FK0 7)[10]? = some 0 := by decide +kernel
theorem mzf_7_11 : (mz_FK0 7)[11]? = some 0 := by decide +kernel
theorem mzf_7_12 : (mz_FK0 7)[12]? = some 0 := by decide +kernel
theorem mzf_7_13 : (mz_FK0 7)[13]? = some 0 := by decide +kernel
theorem mzf_7_14 : (mz_FK0 7)[14]? = some 2 := by decide +kernel
theorem mzf_7_15 : (mz_FK0 7)[15]? = some 0 := by decide +kernel
theorem mzf_7_16 : (mz_FK0 7)[16]? = some 0 := by decide +kernel
theorem mzf_8_0 : (mz_FK0 8)[0]? = some 2 := by decide +kernel
theorem mzf_8_1 : (mz_FK0 8)[1]? = some 2 := by decide +kernel
theorem mzf_8_2 : (mz_FK0 8)[2]? = some 2 := by decide +kernel
theorem mzf_8_3 : (mz_FK0 8)[3]? = some 2 := by decide +kernel
theorem mzf_8_4 : (mz_FK0 8)[4]? = some 0 := by decide +kernel
theorem mzf_8_5 : (mz_FK0 8)[5]? = some 0 := by decide +kernel
theorem mzf_8_6 : (mz_FK0 8)[6]? = some 0 := by decide +kernel
theorem mzf_8_7 : (mz_FK0 8)[7]? = some 3 := by decide +kernel
theorem mzf_8_8 : (mz_FK0 8)[8]? = some 0 := by decide +kernel
theorem mzf_8_9 : (mz_FK0 8)[9]? = some 2 := by decide +kernel
theorem mzf_8_10 : (mz_FK0 8)[10]? = some 2 := by decide +kernel
theorem mzf_8_11 : (mz_FK0 8)[11]? = some 0 := by decide +kernel
theorem mzf_9_0 : (mz_FK0 9)[0]? = some 2 := by decide +kernel
theorem mzf_9_1 : (mz_FK0 9)[1]? = some 0 := by decide +kernel
theorem mzf_9_2 : (mz_FK0 9)[2]? = some 0 := by decide +kernel
theorem mzf_9_3 : (mz_FK0 9)[3]? = some 0 := by decide +kernel
theorem mzf_9_4 : (mz_FK0 9)[4]? = some 3 := by decide +kernel
theorem mzf_9_5 : (mz_FK0 9)[5]? = some 3 := by decide +kernel
theorem mzf_9_6 : (mz_FK0 9)[6]? = some 3 := by decide +kernel
theorem mzf_9_7 : (mz_FK0 9)[7]? = some 0 := by decide +kernel
theorem mzf_9_8 : (mz_FK0 9)[8]? = some 3 := by decide +kernel
theorem mzf_9_9 : (mz_FK0 9)[9]? = some 3 := by decide +kernel
theorem mzf_9_10 : (mz_FK0 9)[10]? = some 3 := by decide +kernel
theorem mzf_9_11 : (mz_FK0 9)[11]? = some 0 := by decide +kernel
theorem mzf_9_12 : (mz_FK0 9)[12]? = some 0 := by decide +kernel
theorem mzf_9_13 : (mz_FK0 9)[13]? = some 0 := by decide +kernel
theorem mzf_9_14 : (mz_FK0 9)[14]? = some 2 := by decide +kernel
theorem mzf_9_15 : (mz_FK0 9)[15]? = some 1 := by decide +kernel
theorem mzf_10_0 : (mz_FK0 10)[0]? = some 2 := by decide +kernel
theorem mzf_10_1 : (mz_FK0 10)[1]? = some 2 := by decide +kernel
theorem mzf_10_2 : (mz_FK0 10)[2]? = some 2 := by decide +kernel
theorem mzf_10_3 : (mz_FK0 10)[3]? = some 0 := by decide +kernel
theorem mzf_10_4 : (mz_FK0 10)[4]? = some 2 := by decide +kernel
theorem mzf_10_5 : (mz_FK0 10)[5]? = some 2 := by decide +kernel
theorem mzf_10_6 : (mz_FK0 10)[6]? = some 2 := by decide +kernel
theorem mzf_10_7 : (mz_FK0 10)[7]? = some 2 := by decide +kernel
theorem mzf_10_8 : (mz_FK0 10)[8]? = some 2 := by decide +kernel
theorem mzf_11_0 : (mz_FK0 11)[0]? = some 2 := by decide +kernel
theorem mzf_11_1 : (mz_FK0 11)[1]? = some 2 := by decide +kernel
theorem mzf_11_2 : (mz_FK0 11)[2]? = some 2 := by decide +kernel
theorem mzf_11_3 : (mz_FK0 11)[3]? = some 2 := by decide +kernel
theorem mzf_11_4 : (mz_FK0 11)[4]? = some 2 := by decide +kernel
theorem mzf_11_5 : (mz_FK0 11)[5]? = some 2 := by decide +kernel
theorem mzf_11_6 : (mz_FK0 11)[6]? = some 2 := by decide +kernel
theorem mzf_11_7 : (mz_FK0 11)[7]? = some 2 := by decide +kernel
theorem mzf_11_8 : (mz_FK0 11)[8]? = some 2 := by decide +kernel
theorem mzf_11_9 : (mz_FK0 11)[9]? = some 2 := by decide +kernel
theorem mzf_11_10 : (mz_FK0 11)[10]? = some 2 := by decide +kernel
theorem mzf_12_0 : (mz_FK0 12)[0]? = some 0 := by decide +kernel
theorem mzf_12_1 : (mz_FK0 12)[1]? = some 1 := by decide +kernel
theorem mzf_12_2 : (mz_FK0 12)[2]? = some 1 := by decide +kernel
theorem mzf_12_3 : (mz_FK0 12)[3]? = some 2 := by decide +kernel
theorem mzf_12_4 : (mz_FK0 12)[4]? = some 0 := by decide +kernel
theorem mzf_12_5 : (mz_FK0 12)[5]? = some 2 := by decide +kernel
theorem mzf_12_6 : (mz_FK0 12)[6]? = some 2 := by decide +kernel
theorem mzf_12_7 : (mz_FK0 12)[7]? = some 0 := by decide +kernel
theorem mzf_12_8 : (mz_FK0 12)[8]? = some 2 := by decide +kernel
theorem mzf_12_9 : (mz_FK0 12)[9]? = some 2 := by decide +kernel
theorem mzf_12_10 : (mz_FK0 12)[10]? = some 2 := by decide +kernel
theorem mzf_12_11 : (mz_FK0 12)[11]? = some 2 := by decide +kernel
theorem mzf_12_12 : (mz_FK0 12)[12]? = some 2 := by decide +kernel
theorem mzf_12_13 : (mz_FK0 12)[13]? = some 2 := by decide +kernel
theorem mzf_12_14 : (mz_FK0 12)[14]? = some 2 := by decide +kernel
theorem mzf_12_15 : (mz_FK0 12)[15]? = some 2 := by decide +kernel
theorem mzf_12_16 : (mz_FK0 12)[16]? = some 2 := by decide +kernel
theorem mzf_12_17 : (mz_FK0 12)[17]? = some 2 := by decide +kernel
theorem mzf_12_18 : (mz_FK0 12)[18]? = some 2 := by decide +kernel
theorem mzf_12_19 : (mz_FK0 12)[19]? = some 2 := by decide +kernel
theorem mzf_12_20 : (mz_FK0 12)[20]? = some 2 := by decide +kernel
theorem mzf_12_21 : (mz_FK0 12)[21]? = some 0 := by decide +kernel
theorem mzf_12_22 : (mz_FK0 12)[22]? = some 2 := by decide +kernel
theorem mzf_12_23 : (mz_FK0 12)[23]? = some 2 := by decide +kernel
theorem mzf_12_24 : (mz_FK0 12)[24]? = some 2 := by decide +kernel
theorem mzf_12_25 : (mz_FK0 12)[25]? = some 0 := by decide +kernel
theorem mzf_12_26 : (mz_FK0 12)[26]? = some 2 := by decide +kernel
theorem mzf_12_27 : (mz_FK0 12)[27]? = some 0 := by decide +kernel
theorem mzf_12_28 : (mz_FK0 12)[28]? = some 0 := by decide +kernel
theorem mzf_12_29 : (mz_FK0 12)[29]? = some 2 := by decide +kernel
theorem mzf_12_30 : (mz_FK0 12)[30]? = some 2 := by decide +kernel
theorem mzf_12_31 : (mz_FK0 12)[31]? = some 0 := by decide +kernel
theorem mzf_12_32 : (mz_FK0 12)[32]? = some 2 := by decide +kernel
theorem mzf_12_33 : (mz_FK0 12)[33]? = some 2 := by decide +kernel
theorem mzf_12_34 : (mz_FK0 12)[34]? = some 0 := by decide +kernel
theorem mzf_12_35 : (mz_FK0 12)[35]? = some 0 := by decide +kernel
theorem mzf_12_36 : (mz_FK0 12)[36]? = some 3 := by decide +kernel
theorem mzf_12_37 : (mz_FK0 12)[37]? = some 2 := by decide +kernel
theorem mzf_12_38 : (mz_FK0 12)[38]? = some 2 := by decide +kernel
theorem mzf_12_39 : (mz_FK0 12)[39]? = some 2 := by decide +kernel
theorem mzf_12_40 : (mz_FK0 12)[40]? = some 2 := by decide +kernel
theorem mzf_12_41 : (mz_FK0 12)[41]? = some 2 := by decide +kernel
theorem mzf_12_42 : (mz_FK0 12)[42]? = some 2 := by decide +kernel
theorem mzf_12_43 : (mz_FK0 12)[43]? = some 2 := by decide +kernel
theorem mzf_12_44 : (mz_FK0 12)[44]? = some 2 := by decide +kernel
theorem mzf_12_45 : (mz_FK0 12)[45]? = some 2 := by decide +kernel
theorem mzf_12_46 : (mz_FK0 12)[46]? = some 2 := by decide +kernel
theorem mzf_12_47 : (mz_FK0 12)[47]? = some 2 := by decide +kernel
theorem mzf_12_48 : (mz_FK0 12)[48]? = some 2 := by decide +kernel
theorem mzf_12_49 : (mz_FK0 12)[49]? = some 2 := by decide +kernel
theorem mzf_12_50 : (mz_FK0 12)[50]? = some 2 := by decide +kernel
theorem mzf_12_51 : (mz_FK0 12)[51]? = some 2 := by decide +kernel
theorem mzf_12_52 : (mz_FK0 12)[52]? = some 3 := by decide +kernel
theorem mzf_12_53 : (mz_FK0 12)[53]? = some 0 := by decide +kernel
theorem mzf_12_54 : (mz_FK0 12)[54]? = some 0 := by decide +kernel
theorem mzf_12_55 : (mz_FK0 12)[55]? = some 0 := by decide +kernel
theorem mzf_12_56 : (mz_FK0 12)[56]? = some 2 := by decide +kernel
theorem mzf_12_57 : (mz_FK0 12)[57]? = some 2 := by decide +kernel
theorem mzf_12_58 : (mz_FK0 12)[58]? = some 2 := by decide +kernel
theorem mzf_12_59 : (mz_FK0 12)[59]? = some 2 := by decide +kernel
theorem mzf_12_60 : (mz_FK0 12)[60]? = some 2 := by decide +kernel
theorem mzf_12_61 : (mz_FK0 12)[61]? = some 0 := by decide +kernel
theorem mzf_12_62 : (mz_FK0 12)[62]? = some 0 := by decide +kernel
theorem mzf_12_63 : (mz_FK0 12)[63]? = some 3 := by decide +kernel
theorem mzf_12_64 : (mz_FK0 12)[64]? = some 3 := by decide +kernel
theorem mzf_12_65 : (mz_FK0 12)[65]? = some 3 := by decide +kernel
theorem mzf_12_66 : (mz_FK0 12)[66]? = some 1 := by decide +kernel
theorem mzf_12_67 : (mz_FK0 12)[67]? = some 3 := by decide +kernel
theorem mzf_12_68 : (mz_FK0 12)[68]? = some 1 := by decide +kernel
theorem mzf_12_69 : (mz_FK0 12)[69]? = some 2 := by decide +kernel
theorem mzf_12_70 : (mz_FK0 12)[70]? = some 2 := by decide +kernel
theorem mzf_12_71 : (mz_FK0 12)[71]? = some 2 := by decide +kernel
theorem mzf_12_72 : (mz_FK0 12)[72]? = some 0 := by decide +kernel
theorem mzf_12_73 : (mz_FK0 12)[73]? = some 2 := by decide +kernel
theorem mzf_12_74 : (mz_FK0 12)[74]? = some 2 := by decide +kernel
theorem mzf_12_75 : (mz_FK0 12)[75]? = some 2 := by decide +kernel
theorem mzf_12_76 : (mz_FK0 12)[76]? = some 2 := by decide +kernel
theorem mzf_12_77 : (mz_FK0 12)[77]? = some 2 := by decide +kernel
theorem mzf_12_78 : (mz_FK0 12)[78]? = some 2 := by decide +kernel
theorem mzf_12_79 : (mz_FK0 12)[79]? = some 2 := by decide +kernel
theorem mzf_12_80 : (mz_FK0 12)[80]? = some 2 := by decide +kernel
theorem mzf_12_81 : (mz_FK0 12)[81]? = some 2 := by decide +kernel
theorem mzf_12_82 : (mz_FK0 12)[82]? = some 2 := by decide +kernel
theorem mzf_12_83 : (mz_FK0 12)[83]? = some 2 := by decide +kernel
theorem mzf_12_84 : (mz_FK0 12)[84]? = some 2 := by decide +kernel
theorem mzf_12_85 : (mz_FK0 12)[85]? = some 2 := by decide +kernel
theorem mzf_12_86 : (mz_FK0 12)[86]? = some 2 := by decide +kernel
theorem mzf_12_87 : (mz_FK0 12)[87]? = some 1 := by decide +kernel
theorem mzf_12_88 : (mz_FK0 12)[88]? = some 2 := by decide +kernel
theorem mzf_12_89 : (mz_FK0 12)[89]? = some 2 := by decide +kernel
theorem mzf_12_90 : (mz_FK0 12)[90]? = some 2 := by decide +kernel
theorem mzf_12_91 : (mz_FK0 12)[91]? = some 2 := by decide +kernel
theorem mzf_12_92 : (mz_FK0 12)[92]? = some 2 := by decide +kernel
theorem mzf_12_93 : (mz_FK0 12)[93]? = some 2 := by decide +kernel
theorem mzf_12_94 : (mz_FK0 12)[94]? = some 2 := by decide +kernel
theorem mzf_12_95 : (mz_FK0 12)[95]? = some 2 := by decide +kernel
theorem mzf_12_96 : (mz_FK0 12)[96]? = some 0 := by decide +kernel
theorem mzf_12_97 : (mz_FK0 12)[97]? = some 2 := by decide +kernel
theorem mzf_12_98 : (mz_FK0 12)[98]? = some 2 := by decide +kernel
theorem mzf_12_99 : (mz_FK0 12)[99]? = some 2 := by decide +kernel
theorem mzf_12_100 : (mz_FK0 12)[100]? = some 2 := by decide +kernel
theorem mzf_12_101 : (mz_FK0 12)[101]? = some 2 := by decide +kernel
theorem mzf_12_102 : (mz_FK0 12)[102]? = some 2 := by decide +kernel
theorem mzf_12_103 : (mz_FK0 12)[103]? = some 2 := by decide +kernel
theorem mzf_12_104 : (mz_FK0 12)[104]? = some 2 := by decide +kernel
theorem mzf_12_105 : (mz_FK0 12)[105]? = some 2 := by decide +kernel
theorem mzf_12_106 : (mz_FK0 12)[106]? = some 2 := by decide +kernel
theorem mzf_12_107 : (mz_FK0 12)[107]? = some 2 := by decide +kernel
theorem mzf_12_108 : (mz_FK0 12)[108]? = some 2 := by decide +kernel
theorem mzf_12_109 : (mz_FK0 12)[109]? = some 2 := by decide +kernel
theorem mzf_12_110 : (mz_FK0 12)[110]? = some 2 := by decide +kernel
theorem mzf_12_111 : (mz_FK0 12)[111]? = some 2 := by decide +kernel
theorem mzf_12_112 : (mz_FK0 12)[112]? = some 0 := by decide +kernel
theorem mzf_12_113 : (mz_FK0 12)[113]? = some 2 := by decide +kernel
theorem mzf_12_114 : (mz_FK0 12)[114]? = some 2 := by decide +kernel
theorem mzf_12_115 : (mz_FK0 12)[115]? = some 2 := by decide +kernel
theorem mzf_12_116 : (mz_FK0 12)[116]? = some 2 := by decide +kernel
theorem mzf_12_117 : (mz_FK0 12)[117]? = some 2 := by decide +kernel
theorem mzf_12_118 : (mz_FK0 12)[118]? = some 2 := by decide +kernel
theorem mzf_12_119 : (mz_FK0 12)[119]? = some 2 := by decide +kernel
theorem mzf_12_120 : (mz_FK0 12)[120]? = some 2 := by decide +kernel
theorem mzf_12_121 : (mz_FK0 12)[121]? = some 2 := by decide +kernel
theorem mzf_12_122 : (mz_FK0 12)[122]? = some 1 := by decide +kernel
theorem mzf_12_123 : (mz_FK0 12)[123]? = some 1 := by decide +kernel
theorem mzf_12_124 : (mz_FK0 12)[124]? = some 1 := by decide +kernel
theorem mzf_12_125 : (mz_FK0 12)[125]? = some 1 := by decide +kernel
theorem mzf_12_126 : (mz_FK0 12)[126]? = some 2 := by decide +kernel
theorem mzf_12_127 : (mz_FK0 12)[127]? = some 2 := by decide +kernel
theorem mzf_12_128 : (mz_FK0 12)[128]? = some 2 := by decide +kernel
theorem mzf_12_129 : (mz_FK0 12)[129]? = some 2 := by decide +kernel
theorem mzf_12_130 : (mz_FK0 12)[130]? = some 2 := by decide +kernel
theorem mzf_12_131 : (mz_FK0 12)[131]? = some 2 := by decide +kernel
theorem mzf_12_132 : (mz_FK0 12)[132]? = some 2 := by decide +kernel
theorem mzf_12_133 : (mz_FK0 12)[133]? = some 0 := by decide +kernel
theorem mzf_12_134 : (mz_FK0 12)[134]? = some 1 := by decide +kernel
theorem mzf_12_135 : (mz_FK0 12)[135]? = some 0 := by decide +kernel
theorem mzf_12_136 : (mz_FK0 12)[136]? = some 0 := by decide +kernel
theorem mzf_12_137 : (mz_FK0 12)[137]? = some 3 := by decide +kernel
theorem mzf_12_138 : (mz_FK0 12)[138]? = some 2 := by decide +kernel
theorem mzf_12_139 : (mz_FK0 12)[139]? = some 0 := by decide +kernel
theorem mzf_12_140 : (mz_FK0 12)[140]? = some 2 := by decide +kernel
theorem mzf_12_141 : (mz_FK0 12)[141]? = some 0 := by decide +kernel
theorem mzf_12_142 : (mz_FK0 12)[142]? = some 2 := by decide +kernel
theorem mzf_12_143 : (mz_FK0 12)[143]? = some 0 := by decide +kernel
theorem mzf_12_144 : (mz_FK0 12)[144]? = some 2 := by decide +kernel
theorem mzf_12_145 : (mz_FK0 12)[145]? = some 2 := by decide +kernel
theorem mzf_12_146 : (mz_FK0 12)[146]? = some 2 := by decide +kernel
theorem mzf_12_147 : (mz_FK0 12)[147]? = some 0 := by decide +kernel
theorem mzf_12_148 : (mz_FK0 12)[148]? = some 0 := by decide +kernel
theorem mzf_12_149 : (mz_FK0 12)[149]? = some 0 := by decide +kernel
theorem mzf_12_150 : (mz_FK0 12)[150]? = some 0 := by decide +kernel
theorem mzf_12_151 : (mz_FK0 12)[151]? = some 0 := by decide +kernel
theorem mzf_12_152 : (mz_FK0 12)[152]? = some 0 := by decide +kernel
theorem mzf_12_153 : (mz_FK0 12)[153]? = some 0 := by decide +kernel
theorem mzf_12_154 : (mz_FK0 12)[154]? = some 0 := by decide +kernel
theorem mzf_12_155 : (mz_FK0 12)[155]? = some 2 := by decide +kernel
theorem mzf_12_156 : (mz_FK0 12)[156]? = some 0 := by decide +kernel
theorem mzf_12_157 : (mz_FK0 12)[157]? = some 0 := by decide +kernel
theorem mzf_12_158 : (mz_FK0 12)[158]? = some 2 := by decide +kernel
theorem mzf_12_159 : (mz_FK0 12)[159]? = some 2 := by decide +kernel

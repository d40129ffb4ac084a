/-! THE PROGRAM (9): written by program: the cells that the constructors make, in their order; the arrays outside. -/
def mz_X0 (L : Nat) (xs : Nat → Int32) (a : Nat) : Option (Nat × (Nat → Int32)) := if a = 1000 then some (16, fun j => mz_fk1.getD j 0) else if a = 1001 then some (16, fun j => mz_su1.getD j 0) else if a = 1002 then some (L, xs) else none
def mz_S0 : mz_S := [(9, 11, mz_FK0 11), (9, 4, mz_FK0 4), (9, 5, mz_FK0 5), (0, 550, []), (4, 3, []), (0, 550, []), (0, 550, []), (0, 550, []), (4, 3, []), (0, 550, []), (0, 550, []), (0, 550, []), (0, 550, []), (0, 240, []), (0, 48, []), (0, 240, []), (4, 13, []), (0, 40, []), (0, 40, []), (0, 40, []), (0, 40, []), (0, 40, []), (0, 40, []), (0, 40, []), (0, 40, []), (0, 40, []), (0, 40, []), (0, 40, []), (0, 40, []), (0, 40, []), (0, 240, []), (0, 1600, []), (4, 3, []), (0, 780, []), (0, 780, []), (0, 780, []), (0, 240, []), (0, 240, []), (0, 10, []), (0, 10, []), (0, 240, []), (9, 6, mz_FK0 6), (0, 196, []), (9, 7, mz_FK0 7), (0, 196, []), (0, 196, []), (0, 196, []), (0, 196, []), (9, 7, mz_FK0 7), (0, 196, []), (0, 196, []), (0, 196, []), (0, 196, []), (0, 53, []), (0, 196, []), (0, 196, []), (9, 9, mz_FK0 9), (4, 6, []), (0, 11, []), (0, 11, []), (0, 11, []), (0, 11, []), (0, 11, []), (0, 11, []), (0, 10, []), (9, 3, mz_FK0 3), (0, 24, []), (0, 96, []), (1, 240, []), (1, 240, []), (1, 240, []), (1, 240, []), (0, 240, []), (0, 240, []), (1, 40, []), (1, 40, []), (1, 41, []), (1, 41, []), (1, 41, []), (1, 240, []), (0, 240, []), (9, 10, mz_FK0 10), (0, 10, []), (3, 18, []), (4, 2, []), (0, 32, []), (0, 32, []), (0, 8, []), (0, 8, []), (0, 8, []), (5, 8, []), (1, 48, []), (1, 48, []), (1, 48, []), (1, 48, []), (1, 48, []), (1, 48, []), (1, 48, []), (1, 48, []), (0, 8, []), (9, 0, mz_FK0 0), (0, 20, []), (0, 20, []), (0, 20, []), (0, 40, []), (0, 40, []), (0, 40, []), (0, 40, []), (0, 40, []), (0, 40, []), (4, 4, []), (0, 64, []), (0, 64, []), (0, 64, []), (0, 64, []), (9, 2, mz_FK0 2), (4, 6, []), (0, 16, []), (0, 16, []), (0, 16, []), (0, 16, []), (0, 16, []), (0, 16, []), (0, 16, []), (4, 4, []), (0, 3, []), (0, 3, []), (0, 3, []), (0, 3, []), (4, 3, []), (0, 8, []), (0, 8, []), (0, 8, []), (0, 2, []), (0, 2, []), (4, 2, []), (0, 6, []), (0, 6, []), (4, 2, []), (0, 6, []), (0, 6, []), (0, 2, []), (0, 6, []), (4, 64, []), (0, 6, []), (0, 6, []), (0, 6, []), (0, 6, []), (0, 6, []), (0, 6, []), (0, 6, []), (0, 6, []), (0, 6, []), (0, 6, []), (0, 6, []), (0, 6, []), (0, 6, []), (0, 6, []), (0, 6, []), (0, 6, []), (0, 6, []), (0, 6, []), (0, 6, []), (0, 6, []), (0, 6, []), (0, 6, []), (0, 6, []), (0, 6, []), (0, 6, []), (0, 6, []), (0, 6, []), (0, 6, []), (0, 6, []), (0, 6, []), (0, 6, []), (0, 6, []), (0, 6, []), (0, 6, []), (0, 6, []), (0, 6, []), (0, 6, []), (0, 6, []), (0, 6, []), (0, 6, []), (0, 6, []), (0, 6, []), (0, 6, []), (0, 6, []), (0, 6, []), (0, 6, []), (0, 6, []), (0, 6, []), (0, 6, []), (0, 6, []), (0, 6, []), (0, 6, []), (0, 6, []), (0, 6, []), (0, 6, []), (0, 6, []), (0, 6, []), (0, 6, []), (0, 6, []), (0, 6, []), (0, 6, []), (0, 6, []), (0, 6, []), (0, 6, []), (9, 1, mz_FK0 1), (4, 3, []), (0, 11, []), (0, 11, []), (0, 11, []), (1, 10, []), (1, 10, []), (0, 4, []), (1, 10, []), (1, 10, []), (1, 10, []), (9, 8, mz_FK0 8), (4, 2, []), (0, 9600, []), (0, 9600, []), (0, 3780, []), (0, 135, []), (0, 48, []), (0, 16, []), (0, 448, []), (0, 4056, []), (0, 4100, []), (0, 3780, []), (0, 135, []), (9, 12, mz_FK0 12), (0, 4400, []), (0, 240, []), (0, 240, []), (0, 240, []), (0, 240, []), (0, 240, []), (0, 6400, []), (0, 240, []), (0, 240, []), (0, 10, []), (0, 10, []), (0, 240, []), (0, 24, []), (0, 96, []), (0, 11, []), (0, 11, []), (0, 3, []), (0, 3, []), (0, 196, []), (0, 196, []), (0, 400, []), (0, 400, []), (0, 13, []), (0, 13, []), (0, 16, []), (1, 64, []), (1, 200, []), (1, 240, []), (1, 240, []), (1, 240, []), (1, 240, []), (1, 240, []), (1, 240, []), (1, 240, []), (1, 240, []), (1, 40, []), (1, 40, []), (1, 41, []), (1, 41, []), (0, 11, []), (3, 11, []), (0, 11, []), (3, 11, []), (3, 11, []), (0, 10, []), (0, 10, []), (3, 18, []), (0, 32, []), (1, 32, []), (3, 8, []), (0, 8, []), (0, 8, []), (0, 8, []), (1, 384, []), (3, 16, []), (0, 16, []), (0, 16, []), (0, 16, []), (1, 16, []), (1, 16, []), (0, 16, []), (0, 12, []), (1, 12, []), (0, 2, []), (0, 2, []), (1, 2, []), (0, 6, []), (0, 6, []), (0, 6, []), (0, 8, []), (0, 8, []), (1, 8, []), (1, 3, []), (0, 3, []), (3, 3, []), (3, 20, []), (0, 20, []), (0, 20, []), (3, 40, []), (0, 40, []), (0, 40, []), (0, 40, []), (3, 40, []), (0, 40, []), (1, 64, []), (0, 64, []), (0, 64, []), (0, 64, []), (1, 11, []), (1, 11, []), (1, 11, []), (1, 10, []), (1, 10, []), (1, 41, []), (1, 41, []), (1, 41, []), (2, 19200, []), (3, 135, []), (2, 3780, []), (2, 28, []), (0, 160, []), (2, 4100, []), (2, 4100, []), (3, 135, []), (2, 3780, []), (0, 196, []), (0, 400, []), (1, 240, []), (2, 48, []), (1, 1, [])]
def mz_Rt : List (List (Option Nat)) := [[some 1, some 2, some 41, some 56, some 65, some 81, some 100, some 115, some 208, some 219, some 53], [some 2, some 41, some 56, some 65, some 81, some 100, some 115, some 208, some 219, some 228, none, some 229, none, some 230, some 231], [some 3, some 4, some 8, none, some 12, some 13, some 14, none, some 15, some 16, some 30, some 31, some 32, none, some 36, some 37, some 38, some 39, some 40], [], [some 5, some 6, some 7], [], [], [], [some 9, some 10, some 11], [], [], [], [], [], [], [], [some 17, some 18, some 19, some 20, some 21, some 22, some 23, some 24, some 25, some 26, some 27, some 28, some 29], [], [], [], [], [], [], [], [], [], [], [], [], [], [], [], [some 33, some 34, some 35], [], [], [], [], [], [], [], [], [some 42, none, some 43, some 48, none, none, some 53, some 54, some 55, none], [], [some 44, none, some 45, some 46, none, none, none, none, none, none, none, none, none, none, some 47, none, none], [], [], [], [], [some 49, none, some 50, some 51, none, none, none, none, none, none, none, none, none, none, some 52, none, none], [], [], [], [], [], [], [], [some 57, none, none, none, none, none, none, none, none, none, none, none, none, none, some 64, none], [some 58, some 59, some 60, some 61, some 62, some 63], [], [], [], [], [], [], [], [some 66, some 67, some 68, some 69, some 70, some 71, some 72, some 73, none, some 74, some 75, some 76, some 77, some 78, some 79, some 80], [], [], [], [], [], [], [], [], [], [], [], [], [], [], [], [some 82, some 83, some 84, none, some 87, some 88, some 89, some 90, some 99], [], [], [some 85, some 86], [], [], [], [], [], [some 91, some 92, some 93, some 94, some 95, some 96, some 97, some 98], [], [], [], [], [], [], [], [], [], [some 101, some 102, some 103, some 104, some 105, some 106, some 107, some 108, some 109, some 110, none], [], [], [], [], [], [], [], [], [], [some 111, some 112, some 113, some 114], [], [], [], [], [some 116, some 123, none, some 124, some 129, none, some 133, some 134, some 135, some 138, some 141, some 142, some 143], [some 117, some 118, some 119, some 120, some 121, some 122], [], [], [], [], [], [], [], [some 125, some 126, some 127, some 128], [], [], [], [], [some 130, some 131, some 132], [], [], [], [], [], [some 136, some 137], [], [], [some 139, some 140], [], [], [], [], [some 144, some 145, some 146, some 147, some 148, some 149, some 150, some 151, some 152, some 153, some 154, some 155, some 156, some 157, some 158, some 159, some 160, some 161, some 162, some 163, some 164, some 165, some 166, some 167, some 168, some 169, some 170, some 171, some 172, some 173, some 174, some 175, some 176, some 177, some 178, some 179, some 180, some 181, some 182, some 183, some 184, some 185, some 186, some 187, some 188, some 189, some 190, some 191, some 192, some 193, some 194, some 195, some 196, some 197, some 198, some 199, some 200, some 201, some 202, some 203, some 204, some 205, some 206, some 207], [], [], [], [], [], [], [], [], [], [], [], [], [], [], [], [], [], [], [], [], [], [], [], [], [], [], [], [], [], [], [], [], [], [], [], [], [], [], [], [], [], [], [], [], [], [], [], [], [], [], [], [], [], [], [], [], [], [], [], [], [], [], [], [], [none, none, none, none, none, some 209, some 213, some 214, some 215, some 216, some 217, some 218], [some 210, some 211, some 212], [], [], [], [], [], [], [], [], [], [some 220, some 223, some 224, some 225, none, none, none, none, none, some 226, some 227, none], [some 221, some 222], [], [], [], [], [], [], [], [], [], [], [], [none, none, none, some 233, none, some 234, some 235, none, some 236, some 237, some 238, some 239, some 240, some 241, some 242, some 243, some 244, some 245, some 246, some 247, some 248, none, some 249, some 250, some 251, none, some 252, none, none, some 253, some 254, none, some 255, some 256, none, none, none, some 257, some 258, some 259, some 260, some 261, some 262, some 263, some 264, some 265, some 266, some 267, some 268, some 269, some 270, some 271, none, none, none, none, some 272, some 273, some 274, some 275, some 276, none, none, none, none, none, none, none, none, some 277, some 278, some 279, none, some 280, some 281, some 282, some 283, some 284, some 285, some 286, some 287, some 288, some 289, some 290, some 291, some 292, some 293, none, some 294, some 295, some 296, some 297, some 298, some 299, some 300, some 301, none, some 302, some 303, some 304, some 305, some 306, some 307, some 308, some 309, some 310, some 311, some 312, some 313, some 314, some 315, some 316, none, some 317, some 318, some 319, some 320, some 321, some 322, some 323, some 324, some 325, none, none, none, none, some 326, some 327, some 328, some 329, some 330, some 331, some 332, none, none, none, none, none, some 333, none, some 334, none, some 335, none, some 336, some 337, some 338, none, none, none, none, none, none, none, none, some 339, none, none, some 340, some 341], [], [], [], [], [], [], [], [], [], [], [], [], [], [], [], [], [], [], [], [], [], [], [], [], [], [], [], [], [], [], [], [], [], [], [], [], [], [], [], [], [], [], [], [], [], [], [], [], [], [], [], [], [], [], [], [], [], [], [], [], [], [], [], [], [], [], [], [], [], [], [], [], [], [], [], [], [], [], [], [], [], [], [], [], [], [], [], [], [], [], [], [], [], [], [], [], [], [], [], [], [], [], [], [], [], [], [], [], [], []]
/-- the references in the order in which they are written: of the cell, at the place, to the cell -/
def mz_ord : List (Nat × Nat × Nat) := [(2, 0, 3), (4, 0, 5), (4, 1, 6), (4, 2, 7), (2, 1, 4), (8, 0, 9), (8, 1, 10), (8, 2, 11), (2, 2, 8), (2, 4, 12), (2, 5, 13), (2, 6, 14), (2, 8, 15), (16, 0, 17), (16, 1, 18), (16, 2, 19), (16, 3, 20), (16, 4, 21), (16, 5, 22), (16, 6, 23), (16, 7, 24), (16, 8, 25), (16, 9, 26), (16, 10, 27), (16, 11, 28), (16, 12, 29), (2, 9, 16), (2, 10, 30), (2, 11, 31), (32, 0, 33), (32, 1, 34), (32, 2, 35), (2, 12, 32), (2, 14, 36), (2, 15, 37), (2, 16, 38), (2, 17, 39), (2, 18, 40), (1, 0, 2), (41, 0, 42), (43, 0, 44), (43, 2, 45), (43, 3, 46), (43, 14, 47), (41, 2, 43), (48, 0, 49), (48, 2, 50), (48, 3, 51), (48, 14, 52), (41, 3, 48), (41, 6, 53), (41, 7, 54), (41, 8, 55), (1, 1, 41), (57, 0, 58), (57, 1, 59), (57, 2, 60), (57, 3, 61), (57, 4, 62), (57, 5, 63), (56, 0, 57), (56, 14, 64), (1, 2, 56), (65, 0, 66), (65, 1, 67), (65, 2, 68), (65, 3, 69), (65, 4, 70), (65, 5, 71), (65, 6, 72), (65, 7, 73), (65, 9, 74), (65, 10, 75), (65, 11, 76), (65, 12, 77), (65, 13, 78), (65, 14, 79), (65, 15, 80), (1, 3, 65), (81, 0, 82), (81, 1, 83), (84, 0, 85), (84, 1, 86), (81, 2, 84), (81, 4, 87), (81, 5, 88), (81, 6, 89), (90, 0, 91), (90, 1, 92), (90, 2, 93), (90, 3, 94), (90, 4, 95), (90, 5, 96), (90, 6, 97), (90, 7, 98), (81, 7, 90), (81, 8, 99), (1, 4, 81), (100, 0, 101), (100, 1, 102), (100, 2, 103), (100, 3, 104), (100, 4, 105), (100, 5, 106), (100, 6, 107), (100, 7, 108), (100, 8, 109), (110, 0, 111), (110, 1, 112), (110, 2, 113), (110, 3, 114), (100, 9, 110), (1, 5, 100), (116, 0, 117), (116, 1, 118), (116, 2, 119), (116, 3, 120), (116, 4, 121), (116, 5, 122), (115, 0, 116), (115, 1, 123), (124, 0, 125), (124, 1, 126), (124, 2, 127), (124, 3, 128), (115, 3, 124), (129, 0, 130), (129, 1, 131), (129, 2, 132), (115, 4, 129), (115, 6, 133), (115, 7, 134), (135, 0, 136), (135, 1, 137), (115, 8, 135), (138, 0, 139), (138, 1, 140), (115, 9, 138), (115, 10, 141), (115, 11, 142), (143, 0, 144), (143, 1, 145), (143, 2, 146), (143, 3, 147), (143, 4, 148), (143, 5, 149), (143, 6, 150), (143, 7, 151), (143, 8, 152), (143, 9, 153), (143, 10, 154), (143, 11, 155), (143, 12, 156), (143, 13, 157), (143, 14, 158), (143, 15, 159), (143, 16, 160), (143, 17, 161), (143, 18, 162), (143, 19, 163), (143, 20, 164), (143, 21, 165), (143, 22, 166), (143, 23, 167), (143, 24, 168), (143, 25, 169), (143, 26, 170), (143, 27, 171), (143, 28, 172), (143, 29, 173), (143, 30, 174), (143, 31, 175), (143, 32, 176), (143, 33, 177), (143, 34, 178), (143, 35, 179), (143, 36, 180), (143, 37, 181), (143, 38, 182), (143, 39, 183), (143, 40, 184), (143, 41, 185), (143, 42, 186), (143, 43, 187), (143, 44, 188), (143, 45, 189), (143, 46, 190), (143, 47, 191), (143, 48, 192), (143, 49, 193), (143, 50, 194), (143, 51, 195), (143, 52, 196), (143, 53, 197), (143, 54, 198), (143, 55, 199), (143, 56, 200), (143, 57, 201), (143, 58, 202), (143, 59, 203), (143, 60, 204), (143, 61, 205), (143, 62, 206), (143, 63, 207), (115, 12, 143), (1, 6, 115), (209, 0, 210), (209, 1, 211), (209, 2, 212), (208, 5, 209), (208, 6, 213), (208, 7, 214), (208, 8, 215), (208, 9, 216), (208, 10, 217), (208, 11, 218), (1, 7, 208), (220, 0, 221), (220, 1, 222), (219, 0, 220), (219, 1, 223), (219, 2, 224), (219, 3, 225), (219, 9, 226), (219, 10, 227), (1, 8, 219), (1, 9, 228), (1, 11, 229), (1, 13, 230), (1, 14, 231), (0, 0, 1), (0, 1, 2), (0, 2, 41), (0, 3, 56), (0, 4, 65), (0, 5, 81), (0, 6, 100), (0, 7, 115), (0, 8, 208), (0, 9, 219), (0, 10, 53), (232, 3, 233), (232, 5, 234), (232, 6, 235), (232, 8, 236), (232, 9, 237), (232, 10, 238), (232, 11, 239), (232, 12, 240), (232, 13, 241), (232, 14, 242), (232, 15, 243), (232, 16, 244), (232, 17, 245), (232, 18, 246), (232, 19, 247), (232, 20, 248), (232, 22, 249), (232, 23, 250), (232, 24, 251), (232, 26, 252), (232, 29, 253), (232, 30, 254), (232, 32, 255), (232, 33, 256), (232, 37, 257), (232, 38, 258), (232, 39, 259), (232, 40, 260), (232, 41, 261), (232, 42, 262), (232, 43, 263), (232, 44, 264), (232, 45, 265), (232, 46, 266), (232, 47, 267), (232, 48, 268), (232, 49, 269), (232, 50, 270), (232, 51, 271), (232, 56, 272), (232, 57, 273), (232, 58, 274), (232, 59, 275), (232, 60, 276), (232, 69, 277), (232, 70, 278), (232, 71, 279), (232, 73, 280), (232, 74, 281), (232, 75, 282), (232, 76, 283), (232, 77, 284), (232, 78, 285), (232, 79, 286), (232, 80, 287), (232, 81, 288), (232, 82, 289), (232, 83, 290), (232, 84, 291), (232, 85, 292), (232, 86, 293), (232, 88, 294), (232, 89, 295), (232, 90, 296), (232, 91, 297), (232, 92, 298), (232, 93, 299), (232, 94, 300), (232, 95, 301), (232, 97, 302), (232, 98, 303), (232, 99, 304), (232, 100, 305), (232, 101, 306), (232, 102, 307), (232, 103, 308), (232, 104, 309), (232, 105, 310), (232, 106, 311), (232, 107, 312), (232, 108, 313), (232, 109, 314), (232, 110, 315), (232, 111, 316), (232, 113, 317), (232, 114, 318), (232, 115, 319), (232, 116, 320), (232, 117, 321), (232, 118, 322), (232, 119, 323), (232, 120, 324), (232, 121, 325), (232, 126, 326), (232, 127, 327), (232, 128, 328), (232, 129, 329), (232, 130, 330), (232, 131, 331), (232, 132, 332), (232, 138, 333), (232, 140, 334), (232, 142, 335), (232, 144, 336), (232, 145, 337), (232, 146, 338), (232, 155, 339), (232, 158, 340), (232, 159, 341)]
def mz_R0 (a k : Nat) : Option Nat := (mz_Rt.getD a []).getD k none
theorem mzcS_0 : mz_S0[0]? = some (9, 11, mz_FK0 11) := by decide +kernel
theorem mzcS_1 : mz_S0[1]? = some (9, 4, mz_FK0 4) := by decide +kernel
theorem mzcS_2 : mz_S0[2]? = some (9, 5, mz_FK0 5) := by decide +kernel
theorem mzcS_3 : mz_S0[3]? = some (0, 550, []) := by decide +kernel
theorem mzcS_4 : mz_S0[4]? = some (4, 3, []) := by decide +kernel
theorem mzcS_5 : mz_S0[5]? = some (0, 550, []) := by decide +kernel
theorem mzcS_6 : mz_S0[6]? = some (0, 550, []) := by decide +kernel
theorem mzcS_7 : mz_S0[7]? = some (0, 550, []) := by decide +kernel
theorem mzcS_8 : mz_S0[8]? = some (4, 3, []) := by decide +kernel
theorem mzcS_9 : mz_S0[9]? = some (0, 550, []) := by decide +kernel
theorem mzcS_10 : mz_S0[10]? = some (0, 550, []) := by decide +kernel
theorem mzcS_11 : mz_S0[11]? = some (0, 550, []) := by decide +kernel
theorem mzcS_12 : mz_S0[12]? = some (0, 550, []) := by decide +kernel
theorem mzcS_13 : mz_S0[13]? = some (0, 240, []) := by decide +kernel
theorem mzcS_14 : mz_S0[14]? = some (0, 48, []) := by decide +kernel
theorem mzcS_15 : mz_S0[15]? = some (0, 240, []) := by decide +kernel
theorem mzcS_16 : mz_S0[16]? = some (4, 13, []) := by decide +kernel
theorem mzcS_17 : mz_S0[17]? = some (0, 40, []) := by decide +kernel
theorem mzcS_18 : mz_S0[18]? = some (0, 40, []) := by decide +kernel
theorem mzcS_19 : mz_S0[19]? = some (0, 40, []) := by decide +kernel
theorem mzcS_20 : mz_S0[20]? = some (0, 40, []) := by decide +kernel
theorem mzcS_21 : mz_S0[21]? = some (0, 40, []) := by decide +kernel
theorem mzcS_22 : mz_S0[22]? = some (0, 40, []) := by decide +kernel
theorem mzcS_23 : mz_S0[23]? = some (0, 40, []) := by decide +kernel
theorem mzcS_24 : mz_S0[24]? = some (0, 40, []) := by decide +kernel
theorem mzcS_25 : mz_S0[25]? = some (0, 40, []) := by decide +kernel
theorem mzcS_26 : mz_S0[26]? = some (0, 40, []) := by decide +kernel
theorem mzcS_27 : mz_S0[27]? = some (0, 40, []) := by decide +kernel
theorem mzcS_28 : mz_S0[28]? = some (0, 40, []) := by decide +kernel
theorem mzcS_29 : mz_S0[29]? = some (0, 40, []) := by decide +kernel
theorem mzcS_30 : mz_S0[30]? = some (0, 240, []) := by decide +kernel
theorem mzcS_31 : mz_S0[31]? = some (0, 1600, []) := by decide +kernel
theorem mzcS_32 : mz_S0[32]? = some (4, 3, []) := by decide +kernel
theorem mzcS_33 : mz_S0[33]? = some (0, 780, []) := by decide +kernel
theorem mzcS_34 : mz_S0[34]? = some (0, 780, []) := by decide +kernel
theorem mzcS_35 : mz_S0[35]? = some (0, 780, []) := by decide +kernel
theorem mzcS_36 : mz_S0[36]? = some (0, 240, []) := by decide +kernel
theorem mzcS_37 : mz_S0[37]? = some (0, 240, []) := by decide +kernel
theorem mzcS_38 : mz_S0[38]? = some (0, 10, []) := by decide +kernel
theorem mzcS_39 : mz_S0[39]? = some (0, 10, []) := by decide +kernel
theorem mzcS_40 : mz_S0[40]? = some (0, 240, []) := by decide +kernel
theorem mzcS_41 : mz_S0[41]? = some (9, 6, mz_FK0 6) := by decide +kernel
theorem mzcS_42 : mz_S0[42]? = some (0, 196, []) := by decide +kernel
theorem mzcS_43 : mz_S0[43]? = some (9, 7, mz_FK0 7) := by decide +kernel
theorem mzcS_44 : mz_S0[44]? = some (0, 196, []) := by decide +kernel
theorem mzcS_45 : mz_S0[45]? = some (0, 196, []) := by decide +kernel
theorem mzcS_46 : mz_S0[46]? = some (0, 196, []) := by decide +kernel
theorem mzcS_47 : mz_S0[47]? = some (0, 196, []) := by decide +kernel
theorem mzcS_48 : mz_S0[48]? = some (9, 7, mz_FK0 7) := by decide +kernel
theorem mzcS_49 : mz_S0[49]? = some (0, 196, []) := by decide +kernel
theorem mzcS_50 : mz_S0[50]? = some (0, 196, []) := by decide +kernel
theorem mzcS_51 : mz_S0[51]? = some (0, 196, []) := by decide +kernel
theorem mzcS_52 : mz_S0[52]? = some (0, 196, []) := by decide +kernel
theorem mzcS_53 : mz_S0[53]? = some (0, 53, []) := by decide +kernel
theorem mzcS_54 : mz_S0[54]? = some (0, 196, []) := by decide +kernel
theorem mzcS_55 : mz_S0[55]? = some (0, 196, []) := by decide +kernel
theorem mzcS_56 : mz_S0[56]? = some (9, 9, mz_FK0 9) := by decide +kernel
theorem mzcS_57 : mz_S0[57]? = some (4, 6, []) := by decide +kernel
theorem mzcS_58 : mz_S0[58]? = some (0, 11, []) := by decide +kernel
theorem mzcS_59 : mz_S0[59]? = some (0, 11, []) := by decide +kernel
theorem mzcS_60 : mz_S0[60]? = some (0, 11, []) := by decide +kernel
theorem mzcS_61 : mz_S0[61]? = some (0, 11, []) := by decide +kernel
theorem mzcS_62 : mz_S0[62]? = some (0, 11, []) := by decide +kernel
theorem mzcS_63 : mz_S0[63]? = some (0, 11, []) := by decide +kernel
theorem mzcS_64 : mz_S0[64]? = some (0, 10, []) := by decide +kernel
theorem mzcS_65 : mz_S0[65]? = some (9, 3, mz_FK0 3) := by decide +kernel
theorem mzcS_66 : mz_S0[66]? = some (0, 24, []) := by decide +kernel
theorem mzcS_67 : mz_S0[67]? = some (0, 96, []) := by decide +kernel
theorem mzcS_68 : mz_S0[68]? = some (1, 240, []) := by decide +kernel
theorem mzcS_69 : mz_S0[69]? = some (1, 240, []) := by decide +kernel
theorem mzcS_70 : mz_S0[70]? = some (1, 240, []) := by decide +kernel
theorem mzcS_71 : mz_S0[71]? = some (1, 240, []) := by decide +kernel
theorem mzcS_72 : mz_S0[72]? = some (0, 240, []) := by decide +kernel
theorem mzcS_73 : mz_S0[73]? = some (0, 240, []) := by decide +kernel
theorem mzcS_74 : mz_S0[74]? = some (1, 40, []) := by decide +kernel
theorem mzcS_75 : mz_S0[75]? = some (1, 40, []) := by decide +kernel
theorem mzcS_76 : mz_S0[76]? = some (1, 41, []) := by decide +kernel
theorem mzcS_77 : mz_S0[77]? = some (1, 41, []) := by decide +kernel
theorem mzcS_78 : mz_S0[78]? = some (1, 41, []) := by decide +kernel
theorem mzcS_79 : mz_S0[79]? = some (1, 240, []) := by decide +kernel
theorem mzcS_80 : mz_S0[80]? = some (0, 240, []) := by decide +kernel
theorem mzcS_81 : mz_S0[81]? = some (9, 10, mz_FK0 10) := by decide +kernel
theorem mzcS_82 : mz_S0[82]? = some (0, 10, []) := by decide +kernel
theorem mzcS_83 : mz_S0[83]? = some (3, 18, []) := by decide +kernel
theorem mzcS_84 : mz_S0[84]? = some (4, 2, []) := by decide +kernel
theorem mzcS_85 : mz_S0[85]? = some (0, 32, []) := by decide +kernel
theorem mzcS_86 : mz_S0[86]? = some (0, 32, []) := by decide +kernel
theorem mzcS_87 : mz_S0[87]? = some (0, 8, []) := by decide +kernel
theorem mzcS_88 : mz_S0[88]? = some (0, 8, []) := by decide +kernel
theorem mzcS_89 : mz_S0[89]? = some (0, 8, []) := by decide +kernel
theorem mzcS_90 : mz_S0[90]? = some (5, 8, []) := by decide +kernel
theorem mzcS_91 : mz_S0[91]? = some (1, 48, []) := by decide +kernel
theorem mzcS_92 : mz_S0[92]? = some (1, 48, []) := by decide +kernel
theorem mzcS_93 : mz_S0[93]? = some (1, 48, []) := by decide +kernel
theorem mzcS_94 : mz_S0[94]? = some (1, 48, []) := by decide +kernel
theorem mzcS_95 : mz_S0[95]? = some (1, 48, []) := by decide +kernel
theorem mzcS_96 : mz_S0[96]? = some (1, 48, []) := by decide +kernel
theorem mzcS_97 : mz_S0[97]? = some (1, 48, []) := by decide +kernel
theorem mzcS_98 : mz_S0[98]? = some (1, 48, []) := by decide +kernel
theorem mzcS_99 : mz_S0[99]? = some (0, 8, []) := by decide +kernel
theorem mzcS_100 : mz_S0[100]? = some (9, 0, mz_FK0 0) := by decide +kernel
theorem mzcS_101 : mz_S0[101]? = some (0, 20, []) := by decide +kernel
theorem mzcS_102 : mz_S0[102]? = some (0, 20, []) := by decide +kernel
theorem mzcS_103 : mz_S0[103]? = some (0, 20, []) := by decide +kernel
theorem mzcS_104 : mz_S0[104]? = some (0, 40, []) := by decide +kernel
theorem mzcS_105 : mz_S0[105]? = some (0, 40, []) := by decide +kernel
theorem mzcS_106 : mz_S0[106]? = some (0, 40, []) := by decide +kernel
theorem mzcS_107 : mz_S0[107]? = some (0, 40, []) := by decide +kernel
theorem mzcS_108 : mz_S0[108]? = some (0, 40, []) := by decide +kernel
theorem mzcS_109 : mz_S0[109]? = some (0, 40, []) := by decide +kernel
theorem mzcS_110 : mz_S0[110]? = some (4, 4, []) := by decide +kernel
theorem mzcS_111 : mz_S0[111]? = some (0, 64, []) := by decide +kernel
theorem mzcS_112 : mz_S0[112]? = some (0, 64, []) := by decide +kernel
theorem mzcS_113 : mz_S0[113]? = some (0, 64, []) := by decide +kernel
theorem mzcS_114 : mz_S0[114]? = some (0, 64, []) := by decide +kernel
theorem mzcS_115 : mz_S0[115]? = some (9, 2, mz_FK0 2) := by decide +kernel
theorem mzcS_116 : mz_S0[116]? = some (4, 6, []) := by decide +kernel
theorem mzcS_117 : mz_S0[117]? = some (0, 16, []) := by decide +kernel
theorem mzcS_118 : mz_S0[118]? = some (0, 16, []) := by decide +kernel
theorem mzcS_119 : mz_S0[119]? = some (0, 16, []) := by decide +kernel
theorem mzcS_120 : mz_S0[120]? = some (0, 16, []) := by decide +kernel
theorem mzcS_121 : mz_S0[121]? = some (0, 16, []) := by decide +kernel
theorem mzcS_122 : mz_S0[122]? = some (0, 16, []) := by decide +kernel
theorem mzcS_123 : mz_S0[123]? = some (0, 16, []) := by decide +kernel
theorem mzcS_124 : mz_S0[124]? = some (4, 4, []) := by decide +kernel
theorem mzcS_125 : mz_S0[125]? = some (0, 3, []) := by decide +kernel
theorem mzcS_126 : mz_S0[126]? = some (0, 3, []) := by decide +kernel
theorem mzcS_127 : mz_S0[127]? = some (0, 3, []) := by decide +kernel
theorem mzcS_128 : mz_S0[128]? = some (0, 3, []) := by decide +kernel
theorem mzcS_129 : mz_S0[129]? = some (4, 3, []) := by decide +kernel
theorem mzcS_130 : mz_S0[130]? = some (0, 8, []) := by decide +kernel
theorem mzcS_131 : mz_S0[131]? = some (0, 8, []) := by decide +kernel
theorem mzcS_132 : mz_S0[132]? = some (0, 8, []) := by decide +kernel
theorem mzcS_133 : mz_S0[133]? = some (0, 2, []) := by decide +kernel
theorem mzcS_134 : mz_S0[134]? = some (0, 2, []) := by decide +kernel
theorem mzcS_135 : mz_S0[135]? = some (4, 2, []) := by decide +kernel
theorem mzcS_136 : mz_S0[136]? = some (0, 6, []) := by decide +kernel
theorem mzcS_137 : mz_S0[137]? = some (0, 6, []) := by decide +kernel
theorem mzcS_138 : mz_S0[138]? = some (4, 2, []) := by decide +kernel
theorem mzcS_139 : mz_S0[139]? = some (0, 6, []) := by decide +kernel
theorem mzcS_140 : mz_S0[140]? = some (0, 6, []) := by decide +kernel
theorem mzcS_141 : mz_S0[141]? = some (0, 2, []) := by decide +kernel
theorem mzcS_142 : mz_S0[142]? = some (0, 6, []) := by decide +kernel
theorem mzcS_143 : mz_S0[143]? = some (4, 64, []) := by decide +kernel
theorem mzcS_144 : mz_S0[144]? = some (0, 6, []) := by decide +kernel
theorem mzcS_145 : mz_S0[145]? = some (0, 6, []) := by decide +kernel
theorem mzcS_146 : mz_S0[146]? = some (0, 6, []) := by decide +kernel
theorem mzcS_147 : mz_S0[147]? = some (0, 6, []) := by decide +kernel
theorem mzcS_148 : mz_S0[148]? = some (0, 6, []) := by decide +kernel
theorem mzcS_149 : mz_S0[149]? = some (0, 6, []) := by decide +kernel
theorem mzcS_150 : mz_S0[150]? = some (0, 6, []) := by decide +kernel
theorem mzcS_151 : mz_S0[151]? = some (0, 6, []) := by decide +kernel
theorem mzcS_152 : mz_S0[152]? = some (0, 6, []) := by decide +kernel
theorem mzcS_153 : mz_S0[153]? = some (0, 6, []) := by decide +kernel
theorem mzcS_154 : mz_S0[154]? = some (0, 6, []) := by decide +kernel
theorem mzcS_155 : mz_S0[155]? = some (0, 6, []) := by decide +kernel
theorem mzcS_156 : mz_S0[156]? = some (0, 6, []) := by decide +kernel
theorem mzcS_157 : mz_S0[157]? = some (0, 6, []) := by decide +kernel
theorem mzcS_158 : mz_S0[158]? = some (0, 6, []) := by decide +kernel
theorem mzcS_159 : mz_S0[159]? = some (0, 6, []) := by decide +kernel
theorem mzcS_160 : mz_S0[160]? = some (0, 6, []) := by decide +kernel
theorem mzcS_161 : mz_S0[161]? = some (0, 6, []) := by decide +kernel
theorem mzcS_162 : mz_S0[162]? = some (0, 6, []) := by decide +kernel
theorem mzcS_163 : mz_S0[163]? = some (0, 6, []) := by decide +kernel
theorem mzcS_164 : mz_S0[164]? = some (0, 6, []) := by decide +kernel
theorem mzcS_165 : mz_S0[165]? = some (0, 6, []) := by decide +kernel
theorem mzcS_166 : mz_S0[166]? = some (0, 6, []) := by decide +kernel
theorem mzcS_167 : mz_S0[167]? = some (0, 6, []) := by decide +kernel
theorem mzcS_168 : mz_S0[168]? = some (0, 6, []) := by decide +kernel
theorem mzcS_169 : mz_S0[169]? = some (0, 6, []) := by decide +kernel
theorem mzcS_170 : mz_S0[170]? = some (0, 6, []) := by decide +kernel
theorem mzcS_171 : mz_S0[171]? = some (0, 6, []) := by decide +kernel
theorem mzcS_172 : mz_S0[172]? = some (0, 6, []) := by decide +kernel
theorem mzcS_173 : mz_S0[173]? = some (0, 6, []) := by decide +kernel
theorem mzcS_174 : mz_S0[174]? = some (0, 6, []) := by decide +kernel
theorem mzcS_175 : mz_S0[175]? = some (0, 6, []) := by decide +kernel
theorem mzcS_176 : mz_S0[176]? = some (0, 6, []) := by decide +kernel
theorem mzcS_177 : mz_S0[177]? = some (0, 6, []) := by decide +kernel
theorem mzcS_178 : mz_S0[178]? = some (0, 6, []) := by decide +kernel
theorem mzcS_179 : mz_S0[179]? = some (0, 6, []) := by decide +kernel
theorem mzcS_180 : mz_S0[180]? = some (0, 6, []) := by decide +kernel
theorem mzcS_181 : mz_S0[181]? = some (0, 6, []) := by decide +kernel
theorem mzcS_182 : mz_S0[182]? = some (0, 6, []) := by decide +kernel
theorem mzcS_183 : mz_S0[183]? = some (0, 6, []) := by decide +kernel
theorem mzcS_184 : mz_S0[184]? = some (0, 6, []) := by decide +kernel
theorem mzcS_185 : mz_S0[185]? = some (0, 6, []) := by decide +kernel
theorem mzcS_186 : mz_S0[186]? = some (0, 6, []) := by decide +kernel
theorem mzcS_187 : mz_S0[187]? = some (0, 6, []) := by decide +kernel
theorem mzcS_188 : mz_S0[188]? = some (0, 6, []) := by decide +kernel
theorem mzcS_189 : mz_S0[189]? = some (0, 6, []) := by decide +kernel
theorem mzcS_190 : mz_S0[190]? = some (0, 6, []) := by decide +kernel
theorem mzcS_191 : mz_S0[191]? = some (0, 6, []) := by decide +kernel
theorem mzcS_192 : mz_S0[192]? = some (0, 6, []) := by decide +kernel
theorem mzcS_193 : mz_S0[193]? = some (0, 6, []) := by decide +kernel
theorem mzcS_194 : mz_S0[194]? = some (0, 6, []) := by decide +kernel
theorem mzcS_195 : mz_S0[195]? = some (0, 6, []) := by decide +kernel
theorem mzcS_196 : mz_S0[196]? = some (0, 6, []) := by decide +kernel
theorem mzcS_197 : mz_S0[197]? = some (0, 6, []) := by decide +kernel
theorem mzcS_198 : mz_S0[198]? = some (0, 6, []) := by decide +kernel
theorem mzcS_199 : mz_S0[199]? = some (0, 6, []) := by decide +kernel
theorem mzcS_200 : mz_S0[200]? = some (0, 6, []) := by decide +kernel
theorem mzcS_201 : mz_S0[201]? = some (0, 6, []) := by decide +kernel
theorem mzcS_202 : mz_S0[202]? = some (0, 6, []) := by decide +kernel
theorem mzcS_203 : mz_S0[203]? = some (0, 6, []) := by decide +kernel
theorem mzcS_204 : mz_S0[204]? = some (0, 6, []) := by decide +kernel
theorem mzcS_205 : mz_S0[205]? = some (0, 6, []) := by decide +kernel
theorem mzcS_206 : mz_S0[206]? = some (0, 6, []) := by decide +kernel
theorem mzcS_207 : mz_S0[207]? = some (0, 6, []) := by decide +kernel
theorem mzcS_208 : mz_S0[208]? = some (9, 1, mz_FK0 1) := by decide +kernel
theorem mzcS_209 : mz_S0[209]? = some (4, 3, []) := by decide +kernel
theorem mzcS_210 : mz_S0[210]? = some (0, 11, []) := by decide +kernel
theorem mzcS_211 : mz_S0[211]? = some (0, 11, []) := by decide +kernel
theorem mzcS_212 : mz_S0[212]? = some (0, 11, []) := by decide +kernel
theorem mzcS_213 : mz_S0[213]? = some (1, 10, []) := by decide +kernel
theorem mzcS_214 : mz_S0[214]? = some (1, 10, []) := by decide +kernel
theorem mzcS_215 : mz_S0[215]? = some (0, 4, []) := by decide +kernel
theorem mzcS_216 : mz_S0[216]? = some (1, 10, []) := by decide +kernel
theorem mzcS_217 : mz_S0[217]? = some (1, 10, []) := by decide +kernel
theorem mzcS_218 : mz_S0[218]? = some (1, 10, []) := by decide +kernel
theorem mzcS_219 : mz_S0[219]? = some (9, 8, mz_FK0 8) := by decide +kernel
theorem mzcS_220 : mz_S0[220]? = some (4, 2, []) := by decide +kernel
theorem mzcS_221 : mz_S0[221]? = some (0, 9600, []) := by decide +kernel
theorem mzcS_222 : mz_S0[222]? = some (0, 9600, []) := by decide +kernel
theorem mzcS_223 : mz_S0[223]? = some (0, 3780, []) := by decide +kernel
theorem mzcS_224 : mz_S0[224]? = some (0, 135, []) := by decide +kernel
theorem mzcS_225 : mz_S0[225]? = some (0, 48, []) := by decide +kernel
theorem mzcS_226 : mz_S0[226]? = some (0, 16, []) := by decide +kernel
theorem mzcS_227 : mz_S0[227]? = some (0, 448, []) := by decide +kernel
theorem mzcS_228 : mz_S0[228]? = some (0, 4056, []) := by decide +kernel
theorem mzcS_229 : mz_S0[229]? = some (0, 4100, []) := by decide +kernel
theorem mzcS_230 : mz_S0[230]? = some (0, 3780, []) := by decide +kernel
theorem mzcS_231 : mz_S0[231]? = some (0, 135, []) := by decide +kernel
theorem mzcS_232 : mz_S0[232]? = some (9, 12, mz_FK0 12) := by decide +kernel
theorem mzcS_233 : mz_S0[233]? = some (0, 4400, []) := by decide +kernel
theorem mzcS_234 : mz_S0[234]? = some (0, 240, []) := by decide +kernel
theorem mzcS_235 : mz_S0[235]? = some (0, 240, []) := by decide +kernel
theorem mzcS_236 : mz_S0[236]? = some (0, 240, []) := by decide +kernel
theorem mzcS_237 : mz_S0[237]? = some (0, 240, []) := by decide +kernel
theorem mzcS_238 : mz_S0[238]? = some (0, 240, []) := by decide +kernel
theorem mzcS_239 : mz_S0[239]? = some (0, 6400, []) := by decide +kernel
theorem mzcS_240 : mz_S0[240]? = some (0, 240, []) := by decide +kernel
theorem mzcS_241 : mz_S0[241]? = some (0, 240, []) := by decide +kernel
theorem mzcS_242 : mz_S0[242]? = some (0, 10, []) := by decide +kernel
theorem mzcS_243 : mz_S0[243]? = some (0, 10, []) := by decide +kernel
theorem mzcS_244 : mz_S0[244]? = some (0, 240, []) := by decide +kernel
theorem mzcS_245 : mz_S0[245]? = some (0, 24, []) := by decide +kernel
theorem mzcS_246 : mz_S0[246]? = some (0, 96, []) := by decide +kernel
theorem mzcS_247 : mz_S0[247]? = some (0, 11, []) := by decide +kernel
theorem mzcS_248 : mz_S0[248]? = some (0, 11, []) := by decide +kernel
theorem mzcS_249 : mz_S0[249]? = some (0, 3, []) := by decide +kernel
theorem mzcS_250 : mz_S0[250]? = some (0, 3, []) := by decide +kernel
theorem mzcS_251 : mz_S0[251]? = some (0, 196, []) := by decide +kernel
theorem mzcS_252 : mz_S0[252]? = some (0, 196, []) := by decide +kernel
theorem mzcS_253 : mz_S0[253]? = some (0, 400, []) := by decide +kernel
theorem mzcS_254 : mz_S0[254]? = some (0, 400, []) := by decide +kernel
theorem mzcS_255 : mz_S0[255]? = some (0, 13, []) := by decide +kernel
theorem mzcS_256 : mz_S0[256]? = some (0, 13, []) := by decide +kernel
theorem mzcS_257 : mz_S0[257]? = some (0, 16, []) := by decide +kernel
theorem mzcS_258 : mz_S0[258]? = some (1, 64, []) := by decide +kernel
theorem mzcS_259 : mz_S0[259]? = some (1, 200, []) := by decide +kernel
theorem mzcS_260 : mz_S0[260]? = some (1, 240, []) := by decide +kernel
theorem mzcS_261 : mz_S0[261]? = some (1, 240, []) := by decide +kernel
theorem mzcS_262 : mz_S0[262]? = some (1, 240, []) := by decide +kernel
theorem mzcS_263 : mz_S0[263]? = some (1, 240, []) := by decide +kernel
theorem mzcS_264 : mz_S0[264]? = some (1, 240, []) := by decide +kernel
theorem mzcS_265 : mz_S0[265]? = some (1, 240, []) := by decide +kernel
theorem mzcS_266 : mz_S0[266]? = some (1, 240, []) := by decide +kernel
theorem mzcS_267 : mz_S0[267]? = some (1, 240, []) := by decide +kernel
theorem mzcS_268 : mz_S0[268]? = some (1, 40, []) := by decide +kernel
theorem mzcS_269 : mz_S0[269]? = some (1, 40, []) := by decide +kernel
theorem mzcS_270 : mz_S0[270]? = some (1, 41, []) := by decide +kernel
theorem mzcS_271 : mz_S0[271]? = some (1, 41, []) := by decide +kernel
theorem mzcS_272 : mz_S0[272]? = some (0, 11, []) := by decide +kernel
theorem mzcS_273 : mz_S0[273]? = some (3, 11, []) := by decide +kernel
theorem mzcS_274 : mz_S0[274]? = some (0, 11, []) := by decide +kernel
theorem mzcS_275 : mz_S0[275]? = some (3, 11, []) := by decide +kernel
theorem mzcS_276 : mz_S0[276]? = some (3, 11, []) := by decide +kernel
theorem mzcS_277 : mz_S0[277]? = some (0, 10, []) := by decide +kernel
theorem mzcS_278 : mz_S0[278]? = some (0, 10, []) := by decide +kernel
theorem mzcS_279 : mz_S0[279]? = some (3, 18, []) := by decide +kernel
theorem mzcS_280 : mz_S0[280]? = some (0, 32, []) := by decide +kernel
theorem mzcS_281 : mz_S0[281]? = some (1, 32, []) := by decide +kernel
theorem mzcS_282 : mz_S0[282]? = some (3, 8, []) := by decide +kernel
theorem mzcS_283 : mz_S0[283]? = some (0, 8, []) := by decide +kernel
theorem mzcS_284 : mz_S0[284]? = some (0, 8, []) := by decide +kernel
theorem mzcS_285 : mz_S0[285]? = some (0, 8, []) := by decide +kernel
theorem mzcS_286 : mz_S0[286]? = some (1, 384, []) := by decide +kernel
theorem mzcS_287 : mz_S0[287]? = some (3, 16, []) := by decide +kernel
theorem mzcS_288 : mz_S0[288]? = some (0, 16, []) := by decide +kernel
theorem mzcS_289 : mz_S0[289]? = some (0, 16, []) := by decide +kernel
theorem mzcS_290 : mz_S0[290]? = some (0, 16, []) := by decide +kernel
theorem mzcS_291 : mz_S0[291]? = some (1, 16, []) := by decide +kernel
theorem mzcS_292 : mz_S0[292]? = some (1, 16, []) := by decide +kernel
theorem mzcS_293 : mz_S0[293]? = some (0, 16, []) := by decide +kernel
theorem mzcS_294 : mz_S0[294]? = some (0, 12, []) := by decide +kernel
theorem mzcS_295 : mz_S0[295]? = some (1, 12, []) := by decide +kernel
theorem mzcS_296 : mz_S0[296]? = some (0, 2, []) := by decide +kernel
theorem mzcS_297 : mz_S0[297]? = some (0, 2, []) := by decide +kernel
theorem mzcS_298 : mz_S0[298]? = some (1, 2, []) := by decide +kernel
theorem mzcS_299 : mz_S0[299]? = some (0, 6, []) := by decide +kernel
theorem mzcS_300 : mz_S0[300]? = some (0, 6, []) := by decide +kernel
theorem mzcS_301 : mz_S0[301]? = some (0, 6, []) := by decide +kernel
theorem mzcS_302 : mz_S0[302]? = some (0, 8, []) := by decide +kernel
theorem mzcS_303 : mz_S0[303]? = some (0, 8, []) := by decide +kernel
theorem mzcS_304 : mz_S0[304]? = some (1, 8, []) := by decide +kernel
theorem mzcS_305 : mz_S0[305]? = some (1, 3, []) := by decide +kernel
theorem mzcS_306 : mz_S0[306]? = some (0, 3, []) := by decide +kernel
theorem mzcS_307 : mz_S0[307]? = some (3, 3, []) := by decide +kernel
theorem mzcS_308 : mz_S0[308]? = some (3, 20, []) := by decide +kernel
theorem mzcS_309 : mz_S0[309]? = some (0, 20, []) := by decide +kernel
theorem mzcS_310 : mz_S0[310]? = some (0, 20, []) := by decide +kernel
theorem mzcS_311 : mz_S0[311]? = some (3, 40, []) := by decide +kernel
theorem mzcS_312 : mz_S0[312]? = some (0, 40, []) := by decide +kernel
theorem mzcS_313 : mz_S0[313]? = some (0, 40, []) := by decide +kernel
theorem mzcS_314 : mz_S0[314]? = some (0, 40, []) := by decide +kernel
theorem mzcS_315 : mz_S0[315]? = some (3, 40, []) := by decide +kernel
theorem mzcS_316 : mz_S0[316]? = some (0, 40, []) := by decide +kernel
theorem mzcS_317 : mz_S0[317]? = some (1, 64, []) := by decide +kernel
theorem mzcS_318 : mz_S0[318]? = some (0, 64, []) := by decide +kernel
theorem mzcS_319 : mz_S0[319]? = some (0, 64, []) := by decide +kernel
theorem mzcS_320 : mz_S0[320]? = some (0, 64, []) := by decide +kernel
theorem mzcS_321 : mz_S0[321]? = some (1, 11, []) := by decide +kernel
theorem mzcS_322 : mz_S0[322]? = some (1, 11, []) := by decide +kernel
theorem mzcS_323 : mz_S0[323]? = some (1, 11, []) := by decide +kernel
theorem mzcS_324 : mz_S0[324]? = some (1, 10, []) := by decide +kernel
theorem mzcS_325 : mz_S0[325]? = some (1, 10, []) := by decide +kernel
theorem mzcS_326 : mz_S0[326]? = some (1, 41, []) := by decide +kernel
theorem mzcS_327 : mz_S0[327]? = some (1, 41, []) := by decide +kernel
theorem mzcS_328 : mz_S0[328]? = some (1, 41, []) := by decide +kernel
theorem mzcS_329 : mz_S0[329]? = some (2, 19200, []) := by decide +kernel
theorem mzcS_330 : mz_S0[330]? = some (3, 135, []) := by decide +kernel
theorem mzcS_331 : mz_S0[331]? = some (2, 3780, []) := by decide +kernel
theorem mzcS_332 : mz_S0[332]? = some (2, 28, []) := by decide +kernel
theorem mzcS_333 : mz_S0[333]? = some (0, 160, []) := by decide +kernel
theorem mzcS_334 : mz_S0[334]? = some (2, 4100, []) := by decide +kernel
theorem mzcS_335 : mz_S0[335]? = some (2, 4100, []) := by decide +kernel
theorem mzcS_336 : mz_S0[336]? = some (3, 135, []) := by decide +kernel
theorem mzcS_337 : mz_S0[337]? = some (2, 3780, []) := by decide +kernel
theorem mzcS_338 : mz_S0[338]? = some (0, 196, []) := by decide +kernel
theorem mzcS_339 : mz_S0[339]? = some (0, 400, []) := by decide +kernel
theorem mzcS_340 : mz_S0[340]? = some (1, 240, []) := by decide +kernel
theorem mzcS_341 : mz_S0[341]? = some (2, 48, []) := by decide +kernel
theorem mzcS_342 : mz_S0[342]? = some (1, 1, []) := by decide +kernel
theorem mzcR_0_0 : mz_R0 0 0 = some 1 := by decide +kernel
theorem mzcR_0_1 : mz_R0 0 1 = some 2 := by decide +kernel
theorem mzcR_0_2 : mz_R0 0 2 = some 41 := by decide +kernel
theorem mzcR_0_3 : mz_R0 0 3 = some 56 := by decide +kernel
theorem mzcR_0_4 : mz_R0 0 4 = some 65 := by decide +kernel
theorem mzcR_0_5 : mz_R0 0 5 = some 81 := by decide +kernel
theorem mzcR_0_6 : mz_R0 0 6 = some 100 := by decide +kernel
theorem mzcR_0_7 : mz_R0 0 7 = some 115 := by decide +kernel
theorem mzcR_0_8 : mz_R0 0 8 = some 208 := by decide +kernel
theorem mzcR_0_9 : mz_R0 0 9 = some 219 := by decide +kernel
theorem mzcR_0_10 : mz_R0 0 10 = some 53 := by decide +kernel
theorem mzcR_1_0 : mz_R0 1 0 = some 2 := by decide +kernel
theorem mzcR_1_1 : mz_R0 1 1 = some 41 := by decide +kernel
theorem mzcR_1_2 : mz_R0 1 2 = some 56 := by decide +kernel
theorem mzcR_1_3 : mz_R0 1 3 = some 65 := by decide +kernel
theorem mzcR_1_4 : mz_R0 1 4 = some 81 := by decide +kernel
theorem mzcR_1_5 : mz_R0 1 5 = some 100 := by decide +kernel
theorem mzcR_1_6 : mz_R0 1 6 = some 115 := by decide +kernel
theorem mzcR_1_7 : mz_R0 1 7 = some 208 := by decide +kernel
theorem mzcR_1_8 : mz_R0 1 8 = some 219 := by decide +kernel
theorem mzcR_1_9 : mz_R0 1 9 = some 228 := by decide +kernel
theorem mzcR_1_11 : mz_R0 1 11 = some 229 := by decide +kernel
theorem mzcR_1_13 : mz_R0 1 13 = some 230 := by decide +kernel
theorem mzcR_1_14 : mz_R0 1 14 = some 231 := by decide +kernel
theorem mzcR_2_0 : mz_R0 2 0 = some 3 := by decide +kernel
theorem mzcR_2_1 : mz_R0 2 1 = some 4 := by decide +kernel
theorem mzcR_2_2 : mz_R0 2 2 = some 8 := by decide +kernel
theorem mzcR_2_4 : mz_R0 2 4 = some 12 := by decide +kernel
theorem mzcR_2_5 : mz_R0 2 5 = some 13 := by decide +kernel
theorem mzcR_2_6 : mz_R0 2 6 = some 14 := by decide +kernel
theorem mzcR_2_8 : mz_R0 2 8 = some 15 := by decide +kernel
theorem mzcR_2_9 : mz_R0 2 9 = some 16 := by decide +kernel
theorem mzcR_2_10 : mz_R0 2 10 = some 30 := by decide +kernel
theorem mzcR_2_11 : mz_R0 2 11 = some 31 := by decide +kernel
theorem mzcR_2_12 : mz_R0 2 12 = some 32 := by decide +kernel
theorem mzcR_2_14 : mz_R0 2 14 = some 36 := by decide +kernel
theorem mzcR_2_15 : mz_R0 2 15 = some 37 := by decide +kernel
theorem mzcR_2_16 : mz_R0 2 16 = some 38 := by decide +kernel
theorem mzcR_2_17 : mz_R0 2 17 = some 39 := by decide +kernel
theorem mzcR_2_18 : mz_R0 2 18 = some 40 := by decide +kernel
theorem mzcR2_4 {i : Int32} (h : mz_ib i 3) : mz_R0 4 i.toNatClampNeg = some (5 + i.toNatClampNeg) := (by decide +kernel : ∀ j, j < 3 → mz_R0 4 j = some (5 + j)) _ (mz_ib_lt h)
theorem mzcS2_4 {i : Int32} (h : mz_ib i 3) : mz_S0[5 + i.toNatClampNeg]? = some (0, 550, []) := (by decide +kernel : ∀ j, j < 3 → mz_S0[5 + j]? = some (0, 550, [])) _ (mz_ib_lt h)
theorem mzcRr_4_0 : mz_R0 4 (0 : Int32).toNatClampNeg = some 5 := by decide +kernel
theorem mzcRr_4_1 : mz_R0 4 (1 : Int32).toNatClampNeg = some 6 := by decide +kernel
theorem mzcRr_4_2 : mz_R0 4 (2 : Int32).toNatClampNeg = some 7 := by decide +kernel
theorem mzcL2_4 {i : Int32} (h : mz_ib i 3) {z : Nat} (hz : 8 ≤ z) : 5 + i.toNatClampNeg < z := by have := mz_ib_lt h; omega
theorem mzcR2_8 {i : Int32} (h : mz_ib i 3) : mz_R0 8 i.toNatClampNeg = some (9 + i.toNatClampNeg) := (by decide +kernel : ∀ j, j < 3 → mz_R0 8 j = some (9 + j)) _ (mz_ib_lt h)
theorem mzcS2_8 {i : Int32} (h : mz_ib i 3) : mz_S0[9 + i.toNatClampNeg]? = some (0, 550, []) := (by decide +kernel : ∀ j, j < 3 → mz_S0[9 + j]? = some (0, 550, [])) _ (mz_ib_lt h)
theorem mzcRr_8_0 : mz_R0 8 (0 : Int32).toNatClampNeg = some 9 := by decide +kernel
theorem mzcRr_8_1 : mz_R0 8 (1 : Int32).toNatClampNeg = some 10 := by decide +kernel
theorem mzcRr_8_2 : mz_R0 8 (2 : Int32).toNatClampNeg = some 11 := by decide +kernel
theorem mzcL2_8 {i : Int32} (h : mz_ib i 3) {z : Nat} (hz : 12 ≤ z) : 9 + i.toNatClampNeg < z := by have := mz_ib_lt h; omega
theorem mzcR2_16 {i : Int32} (h : mz_ib i 13) : mz_R0 16 i.toNatClampNeg = some (17 + i.toNatClampNeg) := (by decide +kernel : ∀ j, j < 13 → mz_R0 16 j = some (17 + j)) _ (mz_ib_lt h)
theorem mzcS2_16 {i : Int32} (h : mz_ib i 13) : mz_S0[17 + i.toNatClampNeg]? = some (0, 40, []) := (by decide +kernel : ∀ j, j < 13 → mz_S0[17 + j]? = some (0, 40, [])) _ (mz_ib_lt h)
theorem mzcRr_16_0 : mz_R0 16 (0 : Int32).toNatClampNeg = some 17 := by decide +kernel
theorem mzcRr_16_1 : mz_R0 16 (1 : Int32).toNatClampNeg = some 18 := by decide +kernel
theorem mzcRr_16_2 : mz_R0 16 (2 : Int32).toNatClampNeg = some 19 := by decide +kernel
theorem mzcRr_16_3 : mz_R0 16 (3 : Int32).toNatClampNeg = some 20 := by decide +kernel
theorem mzcRr_16_4 : mz_R0 16 (4 : Int32).toNatClampNeg = some 21 := by decide +kernel
theorem mzcRr_16_5 : mz_R0 16 (5 : Int32).toNatClampNeg = some 22 := by decide +kernel
theorem mzcRr_16_6 : mz_R0 16 (6 : Int32).toNatClampNeg = some 23 := by decide +kernel
theorem mzcRr_16_7 : mz_R0 16 (7 : Int32).toNatClampNeg = some 24 := by decide +kernel
theorem mzcRr_16_8 : mz_R0 16 (8 : Int32).toNatClampNeg = some 25 := by decide +kernel
theorem mzcRr_16_9 : mz_R0 16 (9 : Int32).toNatClampNeg = some 26 := by decide +kernel
theorem mzcRr_16_10 : mz_R0 16 (10 : Int32).toNatClampNeg = some 27 := by decide +kernel
theorem mzcRr_16_11 : mz_R0 16 (11 : Int32).toNatClampNeg = some 28 := by decide +kernel
theorem mzcRr_16_12 : mz_R0 16 (12 : Int32).toNatClampNeg = some 29 := by decide +kernel
theorem mzcL2_16 {i : Int32} (h : mz_ib i 13) {z : Nat} (hz : 30 ≤ z) : 17 + i.toNatClampNeg < z := by have := mz_ib_lt h; omega
theorem mzcR2_32 {i : Int32} (h : mz_ib i 3) : mz_R0 32 i.toNatClampNeg = some (33 + i.toNatClampNeg) := (by decide +kernel : ∀ j, j < 3 → mz_R0 32 j = some (33 + j)) _ (mz_ib_lt h)
theorem mzcS2_32 {i : Int32} (h : mz_ib i 3) : mz_S0[33 + i.toNatClampNeg]? = some (0, 780, []) := (by decide +kernel : ∀ j, j < 3 → mz_S0[33 + j]? = some (0, 780, [])) _ (mz_ib_lt h)
theorem mzcRr_32_0 : mz_R0 32 (0 : Int32).toNatClampNeg = some 33 := by decide +kernel
theorem mzcRr_32_1 : mz_R0 32 (1 : Int32).toNatClampNeg = some 34 := by decide +kernel
theorem mzcRr_32_2 : mz_R0 32 (2 : Int32).toNatClampNeg = some 35 := by decide +kernel
theorem mzcL2_32 {i : Int32} (h : mz_ib i 3) {z : Nat} (hz : 36 ≤ z) : 33 + i.toNatClampNeg < z := by have := mz_ib_lt h; omega
theorem mzcR_41_0 : mz_R0 41 0 = some 42 := by decide +kernel
theorem mzcR_41_2 : mz_R0 41 2 = some 43 := by decide +kernel
theorem mzcR_41_3 : mz_R0 41 3 = some 48 := by decide +kernel
theorem mzcR_41_6 : mz_R0 41 6 = some 53 := by decide +kernel
theorem mzcR_41_7 : mz_R0 41 7 = some 54 := by decide +kernel
theorem mzcR_41_8 : mz_R0 41 8 = some 55 := by decide +kernel
theorem mzcR_43_0 : mz_R0 43 0 = some 44 := by decide +kernel
theorem mzcR_43_2 : mz_R0 43 2 = some 45 := by decide +kernel
theorem mzcR_43_3 : mz_R0 43 3 = some 46 := by decide +kernel
theorem mzcR_43_14 : mz_R0 43 14 = some 47 := by decide +kernel
theorem mzcR_48_0 : mz_R0 48 0 = some 49 := by decide +kernel
theorem mzcR_48_2 : mz_R0 48 2 = some 50 := by decide +kernel
theorem mzcR_48_3 : mz_R0 48 3 = some 51 := by decide +kernel
theorem mzcR_48_14 : mz_R0 48 14 = some 52 := by decide +kernel
theorem mzcR_56_0 : mz_R0 56 0 = some 57 := by decide +kernel
theorem mzcR_56_14 : mz_R0 56 14 = some 64 := by decide +kernel
theorem mzcR2_57 {i : Int32} (h : mz_ib i 6) : mz_R0 57 i.toNatClampNeg = some (58 + i.toNatClampNeg) := (by decide +kernel : ∀ j, j < 6 → mz_R0 57 j = some (58 + j)) _ (mz_ib_lt h)
theorem mzcS2_57 {i : Int32} (h : mz_ib i 6) : mz_S0[58 + i.toNatClampNeg]? = some (0, 11, []) := (by decide +kernel : ∀ j, j < 6 → mz_S0[58 + j]? = some (0, 11, [])) _ (mz_ib_lt h)
theorem mzcRr_57_0 : mz_R0 57 (0 : Int32).toNatClampNeg = some 58 := by decide +kernel
theorem mzcRr_57_1 : mz_R0 57 (1 : Int32).toNatClampNeg = some 59 := by decide +kernel
theorem mzcRr_57_2 : mz_R0 57 (2 : Int32).toNatClampNeg = some 60 := by decide +kernel
theorem mzcRr_57_3 : mz_R0 57 (3 : Int32).toNatClampNeg = some 61 := by decide +kernel
theorem mzcRr_57_4 : mz_R0 57 (4 : Int32).toNatClampNeg = some 62 := by decide +kernel
theorem mzcRr_57_5 : mz_R0 57 (5 : Int32).toNatClampNeg = some 63 := by decide +kernel
theorem mzcL2_57 {i : Int32} (h : mz_ib i 6) {z : Nat} (hz : 64 ≤ z) : 58 + i.toNatClampNeg < z := by have := mz_ib_lt h; omega
theorem mzcR_65_0 : mz_R0 65 0 = some 66 := by decide +kernel
theorem mzcR_65_1 : mz_R0 65 1 = some 67 := by decide +kernel
theorem mzcR_65_2 : mz_R0 65 2 = some 68 := by decide +kernel
theorem mzcR_65_3 : mz_R0 65 3 = some 69 := by decide +kernel
theorem mzcR_65_4 : mz_R0 65 4 = some 70 := by decide +kernel
theorem mzcR_65_5 : mz_R0 65 5 = some 71 := by decide +kernel
theorem mzcR_65_6 : mz_R0 65 6 = some 72 := by decide +kernel
theorem mzcR_65_7 : mz_R0 65 7 = some 73 := by decide +kernel
theorem mzcR_65_9 : mz_R0 65 9 = some 74 := by decide +kernel
theorem mzcR_65_10 : mz_R0 65 10 = some 75 := by decide +kernel
theorem mzcR_65_11 : mz_R0 65 11 = some 76 := by decide +kernel
theorem mzcR_65_12 : mz_R0 65 12 = some 77 := by decide +kernel
theorem mzcR_65_13 : mz_R0 65 13 = some 78 := by decide +kernel
theorem mzcR_65_14 : mz_R0 65 14 = some 79 := by decide +kernel
theorem mzcR_65_15 : mz_R0 65 15 = some 80 := by decide +kernel
theorem mzcR_81_0 : mz_R0 81 0 = some 82 := by decide +kernel
theorem mzcR_81_1 : mz_R0 81 1 = some 83 := by decide +kernel
theorem mzcR_81_2 : mz_R0 81 2 = some 84 := by decide +kernel
theorem mzcR_81_4 : mz_R0 81 4 = some 87 := by decide +kernel
theorem mzcR_81_5 : mz_R0 81 5 = some 88 := by decide +kernel
theorem mzcR_81_6 : mz_R0 81 6 = some 89 := by decide +kernel
theorem mzcR_81_7 : mz_R0 81 7 = some 90 := by decide +kernel
theorem mzcR_81_8 : mz_R0 81 8 = some 99 := by decide +kernel
theorem mzcR2_84 {i : Int32} (h : mz_ib i 2) : mz_R0 84 i.toNatClampNeg = some (85 + i.toNatClampNeg) := (by decide +kernel : ∀ j, j < 2 → mz_R0 84 j = some (85 + j)) _ (mz_ib_lt h)
theorem mzcS2_84 {i : Int32} (h : mz_ib i 2) : mz_S0[85 + i.toNatClampNeg]? = some (0, 32, []) := (by decide +kernel : ∀ j, j < 2 → mz_S0[85 + j]? = some (0, 32, [])) _ (mz_ib_lt h)
theorem mzcRr_84_0 : mz_R0 84 (0 : Int32).toNatClampNeg = some 85 := by decide +kernel
theorem mzcRr_84_1 : mz_R0 84 (1 : Int32).toNatClampNeg = some 86 := by decide +kernel
theorem mzcL2_84 {i : Int32} (h : mz_ib i 2) {z : Nat} (hz : 87 ≤ z) : 85 + i.toNatClampNeg < z := by have := mz_ib_lt h; omega
theorem mzcR2_90 {i : Int32} (h : mz_ib i 8) : mz_R0 90 i.toNatClampNeg = some (91 + i.toNatClampNeg) := (by decide +kernel : ∀ j, j < 8 → mz_R0 90 j = some (91 + j)) _ (mz_ib_lt h)
theorem mzcS2_90 {i : Int32} (h : mz_ib i 8) : mz_S0[91 + i.toNatClampNeg]? = some (1, 48, []) := (by decide +kernel : ∀ j, j < 8 → mz_S0[91 + j]? = some (1, 48, [])) _ (mz_ib_lt h)
theorem mzcRr_90_0 : mz_R0 90 (0 : Int32).toNatClampNeg = some 91 := by decide +kernel
theorem mzcRr_90_1 : mz_R0 90 (1 : Int32).toNatClampNeg = some 92 := by decide +kernel
theorem mzcRr_90_2 : mz_R0 90 (2 : Int32).toNatClampNeg = some 93 := by decide +kernel
theorem mzcRr_90_3 : mz_R0 90 (3 : Int32).toNatClampNeg = some 94 := by decide +kernel
theorem mzcRr_90_4 : mz_R0 90 (4 : Int32).toNatClampNeg = some 95 := by decide +kernel
theorem mzcRr_90_5 : mz_R0 90 (5 : Int32).toNatClampNeg = some 96 := by decide +kernel
theorem mzcRr_90_6 : mz_R0 90 (6 : Int32).toNatClampNeg = some 97 := by decide +kernel
theorem mzcRr_90_7 : mz_R0 90 (7 : Int32).toNatClampNeg = some 98 := by decide +kernel
theorem mzcL2_90 {i : Int32} (h : mz_ib i 8) {z : Nat} (hz : 99 ≤ z) : 91 + i.toNatClampNeg < z := by have := mz_ib_lt h; omega
theorem mzcR_100_0 : mz_R0 100 0 = some 101 := by decide +kernel
theorem mzcR_100_1 : mz_R0 100 1 = some 102 := by decide +kernel
theorem mzcR_100_2 : mz_R0 100 2 = some 103 := by decide +kernel
theorem mzcR_100_3 : mz_R0 100 3 = some 104 := by decide +kernel
theorem mzcR_100_4 : mz_R0 100 4 = some 105 := by decide +kernel
theorem mzcR_100_5 : mz_R0 100 5 = some 106 := by decide +kernel
theorem mzcR_100_6 : mz_R0 100 6 = some 107 := by decide +kernel
theorem mzcR_100_7 : mz_R0 100 7 = some 108 := by decide +kernel
theorem mzcR_100_8 : mz_R0 100 8 = some 109 := by decide +kernel
theorem mzcR_100_9 : mz_R0 100 9 = some 110 := by decide +kernel
theorem mzcR2_110 {i : Int32} (h : mz_ib i 4) : mz_R0 110 i.toNatClampNeg = some (111 + i.toNatClampNeg) := (by decide +kernel : ∀ j, j < 4 → mz_R0 110 j = some (111 + j)) _ (mz_ib_lt h)
theorem mzcS2_110 {i : Int32} (h : mz_ib i 4) : mz_S0[111 + i.toNatClampNeg]? = some (0, 64, []) := (by decide +kernel : ∀ j, j < 4 → mz_S0[111 + j]? = some (0, 64, [])) _ (mz_ib_lt h)
theorem mzcRr_110_0 : mz_R0 110 (0 : Int32).toNatClampNeg = some 111 := by decide +kernel
theorem mzcRr_110_1 : mz_R0 110 (1 : Int32).toNatClampNeg = some 112 := by decide +kernel
theorem mzcRr_110_2 : mz_R0 110 (2 : Int32).toNatClampNeg = some 113 := by decide +kernel
theorem mzcRr_110_3 : mz_R0 110 (3 : Int32).toNatClampNeg = some 114 := by decide +kernel
theorem mzcL2_110 {i : Int32} (h : mz_ib i 4) {z : Nat} (hz : 115 ≤ z) : 111 + i.toNatClampNeg < z := by have := mz_ib_lt h; omega
theorem mzcR_115_0 : mz_R0 115 0 = some 116 := by decide +kernel
theorem mzcR_115_1 : mz_R0 115 1 = some 123 := by decide +kernel
theorem mzcR_115_3 : mz_R0 115 3 = some 124 := by decide +kernel
theorem mzcR_115_4 : mz_R0 115 4 = some 129 := by decide +kernel
theorem mzcR_115_6 : mz_R0 115 6 = some 133 := by decide +kernel
theorem mzcR_115_7 : mz_R0 115 7 = some 134 := by decide +kernel
theorem mzcR_115_8 : mz_R0 115 8 = some 135 := by decide +kernel
theorem mzcR_115_9 : mz_R0 115 9 = some 138 := by decide +kernel
theorem mzcR_115_10 : mz_R0 115 10 = some 141 := by decide +kernel
theorem mzcR_115_11 : mz_R0 115 11 = some 142 := by decide +kernel
theorem mzcR_115_12 : mz_R0 115 12 = some 143 := by decide +kernel
theorem mzcR2_116 {i : Int32} (h : mz_ib i 6) : mz_R0 116 i.toNatClampNeg = some (117 + i.toNatClampNeg) := (by decide +kernel : ∀ j, j < 6 → mz_R0 116 j = some (117 + j)) _ (mz_ib_lt h)
theorem mzcS2_116 {i : Int32} (h : mz_ib i 6) : mz_S0[117 + i.toNatClampNeg]? = some (0, 16, []) := (by decide +kernel : ∀ j, j < 6 → mz_S0[117 + j]? = some (0, 16, [])) _ (mz_ib_lt h)
theorem mzcRr_116_0 : mz_R0 116 (0 : Int32).toNatClampNeg = some 117 := by decide +kernel
theorem mzcRr_116_1 : mz_R0 116 (1 : Int32).toNatClampNeg = some 118 := by decide +kernel
theorem mzcRr_116_2 : mz_R0 116 (2 : Int32).toNatClampNeg = some 119 := by decide +kernel
theorem mzcRr_116_3 : mz_R0 116 (3 : Int32).toNatClampNeg = some 120 := by decide +kernel
theorem mzcRr_116_4 : mz_R0 116 (4 : Int32).toNatClampNeg = some 121 := by decide +kernel
theorem mzcRr_116_5 : mz_R0 116 (5 : Int32).toNatClampNeg = some 122 := by decide +kernel
theorem mzcL2_116 {i : Int32} (h : mz_ib i 6) {z : Nat} (hz : 123 ≤ z) : 117 + i.toNatClampNeg < z := by have := mz_ib_lt h; omega
theorem mzcR2_124 {i : Int32} (h : mz_ib i 4) : mz_R0 124 i.toNatClampNeg = some (125 + i.toNatClampNeg) := (by decide +kernel : ∀ j, j < 4 → mz_R0 124 j = some (125 + j)) _ (mz_ib_lt h)
theorem mzcS2_124 {i : Int32} (h : mz_ib i 4) : mz_S0[125 + i.toNatClampNeg]? = some (0, 3, []) := (by decide +kernel : ∀ j, j < 4 → mz_S0[125 + j]? = some (0, 3, [])) _ (mz_ib_lt h)
theorem mzcRr_124_0 : mz_R0 124 (0 : Int32).toNatClampNeg = some 125 := by decide +kernel
theorem mzcRr_124_1 : mz_R0 124 (1 : Int32).toNatClampNeg = some 126 := by decide +kernel
theorem mzcRr_124_2 : mz_R0 124 (2 : Int32).toNatClampNeg = some 127 := by decide +kernel
theorem mzcRr_124_3 : mz_R0 124 (3 : Int32).toNatClampNeg = some 128 := by decide +kernel
theorem mzcL2_124 {i : Int32} (h : mz_ib i 4) {z : Nat} (hz : 129 ≤ z) : 125 + i.toNatClampNeg < z := by have := mz_ib_lt h; omega
theorem mzcR2_129 {i : Int32} (h : mz_ib i 3) : mz_R0 129 i.toNatClampNeg = some (130 + i.toNatClampNeg) := (by decide +kernel : ∀ j, j < 3 → mz_R0 129 j = some (130 + j)) _ (mz_ib_lt h)
theorem mzcS2_129 {i : Int32} (h : mz_ib i 3) : mz_S0[130 + i.toNatClampNeg]? = some (0, 8, []) := (by decide +kernel : ∀ j, j < 3 → mz_S0[130 + j]? = some (0, 8, [])) _ (mz_ib_lt h)
theorem mzcRr_129_0 : mz_R0 129 (0 : Int32).toNatClampNeg = some 130 := by decide +kernel
theorem mzcRr_129_1 : mz_R0 129 (1 : Int32).toNatClampNeg = some 131 := by decide +kernel
theorem mzcRr_129_2 : mz_R0 129 (2 : Int32).toNatClampNeg = some 132 := by decide +kernel
theorem mzcL2_129 {i : Int32} (h : mz_ib i 3) {z : Nat} (hz : 133 ≤ z) : 130 + i.toNatClampNeg < z := by have := mz_ib_lt h; omega
theorem mzcR2_135 {i : Int32} (h : mz_ib i 2) : mz_R0 135 i.toNatClampNeg = some (136 + i.toNatClampNeg) := (by decide +kernel : ∀ j, j < 2 → mz_R0 135 j = some (136 + j)) _ (mz_ib_lt h)
theorem mzcS2_135 {i : Int32} (h : mz_ib i 2) : mz_S0[136 + i.toNatClampNeg]? = some (0, 6, []) := (by decide +kernel : ∀ j, j < 2 → mz_S0[136 + j]? = some (0, 6, [])) _ (mz_ib_lt h)
theorem mzcRr_135_0 : mz_R0 135 (0 : Int32).toNatClampNeg = some 136 := by decide +kernel
theorem mzcRr_135_1 : mz_R0 135 (1 : Int32).toNatClampNeg = some 137 := by decide +kernel
theorem mzcL2_135 {i : Int32} (h : mz_ib i 2) {z : Nat} (hz : 138 ≤ z) : 136 + i.toNatClampNeg < z := by have := mz_ib_lt h; omega
theorem mzcR2_138 {i : Int32} (h : mz_ib i 2) : mz_R0 138 i.toNatClampNeg = some (139 + i.toNatClampNeg) := (by decide +kernel : ∀ j, j < 2 → mz_R0 138 j = some (139 + j)) _ (mz_ib_lt h)
theorem mzcS2_138 {i : Int32} (h : mz_ib i 2) : mz_S0[139 + i.toNatClampNeg]? = some (0, 6, []) := (by decide +kernel : ∀ j, j < 2 → mz_S0[139 + j]? = some (0, 6, [])) _ (mz_ib_lt h)
theorem mzcRr_138_0 : mz_R0 138 (0 : Int32).toNatClampNeg = some 139 := by decide +kernel
theorem mzcRr_138_1 : mz_R0 138 (1 : Int32).toNatClampNeg = some 140 := by decide +kernel
theorem mzcL2_138 {i : Int32} (h : mz_ib i 2) {z : Nat} (hz : 141 ≤ z) : 139 + i.toNatClampNeg < z := by have := mz_ib_lt h; omega
theorem mzcR2_143 {i : Int32} (h : mz_ib i 64) : mz_R0 143 i.toNatClampNeg = some (144 + i.toNatClampNeg) := (by decide +kernel : ∀ j, j < 64 → mz_R0 143 j = some (144 + j)) _ (mz_ib_lt h)
theorem mzcS2_143 {i : Int32} (h : mz_ib i 64) : mz_S0[144 + i.toNatClampNeg]? = some (0, 6, []) := (by decide +kernel : ∀ j, j < 64 → mz_S0[144 + j]? = some (0, 6, [])) _ (mz_ib_lt h)
theorem mzcRr_143_0 : mz_R0 143 (0 : Int32).toNatClampNeg = some 144 := by decide +kernel
theorem mzcRr_143_1 : mz_R0 143 (1 : Int32).toNatClampNeg = some 145 := by decide +kernel
theorem mzcRr_143_2 : mz_R0 143 (2 : Int32).toNatClampNeg = some 146 := by decide +kernel
theorem mzcRr_143_3 : mz_R0 143 (3 : Int32).toNatClampNeg = some 147 := by decide +kernel
theorem mzcRr_143_4 : mz_R0 143 (4 : Int32).toNatClampNeg = some 148 := by decide +kernel
theorem mzcRr_143_5 : mz_R0 143 (5 : Int32).toNatClampNeg = some 149 := by decide +kernel
theorem mzcRr_143_6 : mz_R0 143 (6 : Int32).toNatClampNeg = some 150 := by decide +kernel
theorem mzcRr_143_7 : mz_R0 143 (7 : Int32).toNatClampNeg = some 151 := by decide +kernel
theorem mzcRr_143_8 : mz_R0 143 (8 : Int32).toNatClampNeg = some 152 := by decide +kernel
theorem mzcRr_143_9 : mz_R0 143 (9 : Int32).toNatClampNeg = some 153 := by decide +kernel
theorem mzcRr_143_10 : mz_R0 143 (10 : Int32).toNatClampNeg = some 154 := by decide +kernel
theorem mzcRr_143_11 : mz_R0 143 (11 : Int32).toNatClampNeg = some 155 := by decide +kernel
theorem mzcRr_143_12 : mz_R0 143 (12 : Int32).toNatClampNeg = some 156 := by decide +kernel
theorem mzcRr_143_13 : mz_R0 143 (13 : Int32).toNatClampNeg = some 157 := by decide +kernel
theorem mzcRr_143_14 : mz_R0 143 (14 : Int32).toNatClampNeg = some 158 := by decide +kernel
theorem mzcRr_143_15 : mz_R0 143 (15 : Int32).toNatClampNeg = some 159 := by decide +kernel
theorem mzcRr_143_16 : mz_R0 143 (16 : Int32).toNatClampNeg = some 160 := by decide +kernel
theorem mzcRr_143_17 : mz_R0 143 (17 : Int32).toNatClampNeg = some 161 := by decide +kernel
theorem mzcRr_143_18 : mz_R0 143 (18 : Int32).toNatClampNeg = some 162 := by decide +kernel
theorem mzcRr_143_19 : mz_R0 143 (19 : Int32).toNatClampNeg = some 163 := by decide +kernel
theorem mzcRr_143_20 : mz_R0 143 (20 : Int32).toNatClampNeg = some 164 := by decide +kernel
theorem mzcRr_143_21 : mz_R0 143 (21 : Int32).toNatClampNeg = some 165 := by decide +kernel
theorem mzcRr_143_22 : mz_R0 143 (22 : Int32).toNatClampNeg = some 166 := by decide +kernel
theorem mzcRr_143_23 : mz_R0 143 (23 : Int32).toNatClampNeg = some 167 := by decide +kernel
theorem mzcRr_143_24 : mz_R0 143 (24 : Int32).toNatClampNeg = some 168 := by decide +kernel
theorem mzcRr_143_25 : mz_R0 143 (25 : Int32).toNatClampNeg = some 169 := by decide +kernel
theorem mzcRr_143_26 : mz_R0 143 (26 : Int32).toNatClampNeg = some 170 := by decide +kernel
theorem mzcRr_143_27 : mz_R0 143 (27 : Int32).toNatClampNeg = some 171 := by decide +kernel
theorem mzcRr_143_28 : mz_R0 143 (28 : Int32).toNatClampNeg = some 172 := by decide +kernel
theorem mzcRr_143_29 : mz_R0 143 (29 : Int32).toNatClampNeg = some 173 := by decide +kernel
theorem mzcRr_143_30 : mz_R0 143 (30 : Int32).toNatClampNeg = some 174 := by decide +kernel
theorem mzcRr_143_31 : mz_R0 143 (31 : Int32).toNatClampNeg = some 175 := by decide +kernel
theorem mzcRr_143_32 : mz_R0 143 (32 : Int32).toNatClampNeg = some 176 := by decide +kernel
theorem mzcRr_143_33 : mz_R0 143 (33 : Int32).toNatClampNeg = some 177 := by decide +kernel
theorem mzcRr_143_34 : mz_R0 143 (34 : Int32).toNatClampNeg = some 178 := by decide +kernel
theorem mzcRr_143_35 : mz_R0 143 (35 : Int32).toNatClampNeg = some 179 := by decide +kernel
theorem mzcRr_143_36 : mz_R0 143 (36 : Int32).toNatClampNeg = some 180 := by decide +kernel
theorem mzcRr_143_37 : mz_R0 143 (37 : Int32).toNatClampNeg = some 181 := by decide +kernel
theorem mzcRr_143_38 : mz_R0 143 (38 : Int32).toNatClampNeg = some 182 := by decide +kernel
theorem mzcRr_143_39 : mz_R0 143 (39 : Int32).toNatClampNeg = some 183 := by decide +kernel
theorem mzcRr_143_40 : mz_R0 143 (40 : Int32).toNatClampNeg = some 184 := by decide +kernel
theorem mzcRr_143_41 : mz_R0 143 (41 : Int32).toNatClampNeg = some 185 := by decide +kernel
theorem mzcRr_143_42 : mz_R0 143 (42 : Int32).toNatClampNeg = some 186 := by decide +kernel
theorem mzcRr_143_43 : mz_R0 143 (43 : Int32).toNatClampNeg = some 187 := by decide +kernel
theorem mzcRr_143_44 : mz_R0 143 (44 : Int32).toNatClampNeg = some 188 := by decide +kernel
theorem mzcRr_143_45 : mz_R0 143 (45 : Int32).toNatClampNeg = some 189 := by decide +kernel
theorem mzcRr_143_46 : mz_R0 143 (46 : Int32).toNatClampNeg = some 190 := by decide +kernel
theorem mzcRr_143_47 : mz_R0 143 (47 : Int32).toNatClampNeg = some 191 := by decide +kernel
theorem mzcRr_143_48 : mz_R0 143 (48 : Int32).toNatClampNeg = some 192 := by decide +kernel
theorem mzcRr_143_49 : mz_R0 143 (49 : Int32).toNatClampNeg = some 193 := by decide +kernel
theorem mzcRr_143_50 : mz_R0 143 (50 : Int32).toNatClampNeg = some 194 := by decide +kernel
theorem mzcRr_143_51 : mz_R0 143 (51 : Int32).toNatClampNeg = some 195 := by decide +kernel
theorem mzcRr_143_52 : mz_R0 143 (52 : Int32).toNatClampNeg = some 196 := by decide +kernel
theorem mzcRr_143_53 : mz_R0 143 (53 : Int32).toNatClampNeg = some 197 := by decide +kernel
theorem mzcRr_143_54 : mz_R0 143 (54 : Int32).toNatClampNeg = some 198 := by decide +kernel
theorem mzcRr_143_55 : mz_R0 143 (55 : Int32).toNatClampNeg = some 199 := by decide +kernel
theorem mzcRr_143_56 : mz_R0 143 (56 : Int32).toNatClampNeg = some 200 := by decide +kernel
theorem mzcRr_143_57 : mz_R0 143 (57 : Int32).toNatClampNeg = some 201 := by decide +kernel
theorem mzcRr_143_58 : mz_R0 143 (58 : Int32).toNatClampNeg = some 202 := by decide +kernel
theorem mzcRr_143_59 : mz_R0 143 (59 : Int32).toNatClampNeg = some 203 := by decide +kernel
theorem mzcRr_143_60 : mz_R0 143 (60 : Int32).toNatClampNeg = some 204 := by decide +kernel
theorem mzcRr_143_61 : mz_R0 143 (61 : Int32).toNatClampNeg = some 205 := by decide +kernel
theorem mzcRr_143_62 : mz_R0 143 (62 : Int32).toNatClampNeg = some 206 := by decide +kernel
theorem mzcRr_143_63 : mz_R0 143 (63 : Int32).toNatClampNeg = some 207 := by decide +kernel
theorem mzcL2_143 {i : Int32} (h : mz_ib i 64) {z : Nat} (hz : 208 ≤ z) : 144 + i.toNatClampNeg < z := by have := mz_ib_lt h; omega
theorem mzcR_208_5 : mz_R0 208 5 = some 209 := by decide +kernel
theorem mzcR_208_6 : mz_R0 208 6 = some 213 := by decide +kernel
theorem mzcR_208_7 : mz_R0 208 7 = some 214 := by decide +kernel
theorem mzcR_208_8 : mz_R0 208 8 = some 215 := by decide +kernel
theorem mzcR_208_9 : mz_R0 208 9 = some 216 := by decide +kernel
theorem mzcR_208_10 : mz_R0 208 10 = some 217 := by decide +kernel
theorem mzcR_208_11 : mz_R0 208 11 = some 218 := by decide +kernel
theorem mzcR2_209 {i : Int32} (h : mz_ib i 3) : mz_R0 209 i.toNatClampNeg = some (210 + i.toNatClampNeg) := (by decide +kernel : ∀ j, j < 3 → mz_R0 209 j = some (210 + j)) _ (mz_ib_lt h)
theorem mzcS2_209 {i : Int32} (h : mz_ib i 3) : mz_S0[210 + i.toNatClampNeg]? = some (0, 11, []) := (by decide +kernel : ∀ j, j < 3 → mz_S0[210 + j]? = some (0, 11, [])) _ (mz_ib_lt h)
theorem mzcRr_209_0 : mz_R0 209 (0 : Int32).toNatClampNeg = some 210 := by decide +kernel
theorem mzcRr_209_1 : mz_R0 209 (1 : Int32).toNatClampNeg = some 211 := by decide +kernel
theorem mzcRr_209_2 : mz_R0 209 (2 : Int32).toNatClampNeg = some 212 := by decide +kernel
theorem mzcL2_209 {i : Int32} (h : mz_ib i 3) {z : Nat} (hz : 213 ≤ z) : 210 + i.toNatClampNeg < z := by have := mz_ib_lt h; omega
theorem mzcR_219_0 : mz_R0 219 0 = some 220 := by decide +kernel
theorem mzcR_219_1 : mz_R0 219 1 = some 223 := by decide +kernel
theorem mzcR_219_2 : mz_R0 219 2 = some 224 := by decide +kernel
theorem mzcR_219_3 : mz_R0 219 3 = some 225 := by decide +kernel
theorem mzcR_219_9 : mz_R0 219 9 = some 226 := by decide +kernel
theorem mzcR_219_10 : mz_R0 219 10 = some 227 := by decide +kernel
theorem mzcR2_220 {i : Int32} (h : mz_ib i 2) : mz_R0 220 i.toNatClampNeg = some (221 + i.toNatClampNeg) := (by decide +kernel : ∀ j, j < 2 → mz_R0 220 j = some (221 + j)) _ (mz_ib_lt h)
theorem mzcS2_220 {i : Int32} (h : mz_ib i 2) : mz_S0[221 + i.toNatClampNeg]? = some (0, 9600, []) := (by decide +kernel : ∀ j, j < 2 → mz_S0[221 + j]? = some (0, 9600, [])) _ (mz_ib_lt h)
theorem mzcRr_220_0 : mz_R0 220 (0 : Int32).toNatClampNeg = some 221 := by decide +kernel
theorem mzcRr_220_1 : mz_R0 220 (1 : Int32).toNatClampNeg = some 222 := by decide +kernel
theorem mzcL2_220 {i : Int32} (h : mz_ib i 2) {z : Nat} (hz : 223 ≤ z) : 221 + i.toNatClampNeg < z := by have := mz_ib_lt h; omega
theorem mzcR_232_3 : mz_R0 232 3 = some 233 := by decide +kernel
theorem mzcR_232_5 : mz_R0 232 5 = some 234 := by decide +kernel
theorem mzcR_232_6 : mz_R0 232 6 = some 235 := by decide +kernel
theorem mzcR_232_8 : mz_R0 232 8 = some 236 := by decide +kernel
theorem mzcR_232_9 : mz_R0 232 9 = some 237 := by decide +kernel
theorem mzcR_232_10 : mz_R0 232 10 = some 238 := by decide +kernel
theorem mzcR_232_11 : mz_R0 232 11 = some 239 := by decide +kernel
theorem mzcR_232_12 : mz_R0 232 12 = some 240 := by decide +kernel
theorem mzcR_232_13 : mz_R0 232 13 = some 241 := by decide +kernel
theorem mzcR_232_14 : mz_R0 232 14 = some 242 := by decide +kernel
theorem mzcR_232_15 : mz_R0 232 15 = some 243 := by decide +kernel
theorem mzcR_232_16 : mz_R0 232 16 = some 244 := by decide +kernel
theorem mzcR_232_17 : mz_R0 232 17 = some 245 := by decide +kernel
theorem mzcR_232_18 : mz_R0 232 18 = some 246 := by decide +kernel
theorem mzcR_232_19 : mz_R0 232 19 = some 247 := by decide +kernel
theorem mzcR_232_20 : mz_R0 232 20 = some 248 := by decide +kernel
theorem mzcR_232_22 : mz_R0 232 22 = some 249 := by decide +kernel
theorem mzcR_232_23 : mz_R0 232 23 = some 250 := by decide +kernel
theorem mzcR_232_24 : mz_R0 232 24 = some 251 := by decide +kernel
theorem mzcR_232_26 : mz_R0 232 26 = some 252 := by decide +kernel
theorem mzcR_232_29 : mz_R0 232 29 = some 253 := by decide +kernel
theorem mzcR_232_30 : mz_R0 232 30 = some 254 := by decide +kernel
theorem mzcR_232_32 : mz_R0 232 32 = some 255 := by decide +kernel
theorem mzcR_232_33 : mz_R0 232 33 = some 256 := by decide +kernel
theorem mzcR_232_37 : mz_R0 232 37 = some 257 := by decide +kernel
theorem mzcR_232_38 : mz_R0 232 38 = some 258 := by decide +kernel
theorem mzcR_232_39 : mz_R0 232 39 = some 259 := by decide +kernel
theorem mzcR_232_40 : mz_R0 232 40 = some 260 := by decide +kernel
theorem mzcR_232_41 : mz_R0 232 41 = some 261 := by decide +kernel
theorem mzcR_232_42 : mz_R0 232 42 = some 262 := by decide +kernel
theorem mzcR_232_43 : mz_R0 232 43 = some 263 := by decide +kernel
theorem mzcR_232_44 : mz_R0 232 44 = some 264 := by decide +kernel
theorem mzcR_232_45 : mz_R0 232 45 = some 265 := by decide +kernel
theorem mzcR_232_46 : mz_R0 232 46 = some 266 := by decide +kernel
theorem mzcR_232_47 : mz_R0 232 47 = some 267 := by decide +kernel
theorem mzcR_232_48 : mz_R0 232 48 = some 268 := by decide +kernel
theorem mzcR_232_49 : mz_R0 232 49 = some 269 := by decide +kernel
theorem mzcR_232_50 : mz_R0 232 50 = some 270 := by decide +kernel
theorem mzcR_232_51 : mz_R0 232 51 = some 271 := by decide +kernel
theorem mzcR_232_56 : mz_R0 232 56 = some 272 := by decide +kernel
theorem mzcR_232_57 : mz_R0 232 57 = some 273 := by decide +kernel
theorem mzcR_232_58 : mz_R0 232 58 = some 274 := by decide +kernel
theorem mzcR_232_59 : mz_R0 232 59 = some 275 := by decide +kernel
theorem mzcR_232_60 : mz_R0 232 60 = some 276 := by decide +kernel
theorem mzcR_232_69 : mz_R0 232 69 = some 277 := by decide +kernel
theorem mzcR_232_70 : mz_R0 232 70 = some 278 := by decide +kernel
theorem mzcR_232_71 : mz_R0 232 71 = some 279 := by decide +kernel
theorem mzcR_232_73 : mz_R0 232 73 = some 280 := by decide +kernel
theorem mzcR_232_74 : mz_R0 232 74 = some 281 := by decide +kernel
theorem mzcR_232_75 : mz_R0 232 75 = some 282 := by decide +kernel
theorem mzcR_232_76 : mz_R0 232 76 = some 283 := by decide +kernel
theorem mzcR_232_77 : mz_R0 232 77 = some 284 := by decide +kernel
theorem mzcR_232_78 : mz_R0 232 78 = some 285 := by decide +kernel
theorem mzcR_232_79 : mz_R0 232 79 = some 286 := by decide +kernel
theorem mzcR_232_80 : mz_R0 232 80 = some 287 := by decide +kernel
theorem mzcR_232_81 : mz_R0 232 81 = some 288 := by decide +kernel
theorem mzcR_232_82 : mz_R0 232 82 = some 289 := by decide +kernel
theorem mzcR_232_83 : mz_R0 232 83 = some 290 := by decide +kernel
theorem mzcR_232_84 : mz_R0 232 84 = some 291 := by decide +kernel
theorem mzcR_232_85 : mz_R0 232 85 = some 292 := by decide +kernel
theorem mzcR_232_86 : mz_R0 232 86 = some 293 := by decide +kernel
theorem mzcR_232_88 : mz_R0 232 88 = some 294 := by decide +kernel
theorem mzcR_232_89 : mz_R0 232 89 = some 295 := by decide +kernel
theorem mzcR_232_90 : mz_R0 232 90 = some 296 := by decide +kernel
theorem mzcR_232_91 : mz_R0 232 91 = some 297 := by decide +kernel
theorem mzcR_232_92 : mz_R0 232 92 = some 298 := by decide +kernel
theorem mzcR_232_93 : mz_R0 232 93 = some 299 := by decide +kernel
theorem mzcR_232_94 : mz_R0 232 94 = some 300 := by decide +kernel
theorem mzcR_232_95 : mz_R0 232 95 = some 301 := by decide +kernel
theorem mzcR_232_97 : mz_R0 232 97 = some 302 := by decide +kernel
theorem mzcR_232_98 : mz_R0 232 98 = some 303 := by decide +kernel
theorem mzcR_232_99 : mz_R0 232 99 = some 304 := by decide +kernel
theorem mzcR_232_100 : mz_R0 232 100 = some 305 := by decide +kernel
theorem mzcR_232_101 : mz_R0 232 101 = some 306 := by decide +kernel
theorem mzcR_232_102 : mz_R0 232 102 = some 307 := by decide +kernel
theorem mzcR_232_103 : mz_R0 232 103 = some 308 := by decide +kernel
theorem mzcR_232_104 : mz_R0 232 104 = some 309 := by decide +kernel
theorem mzcR_232_105 : mz_R0 232 105 = some 310 := by decide +kernel
theorem mzcR_232_106 : mz_R0 232 106 = some 311 := by decide +kernel
theorem mzcR_232_107 : mz_R0 232 107 = some 312 := by decide +kernel
theorem mzcR_232_108 : mz_R0 232 108 = some 313 := by decide +kernel
theorem mzcR_232_109 : mz_R0 232 109 = some 314 := by decide +kernel
theorem mzcR_232_110 : mz_R0 232 110 = some 315 := by decide +kernel
theorem mzcR_232_111 : mz_R0 232 111 = some 316 := by decide +kernel
theorem mzcR_232_113 : mz_R0 232 113 = some 317 := by decide +kernel
theorem mzcR_232_114 : mz_R0 232 114 = some 318 := by decide +kernel
theorem mzcR_232_115 : mz_R0 232 115 = some 319 := by decide +kernel
theorem mzcR_232_116 : mz_R0 232 116 = some 320 := by decide +kernel
theorem mzcR_232_117 : mz_R0 232 117 = some 321 := by decide +kernel
theorem mzcR_232_118 : mz_R0 232 118 = some 322 := by decide +kernel
theorem mzcR_232_119 : mz_R0 232 119 = some 323 := by decide +kernel
theorem mzcR_232_120 : mz_R0 232 120 = some 324 := by decide +kernel
theorem mzcR_232_121 : mz_R0 232 121 = some 325 := by decide +kernel
theorem mzcR_232_126 : mz_R0 232 126 = some 326 := by decide +kernel
theorem mzcR_232_127 : mz_R0 232 127 = some 327 := by decide +kernel
theorem mzcR_232_128 : mz_R0 232 128 = some 328 := by decide +kernel
theorem mzcR_232_129 : mz_R0 232 129 = some 329 := by decide +kernel
theorem mzcR_232_130 : mz_R0 232 130 = some 330 := by decide +kernel
theorem mzcR_232_131 : mz_R0 232 131 = some 331 := by decide +kernel
theorem mzcR_232_132 : mz_R0 232 132 = some 332 := by decide +kernel
theorem mzcR_232_138 : mz_R0 232 138 = some 333 := by decide +kernel
theorem mzcR_232_140 : mz_R0 232 140 = some 334 := by decide +kernel
theorem mzcR_232_142 : mz_R0 232 142 = some 335 := by decide +kernel
theorem mzcR_232_144 : mz_R0 232 144 = some 336 := by decide +kernel
theorem mzcR_232_145 : mz_R0 232 145 = some 337 := by decide +kernel
theorem mzcR_232_146 : mz_R0 232 146 = some 338 := by decide +kernel
theorem mzcR_232_155 : mz_R0 232 155 = some 339 := by decide +kernel
theorem mzcR_232_158 : mz_R0 232 158 = some 340 := by decide +kernel
theorem mzcR_232_159 : mz_R0 232 159 = some 341 := by decide +kernel
theorem mzcf_0_0 : (mz_FK0 0)[0]? = some 2 := by decide +kernel
theorem mzcf_0_1 : (mz_FK0 0)[1]? = some 2 := by decide +kernel
theorem mzcf_0_2 : (mz_FK0 0)[2]? = some 2 := by decide +kernel
theorem mzcf_0_3 : (mz_FK0 0)[3]? = some 2 := by decide +kernel
theorem mzcf_0_4 : (mz_FK0 0)[4]? = some 2 := by decide +kernel
theorem mzcf_0_5 : (mz_FK0 0)[5]? = some 2 := by decide +kernel
theorem mzcf_0_6 : (mz_FK0 0)[6]? = some 2 := by decide +kernel
theorem mzcf_0_7 : (mz_FK0 0)[7]? = some 2 := by decide +kernel
theorem mzcf_0_8 : (mz_FK0 0)[8]? = some 2 := by decide +kernel
theorem mzcf_0_9 : (mz_FK0 0)[9]? = some 2 := by decide +kernel
theorem mzcf_0_10 : (mz_FK0 0)[10]? = some 0 := by decide +kernel
theorem mzcf_1_0 : (mz_FK0 1)[0]? = some 0 := by decide +kernel
theorem mzcf_1_1 : (mz_FK0 1)[1]? = some 1 := by decide +kernel
theorem mzcf_1_2 : (mz_FK0 1)[2]? = some 1 := by decide +kernel
theorem mzcf_1_3 : (mz_FK0 1)[3]? = some 0 := by decide +kernel
theorem mzcf_1_4 : (mz_FK0 1)[4]? = some 0 := by decide +kernel
theorem mzcf_1_5 : (mz_FK0 1)[5]? = some 2 := by decide +kernel
theorem mzcf_1_6 : (mz_FK0 1)[6]? = some 2 := by decide +kernel
theorem mzcf_1_7 : (mz_FK0 1)[7]? = some 2 := by decide +kernel
theorem mzcf_1_8 : (mz_FK0 1)[8]? = some 2 := by decide +kernel
theorem mzcf_1_9 : (mz_FK0 1)[9]? = some 2 := by decide +kernel
theorem mzcf_1_10 : (mz_FK0 1)[10]? = some 2 := by decide +kernel
theorem mzcf_1_11 : (mz_FK0 1)[11]? = some 2 := by decide +kernel
theorem mzcf_2_0 : (mz_FK0 2)[0]? = some 2 := by decide +kernel
theorem mzcf_2_1 : (mz_FK0 2)[1]? = some 2 := by decide +kernel
theorem mzcf_2_2 : (mz_FK0 2)[2]? = some 0 := by decide +kernel
theorem mzcf_2_3 : (mz_FK0 2)[3]? = some 2 := by decide +kernel
theorem mzcf_2_4 : (mz_FK0 2)[4]? = some 2 := by decide +kernel
theorem mzcf_2_5 : (mz_FK0 2)[5]? = some 0 := by decide +kernel
theorem mzcf_2_6 : (mz_FK0 2)[6]? = some 2 := by decide +kernel
theorem mzcf_2_7 : (mz_FK0 2)[7]? = some 2 := by decide +kernel
theorem mzcf_2_8 : (mz_FK0 2)[8]? = some 2 := by decide +kernel
theorem mzcf_2_9 : (mz_FK0 2)[9]? = some 2 := by decide +kernel
theorem mzcf_2_10 : (mz_FK0 2)[10]? = some 2 := by decide +kernel
theorem mzcf_2_11 : (mz_FK0 2)[11]? = some 2 := by decide +kernel
theorem mzcf_2_12 : (mz_FK0 2)[12]? = some 2 := by decide +kernel
theorem mzcf_3_0 : (mz_FK0 3)[0]? = some 2 := by decide +kernel
theorem mzcf_3_1 : (mz_FK0 3)[1]? = some 2 := by decide +kernel
theorem mzcf_3_2 : (mz_FK0 3)[2]? = some 2 := by decide +kernel
theorem mzcf_3_3 : (mz_FK0 3)[3]? = some 2 := by decide +kernel
theorem mzcf_3_4 : (mz_FK0 3)[4]? = some 2 := by decide +kernel
theorem mzcf_3_5 : (mz_FK0 3)[5]? = some 2 := by decide +kernel
theorem mzcf_3_6 : (mz_FK0 3)[6]? = some 2 := by decide +kernel
theorem mzcf_3_7 : (mz_FK0 3)[7]? = some 2 := by decide +kernel
theorem mzcf_3_8 : (mz_FK0 3)[8]? = some 3 := by decide +kernel
theorem mzcf_3_9 : (mz_FK0 3)[9]? = some 2 := by decide +kernel
theorem mzcf_3_10 : (mz_FK0 3)[10]? = some 2 := by decide +kernel
theorem mzcf_3_11 : (mz_FK0 3)[11]? = some 2 := by decide +kernel
theorem mzcf_3_12 : (mz_FK0 3)[12]? = some 2 := by decide +kernel
theorem mzcf_3_13 : (mz_FK0 3)[13]? = some 2 := by decide +kernel
theorem mzcf_3_14 : (mz_FK0 3)[14]? = some 2 := by decide +kernel
theorem mzcf_3_15 : (mz_FK0 3)[15]? = some 2 := by decide +kernel
theorem mzcf_4_0 : (mz_FK0 4)[0]? = some 2 := by decide +kernel
theorem mzcf_4_1 : (mz_FK0 4)[1]? = some 2 := by decide +kernel
theorem mzcf_4_2 : (mz_FK0 4)[2]? = some 2 := by decide +kernel
theorem mzcf_4_3 : (mz_FK0 4)[3]? = some 2 := by decide +kernel
theorem mzcf_4_4 : (mz_FK0 4)[4]? = some 2 := by decide +kernel
theorem mzcf_4_5 : (mz_FK0 4)[5]? = some 2 := by decide +kernel
theorem mzcf_4_6 : (mz_FK0 4)[6]? = some 2 := by decide +kernel
theorem mzcf_4_7 : (mz_FK0 4)[7]? = some 2 := by decide +kernel
theorem mzcf_4_8 : (mz_FK0 4)[8]? = some 2 := by decide +kernel
theorem mzcf_4_9 : (mz_FK0 4)[9]? = some 2 := by decide +kernel
theorem mzcf_4_10 : (mz_FK0 4)[10]? = some 0 := by decide +kernel
theorem mzcf_4_11 : (mz_FK0 4)[11]? = some 2 := by decide +kernel
theorem mzcf_4_12 : (mz_FK0 4)[12]? = some 0 := by decide +kernel
theorem mzcf_4_13 : (mz_FK0 4)[13]? = some 2 := by decide +kernel
theorem mzcf_4_14 : (mz_FK0 4)[14]? = some 2 := by decide +kernel
theorem mzcf_5_0 : (mz_FK0 5)[0]? = some 2 := by decide +kernel
theorem mzcf_5_1 : (mz_FK0 5)[1]? = some 2 := by decide +kernel
theorem mzcf_5_2 : (mz_FK0 5)[2]? = some 2 := by decide +kernel
theorem mzcf_5_3 : (mz_FK0 5)[3]? = some 0 := by decide +kernel
theorem mzcf_5_4 : (mz_FK0 5)[4]? = some 2 := by decide +kernel
theorem mzcf_5_5 : (mz_FK0 5)[5]? = some 2 := by decide +kernel
theorem mzcf_5_6 : (mz_FK0 5)[6]? = some 2 := by decide +kernel
theorem mzcf_5_7 : (mz_FK0 5)[7]? = some 0 := by decide +kernel
theorem mzcf_5_8 : (mz_FK0 5)[8]? = some 2 := by decide +kernel
theorem mzcf_5_9 : (mz_FK0 5)[9]? = some 2 := by decide +kernel
theorem mzcf_5_10 : (mz_FK0 5)[10]? = some 2 := by decide +kernel
theorem mzcf_5_11 : (mz_FK0 5)[11]? = some 2 := by decide +kernel
theorem mzcf_5_12 : (mz_FK0 5)[12]? = some 2 := by decide +kernel
theorem mzcf_5_13 : (mz_FK0 5)[13]? = some 0 := by decide +kernel
theorem mzcf_5_14 : (mz_FK0 5)[14]? = some 2 := by decide +kernel
theorem mzcf_5_15 : (mz_FK0 5)[15]? = some 2 := by decide +kernel
theorem mzcf_5_16 : (mz_FK0 5)[16]? = some 2 := by decide +kernel
theorem mzcf_5_17 : (mz_FK0 5)[17]? = some 2 := by decide +kernel
theorem mzcf_5_18 : (mz_FK0 5)[18]? = some 2 := by decide +kernel
theorem mzcf_6_0 : (mz_FK0 6)[0]? = some 2 := by decide +kernel
theorem mzcf_6_1 : (mz_FK0 6)[1]? = some 0 := by decide +kernel
theorem mzcf_6_2 : (mz_FK0 6)[2]? = some 2 := by decide +kernel
theorem mzcf_6_3 : (mz_FK0 6)[3]? = some 2 := by decide +kernel
theorem mzcf_6_4 : (mz_FK0 6)[4]? = some 0 := by decide +kernel
theorem mzcf_6_5 : (mz_FK0 6)[5]? = some 0 := by decide +kernel
theorem mzcf_6_6 : (mz_FK0 6)[6]? = some 2 := by decide +kernel
theorem mzcf_6_7 : (mz_FK0 6)[7]? = some 2 := by decide +kernel
theorem mzcf_6_8 : (mz_FK0 6)[8]? = some 2 := by decide +kernel
theorem mzcf_6_9 : (mz_FK0 6)[9]? = some 0 := by decide +kernel
theorem mzcf_7_0 : (mz_FK0 7)[0]? = some 2 := by decide +kernel
theorem mzcf_7_1 : (mz_FK0 7)[1]? = some 0 := by decide +kernel
theorem mzcf_7_2 : (mz_FK0 7)[2]? = some 2 := by decide +kernel
theorem mzcf_7_3 : (mz_FK0 7)[3]? = some 2 := by decide +kernel
theorem mzcf_7_4 : (mz_FK0 7)[4]? = some 0 := by decide +kernel
theorem mzcf_7_5 : (mz_FK0 7)[5]? = some 0 := by decide +kernel
theorem mzcf_7_6 : (mz_FK0 7)[6]? = some 0 := by decide +kernel
theorem mzcf_7_7 : (mz_FK0 7)[7]? = some 0 := by decide +kernel
theorem mzcf_7_8 : (mz_FK0 7)[8]? = some 0 := by decide +kernel
theorem mzcf_7_9 : (mz_FK0 7)[9]? = some 0 := by decide +kernel
theorem mzcf_7_10 : (mz_FK0 7)[10]? = some 0 := by decide +kernel
theorem mzcf_7_11 : (mz_FK0 7)[11]? = some 0 := by decide +kernel
theorem mzcf_7_12 : (mz_FK0 7)[12]? = some 0 := by decide +kernel
theorem mzcf_7_13 : (mz_FK0 7)[13]? = some 0 := by decide +kernel
theorem mzcf_7_14 : (mz_FK0 7)[14]? = some 2 := by decide +kernel
theorem mzcf_7_15 : (mz_FK0 7)[15]? = some 0 := by decide +kernel
theorem mzcf_7_16 : (mz_FK0 7)[16]? = some 0 := by decide +kernel
theorem mzcf_8_0 : (mz_FK0 8)[0]? = some 2 := by decide +kernel
theorem mzcf_8_1 : (mz_FK0 8)[1]? = some 2 := by decide +kernel
theorem mzcf_8_2 : (mz_FK0 8)[2]? = some 2 := by decide +kernel
theorem mzcf_8_3 : (mz_FK0 8)[3]? = some 2 := by decide +kernel
theorem mzcf_8_4 : (mz_FK0 8)[4]? = some 0 := by decide +kernel
theorem mzcf_8_5 : (mz_FK0 8)[5]? = some 0 := by decide +kernel
theorem mzcf_8_6 : (mz_FK0 8)[6]? = some 0 := by decide +kernel
theorem mzcf_8_7 : (mz_FK0 8)[7]? = some 3 := by decide +kernel
theorem mzcf_8_8 : (mz_FK0 8)[8]? = some 0 := by decide +kernel
theorem mzcf_8_9 : (mz_FK0 8)[9]? = some 2 := by decide +kernel
theorem mzcf_8_10 : (mz_FK0 8)[10]? = some 2 := by decide +kernel
theorem mzcf_8_11 : (mz_FK0 8)[11]? = some 0 := by decide +kernel
theorem mzcf_9_0 : (mz_FK0 9)[0]? = some 2 := by decide +kernel
theorem mzcf_9_1 : (mz_FK0 9)[1]? = some 0 := by decide +kernel
theorem mzcf_9_2 : (mz_FK0 9)[2]? = some 0 := by decide +kernel
theorem mzcf_9_3 : (mz_FK0 9)[3]? = some 0 := by decide +kernel
theorem mzcf_9_4 : (mz_FK0 9)[4]? = some 3 := by decide +kernel
theorem mzcf_9_5 : (mz_FK0 9)[5]? = some 3 := by decide +kernel
theorem mzcf_9_6 : (mz_FK0 9)[6]? = some 3 := by decide +kernel
theorem mzcf_9_7 : (mz_FK0 9)[7]? = some 0 := by decide +kernel
theorem mzcf_9_8 : (mz_FK0 9)[8]? = some 3 := by decide +kernel
theorem mzcf_9_9 : (mz_FK0 9)[9]? = some 3 := by decide +kernel
theorem mzcf_9_10 : (mz_FK0 9)[10]? = some 3 := by decide +kernel
theorem mzcf_9_11 : (mz_FK0 9)[11]? = some 0 := by decide +kernel
theorem mzcf_9_12 : (mz_FK0 9)[12]? = some 0 := by decide +kernel
theorem mzcf_9_13 : (mz_FK0 9)[13]? = some 0 := by decide +kernel
theorem mzcf_9_14 : (mz_FK0 9)[14]? = some 2 := by decide +kernel
theorem mzcf_9_15 : (mz_FK0 9)[15]? = some 1 := by decide +kernel
theorem mzcf_10_0 : (mz_FK0 10)[0]? = some 2 := by decide +kernel
theorem mzcf_10_1 : (mz_FK0 10)[1]? = some 2 := by decide +kernel
theorem mzcf_10_2 : (mz_FK0 10)[2]? = some 2 := by decide +kernel
theorem mzcf_10_3 : (mz_FK0 10)[3]? = some 0 := by decide +kernel
theorem mzcf_10_4 : (mz_FK0 10)[4]? = some 2 := by decide +kernel
theorem mzcf_10_5 : (mz_FK0 10)[5]? = some 2 := by decide +kernel
theorem mzcf_10_6 : (mz_FK0 10)[6]? = some 2 := by decide +kernel
theorem mzcf_10_7 : (mz_FK0 10)[7]? = some 2 := by decide +kernel
theorem mzcf_10_8 : (mz_FK0 10)[8]? = some 2 := by decide +kernel
theorem mzcf_11_0 : (mz_FK0 11)[0]? = some 2 := by decide +kernel
theorem mzcf_11_1 : (mz_FK0 11)[1]? = some 2 := by decide +kernel
theorem mzcf_11_2 : (mz_FK0 11)[2]? = some 2 := by decide +kernel
theorem mzcf_11_3 : (mz_FK0 11)[3]? = some 2 := by decide +kernel
theorem mzcf_11_4 : (mz_FK0 11)[4]? = some 2 := by decide +kernel
theorem mzcf_11_5 : (mz_FK0 11)[5]? = some 2 := by decide +kernel
theorem mzcf_11_6 : (mz_FK0 11)[6]? = some 2 := by decide +kernel
theorem mzcf_11_7 : (mz_FK0 11)[7]? = some 2 := by decide +kernel
theorem mzcf_11_8 : (mz_FK0 11)[8]? = some 2 := by decide +kernel
theorem mzcf_11_9 : (mz_FK0 11)[9]? = some 2 := by decide +kernel
theorem mzcf_11_10 : (mz_FK0 11)[10]? = some 2 := by decide +kernel
theorem mzcf_12_0 : (mz_FK0 12)[0]? = some 0 := by decide +kernel
theorem mzcf_12_1 : (mz_FK0 12)[1]? = some 1 := by decide +kernel
theorem mzcf_12_2 : (mz_FK0 12)[2]? = some 1 := by decide +kernel
theorem mzcf_12_3 : (mz_FK0 12)[3]? = some 2 := by decide +kernel
theorem mzcf_12_4 : (mz_FK0 12)[4]? = some 0 := by decide +kernel
theorem mzcf_12_5 : (mz_FK0 12)[5]? = some 2 := by decide +kernel
theorem mzcf_12_6 : (mz_FK0 12)[6]? = some 2 := by decide +kernel
theorem mzcf_12_7 : (mz_FK0 12)[7]? = some 0 := by decide +kernel
theorem mzcf_12_8 : (mz_FK0 12)[8]? = some 2 := by decide +kernel
theorem mzcf_12_9 : (mz_FK0 12)[9]? = some 2 := by decide +kernel
theorem mzcf_12_10 : (mz_FK0 12)[10]? = some 2 := by decide +kernel
theorem mzcf_12_11 : (mz_FK0 12)[11]? = some 2 := by decide +kernel
theorem mzcf_12_12 : (mz_FK0 12)[12]? = some 2 := by decide +kernel
theorem mzcf_12_13 : (mz_FK0 12)[13]? = some 2 := by decide +kernel
theorem mzcf_12_14 : (mz_FK0 12)[14]? = some 2 := by decide +kernel
theorem mzcf_12_15 : (mz_FK0 12)[15]? = some 2 := by decide +kernel
theorem mzcf_12_16 : (mz_FK0 12)[16]? = some 2 := by decide +kernel
theorem mzcf_12_17 : (mz_FK0 12)[17]? = some 2 := by decide +kernel
theorem mzcf_12_18 : (mz_FK0 12)[18]? = some 2 := by decide +kernel
theorem mzcf_12_19 : (mz_FK0 12)[19]? = some 2 := by decide +kernel
theorem mzcf_12_20 : (mz_FK0 12)[20]? = some 2 := by decide +kernel
theorem mzcf_12_21 : (mz_FK0 12)[21]? = some 0 := by decide +kernel
theorem mzcf_12_22 : (mz_FK0 12)[22]? = some 2 := by decide +kernel
theorem mzcf_12_23 : (mz_FK0 12)[23]? = some 2 := by decide +kernel
theorem mzcf_12_24 : (mz_FK0 12)[24]? = some 2 := by decide +kernel
theorem mzcf_12_25 : (mz_FK0 12)[25]? = some 0 := by decide +kernel
theorem mzcf_12_26 : (mz_FK0 12)[26]? = some 2 := by decide +kernel
theorem mzcf_12_27 : (mz_FK0 12)[27]? = some 0 := by decide +kernel
theorem mzcf_12_28 : (mz_FK0 12)[28]? = some 0 := by decide +kernel
theorem mzcf_12_29 : (mz_FK0 12)[29]? = some 2 := by decide +kernel
theorem mzcf_12_30 : (mz_FK0 12)[30]? = some 2 := by decide +kernel
theorem mzcf_12_31 : (mz_FK0 12)[31]? = some 0 := by decide +kernel
theorem mzcf_12_32 : (mz_FK0 12)[32]? = some 2 := by decide +kernel
theorem mzcf_12_33 : (mz_FK0 12)[33]? = some 2 := by decide +kernel
theorem mzcf_12_34 : (mz_FK0 12)[34]? = some 0 := by decide +kernel
theorem mzcf_12_35 : (mz_FK0 12)[35]? = some 0 := by decide +kernel
theorem mzcf_12_36 : (mz_FK0 12)[36]? = some 3 := by decide +kernel
theorem mzcf_12_37 : (mz_FK0 12)[37]? = some 2 := by decide +kernel
theorem mzcf_12_38 : (mz_FK0 12)[38]? = some 2 := by decide +kernel
theorem mzcf_12_39 : (mz_FK0 12)[39]? = some 2 := by decide +kernel
theorem mzcf_12_40 : (mz_FK0 12)[40]? = some 2 := by decide +kernel
theorem mzcf_12_41 : (mz_FK0 12)[41]? = some 2 := by decide +kernel
theorem mzcf_12_42 : (mz_FK0 12)[42]? = some 2 := by decide +kernel
theorem mzcf_12_43 : (mz_FK0 12)[43]? = some 2 := by decide +kernel
theorem mzcf_12_44 : (mz_FK0 12)[44]? = some 2 := by decide +kernel
theorem mzcf_12_45 : (mz_FK0 12)[45]? = some 2 := by decide +kernel
theorem mzcf_12_46 : (mz_FK0 12)[46]? = some 2 := by decide +kernel
theorem mzcf_12_47 : (mz_FK0 12)[47]? = some 2 := by decide +kernel
theorem mzcf_12_48 : (mz_FK0 12)[48]? = some 2 := by decide +kernel
theorem mzcf_12_49 : (mz_FK0 12)[49]? = some 2 := by decide +kernel
theorem mzcf_12_50 : (mz_FK0 12)[50]? = some 2 := by decide +kernel
theorem mzcf_12_51 : (mz_FK0 12)[51]? = some 2 := by decide +kernel
theorem mzcf_12_52 : (mz_FK0 12)[52]? = some 3 := by decide +kernel
theorem mzcf_12_53 : (mz_FK0 12)[53]? = some 0 := by decide +kernel
theorem mzcf_12_54 : (mz_FK0 12)[54]? = some 0 := by decide +kernel
theorem mzcf_12_55 : (mz_FK0 12)[55]? = some 0 := by decide +kernel
theorem mzcf_12_56 : (mz_FK0 12)[56]? = some 2 := by decide +kernel
theorem mzcf_12_57 : (mz_FK0 12)[57]? = some 2 := by decide +kernel
theorem mzcf_12_58 : (mz_FK0 12)[58]? = some 2 := by decide +kernel
theorem mzcf_12_59 : (mz_FK0 12)[59]? = some 2 := by decide +kernel
theorem mzcf_12_60 : (mz_FK0 12)[60]? = some 2 := by decide +kernel
theorem mzcf_12_61 : (mz_FK0 12)[61]? = some 0 := by decide +kernel
theorem mzcf_12_62 : (mz_FK0 12)[62]? = some 0 := by decide +kernel
theorem mzcf_12_63 : (mz_FK0 12)[63]? = some 3 := by decide +kernel
theorem mzcf_12_64 : (mz_FK0 12)[64]? = some 3 := by decide +kernel
theorem mzcf_12_65 : (mz_FK0 12)[65]? = some 3 := by decide +kernel
theorem mzcf_12_66 : (mz_FK0 12)[66]? = some 1 := by decide +kernel
theorem mzcf_12_67 : (mz_FK0 12)[67]? = some 3 := by decide +kernel
theorem mzcf_12_68 : (mz_FK0 12)[68]? = some 1 := by decide +kernel
theorem mzcf_12_69 : (mz_FK0 12)[69]? = some 2 := by decide +kernel
theorem mzcf_12_70 : (mz_FK0 12)[70]? = some 2 := by decide +kernel
theorem mzcf_12_71 : (mz_FK0 12)[71]? = some 2 := by decide +kernel
theorem mzcf_12_72 : (mz_FK0 12)[72]? = some 0 := by decide +kernel
theorem mzcf_12_73 : (mz_FK0 12)[73]? = some 2 := by decide +kernel
theorem mzcf_12_74 : (mz_FK0 12)[74]? = some 2 := by decide +kernel
theorem mzcf_12_75 : (mz_FK0 12)[75]? = some 2 := by decide +kernel
theorem mzcf_12_76 : (mz_FK0 12)[76]? = some 2 := by decide +kernel
theorem mzcf_12_77 : (mz_FK0 12)[77]? = some 2 := by decide +kernel
theorem mzcf_12_78 : (mz_FK0 12)[78]? = some 2 := by decide +kernel
theorem mzcf_12_79 : (mz_FK0 12)[79]? = some 2 := by decide +kernel
theorem mzcf_12_80 : (mz_FK0 12)[80]? = some 2 := by decide +kernel
theorem mzcf_12_81 : (mz_FK0 12)[81]? = some 2 := by decide +kernel
theorem mzcf_12_82 : (mz_FK0 12)[82]? = some 2 := by decide +kernel
theorem mzcf_12_83 : (mz_FK0 12)[83]? = some 2 := by decide +kernel
theorem mzcf_12_84 : (mz_FK0 12)[84]? = some 2 := by decide +kernel
theorem mzcf_12_85 : (mz_FK0 12)[85]? = some 2 := by decide +kernel
theorem mzcf_12_86 : (mz_FK0 12)[86]? = some 2 := by decide +kernel
theorem mzcf_12_87 : (mz_FK0 12)[87]? = some 1 := by decide +kernel
theorem mzcf_12_88 : (mz_FK0 12)[88]? = some 2 := by decide +kernel
theorem mzcf_12_89 : (mz_FK0 12)[89]? = some 2 := by decide +kernel
theorem mzcf_12_90 : (mz_FK0 12)[90]? = some 2 := by decide +kernel
theorem mzcf_12_91 : (mz_FK0 12)[91]? = some 2 := by decide +kernel
theorem mzcf_12_92 : (mz_FK0 12)[92]? = some 2 := by decide +kernel
theorem mzcf_12_93 : (mz_FK0 12)[93]? = some 2 := by decide +kernel
theorem mzcf_12_94 : (mz_FK0 12)[94]? = some 2 := by decide +kernel
theorem mzcf_12_95 : (mz_FK0 12)[95]? = some 2 := by decide +kernel
theorem mzcf_12_96 : (mz_FK0 12)[96]? = some 0 := by decide +kernel
theorem mzcf_12_97 : (mz_FK0 12)[97]? = some 2 := by decide +kernel
theorem mzcf_12_98 : (mz_FK0 12)[98]? = some 2 := by decide +kernel
theorem mzcf_12_99 : (mz_FK0 12)[99]? = some 2 := by decide +kernel
theorem mzcf_12_100 : (mz_FK0 12)[100]? = some 2 := by decide +kernel
theorem mzcf_12_101 : (mz_FK0 12)[101]? = some 2 := by decide +kernel
theorem mzcf_12_102 : (mz_FK0 12)[102]? = some 2 := by decide +kernel
theorem mzcf_12_103 : (mz_FK0 12)[103]? = some 2 := by decide +kernel
theorem mzcf_12_104 : (mz_FK0 12)[104]? = some 2 := by decide +kernel
theorem mzcf_12_105 : (mz_FK0 12)[105]? = some 2 := by decide +kernel
theorem mzcf_12_106 : (mz_FK0 12)[106]? = some 2 := by decide +kernel
theorem mzcf_12_107 : (mz_FK0 12)[107]? = some 2 := by decide +kernel
theorem mzcf_12_108 : (mz_FK0 12)[108]? = some 2 := by decide +kernel
theorem mzcf_12_109 : (mz_FK0 12)[109]? = some 2 := by decide +kernel
theorem mzcf_12_110 : (mz_FK0 12)[110]? = some 2 := by decide +kernel
theorem mzcf_12_111 : (mz_FK0 12)[111]? = some 2 := by decide +kernel
theorem mzcf_12_112 : (mz_FK0 12)[112]? = some 0 := by decide +kernel
theorem mzcf_12_113 : (mz_FK0 12)[113]? = some 2 := by decide +kernel
theorem mzcf_12_114 : (mz_FK0 12)[114]? = some 2 := by decide +kernel
theorem mzcf_12_115 : (mz_FK0 12)[115]? = some 2 := by decide +kernel
theorem mzcf_12_116 : (mz_FK0 12)[116]? = some 2 := by decide +kernel
theorem mzcf_12_117 : (mz_FK0 12)[117]? = some 2 := by decide +kernel
theorem mzcf_12_118 : (mz_FK0 12)[118]? = some 2 := by decide +kernel
theorem mzcf_12_119 : (mz_FK0 12)[119]? = some 2 := by decide +kernel
theorem mzcf_12_120 : (mz_FK0 12)[120]? = some 2 := by decide +kernel
theorem mzcf_12_121 : (mz_FK0 12)[121]? = some 2 := by decide +kernel
theorem mzcf_12_122 : (mz_FK0 12)[122]? = some 1 := by decide +kernel
theorem mzcf_12_123 : (mz_FK0 12)[123]? = some 1 := by decide +kernel
theorem mzcf_12_124 : (mz_FK0 12)[124]? = some 1 := by decide +kernel
theorem mzcf_12_125 : (mz_FK0 12)[125]? = some 1 := by decide +kernel
theorem mzcf_12_126 : (mz_FK0 12)[126]? = some 2 := by decide +kernel
theorem mzcf_12_127 : (mz_FK0 12)[127]? = some 2 := by decide +kernel
theorem mzcf_12_128 : (mz_FK0 12)[128]? = some 2 := by decide +kernel
theorem mzcf_12_129 : (mz_FK0 12)[129]? = some 2 := by decide +kernel
theorem mzcf_12_130 : (mz_FK0 12)[130]? = some 2 := by decide +kernel
theorem mzcf_12_131 : (mz_FK0 12)[131]? = some 2 := by decide +kernel
theorem mzcf_12_132 : (mz_FK0 12)[132]? = some 2 := by decide +kernel
theorem mzcf_12_133 : (mz_FK0 12)[133]? = some 0 := by decide +kernel
theorem mzcf_12_134 : (mz_FK0 12)[134]? = some 1 := by decide +kernel
theorem mzcf_12_135 : (mz_FK0 12)[135]? = some 0 := by decide +kernel
theorem mzcf_12_136 : (mz_FK0 12)[136]? = some 0 := by decide +kernel
theorem mzcf_12_137 : (mz_FK0 12)[137]? = some 3 := by decide +kernel
theorem mzcf_12_138 : (mz_FK0 12)[138]? = some 2 := by decide +kernel
theorem mzcf_12_139 : (mz_FK0 12)[139]? = some 0 := by decide +kernel
theorem mzcf_12_140 : (mz_FK0 12)[140]? = some 2 := by decide +kernel
theorem mzcf_12_141 : (mz_FK0 12)[141]? = some 0 := by decide +kernel
theorem mzcf_12_142 : (mz_FK0 12)[142]? = some 2 := by decide +kernel
theorem mzcf_12_143 : (mz_FK0 12)[143]? = some 0 := by decide +kernel
theorem mzcf_12_144 : (mz_FK0 12)[144]? = some 2 := by decide +kernel
theorem mzcf_12_145 : (mz_FK0 12)[145]? = some 2 := by decide +kernel
theorem mzcf_12_146 : (mz_FK0 12)[146]? = some 2 := by decide +kernel
theorem mzcf_12_147 : (mz_FK0 12)[147]? = some 0 := by decide +kernel
theorem mzcf_12_148 : (mz_FK0 12)[148]? = some 0 := by decide +kernel
theorem mzcf_12_149 : (mz_FK0 12)[149]? = some 0 := by decide +kernel
theorem mzcf_12_150 : (mz_FK0 12)[150]? = some 0 := by decide +kernel
theorem mzcf_12_151 : (mz_FK0 12)[151]? = some 0 := by decide +kernel
theorem mzcf_12_152 : (mz_FK0 12)[152]? = some 0 := by decide +kernel
theorem mzcf_12_153 : (mz_FK0 12)[153]? = some 0 := by decide +kernel
theorem mzcf_12_154 : (mz_FK0 12)[154]? = some 0 := by decide +kernel
theorem mzcf_12_155 : (mz_FK0 12)[155]? = some 2 := by decide +kernel
theorem mzcf_12_156 : (mz_FK0 12)[156]? = some 0 := by decide +kernel
theorem mzcf_12_157 : (mz_FK0 12)[157]? = some 0 := by decide +kernel
theorem mzcf_12_158 : (mz_FK0 12)[158]? = some 2 := by decide +kernel
theorem mzcf_12_159 : (mz_FK0 12)[159]? = some 2 := by decide +kernel
theorem mz_lv_or (b : Bool) : mz_lv b = 43 ∨ mz_lv b = 48 := by cases b <;> decide
theorem mz_ot_or (b : Bool) : mz_ot b = 43 ∨ mz_ot b = 48 := by cases b <;> decide
theorem mz_o41 {o k : Nat} (h : o = 43 ∨ o = 48) : (o == 41 && (k == 2 || k == 3)) = false := by rcases h with rfl | rfl <;> rfl
theorem mz_oL0 {o z : Nat} (h : o = 43 ∨ o = 48) (hz : 53 ≤ z) : o < z := by omega
theorem mz_oA0 {o : Nat} (h : o = 43 ∨ o = 48) : mz_S0[o]? = some (9, 7, mz_FK0 7) := by rcases h with rfl | rfl <;> decide +kernel
theorem mz_oL1 {o z : Nat} (h : o = 43 ∨ o = 48) (hz : 53 ≤ z) : o + 1 < z := by omega
theorem mz_oA1 {o : Nat} (h : o = 43 ∨ o = 48) : mz_S0[o + 1]? = some (0, 196, []) := by rcases h with rfl | rfl <;> decide +kernel
theorem mz_oR1 {o : Nat} (h : o = 43 ∨ o = 48) : mz_R0 o 0 = some (o + 1) := by rcases h with rfl | rfl <;> decide +kernel
theorem mz_oL2 {o z : Nat} (h : o = 43 ∨ o = 48) (hz : 53 ≤ z) : o + 2 < z := by omega
theorem mz_oA2 {o : Nat} (h : o = 43 ∨ o = 48) : mz_S0[o + 2]? = some (0, 196, []) := by rcases h with rfl | rfl <;> decide +kernel
theorem mz_oR2 {o : Nat} (h : o = 43 ∨ o = 48) : mz_R0 o 2 = some (o + 2) := by rcases h with rfl | rfl <;> decide +kernel
theorem mz_oL3 {o z : Nat} (h : o = 43 ∨ o = 48) (hz : 53 ≤ z) : o + 3 < z := by omega
theorem mz_oA3 {o : Nat} (h : o = 43 ∨ o = 48) : mz_S0[o + 3]? = some (0, 196, []) := by rcases h with rfl | rfl <;> decide +kernel
theorem mz_oR3 {o : Nat} (h : o = 43 ∨ o = 48) : mz_R0 o 3 = some (o + 3) := by rcases h with rfl | rfl <;> decide +kernel
theorem mz_oL4 {o z : Nat} (h : o = 43 ∨ o = 48) (hz : 53 ≤ z) : o + 4 < z := by omega
theorem mz_oA4 {o : Nat} (h : o = 43 ∨ o = 48) : mz_S0[o + 4]? = some (0, 196, []) := by rcases h with rfl | rfl <;> decide +kernel
theorem mz_oR4 {o : Nat} (h : o = 43 ∨ o = 48) : mz_R0 o 14 = some (o + 4) := by rcases h with rfl | rfl <;> decide +kernel

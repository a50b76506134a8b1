/-! PHASE G (written by wip/p21/gO.py): what holds between the questions. -/
def lw_Q1 : SyM := [((4, 3, 0, 0), 4, 15, none, [((0, 11, 0, 0), (4, 15, 0, 0)), ((0, 10, 0, 0), (4, 14, 0, 0)), ((0, 9, 0, 0), (4, 13, 0, 0)), ((0, 8, 0, 0), (4, 12, 0, 0)), ((0, 7, 0, 0), (4, 11, 0, 0)), ((0, 6, 0, 0), (4, 10, 0, 0)), ((0, 5, 0, 0), (4, 9, 0, 0)), ((0, 4, 0, 0), (4, 8, 0, 0)), ((0, 3, 0, 0), (4, 7, 0, 0)), ((0, 2, 0, 0), (4, 6, 0, 0)), ((0, 1, 0, 0), (4, 5, 0, 0)), ((0, 0, 0, 0), (4, 4, 0, 0)), ((0, 12, 0, 0), (0, 6, 0, 1))]), ((4, 4, 0, 0), 61, 2624, none, [((0, 0, 0, 64), (0, 5, 0, 0)), ((0, 1, 0, 64), (0, 5, 0, 0)), ((0, 2, 0, 64), (0, 5, 0, 0)), ((0, 64, 0, 64), (0, 5, 0, 0)), ((0, 65, 0, 64), (0, 5, 0, 0)), ((0, 66, 0, 64), (0, 5, 0, 0)), ((0, 128, 0, 64), (0, 3, 0, 0)), ((0, 129, 0, 64), (0, 3, 0, 0)), ((0, 130, 0, 64), (0, 5, 0, 0)), ((0, 131, 0, 64), (0, 3, 0, 0)), ((0, 132, 0, 64), (0, 3, 0, 0)), ((0, 133, 0, 64), (0, 5, 0, 0)), ((0, 134, 0, 64), (0, 3, 0, 0)), ((0, 135, 0, 64), (0, 3, 0, 0)), ((0, 136, 0, 64), (0, 5, 0, 0)), ((0, 192, 0, 64), (0, 3, 0, 0)), ((0, 193, 0, 64), (0, 3, 0, 0)), ((0, 194, 0, 64), (0, 5, 0, 0)), ((0, 195, 0, 64), (0, 3, 0, 0)), ((0, 196, 0, 64), (0, 3, 0, 0)), ((0, 197, 0, 64), (0, 5, 0, 0)), ((0, 256, 0, 64), (0, 3, 0, 0)), ((0, 257, 0, 64), (0, 3, 0, 0)), ((0, 258, 0, 64), (0, 5, 0, 0)), ((0, 259, 0, 64), (0, 3, 0, 0)), ((0, 260, 0, 64), (0, 3, 0, 0)), ((0, 261, 0, 64), (0, 5, 0, 0)), ((0, 262, 0, 64), (0, 3, 0, 0)), ((0, 263, 0, 64), (0, 3, 0, 0)), ((0, 264, 0, 64), (0, 5, 0, 0)), ((0, 320, 0, 64), (0, 3, 0, 0)), ((0, 321, 0, 64), (0, 3, 0, 0)), ((0, 322, 0, 64), (0, 5, 0, 0)), ((0, 323, 0, 64), (0, 3, 0, 0)), ((0, 324, 0, 64), (0, 3, 0, 0)), ((0, 325, 0, 64), (0, 5, 0, 0))]), ((4, 5, 0, 0), 61, 2624, none, [((0, 0, 0, 64), (0, 0, 0, 0)), ((0, 1, 0, 64), (0, 0, 0, 0)), ((0, 2, 0, 64), (0, 2, 0, 0)), ((0, 64, 0, 64), (0, 0, 0, 0)), ((0, 65, 0, 64), (0, 0, 0, 0)), ((0, 66, 0, 64), (0, 2, 0, 0)), ((0, 128, 0, 64), (0, 0, 0, 0)), ((0, 129, 0, 64), (0, 1, 0, 0)), ((0, 130, 0, 64), (0, 2, 0, 0)), ((0, 131, 0, 64), (0, 0, 0, 0)), ((0, 132, 0, 64), (0, 2, 0, 0)), ((0, 133, 0, 64), (0, 2, 0, 0)), ((0, 134, 0, 64), (0, 2, 0, 0)), ((0, 135, 0, 64), (0, 1, 0, 0)), ((0, 136, 0, 64), (0, 2, 0, 0)), ((0, 192, 0, 64), (0, 0, 0, 0)), ((0, 193, 0, 64), (0, 0, 0, 0)), ((0, 194, 0, 64), (0, 2, 0, 0)), ((0, 195, 0, 64), (0, 0, 0, 0)), ((0, 196, 0, 64), (0, 0, 0, 0)), ((0, 197, 0, 64), (0, 2, 0, 0)), ((0, 256, 0, 64), (0, 0, 0, 0)), ((0, 257, 0, 64), (0, 1, 0, 0)), ((0, 258, 0, 64), (0, 2, 0, 0)), ((0, 259, 0, 64), (0, 2, 0, 0)), ((0, 260, 0, 64), (0, 1, 0, 0)), ((0, 261, 0, 64), (0, 2, 0, 0)), ((0, 262, 0, 64), (0, 0, 0, 0)), ((0, 263, 0, 64), (0, 2, 0, 0)), ((0, 264, 0, 64), (0, 2, 0, 0)), ((0, 320, 0, 64), (0, 0, 0, 0)), ((0, 321, 0, 64), (0, 0, 0, 0)), ((0, 322, 0, 64), (0, 2, 0, 0)), ((0, 323, 0, 64), (0, 0, 0, 0)), ((0, 324, 0, 64), (0, 0, 0, 0)), ((0, 325, 0, 64), (0, 2, 0, 0))]), ((4, 6, 0, 0), 62, 2624, none, [((0, 0, 0, 64), (1, 122, 0, 0)), ((0, 1, 0, 64), (1, 122, 0, 0)), ((0, 2, 0, 64), (1, 112, 0, 0)), ((0, 64, 0, 64), (1, 122, 0, 0)), ((0, 65, 0, 64), (1, 122, 0, 0)), ((0, 66, 0, 64), (1, 113, 0, 0)), ((0, 128, 0, 64), (1, 0, 0, 0)), ((0, 129, 0, 64), (1, 0, 0, 0)), ((0, 130, 0, 64), (1, 114, 0, 0)), ((0, 131, 0, 64), (1, 0, 0, 0)), ((0, 132, 0, 64), (1, 0, 0, 0)), ((0, 133, 0, 64), (1, 112, 0, 0)), ((0, 134, 0, 64), (1, 0, 0, 0)), ((0, 135, 0, 64), (1, 0, 0, 0)), ((0, 136, 0, 64), (1, 113, 0, 0)), ((0, 192, 0, 64), (1, 0, 0, 0)), ((0, 193, 0, 64), (1, 0, 0, 0)), ((0, 194, 0, 64), (1, 114, 0, 0)), ((0, 195, 0, 64), (1, 0, 0, 0)), ((0, 196, 0, 64), (1, 0, 0, 0)), ((0, 197, 0, 64), (1, 112, 0, 0)), ((0, 256, 0, 64), (1, 0, 0, 0)), ((0, 257, 0, 64), (1, 0, 0, 0)), ((0, 258, 0, 64), (1, 115, 0, 0)), ((0, 259, 0, 64), (1, 0, 0, 0)), ((0, 260, 0, 64), (1, 0, 0, 0)), ((0, 261, 0, 64), (1, 113, 0, 0)), ((0, 262, 0, 64), (1, 0, 0, 0)), ((0, 263, 0, 64), (1, 0, 0, 0)), ((0, 264, 0, 64), (1, 112, 0, 0)), ((0, 320, 0, 64), (1, 0, 0, 0)), ((0, 321, 0, 64), (1, 0, 0, 0)), ((0, 322, 0, 64), (1, 115, 0, 0)), ((0, 323, 0, 64), (1, 0, 0, 0)), ((0, 324, 0, 64), (1, 0, 0, 0)), ((0, 325, 0, 64), (1, 112, 0, 0))]), ((4, 7, 0, 0), 61, 2624, none, [((0, 0, 0, 64), (0, (-1), 0, 0)), ((0, 1, 0, 64), (0, (-1), 0, 0)), ((0, 2, 0, 64), (0, 0, 0, 0)), ((0, 64, 0, 64), (0, (-1), 0, 0)), ((0, 65, 0, 64), (0, (-1), 0, 0)), ((0, 66, 0, 64), (0, 0, 0, 0)), ((0, 128, 0, 64), (0, (-1), 0, 0)), ((0, 129, 0, 64), (0, (-1), 0, 0)), ((0, 130, 0, 64), (0, 0, 0, 0)), ((0, 131, 0, 64), (0, (-1), 0, 0)), ((0, 132, 0, 64), (0, (-1), 0, 0)), ((0, 133, 0, 64), (0, 3, 0, 0)), ((0, 134, 0, 64), (0, (-1), 0, 0)), ((0, 135, 0, 64), (0, (-1), 0, 0)), ((0, 136, 0, 64), (0, 6, 0, 0)), ((0, 192, 0, 64), (0, (-1), 0, 0)), ((0, 193, 0, 64), (0, (-1), 0, 0)), ((0, 194, 0, 64), (0, 0, 0, 0)), ((0, 195, 0, 64), (0, (-1), 0, 0)), ((0, 196, 0, 64), (0, (-1), 0, 0)), ((0, 197, 0, 64), (0, 3, 0, 0)), ((0, 256, 0, 64), (0, (-1), 0, 0)), ((0, 257, 0, 64), (0, (-1), 0, 0)), ((0, 258, 0, 64), (0, 0, 0, 0)), ((0, 259, 0, 64), (0, (-1), 0, 0)), ((0, 260, 0, 64), (0, (-1), 0, 0)), ((0, 261, 0, 64), (0, 3, 0, 0)), ((0, 262, 0, 64), (0, (-1), 0, 0)), ((0, 263, 0, 64), (0, (-1), 0, 0)), ((0, 264, 0, 64), (0, 6, 0, 0)), ((0, 320, 0, 64), (0, (-1), 0, 0)), ((0, 321, 0, 64), (0, (-1), 0, 0)), ((0, 322, 0, 64), (0, 0, 0, 0)), ((0, 323, 0, 64), (0, (-1), 0, 0)), ((0, 324, 0, 64), (0, (-1), 0, 0)), ((0, 325, 0, 64), (0, 3, 0, 0))]), ((4, 8, 0, 0), 61, 2624, none, [((0, 0, 0, 64), (0, 1, 0, 0)), ((0, 1, 0, 64), (0, (-1), 0, 0)), ((0, 2, 0, 64), (0, (-1), 0, 0)), ((0, 64, 0, 64), (0, 1, 0, 0)), ((0, 65, 0, 64), (0, (-1), 0, 0)), ((0, 66, 0, 64), (0, (-1), 0, 0)), ((0, 128, 0, 64), (0, 1, 0, 0)), ((0, 129, 0, 64), (0, (-1), 0, 0)), ((0, 130, 0, 64), (0, (-1), 0, 0)), ((0, 131, 0, 64), (0, 4, 0, 0)), ((0, 132, 0, 64), (0, (-1), 0, 0)), ((0, 133, 0, 64), (0, 8, 0, 0)), ((0, 134, 0, 64), (0, 7, 0, 0)), ((0, 135, 0, 64), (0, (-1), 0, 0)), ((0, 136, 0, 64), (0, (-1), 0, 0)), ((0, 192, 0, 64), (0, 1, 0, 0)), ((0, 193, 0, 64), (0, (-1), 0, 0)), ((0, 194, 0, 64), (0, (-1), 0, 0)), ((0, 195, 0, 64), (0, 4, 0, 0)), ((0, 196, 0, 64), (0, (-1), 0, 0)), ((0, 197, 0, 64), (0, (-1), 0, 0)), ((0, 256, 0, 64), (0, 1, 0, 0)), ((0, 257, 0, 64), (0, (-1), 0, 0)), ((0, 258, 0, 64), (0, (-1), 0, 0)), ((0, 259, 0, 64), (0, 4, 0, 0)), ((0, 260, 0, 64), (0, (-1), 0, 0)), ((0, 261, 0, 64), (0, 8, 0, 0)), ((0, 262, 0, 64), (0, 7, 0, 0)), ((0, 263, 0, 64), (0, (-1), 0, 0)), ((0, 264, 0, 64), (0, (-1), 0, 0)), ((0, 320, 0, 64), (0, 1, 0, 0)), ((0, 321, 0, 64), (0, (-1), 0, 0)), ((0, 322, 0, 64), (0, (-1), 0, 0)), ((0, 323, 0, 64), (0, 4, 0, 0)), ((0, 324, 0, 64), (0, (-1), 0, 0)), ((0, 325, 0, 64), (0, (-1), 0, 0))]), ((4, 9, 0, 0), 61, 2624, none, [((0, 0, 0, 64), (0, 0, 0, 0)), ((0, 1, 0, 64), (0, 1, 0, 0)), ((0, 2, 0, 64), (0, 0, 0, 0)), ((0, 64, 0, 64), (0, 0, 0, 0)), ((0, 65, 0, 64), (0, 1, 0, 0)), ((0, 66, 0, 64), (0, 0, 0, 0)), ((0, 128, 0, 64), (0, 0, 0, 0)), ((0, 129, 0, 64), (0, 1, 0, 0)), ((0, 130, 0, 64), (0, 0, 0, 0)), ((0, 131, 0, 64), (0, 3, 0, 0)), ((0, 132, 0, 64), (0, 4, 0, 0)), ((0, 133, 0, 64), (0, 3, 0, 0)), ((0, 134, 0, 64), (0, 6, 0, 0)), ((0, 135, 0, 64), (0, 7, 0, 0)), ((0, 136, 0, 64), (0, 6, 0, 0)), ((0, 192, 0, 64), (0, 0, 0, 0)), ((0, 193, 0, 64), (0, 1, 0, 0)), ((0, 194, 0, 64), (0, 0, 0, 0)), ((0, 195, 0, 64), (0, 3, 0, 0)), ((0, 196, 0, 64), (0, 4, 0, 0)), ((0, 197, 0, 64), (0, 3, 0, 0)), ((0, 256, 0, 64), (0, 0, 0, 0)), ((0, 257, 0, 64), (0, 1, 0, 0)), ((0, 258, 0, 64), (0, 0, 0, 0)), ((0, 259, 0, 64), (0, 3, 0, 0)), ((0, 260, 0, 64), (0, 4, 0, 0)), ((0, 261, 0, 64), (0, 3, 0, 0)), ((0, 262, 0, 64), (0, 6, 0, 0)), ((0, 263, 0, 64), (0, 7, 0, 0)), ((0, 264, 0, 64), (0, 6, 0, 0)), ((0, 320, 0, 64), (0, 0, 0, 0)), ((0, 321, 0, 64), (0, 1, 0, 0)), ((0, 322, 0, 64), (0, 0, 0, 0)), ((0, 323, 0, 64), (0, 3, 0, 0)), ((0, 324, 0, 64), (0, 4, 0, 0)), ((0, 325, 0, 64), (0, 3, 0, 0))]), ((4, 11, 0, 0), 61, 41, none, [((0, 0, 0, 1), (0, 2, 0, 0)), ((0, 1, 0, 1), (0, 2, 0, 0)), ((0, 2, 0, 1), (0, 2, 0, 0)), ((0, 3, 0, 1), (0, 2, 0, 0)), ((0, 4, 0, 1), (0, 2, 0, 0)), ((0, 5, 0, 1), (0, 2, 0, 0))]), ((4, 12, 0, 0), 61, 41, none, [((0, 0, 0, 1), (0, (-1), 0, 0)), ((0, 1, 0, 1), (0, (-1), 0, 0)), ((0, 2, 0, 1), (0, 5, 0, 0)), ((0, 3, 0, 1), (0, 5, 0, 0)), ((0, 4, 0, 1), (0, 5, 0, 0)), ((0, 5, 0, 1), (0, 5, 0, 0))])]
def lw_O : SyM := [((4, 10, 0, 0), 61, 41, none, [((0, 0, 0, 1), (0, 0, 0, 1)), ((0, 1, 0, 1), (0, 1, 0, 1)), ((0, 2, 0, 1), (0, 2, 0, 1)), ((0, 3, 0, 1), (0, 3, 0, 1)), ((0, 4, 0, 1), (0, 4, 0, 1)), ((0, 5, 0, 1), (0, 5, 0, 1))])]
def lw_Q0 : SyM := lw_O ++ lw_Q1
def lw_Z0 : SyM := [((4, 22, 0, 0), 9, 9, none, [((0, 0, 0, 0), (4, 3, 0, 0)), ((0, 6, 0, 0), (4, 27, 0, 0)), ((0, 4, 0, 0), (4, 26, 0, 0)), ((0, 3, 0, 0), (4, 25, 0, 0)), ((0, 2, 0, 0), (4, 24, 0, 0)), ((0, 1, 0, 0), (4, 23, 0, 0))]), ((4, 33, 0, 0), 7, 19, none, [((0, 3, 0, 0), (4, 41, 0, 0)), ((0, 2, 0, 0), (4, 30, 0, 0)), ((0, 1, 0, 0), (4, 22, 0, 0)), ((0, 0, 0, 0), (4, 3, 0, 0)), ((0, 12, 0, 0), (4, 40, 0, 0)), ((0, 11, 0, 0), (4, 39, 0, 0)), ((0, 10, 0, 0), (4, 38, 0, 0)), ((0, 9, 0, 0), (4, 37, 0, 0)), ((0, 6, 0, 0), (4, 36, 0, 0)), ((0, 5, 0, 0), (4, 35, 0, 0)), ((0, 4, 0, 0), (4, 34, 0, 0))])]
def lw_MAT : SyM := [((4, 31, 0, 0), 61, 64128, some (0, 0, 0, 0), []), ((4, 32, 0, 0), 61, 32064, none, []), ((4, 30, 0, 0), 3, 4, none, [((0, 0, 0, 0), (4, 22, 0, 0)), ((0, 2, 0, 0), (4, 32, 0, 0)), ((0, 1, 0, 0), (4, 31, 0, 0)), ((0, 3, 0, 0), (0, 0, 0, 0))]), ((4, 27, 0, 0), 1, 3, none, [((0, 1, 0, 0), (4, 29, 0, 0)), ((0, 0, 0, 0), (4, 28, 0, 0)), ((0, 2, 0, 0), (0, 0, 0, 0))]), ((4, 28, 0, 0), 63, 8016, some (0, 0, 0, 0), []), ((4, 29, 0, 0), 61, 8016, none, [])]
def lw_R : SyM := [((4, 0, 0, 0), 11, 8, none, [((0, 6, 0, 0), (4, 47, 0, 0)), ((0, 5, 0, 0), (4, 33, 0, 0)), ((0, 4, 0, 0), (4, 30, 0, 0)), ((0, 3, 0, 0), (4, 22, 0, 0)), ((0, 2, 0, 0), (4, 16, 0, 0)), ((0, 1, 0, 0), (4, 3, 0, 0)), ((0, 0, 0, 0), (4, 1, 0, 0))]), ((4, 1, 0, 0), 8, 2, none, [((0, 0, 0, 0), (4, 2, 0, 0)), ((0, 1, 0, 0), (0, 0, 0, 0))]), ((4, 16, 0, 0), 5, 11, none, [((0, 1, 0, 0), (4, 3, 0, 0)), ((0, 0, 0, 0), (4, 18, 0, 0)), ((0, 2, 0, 0), (4, 17, 0, 0))]), ((4, 18, 0, 0), 10, 5, none, [((0, 0, 0, 0), (4, 1, 0, 0)), ((0, 3, 0, 0), (4, 21, 0, 0)), ((0, 2, 0, 0), (4, 20, 0, 0)), ((0, 1, 0, 0), (4, 19, 0, 0))])]
def lw_Rw : SyM := [((4, 2, 0, 0), 64, 2000, none, []), ((4, 17, 0, 0), 62, 8, none, []), ((4, 19, 0, 0), 61, 2001, none, []), ((4, 20, 0, 0), 61, 2001, none, []), ((4, 21, 0, 0), 62, 2001, none, []), ((4, 4, 0, 0), 61, 2624, none, []), ((4, 5, 0, 0), 61, 2624, none, []), ((4, 6, 0, 0), 62, 2624, none, []), ((4, 7, 0, 0), 61, 2624, none, []), ((4, 8, 0, 0), 61, 2624, none, []), ((4, 9, 0, 0), 61, 2624, none, []), ((4, 10, 0, 0), 61, 41, none, []), ((4, 11, 0, 0), 61, 41, none, []), ((4, 12, 0, 0), 61, 41, none, []), ((4, 13, 0, 0), 61, 41, none, []), ((4, 14, 0, 0), 61, 41, none, []), ((4, 15, 0, 0), 61, 41, none, []), ((4, 23, 0, 0), 61, 1002, none, []), ((4, 24, 0, 0), 61, 1002, none, []), ((4, 25, 0, 0), 61, 8016, none, []), ((4, 26, 0, 0), 61, 8016, none, []), ((4, 34, 0, 0), 61, 8008, none, []), ((4, 35, 0, 0), 61, 8008, none, []), ((4, 36, 0, 0), 61, 8008, none, []), ((4, 37, 0, 0), 61, 1000, none, []), ((4, 38, 0, 0), 61, 1000, none, []), ((4, 39, 0, 0), 61, 1000, none, []), ((4, 40, 0, 0), 61, 1000, none, []), ((4, 52, 0, 0), 61, 1500, none, [])]
/-- what holds between the questions -/
def LN (L : Nat) (xs : Nat → Int32) (n : Nat) (fa : Fa) (c : MsC) : Prop := PN lw_Q0 lw_R 0 L xs n fa c ∧ sy_me (fun _ => 0) (lw_Z0 ++ lw_MAT) c.2
theorem lw_ko : sy_ko fp_W lw_Q0 = true := by decide +kernel
section LnS
variable {pv pw : Nat → Int} {Q : SyM} {b : Int} {S : AmS} {c c' : MsC} {L : Nat} {xs : Nat → Int32} {n r : Nat} {fa : Fa}
/-- what clauseFor reads, out of the nodes' fields -/
theorem ln_h {M : SyM} (h : sy_me pv M S) (h0 : pv 0 = n) (hM : sy_lM ([], []) (gd_H.2.1.map (sy_suE [(2, (0, 6, 0, 1))])) M = true) : sy_me (sy_ev [0, 0, ((n + 6 : Nat) : Int)]) gd_H.2.1 S := by
  refine sy_b_m (m := [2]) ?_ (by decide +kernel) (sy_lM_ok (s := [(2, (0, 6, 0, 1))]) sg_0 h hM)
  exact aa.mem ⟨by show 6 + ((1 : Nat) : Int) * pv 0 = ((n + 6 : Nat) : Int); omega, trivial⟩
theorem ln_nx (hM : sy_me (sy_ev [(n : Int), (r : Int)]) gc_T4.2.1 c.2) (hd : nd_ok fa n c.2.2.1) : nx_ok n fa (n + 2) c.2.2.1 := by
  have key : (List.range 2).all (fun d => (List.range 20).all (fun i => gc_T4.2.1.any (fun e => decide (e.1 = (4, ((ndc i).1 : Int), 0, 0)) && e.2.2.2.2.any (fun p => decide (p = ((0, (((ndc i).2.1 * d + (ndc i).2.2 : Nat) : Int), 0, (ndc i).2.1), (nd_k i, nd_z (if d = 0 then (112, 122, 122) else (113, 122, 122)) i, 0, 0))))))) = true := by decide +kernel
  intro j hj i hi
  by_cases h : j < n
  · have h2 := hd j h i (by omega)
    have e : fx n fa j = fa j := if_pos h
    rw [e]
    exact h2
  · obtain ⟨d, rfl⟩ : ∃ d, j = n + d := ⟨j - n, by omega⟩
    have e : fx n fa (n + d) = if d = 0 then (112, 122, 122) else (113, 122, 122) := by
      unfold fx
      rw [if_neg (by omega)]
      by_cases hd0 : d = 0
      · rw [if_pos (by omega), if_pos hd0]
      · rw [if_neg (by omega), if_neg hd0]
    rw [e]
    have k := List.all_eq_true.mp (List.all_eq_true.mp key d (List.mem_range.mpr (by omega))) i (List.mem_range.mpr hi)
    have h9 : nd_k i < 9 := by
      have : (List.range 20).all (fun i => Nat.blt (nd_k i) 9) = true := by decide +kernel
      exact am_blt (List.all_eq_true.mp this i (List.mem_range.mpr hi))
    refine sy_me.look hM k h9 (sy_n0 rfl) ?_ (sy_n0 rfl)
    show ((((ndc i).2.1 * d + (ndc i).2.2 : Nat) : Int)) + (((ndc i).2.1 : Nat) : Int) * (n : Int) = (((ndc i).2.1 * (n + d) + (ndc i).2.2 : Nat) : Int)
    rcases ndc_r i (by omega) with ⟨-, -, g, -⟩ | ⟨-, -, g, -⟩
    · rw [g]; omega
    · rw [g]; omega
theorem ln_us (hM : sy_me (sy_ev [(n : Int), (r : Int)]) gc_T4.2.1 c.2) (hd : nd_ok fa n c.2.2.1) : ∀ i, i < n + 6 → ∃ x : Int32, c.2.2.1 15 i = .int x := by
  intro i hi
  have h : tv c.2.2.1 15 i 0 0 := by
    by_cases h : i < n
    · have h2 := hd i h 22 (by omega)
      have e : (ndc 22).2.1 * i + (ndc 22).2.2 = i := by show 1 * i + 0 = i; omega
      rw [e] at h2
      exact h2
    · obtain ⟨d, rfl⟩ : ∃ d, i = n + d := ⟨i - n, by omega⟩
      have key : (List.range 6).all (fun d => gc_T4.2.1.any (fun e => decide (e.1 = (4, 15, 0, 0)) && e.2.2.2.2.any (fun p => decide (p = ((0, (d : Int), 0, 1), (0, 0, 0, 0)))))) = true := by decide +kernel
      exact sy_me.look (v := (0, 0, 0, 0)) (a := (4, 15, 0, 0)) (i := (0, (d : Int), 0, 1)) hM (List.all_eq_true.mp key d (List.mem_range.mpr (by omega))) (by show (0 : Nat) < 9; decide) (sy_n0 rfl) (by show (d : Int) + ((1 : Nat) : Int) * (n : Int) = _; omega) (sy_n0 rfl)
  obtain ⟨x, h1, -⟩ := h
  exact ⟨x, h1⟩
theorem ln_O {pw : Nat → Int} (hcl : cl_ok (lt n fa) (n + 6) c.2.2.1) (hi : c.2.1 10 = (61, 41) ∧ (10 < c.2.2.2.1 ∨ am_EXT ≤ 10)) (h0 : pw 0 = n) : sy_me pw lw_O c.2 := by
  intro e he
  rcases List.mem_cons.mp he with rfl | he
  · refine sy_ce_of (k := 10) (sy_n0 rfl) hi.1 hi.2 rfl fun p hp => ?_
    have key : lw_O.head!.2.2.2.2 = (List.range 6).map (fun (d : Nat) => (((0, (d : Int), 0, 1) : SyV), ((0, (d : Int), 0, 1) : SyV))) := by decide +kernel
    have hp : p ∈ lw_O.head!.2.2.2.2 := hp
    rw [key] at hp
    obtain ⟨d, hd, rfl⟩ := List.mem_map.mp hp
    have e : sy_n pw ((0, (d : Int), 0, 1) : SyV) = ((n + d : Nat) : Int) := by
      show (d : Int) + ((1 : Nat) : Int) * pw 0 = _
      omega
    have hd := List.mem_range.mp hd
    exact ⟨n + d, e, (hcl (n + d) (by omega)).1.to rfl (by decide) e⟩
  · cases he
/-- it holds as the questions begin -/
theorem LN.of (hn : 2 ≤ n ∧ n ≤ 11) (hf : ∀ j, j < n → fa_ok (fa j)) (hM : sy_me (sy_ev [(n : Int), (r : Int)]) gc_T4.2.1 c.2) (hE : sy_E0 L xs c) (hC : sy_me (fun _ => 0) gc_CE c.2) (hd : nd_ok fa n c.2.2.1) (hcl : cl_ok (lt n fa) (n + 6) c.2.2.1) (ht : 54 ≤ c.2.2.2.1) (h52 : c.2.1 52 = (61, 1500)) : LN L xs n fa c := by
  have hC2 : sy_me (sy_ev [(n : Int), (r : Int)]) gc_CE c.2 := hC.const (by decide +kernel)
  have hI52 : sy_me (sy_ev [(n : Int), (r : Int)]) [((4, 52, 0, 0), 61, 1500, none, [])] c.2 := fun e he => by
    rcases List.mem_cons.mp he with rfl | he
    · exact sy_ce_of (k := 52) (sy_n0 rfl) h52 (Or.inl (by omega)) rfl fun p hp => (nomatch hp)
    · cases he
  have hA := (hM.app hC2).app hI52
  have hg : sy_g (sy_ev [(n : Int), (r : Int)]) ([], []) := sg_0
  have b0 : ∀ p ∈ [0], sy_ev [(n : Int), (r : Int)] p = qv n 0 p := aa.mem ⟨rfl, trivial⟩
  have hI : c.2.1 10 = (61, 41) ∧ (10 < c.2.2.2.1 ∨ am_EXT ≤ 10) := hA.inst 10 61 41 (by decide +kernel)
  refine ⟨⟨hE, ⟨?_, ?_⟩, ln_nx hM hd, hcl, ln_us hM hd, ht, ⟨hn, hf⟩, ln_h hA rfl (by decide +kernel), ?_, by decide +kernel⟩, ?_⟩
  · exact (ln_O hcl hI rfl).app (sy_b_m (m := [0]) b0 (by decide +kernel) (sy_lM0_ok hg hA (by decide +kernel)))
  · exact sy_b_m (m := [0]) b0 (by decide +kernel) (sy_lM0_ok hg hA (by decide +kernel))
  · exact (sy_lM0_ok (A := fp_I) hg hA (by decide +kernel)).const (by decide +kernel)
  · exact (sy_lM0_ok (A := lw_Z0 ++ lw_MAT) hg hA (by decide +kernel)).const (by decide +kernel)
/-- what the asking of a question writes lies behind the nodes of the clauses -/
def ak_W (W : SyW) : Bool := W.all (fun w => (Nat.beq w.1.2.2.2 1 && (Nat.beq w.1.2.2.1 1 && sy_le 0 w.1.2.1)) || (Nat.beq w.1.2.2.2 0 && ((sy_lt w.1.2.1 4 || sy_lt 15 w.1.2.1) || ((sy_lt w.1.2.1 10 && (Nat.beq w.2.1.2.2.2 0 && sy_le 2560 w.2.1.2.1)) || (sy_lt 10 w.1.2.1 && (Nat.beq w.2.1.2.2.2 0 && sy_le 40 w.2.1.2.1))))))
theorem ak_at {W : SyW} (hW : ak_W W = true) (hc : sy_ch pv W c c') (h1 : pv 1 = c.2.2.2.1) (ht : 54 ≤ c.2.2.2.1) (q j : Nat) (hq : (4 ≤ q ∧ q ≤ 9 ∧ j < 2560) ∨ q = 10 ∨ (11 ≤ q ∧ q ≤ 15 ∧ j < 40)) : c'.2.2.1 q j = c.2.2.1 q j := by
  refine hc.1 q j (Or.inl (by omega)) fun w hw z => ?_
  obtain ⟨z1, z2, -⟩ := z
  rcases Bool.or_eq_true_iff.mp (List.all_eq_true.mp hW w hw) with k | k
  · obtain ⟨k1, k⟩ := Bool.and_eq_true_iff.mp k
    obtain ⟨k2, k3⟩ := Bool.and_eq_true_iff.mp k
    have k3 := sy_le_t k3
    unfold sy_n at z1
    rw [am_beq k1, am_beq k2, h1] at z1
    omega
  · obtain ⟨k1, k⟩ := Bool.and_eq_true_iff.mp k
    rw [sy_n0 (am_beq k1)] at z1
    rcases Bool.or_eq_true_iff.mp k with k | k
    · rcases Bool.or_eq_true_iff.mp k with k | k
      · have := sy_lt_t k
        omega
      · have := sy_lt_t k
        omega
    · rcases Bool.or_eq_true_iff.mp k with k | k
      · obtain ⟨k2, k⟩ := Bool.and_eq_true_iff.mp k
        obtain ⟨k3, k4⟩ := Bool.and_eq_true_iff.mp k
        have := sy_lt_t k2
        have := sy_le_t k4
        rw [sy_n0 (am_beq k3)] at z2
        omega
      · obtain ⟨k2, k⟩ := Bool.and_eq_true_iff.mp k
        obtain ⟨k3, k4⟩ := Bool.and_eq_true_iff.mp k
        have := sy_lt_t k2
        have := sy_le_t k4
        rw [sy_n0 (am_beq k3)] at z2
        omega
/-- a question was asked: what never changes in its search -/
theorem ak_PN {G : SyG} {W : SyW} {T : SyM} {sQ : List (Nat × SyV)} (hL : LN L xs n fa c) (hg : sy_g pv G) (hT : sy_me pv T c'.2) (hE : sy_E0 L xs c') (hc : sy_ch pv W c c') (h0 : pv 0 = n) (h1 : pv 1 = c.2.2.2.1) (hW : ak_W W = true) (hk : sy_kp G W (lw_Q1 ++ (lw_Rw ++ lw_MAT)) = true) (hQ : sy_lM G (Q.map (sy_suE sQ)) (T ++ (lw_Q0 ++ (lw_Rw ++ lw_MAT))) = true) (hQb : Q.all (sy_bE [0, 23]) = true) (hs : sy_pv pv sQ 0 = n ∧ sy_pv pv sQ 23 = b) (hR : sy_lM G (lw_R.map (sy_suE [])) (T ++ (lw_Q0 ++ (lw_Rw ++ lw_MAT))) = true) : PN Q lw_R b L xs n fa c' ∧ PN lw_Q0 lw_R 0 L xs n fa c' ∧ sy_me pv (T ++ (lw_Q0 ++ (lw_Rw ++ lw_MAT))) c'.2 := by
  have hP := hL.1
  have ht := hP.top
  have at_ := ak_at hW hc h1 ht
  have q1 : sy_me pv lw_Q1 c.2 := sy_b_m (m := [0]) (by exact aa.mem ⟨h0.symm, trivial⟩) (by decide +kernel) (fun e he => hP.2.1.1 e (List.mem_append.mpr (Or.inr he)))
  have q2 : sy_me pv lw_Rw c.2 := (sy_lM0_ok (A := lw_Rw) (G := ([], [])) sg_0 hP.i (by decide +kernel)).const (by decide +kernel)
  have q3 : sy_me pv lw_MAT c.2 := sy_me.const (pv := fun _ => 0) (fun e he => hL.2 e (List.mem_append.mpr (Or.inr he))) (by decide +kernel)
  have q4 : sy_me pv (lw_Q1 ++ (lw_Rw ++ lw_MAT)) c'.2 := (q1.app (q2.app q3)).kp hg hc hk
  have hcl : cl_ok (lt n fa) (n + 6) c'.2.2.1 := fun m hm => by
    have hn := hP.nr
    obtain ⟨g1, g2, g3, g4, g5⟩ := hP.cl m hm
    exact ⟨g1.eq (at_ _ _ (by omega)), g2.eq (at_ _ _ (by omega)), g3.eq (at_ _ _ (by omega)), g4.eq (at_ _ _ (by omega)), g5.eq (at_ _ _ (by omega))⟩
  have hI := hP.i.inst 10 61 41 (by decide +kernel)
  have hI' : c'.2.1 10 = (61, 41) ∧ (10 < c'.2.2.2.1 ∨ am_EXT ≤ 10) := ⟨(hc.2.1 10 (Or.inl (by omega))).trans hI.1, Or.inl (by have := hc.2.2; omega)⟩
  have q6 : sy_me pv (lw_Q0 ++ (lw_Rw ++ lw_MAT)) c'.2 := ((ln_O hcl hI' h0).app fun e he => q4 e (List.mem_append.mpr (Or.inl he))).app fun e he => q4 e (List.mem_append.mpr (Or.inr he))
  have q5 : sy_me pv (T ++ (lw_Q0 ++ (lw_Rw ++ lw_MAT))) c'.2 := hT.app q6
  have hn := hP.nr
  have key : ∀ (Q : SyM) (b : Int), sy_me (qv n b) Q c'.2 → PN Q lw_R b L xs n fa c' := fun Q b hQs => by
    refine ⟨hE, ⟨hQs, (sy_lM0_ok hg q5 hR).const (by decide +kernel)⟩, fun j hj i hi => (hP.nx j hj i hi).eq (at_ _ _ ?_), hcl, fun i hi => ?_, by have := hc.2.2; omega, ⟨hP.nr, hP.f⟩, ln_h q6 h0 (by decide +kernel), (sy_lM0_ok (A := fp_I) (G := ([], [])) sg_0 q6 (by decide +kernel)).const (by decide +kernel), by decide +kernel⟩
    · rcases ndc_r i (by omega) with ⟨g1, g2, g3, g4⟩ | ⟨g1, g2, g3, g4⟩
      · left
        rw [g3]
        omega
      · right; right
        rw [g3, g4]
        omega
    · rw [at_ 15 i (by omega)]
      exact hP.us i hi
  exact ⟨key Q b (sy_b_m (m := [0, 23]) (by exact aa.mem ⟨hs.1, hs.2, trivial⟩) hQb (sy_lM_ok hg q5 hQ)), key lw_Q0 0 (sy_b_m (m := [0]) (by exact aa.mem ⟨h0, trivial⟩) (by decide +kernel) fun e he => q6 e (List.mem_append.mpr (Or.inl he))), q5⟩
end LnS

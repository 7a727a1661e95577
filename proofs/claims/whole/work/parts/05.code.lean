/-! THE CODE: every method, its constant pool resolved; written by wip/whole/gen.py out of the printed names -/
def K_J6_bitCount_0f7a4 : List xA := [.inl (.iload 0), .inl (.iload 0), .inr (.inl (.int 1)), .inl .iushr, .inr (.inl (.int 1431655765)), .inl .iand, .inl .isub, .inl (.istore 0), .inl (.iload 0), .inr (.inl (.int 858993459)), .inl .iand, .inl (.iload 0), .inr (.inl (.int 2)), .inl .iushr, .inr (.inl (.int 858993459)), .inl .iand, .inl .iadd, .inl (.istore 0), .inl (.iload 0), .inl (.iload 0), .inr (.inl (.int 4)), .inl .iushr, .inl .iadd, .inr (.inl (.int 252645135)), .inl .iand, .inl (.istore 0), .inl (.iload 0), .inl (.iload 0), .inr (.inl (.int 8)), .inl .iushr, .inl .iadd, .inl (.istore 0), .inl (.iload 0), .inl (.iload 0), .inr (.inl (.int 16)), .inl .iushr, .inl .iadd, .inl (.istore 0), .inl (.iload 0), .inr (.inl (.int 63)), .inl .iand, .inl .ireturn]
def P_J6_bitCount_0f7a4 : List Nat := [0, 1, 2, 3, 4, 7, 8, 9, 10, 11, 14, 15, 16, 17, 18, 21, 22, 23, 24, 25, 26, 27, 28, 29, 32, 33, 34, 35, 36, 38, 39, 40, 41, 42, 43, 45, 46, 47, 48, 49, 51, 52, 53]
def K_J7_fill_53178 : List xA := [.inr (.inl (.int 0)), .inl (.istore 2), .inl (.aload 0), .inl .arraylength, .inl (.istore 3), .inl (.iload 2), .inl (.iload 3), .inr (.inr (24, [14])), .inl (.aload 0), .inl (.iload 2), .inl (.iload 1), .inl .iastore, .inr (.inr (80, [2])), .inr (.inr (10, [5])), .inl .return_]
def P_J7_fill_53178 : List Nat := [0, 1, 2, 3, 4, 5, 6, 7, 10, 11, 12, 13, 14, 17, 20, 21]
def K_X0_init : List xA := [.inl (.aload 0), .inr (.inr (67, [])), .inl (.aload 0), .inr (.inr (50, [6])), .inl .dup, .inr (.inr (41, [74, 6])), .inr (.inr (6, [0, 0])), .inl (.aload 0), .inr (.inl (.int 5)), .inr (.inl (.int 7)), .inr (.inr (53, [])), .inr (.inr (6, [0, 1])), .inl .return_]
def P_X0_init : List Nat := [0, 1, 4, 5, 8, 9, 12, 15, 16, 17, 19, 23, 26, 27]
def K_X0_hoursTillGone : List xA := [.inl (.aload 0), .inr (.inr (3, [0, 0])), .inl (.aload 2), .inr (.inr (41, [76, 6])), .inl (.aload 0), .inl (.aload 1), .inl (.iload 3), .inr (.inl (.int 99)), .inr (.inr (41, [4, 0])), .inl .ireturn]
def P_X0_hoursTillGone : List Nat := [0, 1, 4, 5, 8, 9, 10, 11, 13, 16, 17]
def K_X0_playTillGone : List xA := [.inr (.inl (.int 1)), .inl (.istore 4), .inl (.iload 4), .inl (.iload 3), .inr (.inr (25, [17])), .inl (.aload 0), .inr (.inr (3, [0, 0])), .inl (.aload 1), .inr (.inl (.int 0)), .inr (.inr (41, [97, 6])), .inl (.iload 2), .inl .iand, .inr (.inr (11, [15])), .inl (.iload 4), .inl .ireturn, .inr (.inr (80, [4])), .inr (.inr (10, [2])), .inr (.inl (.int (-1))), .inl .ireturn]
def P_X0_playTillGone : List Nat := [0, 1, 3, 5, 6, 9, 10, 13, 14, 15, 18, 19, 20, 23, 25, 26, 29, 32, 33, 34]
def K_X0_freshLater : List xA := [.inl (.aload 0), .inr (.inr (3, [0, 0])), .inl (.aload 2), .inr (.inr (41, [76, 6])), .inr (.inl (.int 1)), .inl (.istore 5), .inl (.iload 5), .inl (.iload 4), .inr (.inr (25, [17])), .inl (.aload 0), .inr (.inr (3, [0, 0])), .inl (.aload 1), .inr (.inl (.int 0)), .inr (.inr (41, [97, 6])), .inl .pop, .inr (.inr (80, [5])), .inr (.inr (10, [6])), .inl (.aload 0), .inr (.inr (3, [0, 0])), .inl (.iload 3), .inr (.inr (41, [79, 6])), .inl .ireturn]
def P_X0_freshLater : List Nat := [0, 1, 4, 5, 8, 9, 11, 13, 15, 18, 19, 22, 23, 24, 27, 28, 31, 34, 35, 38, 39, 42, 43]
def K_X0_firstGone : List xA := [.inl (.aload 0), .inr (.inr (3, [0, 0])), .inl (.aload 2), .inr (.inr (41, [76, 6])), .inr (.inl (.int 1)), .inl (.istore 3), .inl (.iload 3), .inr (.inl (.int 99)), .inr (.inr (25, [33])), .inl (.aload 0), .inr (.inr (3, [0, 0])), .inl (.aload 1), .inr (.inl (.int 0)), .inr (.inr (41, [97, 6])), .inl (.istore 4), .inr (.inl (.int 0)), .inl (.istore 5), .inl (.iload 5), .inl (.aload 1), .inr (.inr (1, [2, 9])), .inr (.inr (24, [31])), .inl (.iload 4), .inl (.iload 5), .inl .ishr, .inr (.inl (.int 1)), .inl .iand, .inr (.inr (11, [29])), .inl (.iload 5), .inl .ireturn, .inr (.inr (80, [5])), .inr (.inr (10, [17])), .inr (.inr (80, [3])), .inr (.inr (10, [6])), .inr (.inl (.int (-1))), .inl .ireturn]
def P_X0_firstGone : List Nat := [0, 1, 4, 5, 8, 9, 10, 11, 13, 16, 17, 20, 21, 22, 25, 27, 28, 30, 32, 33, 36, 39, 41, 43, 44, 45, 46, 49, 51, 52, 55, 58, 61, 64, 65, 66]
def K_X0_hoursTillEmpty : List xA := [.inl (.aload 0), .inr (.inr (3, [0, 0])), .inl (.aload 2), .inr (.inr (41, [76, 6])), .inr (.inl (.int 0)), .inl (.istore 3), .inl (.iload 3), .inr (.inl (.int 99)), .inr (.inr (25, [23])), .inl (.aload 0), .inr (.inr (3, [0, 0])), .inr (.inr (41, [83, 6])), .inr (.inr (12, [15])), .inl (.iload 3), .inl .ireturn, .inl (.aload 0), .inr (.inr (3, [0, 0])), .inl (.aload 1), .inr (.inl (.int 0)), .inr (.inr (41, [97, 6])), .inl .pop, .inr (.inr (80, [3])), .inr (.inr (10, [6])), .inr (.inl (.int (-1))), .inl .ireturn]
def P_X0_hoursTillEmpty : List Nat := [0, 1, 4, 5, 8, 9, 10, 11, 13, 16, 17, 20, 23, 26, 27, 28, 29, 32, 33, 34, 37, 38, 41, 44, 45, 46]
def K_X0_nutmegsFor : List xA := [.inl (.aload 0), .inr (.inr (3, [0, 0])), .inl (.aload 2), .inr (.inr (41, [76, 6])), .inl (.aload 0), .inl (.aload 1), .inl (.iload 3), .inl (.iload 4), .inr (.inr (41, [9, 0])), .inl (.iload 4), .inr (.inr (40, [0])), .inl (.istore 6), .inr (.inl (.int 1)), .inl (.istore 7), .inl (.iload 7), .inl (.iload 5), .inr (.inr (24, [37])), .inl (.aload 0), .inr (.inr (3, [0, 0])), .inl (.aload 1), .inr (.inl (.int 0)), .inr (.inr (41, [97, 6])), .inl (.iload 4), .inl .iand, .inl (.istore 8), .inl (.aload 0), .inl (.aload 1), .inl (.iload 3), .inl (.iload 8), .inr (.inr (41, [9, 0])), .inl (.iload 6), .inl (.iload 8), .inr (.inr (40, [0])), .inl .iadd, .inl (.istore 6), .inr (.inr (80, [7])), .inr (.inr (10, [14])), .inl (.iload 6), .inl .ireturn]
def P_X0_nutmegsFor : List Nat := [0, 1, 4, 5, 8, 9, 10, 11, 13, 16, 18, 21, 23, 24, 26, 28, 30, 33, 34, 37, 38, 39, 42, 44, 45, 47, 48, 49, 50, 52, 55, 57, 59, 62, 63, 65, 68, 71, 73, 74]
def K_X0_putOn : List xA := [.inr (.inl (.int 0)), .inl (.istore 4), .inl (.iload 4), .inl (.aload 1), .inr (.inr (1, [2, 9])), .inr (.inr (24, [20])), .inl (.iload 3), .inl (.iload 4), .inl .ishr, .inr (.inl (.int 1)), .inl .iand, .inr (.inr (11, [18])), .inl (.aload 0), .inr (.inr (3, [0, 0])), .inl (.aload 1), .inl (.iload 2), .inl (.iload 4), .inr (.inr (41, [94, 6])), .inr (.inr (80, [4])), .inr (.inr (10, [2])), .inl .return_]
def P_X0_putOn : List Nat := [0, 1, 3, 5, 6, 9, 12, 13, 15, 16, 17, 18, 21, 22, 25, 26, 27, 29, 32, 35, 38, 39]
def K_X0_mostKept : List xA := [.inl (.aload 2), .inl (.aload 1), .inr (.inr (41, [82, 6])), .inl (.istore 5), .inl (.aload 2), .inl (.iload 3), .inr (.inr (41, [80, 6])), .inl (.istore 6), .inr (.inl (.int 0)), .inl (.istore 7), .inr (.inl (.int 1)), .inl (.istore 8), .inl (.iload 8), .inl (.aload 1), .inr (.inr (41, [32, 2])), .inr (.inr (25, [51])), .inl (.iload 8), .inr (.inr (40, [0])), .inl (.istore 9), .inl (.iload 8), .inl (.iload 5), .inr (.inl (.int (-1))), .inl .ixor, .inl .iand, .inr (.inr (12, [34])), .inl (.iload 9), .inl (.iload 7), .inr (.inr (40, [0])), .inr (.inr (26, [34])), .inl (.iload 9), .inl (.iload 6), .inr (.inr (25, [34])), .inr (.inl (.int 1)), .inr (.inr (10, [35])), .inr (.inl (.int 0)), .inl (.istore 10), .inl (.iload 10), .inr (.inr (11, [49])), .inl (.aload 0), .inl (.aload 1), .inl (.aload 2), .inl (.iload 3), .inl (.iload 8), .inl (.iload 4), .inr (.inr (41, [8, 0])), .inl (.iload 6), .inr (.inr (25, [49])), .inl (.iload 8), .inl (.istore 7), .inr (.inr (80, [8])), .inr (.inr (10, [12])), .inl (.iload 7), .inl .ireturn]
def P_X0_mostKept : List Nat := [0, 1, 2, 5, 7, 8, 9, 12, 14, 15, 17, 18, 20, 22, 23, 26, 29, 31, 34, 36, 38, 40, 41, 42, 43, 46, 48, 50, 53, 56, 58, 60, 63, 64, 67, 68, 70, 72, 75, 76, 77, 78, 79, 81, 83, 86, 88, 91, 93, 95, 98, 101, 103, 104]
def K_X0_hourItIsGone : List xA := [.inl (.aload 0), .inr (.inr (3, [0, 0])), .inl (.aload 2), .inr (.inr (41, [76, 6])), .inl (.aload 0), .inr (.inr (3, [0, 0])), .inl (.aload 1), .inl (.iload 3), .inl (.iload 4), .inr (.inr (41, [94, 6])), .inl (.aload 0), .inl (.aload 1), .inr (.inl (.int 1)), .inl (.iload 4), .inl .ishl, .inl (.iload 5), .inr (.inr (41, [4, 0])), .inl (.istore 6), .inl (.iload 6), .inr (.inl (.int (-1))), .inr (.inr (22, [25])), .inl (.iload 5), .inr (.inl (.int 1)), .inl .iadd, .inr (.inr (10, [26])), .inl (.iload 6), .inl .ireturn]
def P_X0_hourItIsGone : List Nat := [0, 1, 4, 5, 8, 9, 12, 13, 14, 16, 19, 20, 21, 22, 24, 25, 27, 30, 32, 34, 35, 38, 40, 41, 42, 45, 47, 48]
def K_X0_whoFits : List xA := [.inr (.inl (.int 0)), .inl (.istore 4), .inr (.inl (.int 0)), .inl (.istore 5), .inl (.iload 5), .inl (.aload 1), .inr (.inr (1, [2, 10])), .inr (.inr (24, [67])), .inr (.inl (.int 1)), .inl (.istore 6), .inr (.inl (.int 0)), .inl (.istore 7), .inl (.iload 7), .inl (.aload 3), .inr (.inr (1, [7, 3])), .inr (.inr (24, [57])), .inl (.iload 6), .inr (.inr (11, [57])), .inl (.aload 3), .inr (.inr (3, [7, 0])), .inl (.iload 7), .inl .iaload, .inl (.istore 8), .inl (.aload 3), .inr (.inr (3, [7, 1])), .inl (.iload 7), .inl .iaload, .inl (.istore 9), .inl (.aload 2), .inl (.iload 8), .inr (.inr (41, [78, 6])), .inr (.inr (11, [43])), .inl (.aload 0), .inl (.aload 1), .inl (.aload 2), .inl (.iload 5), .inl (.iload 8), .inl (.iload 9), .inr (.inr (41, [11, 0])), .inl (.iload 9), .inr (.inr (26, [43])), .inr (.inl (.int 1)), .inr (.inr (10, [44])), .inr (.inl (.int 0)), .inl (.istore 10), .inl (.iload 10), .inl (.aload 3), .inr (.inr (3, [7, 2])), .inl (.iload 7), .inl .baload, .inr (.inr (22, [53])), .inr (.inl (.int 1)), .inr (.inr (10, [54])), .inr (.inl (.int 0)), .inl (.istore 6), .inr (.inr (80, [7])), .inr (.inr (10, [12])), .inl (.iload 6), .inr (.inr (11, [65])), .inl (.iload 4), .inr (.inl (.int 1)), .inl (.iload 5), .inl .ishl, .inl .ior, .inl (.istore 4), .inr (.inr (80, [5])), .inr (.inr (10, [4])), .inl (.iload 4), .inl .ireturn]
def P_X0_whoFits : List Nat := [0, 1, 3, 4, 6, 8, 9, 12, 15, 16, 18, 19, 21, 23, 24, 27, 30, 32, 35, 36, 39, 41, 42, 44, 45, 48, 50, 51, 53, 54, 56, 59, 62, 63, 64, 65, 67, 69, 71, 74, 76, 79, 80, 83, 84, 86, 88, 89, 92, 94, 95, 98, 99, 102, 103, 105, 108, 111, 113, 116, 118, 119, 121, 122, 123, 125, 128, 131, 133, 134]
def K_X0_bestQuestion : List xA := [.inl (.aload 0), .inl (.aload 1), .inl (.aload 2), .inl (.aload 3), .inr (.inr (41, [12, 0])), .inl (.istore 4), .inl (.aload 2), .inl (.aload 1), .inr (.inr (41, [82, 6])), .inl (.istore 5), .inl (.aload 0), .inl (.aload 1), .inl (.aload 2), .inl (.iload 4), .inl (.iload 5), .inr (.inr (41, [14, 0])), .inl (.iload 4), .inr (.inr (40, [0])), .inl (.istore 6), .inl (.iload 6), .inl (.istore 7), .inr (.inl (.int (-1))), .inl (.istore 8), .inr (.inl (.int 1)), .inl (.istore 9), .inl (.iload 9), .inr (.inl (.int 60)), .inr (.inr (25, [70])), .inr (.inl (.int 0)), .inl (.istore 10), .inl (.iload 10), .inl (.aload 1), .inr (.inr (1, [2, 9])), .inr (.inr (24, [68])), .inl (.iload 5), .inl (.iload 10), .inl .ishr, .inr (.inl (.int 1)), .inl .iand, .inr (.inr (11, [47])), .inl (.aload 0), .inl (.aload 1), .inl (.iload 4), .inl (.iload 10), .inl (.iload 9), .inr (.inr (41, [15, 0])), .inr (.inr (10, [48])), .inl (.iload 6), .inl (.istore 11), .inl (.iload 11), .inl (.iload 6), .inl (.iload 11), .inl .isub, .inr (.inr (60, [])), .inl (.istore 12), .inl (.iload 12), .inl (.iload 7), .inr (.inr (24, [66])), .inl (.iload 12), .inl (.istore 7), .inr (.inl (.int 8)), .inl (.iload 9), .inl .imul, .inl (.iload 10), .inl .iadd, .inl (.istore 8), .inr (.inr (80, [10])), .inr (.inr (10, [30])), .inr (.inr (80, [9])), .inr (.inr (10, [25])), .inl (.iload 8), .inl .ireturn]
def P_X0_bestQuestion : List Nat := [0, 1, 2, 3, 4, 7, 9, 10, 11, 14, 16, 17, 18, 19, 21, 23, 26, 28, 31, 33, 35, 37, 38, 40, 41, 43, 45, 47, 50, 51, 53, 55, 56, 59, 62, 64, 66, 67, 68, 69, 72, 73, 74, 76, 78, 80, 83, 86, 88, 90, 92, 94, 96, 97, 100, 102, 104, 106, 109, 111, 113, 115, 117, 118, 120, 121, 123, 126, 129, 132, 135, 137, 138]
def K_X0_findGone : List xA := [.inr (.inl (.int 0)), .inl (.istore 5), .inl (.iload 5), .inl (.aload 1), .inr (.inr (1, [2, 10])), .inr (.inr (24, [49])), .inr (.inl (.int 0)), .inl (.istore 6), .inl (.iload 6), .inl (.aload 1), .inr (.inr (1, [2, 9])), .inr (.inr (24, [47])), .inl (.iload 3), .inl (.iload 5), .inl .ishr, .inr (.inl (.int 1)), .inl .iand, .inr (.inr (11, [26])), .inl (.iload 4), .inl (.iload 6), .inl .ishr, .inr (.inl (.int 1)), .inl .iand, .inr (.inr (11, [26])), .inr (.inl (.int 1)), .inr (.inr (10, [27])), .inr (.inl (.int 0)), .inl (.istore 7), .inl (.aload 0), .inr (.inr (3, [0, 1])), .inl (.iload 5), .inl .aaload, .inl (.iload 6), .inl (.iload 7), .inr (.inr (11, [43])), .inl (.aload 0), .inl (.aload 1), .inl (.aload 2), .inl (.iload 5), .inl (.iload 6), .inr (.inl (.int 60)), .inr (.inr (41, [11, 0])), .inr (.inr (10, [44])), .inr (.inl (.int 0)), .inl .iastore, .inr (.inr (80, [6])), .inr (.inr (10, [8])), .inr (.inr (80, [5])), .inr (.inr (10, [2])), .inl .return_]
def P_X0_findGone : List Nat := [0, 1, 3, 5, 6, 9, 12, 13, 15, 17, 18, 21, 24, 25, 27, 28, 29, 30, 33, 35, 37, 38, 39, 40, 43, 44, 47, 48, 50, 51, 54, 56, 57, 59, 61, 64, 65, 66, 67, 69, 71, 73, 76, 79, 80, 81, 84, 87, 90, 93, 94]
def K_X0_countLying : List xA := [.inr (.inl (.int 0)), .inl (.istore 5), .inr (.inl (.int 0)), .inl (.istore 6), .inl (.iload 6), .inl (.aload 1), .inr (.inr (1, [2, 10])), .inr (.inr (24, [25])), .inl (.iload 2), .inl (.iload 6), .inl .ishr, .inr (.inl (.int 1)), .inl .iand, .inr (.inr (11, [23])), .inl (.aload 0), .inr (.inr (3, [0, 1])), .inl (.iload 6), .inl .aaload, .inl (.iload 3), .inl .iaload, .inl (.iload 4), .inr (.inr (26, [23])), .inr (.inr (80, [5])), .inr (.inr (80, [6])), .inr (.inr (10, [4])), .inl (.iload 5), .inl .ireturn]
def P_X0_countLying : List Nat := [0, 1, 3, 4, 6, 8, 9, 12, 15, 16, 18, 19, 20, 21, 24, 25, 28, 30, 31, 32, 33, 35, 38, 41, 44, 47, 49, 50]
def K_X0_millionthsGone : List xA := [.inr (.inl (.int 0)), .inl (.istore 6), .inr (.inl (.int 0)), .inl (.istore 7), .inl (.iload 7), .inr (.inl (.int 1)), .inl (.iload 4), .inl .ishl, .inr (.inr (24, [26])), .inl (.aload 0), .inl (.aload 1), .inl (.aload 2), .inl (.iload 3), .inl (.iload 4), .inl (.iload 7), .inr (.inr (41, [17, 0])), .inr (.inr (11, [24])), .inl (.iload 6), .inl (.iload 4), .inl (.iload 5), .inl (.iload 7), .inr (.inr (40, [18])), .inl .iadd, .inl (.istore 6), .inr (.inr (80, [7])), .inr (.inr (10, [4])), .inl (.iload 6), .inl .ireturn]
def P_X0_millionthsGone : List Nat := [0, 1, 3, 4, 6, 8, 9, 11, 12, 15, 16, 17, 18, 19, 21, 23, 26, 29, 31, 33, 35, 37, 40, 41, 43, 46, 49, 51, 52]
def K_X0_isGoneBy : List xA := [.inl (.aload 0), .inr (.inr (3, [0, 0])), .inl (.aload 2), .inr (.inr (41, [76, 6])), .inr (.inl (.int 0)), .inl (.istore 6), .inr (.inl (.int 0)), .inl (.istore 7), .inl (.iload 7), .inl (.iload 4), .inr (.inr (24, [29])), .inl (.iload 6), .inl (.aload 0), .inr (.inr (3, [0, 0])), .inl (.aload 1), .inl (.iload 5), .inl (.iload 7), .inl .ishr, .inr (.inl (.int 1)), .inl .iand, .inr (.inr (11, [23])), .inr (.inl (.int 2)), .inr (.inr (10, [24])), .inr (.inl (.int 0)), .inr (.inr (41, [97, 6])), .inl .ior, .inl (.istore 6), .inr (.inr (80, [7])), .inr (.inr (10, [8])), .inl (.iload 6), .inl (.iload 3), .inl .ishr, .inr (.inl (.int 1)), .inl .iand, .inr (.inr (11, [37])), .inr (.inl (.int 1)), .inr (.inr (10, [38])), .inr (.inl (.int 0)), .inr (.inr (91, []))]
def P_X0_isGoneBy : List Nat := [0, 1, 4, 5, 8, 9, 11, 12, 14, 16, 18, 21, 23, 24, 27, 28, 30, 32, 33, 34, 35, 38, 39, 42, 43, 46, 47, 49, 52, 55, 57, 58, 59, 60, 61, 64, 65, 68, 69, 70]
def K_X0_weightOf : List xA := [.inr (.inl (.int 1)), .inl (.istore 3), .inr (.inl (.int 0)), .inl (.istore 4), .inl (.iload 4), .inr (.inl (.int 6)), .inr (.inr (24, [34])), .inl (.iload 2), .inl (.iload 4), .inl .ishr, .inr (.inl (.int 1)), .inl .iand, .inr (.inr (11, [15])), .inr (.inl (.int 1)), .inr (.inr (10, [16])), .inr (.inl (.int 0)), .inl (.istore 5), .inl (.iload 3), .inl (.iload 4), .inl (.iload 0), .inr (.inr (23, [23])), .inr (.inl (.int 10)), .inr (.inr (10, [30])), .inl (.iload 5), .inr (.inr (11, [27])), .inl (.iload 1), .inr (.inr (10, [30])), .inr (.inl (.int 10)), .inl (.iload 1), .inl .isub, .inl .imul, .inl (.istore 3), .inr (.inr (80, [4])), .inr (.inr (10, [4])), .inl (.iload 3), .inl .ireturn]
def P_X0_weightOf : List Nat := [0, 1, 2, 3, 5, 7, 9, 12, 13, 15, 16, 17, 18, 21, 22, 25, 26, 28, 29, 31, 32, 35, 37, 40, 42, 45, 46, 49, 51, 52, 53, 54, 55, 58, 61, 62, 63]
def K_X0_season : List xA := [.inl (.aload 0), .inr (.inr (3, [0, 0])), .inl (.aload 2), .inr (.inr (41, [76, 6])), .inl (.aload 1), .inr (.inr (1, [2, 10])), .inr (.inr (16, [12])), .inl (.aload 1), .inr (.inr (1, [2, 9])), .inr (.inr (16, [12])), .inr (.inl (.int 1)), .inr (.inr (10, [13])), .inr (.inl (.int 0)), .inl (.istore 6), .inl (.iload 3), .inl .i2l, .inl (.lstore 7), .inr (.inl (.int 0)), .inl (.istore 9), .inr (.inl (.int 0)), .inl (.istore 10), .inl (.iload 10), .inl (.iload 4), .inr (.inr (24, [67])), .inl (.iload 6), .inr (.inr (11, [56])), .inl (.lload 7), .inr (.inr (40, [21])), .inl (.lstore 7), .inl (.lload 7), .inl (.aload 1), .inr (.inr (1, [2, 10])), .inr (.inr (40, [22])), .inl (.istore 11), .inl (.lload 7), .inr (.inr (40, [21])), .inl (.lstore 7), .inl (.lload 7), .inl (.aload 1), .inr (.inr (1, [2, 9])), .inr (.inr (40, [22])), .inl (.istore 12), .inl (.lload 7), .inr (.inr (40, [21])), .inl (.lstore 7), .inl (.iload 9), .inl (.aload 0), .inl (.aload 1), .inl (.lload 7), .inr (.inl (.int 5)), .inr (.inr (40, [22])), .inl (.iload 11), .inl (.iload 12), .inr (.inr (41, [20, 0])), .inl .iadd, .inl (.istore 9), .inl (.iload 9), .inl (.aload 0), .inr (.inr (3, [0, 0])), .inl (.aload 1), .inr (.inl (.int 0)), .inr (.inr (41, [97, 6])), .inr (.inr (40, [0])), .inl .iadd, .inl (.istore 9), .inr (.inr (80, [10])), .inr (.inr (10, [21])), .inl (.iload 5), .inr (.inr (12, [71])), .inl (.iload 9), .inl .ireturn, .inl (.iload 5), .inr (.inl (.int 1)), .inr (.inr (22, [80])), .inl (.aload 0), .inr (.inr (3, [0, 0])), .inl (.aload 1), .inr (.inr (41, [32, 2])), .inr (.inr (41, [87, 6])), .inr (.inr (10, [88])), .inl (.aload 0), .inr (.inr (3, [0, 0])), .inr (.inr (41, [86, 6])), .inl (.aload 0), .inr (.inr (3, [0, 0])), .inr (.inr (41, [83, 6])), .inr (.inr (40, [0])), .inl .iadd, .inl .ireturn]
def P_X0_season : List Nat := [0, 1, 4, 5, 8, 9, 12, 15, 16, 19, 22, 23, 26, 27, 29, 30, 31, 33, 34, 36, 37, 39, 41, 43, 46, 48, 51, 53, 56, 58, 60, 61, 64, 67, 69, 71, 74, 76, 78, 79, 82, 85, 87, 89, 92, 94, 96, 97, 98, 100, 101, 104, 106, 108, 111, 112, 114, 116, 117, 120, 121, 122, 125, 128, 129, 131, 134, 137, 139, 142, 144, 145, 147, 148, 151, 152, 155, 156, 159, 162, 165, 166, 169, 172, 173, 176, 179, 182, 183, 184]
def K_X0_goneByDeed : List xA := [.inl (.iload 2), .inr (.inl (.int 3)), .inr (.inr (25, [11])), .inl (.aload 0), .inr (.inr (3, [0, 0])), .inl (.aload 1), .inl (.iload 2), .inl (.iload 3), .inl (.iload 4), .inr (.inr (41, [90, 6])), .inr (.inr (12, [13])), .inr (.inl (.int 0)), .inl .ireturn, .inl (.aload 0), .inr (.inr (3, [0, 0])), .inl (.aload 1), .inl (.iload 2), .inl (.iload 3), .inl (.iload 4), .inr (.inr (41, [91, 6])), .inr (.inr (40, [0])), .inl .ireturn]
def P_X0_goneByDeed : List Nat := [0, 1, 2, 5, 6, 9, 10, 11, 12, 14, 17, 20, 21, 22, 23, 26, 27, 28, 29, 31, 34, 37, 38]
def K_X0_drawn : List xA := [.inl (.lload 0), .inr (.inl (.long 1103515245)), .inl .lmul, .inr (.inl (.long 12345)), .inl .ladd, .inr (.inl (.long 2147483648)), .inl .lrem, .inl .lreturn]
def P_X0_drawn : List Nat := [0, 1, 4, 5, 8, 9, 12, 13, 14]
def K_X0_below : List xA := [.inl (.iload 2), .inr (.inr (15, [4])), .inr (.inl (.int 0)), .inr (.inr (10, [11])), .inl (.lload 0), .inr (.inl (.long 65536)), .inl .ldiv, .inl (.iload 2), .inl .i2l, .inl .lrem, .inl .l2i, .inl .ireturn]
def P_X0_below : List Nat := [0, 1, 4, 5, 8, 9, 12, 13, 14, 15, 16, 17, 18]
def K_X0_verdict : List xA := [.inl (.aload 0), .inr (.inr (3, [0, 0])), .inl (.aload 1), .inr (.inr (41, [75, 6])), .inr (.inl (.int (-1))), .inl (.istore 4), .inr (.inl (.int (-1))), .inl (.istore 5), .inr (.inl (.int 0)), .inl (.istore 6), .inl (.iload 6), .inl (.aload 2), .inr (.inr (1, [1, 3])), .inr (.inr (24, [48])), .inl (.aload 0), .inr (.inr (3, [0, 0])), .inl (.aload 1), .inl (.aload 2), .inr (.inr (3, [1, 0])), .inl (.iload 6), .inl .iaload, .inl (.aload 2), .inr (.inr (3, [1, 1])), .inl (.iload 6), .inl .iaload, .inl (.aload 2), .inr (.inr (3, [1, 2])), .inl (.iload 6), .inl .iaload, .inr (.inr (41, [91, 6])), .inl (.istore 7), .inl (.iload 7), .inr (.inl (.int (-1))), .inr (.inr (22, [39])), .inl (.iload 4), .inr (.inl (.int (-1))), .inr (.inr (22, [39])), .inl (.iload 6), .inl (.istore 4), .inl (.iload 7), .inr (.inr (16, [46])), .inl (.iload 5), .inr (.inl (.int (-1))), .inr (.inr (22, [46])), .inl (.iload 6), .inl (.istore 5), .inr (.inr (80, [6])), .inr (.inr (10, [10])), .inl (.iload 3), .inr (.inr (12, [52])), .inl (.iload 4), .inl .ireturn, .inl (.iload 3), .inr (.inl (.int 1)), .inr (.inr (22, [57])), .inl (.iload 5), .inr (.inr (10, [63])), .inl (.aload 0), .inr (.inr (3, [0, 0])), .inl (.aload 1), .inr (.inr (41, [32, 2])), .inr (.inr (41, [87, 6])), .inr (.inr (40, [0])), .inl .ireturn]
def P_X0_verdict : List Nat := [0, 1, 4, 5, 8, 9, 11, 12, 14, 15, 17, 19, 20, 23, 26, 27, 30, 31, 32, 35, 37, 38, 39, 42, 44, 45, 46, 49, 51, 52, 55, 57, 59, 60, 63, 65, 66, 69, 71, 73, 75, 78, 80, 81, 84, 86, 88, 91, 94, 95, 98, 100, 101, 102, 103, 106, 108, 111, 112, 115, 116, 119, 122, 125, 126]
def K_X1_init : List xA := [.inl (.aload 0), .inr (.inr (67, [])), .inl (.aload 0), .inr (.inl (.int 40)), .inr (.inr (51, [0])), .inr (.inr (6, [1, 0])), .inl (.aload 0), .inr (.inl (.int 40)), .inr (.inr (51, [0])), .inr (.inr (6, [1, 1])), .inl (.aload 0), .inr (.inl (.int 40)), .inr (.inr (51, [0])), .inr (.inr (6, [1, 2])), .inl .return_]
def P_X1_init : List Nat := [0, 1, 4, 5, 7, 9, 12, 13, 15, 17, 20, 21, 23, 25, 28, 29]
def K_X1_read : List xA := [.inl (.aload 0), .inr (.inl (.int 0)), .inr (.inr (4, [1, 3])), .inl (.aload 1), .inr (.inr (41, [114, 10])), .inr (.inl (.int 1)), .inl (.istore 3), .inr (.inl (.int 0)), .inl (.istore 4), .inl (.iload 4), .inr (.inl (.int 40)), .inr (.inr (25, [24])), .inl (.iload 3), .inr (.inr (11, [24])), .inl (.aload 1), .inr (.inr (41, [115, 10])), .inr (.inr (11, [24])), .inl (.aload 0), .inl (.aload 1), .inl (.aload 2), .inr (.inr (41, [26, 1])), .inl (.istore 3), .inr (.inr (80, [4])), .inr (.inr (10, [9])), .inl (.aload 1), .inr (.inr (1, [10, 6])), .inl .ireturn]
def P_X1_read : List Nat := [0, 1, 2, 5, 6, 9, 10, 11, 12, 14, 16, 18, 21, 22, 25, 26, 29, 32, 33, 34, 35, 38, 39, 42, 45, 46, 49, 50]
def K_X1_readLine : List xA := [.inl (.aload 1), .inr (.inr (41, [128, 10])), .inl (.istore 3), .inl (.iload 3), .inr (.inl (.int (-1))), .inr (.inr (22, [10])), .inl (.aload 1), .inr (.inl (.int 1)), .inr (.inr (41, [117, 10])), .inr (.inr (91, [])), .inl (.aload 0), .inr (.inr (1, [1, 3])), .inr (.inl (.int 40)), .inr (.inr (23, [18])), .inl (.aload 1), .inr (.inl (.int 5)), .inr (.inr (41, [117, 10])), .inr (.inr (91, [])), .inl (.aload 1), .inr (.inr (41, [116, 10])), .inr (.inl (.int (-1))), .inl (.istore 4), .inr (.inl (.int (-1))), .inl (.istore 5), .inl (.iload 3), .inr (.inl (.int 4)), .inr (.inr (21, [40])), .inl (.aload 1), .inl (.aload 2), .inr (.inr (41, [124, 10])), .inr (.inr (12, [33])), .inr (.inl (.int 0)), .inr (.inr (91, [])), .inl (.aload 2), .inl (.aload 1), .inr (.inr (2, [10, 5])), .inr (.inr (41, [34, 2])), .inl (.istore 4), .inl (.aload 1), .inr (.inr (41, [116, 10])), .inl (.iload 3), .inr (.inl (.int 4)), .inr (.inr (21, [59])), .inl (.iload 3), .inr (.inl (.int 2)), .inr (.inr (21, [59])), .inl (.aload 1), .inl (.aload 2), .inr (.inr (41, [125, 10])), .inr (.inr (12, [52])), .inr (.inl (.int 0)), .inr (.inr (91, [])), .inl (.aload 2), .inl (.aload 1), .inr (.inr (2, [10, 5])), .inr (.inr (41, [33, 2])), .inl (.istore 5), .inl (.aload 1), .inr (.inr (41, [116, 10])), .inl (.aload 0), .inl (.iload 3), .inl (.iload 4), .inl (.iload 5), .inr (.inr (41, [27, 1])), .inl (.aload 1), .inr (.inl (.int 59)), .inr (.inr (41, [121, 10])), .inr (.inr (91, []))]
def P_X1_readLine : List Nat := [0, 1, 4, 5, 6, 7, 10, 11, 12, 15, 16, 17, 20, 22, 25, 26, 27, 30, 31, 32, 35, 36, 38, 39, 41, 42, 43, 46, 47, 48, 51, 54, 55, 56, 57, 58, 61, 64, 66, 67, 70, 71, 72, 75, 76, 77, 80, 81, 82, 85, 88, 89, 90, 91, 92, 95, 98, 100, 101, 104, 105, 106, 108, 110, 113, 114, 116, 119, 120]
def K_X1_add : List xA := [.inl (.aload 0), .inr (.inr (1, [1, 3])), .inr (.inl (.int 40)), .inr (.inr (24, [28])), .inl (.aload 0), .inr (.inr (3, [1, 0])), .inl (.aload 0), .inr (.inr (1, [1, 3])), .inl (.iload 1), .inl .iastore, .inl (.aload 0), .inr (.inr (3, [1, 1])), .inl (.aload 0), .inr (.inr (1, [1, 3])), .inl (.iload 2), .inl .iastore, .inl (.aload 0), .inr (.inr (3, [1, 2])), .inl (.aload 0), .inr (.inr (1, [1, 3])), .inl (.iload 3), .inl .iastore, .inl (.aload 0), .inl .dup, .inr (.inr (1, [1, 3])), .inr (.inl (.int 1)), .inl .iadd, .inr (.inr (4, [1, 3])), .inl .return_]
def P_X1_add : List Nat := [0, 1, 4, 6, 9, 10, 13, 14, 17, 18, 19, 20, 23, 24, 27, 28, 29, 30, 33, 34, 37, 38, 39, 40, 41, 44, 45, 46, 49, 50]
def K_X2_init : List xA := [.inl (.aload 0), .inr (.inr (67, [])), .inl (.aload 0), .inr (.inl (.int 7)), .inr (.inr (51, [1])), .inr (.inr (6, [2, 0])), .inl (.aload 0), .inr (.inl (.int 7)), .inr (.inr (51, [0])), .inr (.inr (6, [2, 1])), .inl (.aload 0), .inr (.inl (.int 7)), .inr (.inr (51, [0])), .inr (.inr (6, [2, 2])), .inl (.aload 0), .inr (.inl (.int 7)), .inr (.inr (51, [0])), .inr (.inr (6, [2, 3])), .inl (.aload 0), .inr (.inl (.int 5)), .inr (.inr (51, [1])), .inr (.inr (6, [2, 4])), .inl (.aload 0), .inr (.inl (.int 5)), .inr (.inr (51, [0])), .inr (.inr (6, [2, 5])), .inl (.aload 0), .inr (.inl (.int 5)), .inr (.inr (51, [0])), .inr (.inr (6, [2, 6])), .inl (.aload 0), .inr (.inl (.int 5)), .inr (.inr (51, [0])), .inr (.inr (6, [2, 7])), .inl (.aload 0), .inr (.inr (50, [4])), .inl .dup, .inr (.inr (41, [53, 4])), .inr (.inr (6, [2, 8])), .inl (.aload 0), .inr (.inl (.int 6)), .inr (.inr (4, [2, 11])), .inl .return_]
def P_X2_init : List Nat := [0, 1, 4, 5, 7, 9, 12, 13, 15, 17, 20, 21, 23, 25, 28, 29, 31, 33, 36, 37, 38, 40, 43, 44, 45, 47, 50, 51, 52, 54, 57, 58, 59, 61, 64, 65, 68, 69, 72, 75, 76, 78, 81, 82]
def K_X2_clear : List xA := [.inl (.aload 0), .inr (.inl (.int 0)), .inr (.inr (4, [2, 9])), .inl (.aload 0), .inr (.inl (.int 0)), .inr (.inr (4, [2, 10])), .inl (.aload 0), .inr (.inl (.int 6)), .inr (.inr (4, [2, 11])), .inl (.aload 0), .inr (.inr (3, [2, 8])), .inr (.inr (41, [54, 4])), .inl .return_]
def P_X2_clear : List Nat := [0, 1, 2, 5, 6, 7, 10, 11, 13, 16, 17, 20, 23, 24]
def K_X2_isSeat : List xA := [.inl (.iload 1), .inr (.inr (13, [11])), .inl (.iload 1), .inl (.aload 0), .inr (.inr (1, [2, 9])), .inr (.inr (24, [11])), .inl (.iload 1), .inr (.inl (.int 7)), .inr (.inr (24, [11])), .inr (.inl (.int 1)), .inr (.inr (10, [12])), .inr (.inl (.int 0)), .inr (.inr (91, []))]
def P_X2_isSeat : List Nat := [0, 1, 4, 5, 6, 9, 12, 13, 15, 18, 19, 22, 23, 24]
def K_X2_isPerson : List xA := [.inl (.iload 1), .inr (.inr (13, [11])), .inl (.iload 1), .inl (.aload 0), .inr (.inr (1, [2, 10])), .inr (.inr (24, [11])), .inl (.iload 1), .inr (.inl (.int 5)), .inr (.inr (24, [11])), .inr (.inl (.int 1)), .inr (.inr (10, [12])), .inr (.inl (.int 0)), .inr (.inr (91, []))]
def P_X2_isPerson : List Nat := [0, 1, 4, 5, 6, 9, 12, 13, 14, 17, 18, 21, 22, 23]
def K_X2_allSeats : List xA := [.inr (.inl (.int 1)), .inl (.aload 0), .inr (.inr (1, [2, 9])), .inl .ishl, .inr (.inl (.int 1)), .inl .isub, .inl .ireturn]
def P_X2_allSeats : List Nat := [0, 1, 2, 5, 6, 7, 8, 9]
def K_X2_seatNamed : List xA := [.inr (.inl (.int 0)), .inl (.istore 3), .inl (.iload 3), .inl (.aload 0), .inr (.inr (1, [2, 9])), .inr (.inr (24, [17])), .inl (.aload 0), .inr (.inr (3, [2, 0])), .inl (.iload 3), .inl .laload, .inl (.lload 1), .inl .lcmp, .inr (.inr (12, [15])), .inl (.iload 3), .inl .ireturn, .inr (.inr (80, [3])), .inr (.inr (10, [2])), .inr (.inl (.int (-1))), .inl .ireturn]
def P_X2_seatNamed : List Nat := [0, 1, 2, 3, 4, 7, 10, 11, 14, 15, 16, 17, 18, 21, 22, 23, 26, 29, 30, 31]
def K_X2_personNamed : List xA := [.inr (.inl (.int 0)), .inl (.istore 3), .inl (.iload 3), .inl (.aload 0), .inr (.inr (1, [2, 10])), .inr (.inr (24, [17])), .inl (.aload 0), .inr (.inr (3, [2, 4])), .inl (.iload 3), .inl .laload, .inl (.lload 1), .inl .lcmp, .inr (.inr (12, [15])), .inl (.iload 3), .inl .ireturn, .inr (.inr (80, [3])), .inr (.inr (10, [2])), .inr (.inl (.int (-1))), .inl .ireturn]
def P_X2_personNamed : List Nat := [0, 1, 2, 3, 4, 7, 10, 11, 14, 15, 16, 17, 18, 21, 22, 23, 26, 29, 30, 31]
def K_X2_hasSeatAt : List xA := [.inr (.inl (.int 0)), .inl (.istore 3), .inl (.iload 3), .inl (.aload 0), .inr (.inr (1, [2, 9])), .inr (.inr (24, [22])), .inl (.aload 0), .inr (.inr (3, [2, 1])), .inl (.iload 3), .inl .iaload, .inl (.iload 1), .inr (.inr (22, [20])), .inl (.aload 0), .inr (.inr (3, [2, 2])), .inl (.iload 3), .inl .iaload, .inl (.iload 2), .inr (.inr (22, [20])), .inr (.inl (.int 1)), .inr (.inr (91, [])), .inr (.inr (80, [3])), .inr (.inr (10, [2])), .inr (.inl (.int 0)), .inr (.inr (91, []))]
def P_X2_hasSeatAt : List Nat := [0, 1, 2, 3, 4, 7, 10, 11, 14, 15, 16, 17, 20, 21, 24, 25, 26, 27, 30, 31, 32, 35, 38, 39, 40]
def K_X2_addSeat : List xA := [.inl (.aload 0), .inr (.inr (1, [2, 9])), .inr (.inl (.int 7)), .inr (.inr (23, [5])), .inl .return_, .inl (.aload 0), .inr (.inr (3, [2, 0])), .inl (.aload 0), .inr (.inr (1, [2, 9])), .inl (.lload 1), .inl .lastore, .inl (.aload 0), .inr (.inr (3, [2, 1])), .inl (.aload 0), .inr (.inr (1, [2, 9])), .inl (.iload 3), .inl .iastore, .inl (.aload 0), .inr (.inr (3, [2, 2])), .inl (.aload 0), .inr (.inr (1, [2, 9])), .inl (.iload 4), .inl .iastore, .inl (.aload 0), .inr (.inr (3, [2, 3])), .inl (.aload 0), .inr (.inr (1, [2, 9])), .inr (.inl (.int 0)), .inl .iastore, .inr (.inl (.int 0)), .inl (.istore 5), .inl (.iload 5), .inl (.aload 0), .inr (.inr (1, [2, 9])), .inr (.inr (24, [76])), .inl (.aload 0), .inr (.inr (3, [2, 1])), .inl (.iload 5), .inl .iaload, .inl (.iload 3), .inl .isub, .inr (.inr (62, [])), .inl (.aload 0), .inr (.inr (3, [2, 2])), .inl (.iload 5), .inl .iaload, .inl (.iload 4), .inl .isub, .inr (.inr (62, [])), .inl .iadd, .inr (.inl (.int 1)), .inr (.inr (22, [74])), .inl (.aload 0), .inr (.inr (3, [2, 3])), .inl (.iload 5), .inl .dup2, .inl .iaload, .inr (.inl (.int 1)), .inl (.aload 0), .inr (.inr (1, [2, 9])), .inl .ishl, .inl .ior, .inl .iastore, .inl (.aload 0), .inr (.inr (3, [2, 3])), .inl (.aload 0), .inr (.inr (1, [2, 9])), .inl .dup2, .inl .iaload, .inr (.inl (.int 1)), .inl (.iload 5), .inl .ishl, .inl .ior, .inl .iastore, .inr (.inr (80, [5])), .inr (.inr (10, [31])), .inl (.aload 0), .inl .dup, .inr (.inr (1, [2, 9])), .inr (.inl (.int 1)), .inl .iadd, .inr (.inr (4, [2, 9])), .inl .return_]
def P_X2_addSeat : List Nat := [0, 1, 4, 6, 9, 10, 11, 14, 15, 18, 19, 20, 21, 24, 25, 28, 29, 30, 31, 34, 35, 38, 40, 41, 42, 45, 46, 49, 50, 51, 52, 54, 56, 57, 60, 63, 64, 67, 69, 70, 71, 72, 75, 76, 79, 81, 82, 84, 85, 88, 89, 90, 93, 94, 97, 99, 100, 101, 102, 103, 106, 107, 108, 109, 110, 113, 114, 117, 118, 119, 120, 122, 123, 124, 125, 128, 131, 132, 133, 136, 137, 138, 141, 142]
def K_X2_addPerson : List xA := [.inl (.aload 0), .inr (.inr (1, [2, 10])), .inr (.inl (.int 5)), .inr (.inr (23, [5])), .inl .return_, .inl (.aload 0), .inr (.inr (3, [2, 4])), .inl (.aload 0), .inr (.inr (1, [2, 10])), .inl (.lload 1), .inl .lastore, .inl (.aload 0), .inr (.inr (3, [2, 5])), .inl (.aload 0), .inr (.inr (1, [2, 10])), .inl (.iload 3), .inl .iastore, .inl (.aload 0), .inr (.inr (3, [2, 6])), .inl (.aload 0), .inr (.inr (1, [2, 10])), .inl (.iload 4), .inl .iastore, .inl (.aload 0), .inr (.inr (3, [2, 7])), .inl (.aload 0), .inr (.inr (1, [2, 10])), .inr (.inl (.int 0)), .inl .iastore, .inl (.aload 0), .inl .dup, .inr (.inr (1, [2, 10])), .inr (.inl (.int 1)), .inl .iadd, .inr (.inr (4, [2, 10])), .inl .return_]
def P_X2_addPerson : List Nat := [0, 1, 4, 5, 8, 9, 10, 13, 14, 17, 18, 19, 20, 23, 24, 27, 28, 29, 30, 33, 34, 37, 39, 40, 41, 44, 45, 48, 49, 50, 51, 52, 55, 56, 57, 60, 61]
def K_X2_addFoes : List xA := [.inl (.aload 0), .inl (.iload 1), .inr (.inr (41, [31, 2])), .inr (.inr (11, [28])), .inl (.aload 0), .inl (.iload 2), .inr (.inr (41, [31, 2])), .inr (.inr (11, [28])), .inl (.aload 0), .inr (.inr (3, [2, 7])), .inl (.iload 1), .inl .dup2, .inl .iaload, .inr (.inl (.int 1)), .inl (.iload 2), .inl .ishl, .inl .ior, .inl .iastore, .inl (.aload 0), .inr (.inr (3, [2, 7])), .inl (.iload 2), .inl .dup2, .inl .iaload, .inr (.inl (.int 1)), .inl (.iload 1), .inl .ishl, .inl .ior, .inl .iastore, .inl .return_]
def P_X2_addFoes : List Nat := [0, 1, 2, 5, 8, 9, 10, 13, 16, 17, 20, 21, 22, 23, 24, 25, 26, 27, 28, 29, 32, 33, 34, 35, 36, 37, 38, 39, 40, 41]
def K_X2_nearTo : List xA := [.inl (.aload 0), .inl (.iload 1), .inr (.inr (41, [30, 2])), .inr (.inr (11, [9])), .inl (.aload 0), .inr (.inr (3, [2, 3])), .inl (.iload 1), .inl .iaload, .inr (.inr (10, [10])), .inr (.inl (.int 0)), .inl .ireturn]
def P_X2_nearTo : List Nat := [0, 1, 2, 5, 8, 9, 12, 13, 14, 17, 18, 19]
def K_X2_nearAny : List xA := [.inr (.inl (.int 0)), .inl (.istore 2), .inr (.inl (.int 0)), .inl (.istore 3), .inl (.iload 3), .inl (.aload 0), .inr (.inr (1, [2, 9])), .inr (.inr (24, [23])), .inl (.iload 1), .inl (.iload 3), .inl .ishr, .inr (.inl (.int 1)), .inl .iand, .inr (.inr (11, [21])), .inl (.iload 2), .inl (.aload 0), .inr (.inr (3, [2, 3])), .inl (.iload 3), .inl .iaload, .inl .ior, .inl (.istore 2), .inr (.inr (80, [3])), .inr (.inr (10, [4])), .inl (.iload 2), .inl .ireturn]
def P_X2_nearAny : List Nat := [0, 1, 2, 3, 4, 5, 6, 9, 12, 13, 14, 15, 16, 17, 20, 21, 22, 25, 26, 27, 28, 29, 32, 35, 36, 37]
def K_X2_blockOf : List xA := [.inr (.inl (.int 1)), .inl (.iload 1), .inl .ishl, .inl (.istore 3), .inr (.inl (.int 1)), .inl (.istore 4), .inl (.iload 4), .inl (.aload 0), .inr (.inr (1, [2, 9])), .inr (.inr (24, [20])), .inl (.iload 3), .inl (.aload 0), .inl (.iload 3), .inr (.inr (41, [40, 2])), .inl (.iload 2), .inl .iand, .inl .ior, .inl (.istore 3), .inr (.inr (80, [4])), .inr (.inr (10, [6])), .inl (.iload 3), .inl .ireturn]
def P_X2_blockOf : List Nat := [0, 1, 2, 3, 4, 5, 7, 9, 10, 13, 16, 17, 18, 19, 22, 23, 24, 25, 26, 29, 32, 33, 34]
def K_X2_foesOf : List xA := [.inl (.aload 0), .inl (.iload 1), .inr (.inr (41, [31, 2])), .inr (.inr (11, [9])), .inl (.aload 0), .inr (.inr (3, [2, 7])), .inl (.iload 1), .inl .iaload, .inr (.inr (10, [10])), .inr (.inl (.int 0)), .inl .ireturn]
def P_X2_foesOf : List Nat := [0, 1, 2, 5, 8, 9, 12, 13, 14, 17, 18, 19]
def K_X2_isCaptain : List xA := [.inl (.aload 0), .inl (.iload 1), .inr (.inr (41, [31, 2])), .inr (.inr (11, [12])), .inl (.aload 0), .inr (.inr (3, [2, 5])), .inl (.iload 1), .inl .iaload, .inr (.inl (.int 3)), .inr (.inr (22, [12])), .inr (.inl (.int 1)), .inr (.inr (10, [13])), .inr (.inl (.int 0)), .inr (.inr (91, []))]
def P_X2_isCaptain : List Nat := [0, 1, 2, 5, 8, 9, 12, 13, 14, 15, 18, 19, 22, 23, 24]
def K_X2_lifeOf : List xA := [.inl (.aload 0), .inl (.iload 1), .inr (.inr (41, [31, 2])), .inr (.inr (12, [6])), .inr (.inl (.int 0)), .inl .ireturn, .inl (.aload 0), .inr (.inr (3, [2, 5])), .inl (.iload 1), .inl .iaload, .inr (.inr (27, [101, 25, 11, 16, 23])), .inr (.inl (.int 2)), .inl (.aload 0), .inr (.inr (1, [2, 11])), .inl .imul, .inl .ireturn, .inl (.aload 0), .inr (.inr (1, [2, 11])), .inr (.inl (.int 1)), .inl .iadd, .inr (.inl (.int 2)), .inl .idiv, .inl .ireturn, .inr (.inl (.int 99)), .inl .ireturn, .inl (.aload 0), .inr (.inr (1, [2, 11])), .inl .ireturn]
def P_X2_lifeOf : List Nat := [0, 1, 2, 5, 8, 9, 10, 11, 14, 15, 16, 44, 45, 46, 49, 50, 51, 52, 55, 56, 57, 58, 59, 60, 62, 63, 64, 67, 68]
def K_X2_raspedBy : List xA := [.inl (.aload 0), .inl (.iload 1), .inr (.inr (41, [31, 2])), .inr (.inr (12, [6])), .inr (.inl (.int 0)), .inl .ireturn, .inl (.aload 0), .inr (.inr (3, [2, 5])), .inl (.iload 1), .inl .iaload, .inr (.inl (.int 2)), .inr (.inr (22, [14])), .inr (.inl (.int 5)), .inr (.inr (10, [23])), .inl (.aload 0), .inr (.inr (3, [2, 5])), .inl (.iload 1), .inl .iaload, .inr (.inl (.int 1)), .inr (.inr (22, [22])), .inr (.inl (.int 1)), .inr (.inr (10, [23])), .inr (.inl (.int 3)), .inl .ireturn]
def P_X2_raspedBy : List Nat := [0, 1, 2, 5, 8, 9, 10, 11, 14, 15, 16, 17, 20, 21, 24, 25, 28, 29, 30, 31, 34, 35, 38, 39, 40]
def K_X3_init : List xA := [.inl (.aload 0), .inr (.inr (67, [])), .inl .return_]
def P_X3_init : List Nat := [0, 1, 4, 5]
def K_X3_read : List xA := [.inl (.aload 2), .inr (.inr (41, [29, 2])), .inl (.aload 0), .inr (.inl (.int 0)), .inr (.inr (7, [3, 0])), .inl (.aload 0), .inr (.inl (.int 0)), .inr (.inr (7, [3, 1])), .inl (.aload 1), .inr (.inr (41, [114, 10])), .inr (.inl (.int 1)), .inl (.istore 3), .inr (.inl (.int 0)), .inl (.istore 4), .inl (.iload 4), .inr (.inl (.int 1000)), .inr (.inr (24, [37])), .inl (.iload 3), .inr (.inr (11, [37])), .inl (.aload 1), .inr (.inr (41, [115, 10])), .inr (.inr (11, [37])), .inl (.aload 0), .inl (.aload 1), .inl (.aload 2), .inr (.inr (41, [48, 3])), .inr (.inr (11, [33])), .inl (.aload 1), .inr (.inl (.int 59)), .inr (.inr (41, [121, 10])), .inr (.inr (11, [33])), .inr (.inl (.int 1)), .inr (.inr (10, [34])), .inr (.inl (.int 0)), .inl (.istore 3), .inr (.inr (80, [4])), .inr (.inr (10, [14])), .inl (.aload 1), .inr (.inr (1, [10, 6])), .inl .ireturn]
def P_X3_read : List Nat := [0, 1, 4, 5, 6, 9, 10, 11, 14, 15, 18, 19, 20, 21, 23, 25, 28, 31, 32, 35, 36, 39, 42, 43, 44, 45, 48, 51, 52, 54, 57, 60, 61, 64, 65, 66, 69, 72, 73, 76, 77]
def K_X3_readLine : List xA := [.inl (.aload 1), .inr (.inl (.ref 3001)), .inr (.inr (41, [118, 10])), .inr (.inr (11, [9])), .inl (.aload 0), .inl (.aload 1), .inl (.aload 2), .inr (.inr (41, [49, 3])), .inr (.inr (91, [])), .inl (.aload 1), .inr (.inl (.ref 3004)), .inr (.inr (41, [118, 10])), .inr (.inr (11, [18])), .inl (.aload 0), .inl (.aload 1), .inl (.aload 2), .inr (.inr (41, [50, 3])), .inr (.inr (91, [])), .inl (.aload 1), .inr (.inl (.ref 3006)), .inr (.inr (41, [118, 10])), .inr (.inr (11, [27])), .inl (.aload 0), .inl (.aload 1), .inl (.aload 2), .inr (.inr (41, [51, 3])), .inr (.inr (91, [])), .inl (.aload 1), .inr (.inl (.ref 3007)), .inr (.inr (41, [118, 10])), .inr (.inr (11, [36])), .inl (.aload 0), .inl (.aload 1), .inl (.aload 2), .inr (.inr (41, [52, 3])), .inr (.inr (91, [])), .inl (.aload 1), .inr (.inl (.ref 3008)), .inr (.inr (41, [118, 10])), .inr (.inr (12, [44])), .inl (.aload 1), .inr (.inl (.int 1)), .inr (.inr (41, [117, 10])), .inr (.inr (91, [])), .inl (.aload 0), .inr (.inr (1, [3, 1])), .inr (.inr (11, [51])), .inl (.aload 1), .inr (.inl (.int 3)), .inr (.inr (41, [117, 10])), .inr (.inr (91, [])), .inl (.aload 0), .inr (.inl (.int 1)), .inr (.inr (7, [3, 1])), .inl (.aload 1), .inr (.inr (41, [116, 10])), .inl (.aload 2), .inr (.inr (3, [2, 8])), .inl (.aload 1), .inr (.inr (41, [56, 4])), .inr (.inr (91, []))]
def P_X3_readLine : List Nat := [0, 1, 3, 6, 9, 10, 11, 12, 15, 16, 17, 19, 22, 25, 26, 27, 28, 31, 32, 33, 35, 38, 41, 42, 43, 44, 47, 48, 49, 51, 54, 57, 58, 59, 60, 63, 64, 65, 67, 70, 73, 74, 75, 78, 79, 80, 83, 86, 87, 88, 91, 92, 93, 94, 97, 98, 101, 102, 105, 106, 109, 110]
def K_X3_readSeat : List xA := [.inl (.aload 2), .inr (.inr (1, [2, 9])), .inr (.inl (.int 7)), .inr (.inr (23, [8])), .inl (.aload 1), .inr (.inl (.int 5)), .inr (.inr (41, [117, 10])), .inr (.inr (91, [])), .inl (.aload 1), .inr (.inr (41, [116, 10])), .inl (.aload 1), .inl (.aload 2), .inr (.inr (41, [123, 10])), .inr (.inr (12, [16])), .inr (.inl (.int 0)), .inr (.inr (91, [])), .inl (.aload 1), .inr (.inr (2, [10, 5])), .inl (.lstore 3), .inl (.aload 1), .inr (.inr (41, [116, 10])), .inl (.aload 1), .inr (.inl (.ref 3002)), .inr (.inr (41, [120, 10])), .inr (.inr (11, [30])), .inl (.aload 1), .inr (.inl (.int 0)), .inr (.inl (.int 4)), .inr (.inr (41, [122, 10])), .inr (.inr (12, [32])), .inr (.inl (.int 0)), .inr (.inr (91, [])), .inl (.aload 1), .inr (.inr (1, [10, 4])), .inl (.istore 5), .inl (.aload 1), .inr (.inr (41, [116, 10])), .inl (.aload 1), .inr (.inl (.ref 3003)), .inr (.inr (41, [120, 10])), .inr (.inr (11, [46])), .inl (.aload 1), .inr (.inl (.int 0)), .inr (.inl (.int 9)), .inr (.inr (41, [122, 10])), .inr (.inr (12, [48])), .inr (.inl (.int 0)), .inr (.inr (91, [])), .inl (.aload 1), .inr (.inr (1, [10, 4])), .inl (.istore 6), .inl (.aload 2), .inl (.iload 5), .inl (.iload 6), .inr (.inr (41, [35, 2])), .inr (.inr (11, [60])), .inl (.aload 1), .inr (.inl (.int 3)), .inr (.inr (41, [117, 10])), .inr (.inr (91, [])), .inl (.aload 1), .inr (.inr (41, [116, 10])), .inl (.aload 2), .inl (.lload 3), .inl (.iload 5), .inl (.iload 6), .inr (.inr (41, [36, 2])), .inr (.inl (.int 1)), .inr (.inr (91, []))]
def P_X3_readSeat : List Nat := [0, 1, 4, 6, 9, 10, 11, 14, 15, 16, 19, 20, 21, 24, 27, 28, 29, 30, 33, 34, 35, 38, 39, 41, 44, 47, 48, 49, 50, 53, 56, 57, 58, 59, 62, 64, 65, 68, 69, 71, 74, 77, 78, 79, 81, 84, 87, 88, 89, 90, 93, 95, 96, 98, 100, 103, 106, 107, 108, 111, 112, 113, 116, 117, 118, 120, 122, 125, 126, 127]
def K_X3_readPerson : List xA := [.inl (.aload 2), .inr (.inr (1, [2, 10])), .inr (.inl (.int 5)), .inr (.inr (23, [8])), .inl (.aload 1), .inr (.inl (.int 5)), .inr (.inr (41, [117, 10])), .inr (.inr (91, [])), .inl (.aload 1), .inr (.inr (41, [116, 10])), .inl (.aload 1), .inl (.aload 2), .inr (.inr (41, [123, 10])), .inr (.inr (12, [16])), .inr (.inl (.int 0)), .inr (.inr (91, [])), .inl (.aload 1), .inr (.inr (2, [10, 5])), .inl (.lstore 3), .inl (.aload 1), .inr (.inr (41, [116, 10])), .inl (.aload 1), .inr (.inr (41, [127, 10])), .inl (.istore 5), .inl (.iload 5), .inr (.inl (.int (-1))), .inr (.inr (22, [31])), .inl (.aload 1), .inr (.inl (.int 1)), .inr (.inr (41, [117, 10])), .inr (.inr (91, [])), .inl (.aload 1), .inr (.inr (41, [116, 10])), .inl (.aload 1), .inr (.inl (.ref 3005)), .inr (.inr (41, [120, 10])), .inr (.inr (11, [42])), .inl (.aload 1), .inr (.inl (.int 0)), .inr (.inl (.int 9)), .inr (.inr (41, [122, 10])), .inr (.inr (12, [44])), .inr (.inl (.int 0)), .inr (.inr (91, [])), .inl (.aload 2), .inl (.lload 3), .inl (.iload 5), .inl (.aload 1), .inr (.inr (1, [10, 4])), .inr (.inr (41, [37, 2])), .inl (.aload 1), .inr (.inr (41, [116, 10])), .inr (.inl (.int 1)), .inr (.inr (91, []))]
def P_X3_readPerson : List Nat := [0, 1, 4, 5, 8, 9, 10, 13, 14, 15, 18, 19, 20, 23, 26, 27, 28, 29, 32, 33, 34, 37, 38, 41, 43, 45, 46, 49, 50, 51, 54, 55, 56, 59, 60, 62, 65, 68, 69, 70, 72, 75, 78, 79, 80, 81, 82, 84, 85, 88, 91, 92, 95, 96, 97]
def K_X3_readFoe : List xA := [.inl (.aload 1), .inr (.inr (41, [116, 10])), .inl (.aload 1), .inl (.aload 2), .inr (.inr (41, [124, 10])), .inr (.inr (12, [8])), .inr (.inl (.int 0)), .inr (.inr (91, [])), .inl (.aload 2), .inl (.aload 1), .inr (.inr (2, [10, 5])), .inr (.inr (41, [34, 2])), .inl (.istore 3), .inl (.aload 1), .inr (.inr (41, [116, 10])), .inl (.aload 1), .inl (.aload 2), .inr (.inr (41, [124, 10])), .inr (.inr (12, [21])), .inr (.inl (.int 0)), .inr (.inr (91, [])), .inl (.aload 2), .inl (.aload 1), .inr (.inr (2, [10, 5])), .inr (.inr (41, [34, 2])), .inl (.istore 4), .inl (.iload 3), .inl (.iload 4), .inr (.inr (21, [37])), .inl (.aload 2), .inl (.iload 3), .inr (.inr (41, [42, 2])), .inl (.iload 4), .inl .ishr, .inr (.inl (.int 1)), .inl .iand, .inr (.inr (11, [41])), .inl (.aload 1), .inr (.inl (.int 3)), .inr (.inr (41, [117, 10])), .inr (.inr (91, [])), .inl (.aload 1), .inr (.inr (41, [116, 10])), .inl (.aload 2), .inl (.iload 3), .inl (.iload 4), .inr (.inr (41, [38, 2])), .inr (.inl (.int 1)), .inr (.inr (91, []))]
def P_X3_readFoe : List Nat := [0, 1, 4, 5, 6, 9, 12, 13, 14, 15, 16, 19, 22, 23, 24, 27, 28, 29, 32, 35, 36, 37, 38, 39, 42, 45, 47, 48, 50, 53, 54, 55, 58, 60, 61, 62, 63, 66, 67, 68, 71, 72, 73, 76, 77, 78, 80, 83, 84, 85]
def K_X3_readLasts : List xA := [.inl (.aload 0), .inr (.inr (1, [3, 0])), .inr (.inr (11, [7])), .inl (.aload 1), .inr (.inl (.int 3)), .inr (.inr (41, [117, 10])), .inr (.inr (91, [])), .inl (.aload 0), .inr (.inl (.int 1)), .inr (.inr (7, [3, 0])), .inl (.aload 1), .inr (.inr (41, [116, 10])), .inl (.aload 1), .inr (.inl (.int 1)), .inr (.inl (.int 30)), .inr (.inr (41, [122, 10])), .inr (.inr (12, [19])), .inr (.inl (.int 0)), .inr (.inr (91, [])), .inl (.aload 2), .inl (.aload 1), .inr (.inr (1, [10, 4])), .inr (.inr (4, [2, 11])), .inl (.aload 1), .inr (.inr (41, [116, 10])), .inr (.inl (.int 1)), .inr (.inr (91, []))]
def P_X3_readLasts : List Nat := [0, 1, 4, 7, 8, 9, 12, 13, 14, 15, 18, 19, 22, 23, 24, 26, 29, 32, 33, 34, 35, 36, 39, 42, 43, 46, 47, 48]
def K_X4_init : List xA := [.inl (.aload 0), .inr (.inr (67, [])), .inl (.aload 0), .inr (.inl (.int 1000)), .inr (.inr (51, [0])), .inr (.inr (6, [4, 0])), .inl (.aload 0), .inr (.inl (.int 32)), .inr (.inr (51, [0])), .inr (.inr (6, [4, 1])), .inl .return_]
def P_X4_init : List Nat := [0, 1, 4, 5, 8, 10, 13, 14, 16, 18, 21, 22]
def K_X4_clear : List xA := [.inl (.aload 0), .inr (.inl (.int 0)), .inr (.inr (4, [4, 2])), .inl .return_]
def P_X4_clear : List Nat := [0, 1, 2, 5, 6]
def K_X4_add : List xA := [.inl (.aload 0), .inr (.inr (1, [4, 2])), .inl (.aload 0), .inr (.inr (3, [4, 0])), .inl .arraylength, .inr (.inr (24, [18])), .inl (.aload 0), .inr (.inr (3, [4, 0])), .inl (.aload 0), .inr (.inr (1, [4, 2])), .inl (.iload 1), .inl .iastore, .inl (.aload 0), .inl .dup, .inr (.inr (1, [4, 2])), .inr (.inl (.int 1)), .inl .iadd, .inr (.inr (4, [4, 2])), .inl .return_]
def P_X4_add : List Nat := [0, 1, 4, 5, 8, 9, 12, 13, 16, 17, 20, 21, 22, 23, 24, 27, 28, 29, 32, 33]
def K_X4_read : List xA := [.inl (.aload 0), .inr (.inl (.int 0)), .inr (.inr (4, [4, 2])), .inl (.aload 0), .inl (.aload 1), .inr (.inl (.int 0)), .inr (.inr (41, [57, 4])), .inr (.inr (91, []))]
def P_X4_read : List Nat := [0, 1, 2, 5, 6, 7, 8, 11, 12]
def K_X4_readChoice : List xA := [.inl (.aload 0), .inl (.aload 1), .inl (.iload 2), .inr (.inr (41, [58, 4])), .inl (.istore 3), .inr (.inl (.int 0)), .inl (.istore 4), .inl (.iload 4), .inr (.inl (.int 1000)), .inr (.inr (24, [40])), .inl (.iload 3), .inr (.inr (11, [40])), .inl (.aload 1), .inr (.inl (.ref 3019)), .inr (.inr (41, [118, 10])), .inr (.inr (12, [20])), .inl (.aload 1), .inr (.inl (.ref 3020)), .inr (.inr (41, [118, 10])), .inr (.inr (11, [40])), .inl (.aload 1), .inr (.inl (.ref 3019)), .inr (.inr (41, [118, 10])), .inr (.inr (11, [26])), .inr (.inl (.int (-6))), .inr (.inr (10, [27])), .inr (.inl (.int (-7))), .inl (.istore 5), .inl (.aload 1), .inr (.inr (41, [116, 10])), .inl (.aload 0), .inl (.aload 1), .inl (.iload 2), .inr (.inr (41, [58, 4])), .inl (.istore 3), .inl (.aload 0), .inl (.iload 5), .inr (.inr (41, [55, 4])), .inr (.inr (80, [4])), .inr (.inr (10, [7])), .inl (.iload 3), .inr (.inr (91, []))]
def P_X4_readChoice : List Nat := [0, 1, 2, 3, 6, 7, 8, 10, 12, 15, 18, 19, 22, 23, 25, 28, 31, 32, 34, 37, 40, 41, 43, 46, 49, 51, 54, 56, 58, 59, 62, 63, 64, 65, 68, 69, 70, 72, 75, 78, 81, 82, 83]
def K_X4_readTest : List xA := [.inl (.aload 0), .inl (.aload 1), .inl (.iload 2), .inr (.inr (41, [59, 4])), .inl (.istore 3), .inl (.iload 3), .inr (.inr (11, [33])), .inl (.aload 1), .inr (.inl (.int 60)), .inr (.inr (41, [119, 10])), .inr (.inr (12, [15])), .inl (.aload 1), .inr (.inl (.int 61)), .inr (.inr (41, [119, 10])), .inr (.inr (11, [33])), .inl (.aload 1), .inr (.inl (.int 60)), .inr (.inr (41, [119, 10])), .inr (.inr (11, [21])), .inr (.inl (.int (-8))), .inr (.inr (10, [22])), .inr (.inl (.int (-9))), .inl (.istore 4), .inl (.aload 1), .inr (.inr (41, [116, 10])), .inl (.aload 0), .inl (.aload 1), .inl (.iload 2), .inr (.inr (41, [59, 4])), .inl (.istore 3), .inl (.aload 0), .inl (.iload 4), .inr (.inr (41, [55, 4])), .inl (.iload 3), .inr (.inr (91, []))]
def P_X4_readTest : List Nat := [0, 1, 2, 3, 6, 7, 8, 11, 12, 14, 17, 20, 21, 23, 26, 29, 30, 32, 35, 38, 40, 43, 45, 47, 48, 51, 52, 53, 54, 57, 58, 59, 61, 64, 65, 66]
def K_X4_readSum : List xA := [.inl (.aload 0), .inl (.aload 1), .inl (.iload 2), .inr (.inr (41, [60, 4])), .inl (.istore 3), .inr (.inl (.int 0)), .inl (.istore 4), .inl (.iload 4), .inr (.inl (.int 1000)), .inr (.inr (24, [40])), .inl (.iload 3), .inr (.inr (11, [40])), .inl (.aload 1), .inr (.inl (.int 43)), .inr (.inr (41, [119, 10])), .inr (.inr (12, [20])), .inl (.aload 1), .inr (.inl (.int 45)), .inr (.inr (41, [119, 10])), .inr (.inr (11, [40])), .inl (.aload 1), .inr (.inl (.int 43)), .inr (.inr (41, [119, 10])), .inr (.inr (11, [26])), .inr (.inl (.int (-10))), .inr (.inr (10, [27])), .inr (.inl (.int (-11))), .inl (.istore 5), .inl (.aload 1), .inr (.inr (41, [116, 10])), .inl (.aload 0), .inl (.aload 1), .inl (.iload 2), .inr (.inr (41, [60, 4])), .inl (.istore 3), .inl (.aload 0), .inl (.iload 5), .inr (.inr (41, [55, 4])), .inr (.inr (80, [4])), .inr (.inr (10, [7])), .inl (.iload 3), .inr (.inr (91, []))]
def P_X4_readSum : List Nat := [0, 1, 2, 3, 6, 7, 8, 10, 12, 15, 18, 19, 22, 23, 25, 28, 31, 32, 34, 37, 40, 41, 43, 46, 49, 51, 54, 56, 58, 59, 62, 63, 64, 65, 68, 69, 70, 72, 75, 78, 81, 82, 83]
def K_X4_readProduct : List xA := [.inl (.aload 0), .inl (.aload 1), .inl (.iload 2), .inr (.inr (41, [61, 4])), .inl (.istore 3), .inr (.inl (.int 0)), .inl (.istore 4), .inl (.iload 4), .inr (.inl (.int 1000)), .inr (.inr (24, [28])), .inl (.iload 3), .inr (.inr (11, [28])), .inl (.aload 1), .inr (.inl (.int 42)), .inr (.inr (41, [119, 10])), .inr (.inr (11, [28])), .inl (.aload 1), .inr (.inr (41, [116, 10])), .inl (.aload 0), .inl (.aload 1), .inl (.iload 2), .inr (.inr (41, [61, 4])), .inl (.istore 3), .inl (.aload 0), .inr (.inl (.int (-12))), .inr (.inr (41, [55, 4])), .inr (.inr (80, [4])), .inr (.inr (10, [7])), .inl (.iload 3), .inr (.inr (91, []))]
def P_X4_readProduct : List Nat := [0, 1, 2, 3, 6, 7, 8, 10, 12, 15, 18, 19, 22, 23, 25, 28, 31, 32, 35, 36, 37, 38, 41, 42, 43, 45, 48, 51, 54, 55, 56]
def K_X4_readPart : List xA := [.inl (.aload 1), .inl (.iload 2), .inr (.inr (40, [62])), .inl (.istore 3), .inl (.aload 0), .inl (.aload 1), .inl (.iload 2), .inl (.iload 3), .inl .iadd, .inr (.inr (41, [63, 4])), .inl (.istore 4), .inr (.inl (.int 0)), .inl (.istore 5), .inl (.iload 5), .inl (.iload 3), .inr (.inr (24, [21])), .inl (.aload 0), .inr (.inl (.int (-5))), .inr (.inr (41, [55, 4])), .inr (.inr (80, [5])), .inr (.inr (10, [13])), .inl (.iload 4), .inr (.inr (91, []))]
def P_X4_readPart : List Nat := [0, 1, 2, 5, 6, 7, 8, 9, 10, 11, 14, 16, 17, 19, 21, 22, 25, 26, 28, 31, 34, 37, 39, 40]
def K_X4_stepOverNots : List xA := [.inr (.inl (.int 0)), .inl (.istore 2), .inl (.iload 1), .inl (.iload 2), .inl .iadd, .inr (.inl (.int 5)), .inr (.inr (24, [15])), .inl (.aload 0), .inr (.inl (.ref 3018)), .inr (.inr (41, [118, 10])), .inr (.inr (11, [15])), .inl (.aload 0), .inr (.inr (41, [116, 10])), .inr (.inr (80, [2])), .inr (.inr (10, [2])), .inl (.iload 2), .inl .ireturn]
def P_X4_stepOverNots : List Nat := [0, 1, 2, 3, 4, 5, 6, 9, 10, 12, 15, 18, 19, 22, 25, 28, 29, 30]
def K_X4_readBarePart : List xA := [.inl (.aload 1), .inr (.inl (.int 40)), .inr (.inr (41, [119, 10])), .inl (.istore 3), .inl (.aload 1), .inr (.inr (40, [64])), .inl (.istore 4), .inl (.iload 3), .inr (.inr (12, [20])), .inl (.iload 4), .inr (.inl (.int (-5))), .inr (.inr (22, [20])), .inl (.aload 1), .inr (.inl (.ref 3018)), .inr (.inr (41, [118, 10])), .inr (.inr (12, [20])), .inl (.aload 1), .inr (.inl (.int 1)), .inr (.inr (41, [117, 10])), .inr (.inr (91, [])), .inl (.iload 2), .inr (.inl (.int 5)), .inr (.inr (23, [27])), .inl (.aload 1), .inr (.inl (.int 5)), .inr (.inr (41, [117, 10])), .inr (.inr (91, [])), .inl (.aload 1), .inr (.inr (41, [116, 10])), .inl (.iload 3), .inr (.inr (11, [46])), .inl (.aload 0), .inl (.aload 1), .inl (.iload 2), .inr (.inl (.int 1)), .inl .iadd, .inr (.inr (41, [57, 4])), .inr (.inr (11, [44])), .inl (.aload 1), .inr (.inl (.int 41)), .inr (.inr (41, [121, 10])), .inr (.inr (11, [44])), .inr (.inl (.int 1)), .inr (.inr (10, [45])), .inr (.inl (.int 0)), .inr (.inr (91, [])), .inl (.aload 0), .inl (.iload 4), .inr (.inr (41, [55, 4])), .inr (.inl (.int 1)), .inr (.inr (91, []))]
def P_X4_readBarePart : List Nat := [0, 1, 3, 6, 7, 8, 11, 13, 14, 17, 19, 21, 24, 25, 27, 30, 33, 34, 35, 38, 39, 40, 41, 44, 45, 46, 49, 50, 51, 54, 55, 58, 59, 60, 61, 62, 63, 66, 69, 70, 72, 75, 78, 79, 82, 83, 84, 85, 87, 90, 91, 92]
def K_X4_operandOf : List xA := [.inl (.aload 0), .inr (.inr (1, [10, 1])), .inr (.inl (.int 3)), .inr (.inr (22, [7])), .inl (.aload 0), .inr (.inr (1, [10, 4])), .inl .ireturn, .inl (.aload 0), .inr (.inl (.ref 3021)), .inr (.inr (41, [118, 10])), .inr (.inr (11, [13])), .inr (.inl (.int (-1))), .inr (.inr (10, [32])), .inl (.aload 0), .inr (.inl (.ref 3022)), .inr (.inr (41, [118, 10])), .inr (.inr (11, [19])), .inr (.inl (.int (-2))), .inr (.inr (10, [32])), .inl (.aload 0), .inr (.inl (.ref 3023)), .inr (.inr (41, [118, 10])), .inr (.inr (11, [25])), .inr (.inl (.int (-3))), .inr (.inr (10, [32])), .inl (.aload 0), .inr (.inl (.ref 3024)), .inr (.inr (41, [118, 10])), .inr (.inr (11, [31])), .inr (.inl (.int (-4))), .inr (.inr (10, [32])), .inr (.inl (.int (-5))), .inl .ireturn]
def P_X4_operandOf : List Nat := [0, 1, 4, 5, 8, 9, 12, 13, 14, 16, 19, 22, 23, 26, 27, 29, 32, 35, 37, 40, 41, 43, 46, 49, 51, 54, 55, 57, 60, 63, 65, 68, 70, 71]
def K_X4_wear : List xA := [.inl (.aload 0), .inr (.inr (1, [4, 2])), .inr (.inr (12, [5])), .inr (.inl (.int 1)), .inl .ireturn, .inr (.inl (.int 0)), .inl (.istore 5), .inr (.inl (.int 0)), .inl (.istore 6), .inl (.iload 6), .inl (.aload 0), .inr (.inr (1, [4, 2])), .inr (.inr (24, [90])), .inl (.iload 6), .inl (.aload 0), .inr (.inr (3, [4, 0])), .inl .arraylength, .inr (.inr (24, [90])), .inl (.aload 0), .inr (.inr (3, [4, 0])), .inl (.iload 6), .inl .iaload, .inl (.istore 7), .inl (.iload 7), .inr (.inl (.int (-5))), .inr (.inr (26, [43])), .inl (.iload 5), .inl (.aload 0), .inr (.inr (3, [4, 1])), .inl .arraylength, .inr (.inr (24, [88])), .inl (.aload 0), .inr (.inr (3, [4, 1])), .inl (.iload 5), .inl (.iload 7), .inl (.iload 1), .inl (.iload 2), .inl (.iload 3), .inl (.iload 4), .inr (.inr (40, [66])), .inl .iastore, .inr (.inr (80, [5])), .inr (.inr (10, [88])), .inl (.iload 7), .inr (.inl (.int (-5))), .inr (.inr (22, [66])), .inl (.iload 5), .inr (.inl (.int 1)), .inr (.inr (23, [88])), .inl (.aload 0), .inr (.inr (3, [4, 1])), .inl (.iload 5), .inr (.inl (.int 1)), .inl .isub, .inl (.aload 0), .inr (.inr (3, [4, 1])), .inl (.iload 5), .inr (.inl (.int 1)), .inl .isub, .inl .iaload, .inr (.inr (12, [63])), .inr (.inl (.int 1)), .inr (.inr (10, [64])), .inr (.inl (.int 0)), .inl .iastore, .inr (.inr (10, [88])), .inl (.iload 5), .inr (.inl (.int 2)), .inr (.inr (23, [88])), .inr (.inr (81, [5])), .inl (.aload 0), .inr (.inr (3, [4, 1])), .inl (.iload 5), .inr (.inl (.int 1)), .inl .isub, .inl (.iload 7), .inl (.aload 0), .inr (.inr (3, [4, 1])), .inl (.iload 5), .inr (.inl (.int 1)), .inl .isub, .inl .iaload, .inl (.aload 0), .inr (.inr (3, [4, 1])), .inl (.iload 5), .inl .iaload, .inr (.inr (40, [67])), .inl .iastore, .inr (.inr (80, [6])), .inr (.inr (10, [9])), .inr (.inl (.int 0)), .inr (.inl (.int 9)), .inl (.aload 0), .inr (.inr (3, [4, 1])), .inr (.inl (.int 0)), .inl .iaload, .inr (.inr (61, [])), .inr (.inr (60, [])), .inl .ireturn]
def P_X4_wear : List Nat := [0, 1, 4, 7, 8, 9, 10, 12, 13, 15, 17, 18, 21, 24, 26, 27, 30, 31, 34, 35, 38, 40, 41, 43, 45, 47, 50, 52, 53, 56, 57, 60, 61, 64, 66, 68, 69, 70, 71, 73, 76, 77, 80, 83, 85, 87, 90, 92, 93, 96, 97, 100, 102, 103, 104, 105, 108, 110, 111, 112, 113, 116, 117, 120, 121, 122, 125, 127, 128, 131, 134, 135, 138, 140, 141, 142, 144, 145, 148, 150, 151, 152, 153, 154, 157, 159, 160, 163, 164, 167, 170, 171, 173, 174, 177, 178, 179, 182, 185, 186]
def K_X4_operandValue : List xA := [.inl (.iload 0), .inr (.inr (27, [96, 10, 8, 6, 4, 2])), .inl (.iload 1), .inl .ireturn, .inl (.iload 2), .inl .ireturn, .inl (.iload 3), .inl .ireturn, .inl (.iload 4), .inl .ireturn, .inl (.iload 0), .inl .ireturn]
def P_X4_operandValue : List Nat := [0, 1, 32, 33, 34, 35, 36, 37, 38, 40, 41, 42, 43]
def K_X4_joined : List xA := [.inl (.iload 0), .inr (.inr (27, [89, 40, 36, 32, 25, 18, 10, 2])), .inl (.iload 1), .inr (.inr (11, [8])), .inl (.iload 2), .inr (.inr (11, [8])), .inr (.inl (.int 1)), .inr (.inr (10, [9])), .inr (.inl (.int 0)), .inl .ireturn, .inl (.iload 1), .inr (.inr (12, [14])), .inl (.iload 2), .inr (.inr (11, [16])), .inr (.inl (.int 1)), .inr (.inr (10, [17])), .inr (.inl (.int 0)), .inl .ireturn, .inl (.iload 1), .inl (.iload 2), .inr (.inr (24, [23])), .inr (.inl (.int 1)), .inr (.inr (10, [24])), .inr (.inl (.int 0)), .inl .ireturn, .inl (.iload 1), .inl (.iload 2), .inr (.inr (22, [30])), .inr (.inl (.int 1)), .inr (.inr (10, [31])), .inr (.inl (.int 0)), .inl .ireturn, .inl (.iload 1), .inl (.iload 2), .inl .iadd, .inl .ireturn, .inl (.iload 1), .inl (.iload 2), .inl .isub, .inl .ireturn, .inl (.iload 1), .inl (.iload 2), .inl .imul, .inl .ireturn]
def P_X4_joined : List Nat := [0, 1, 40, 41, 44, 45, 48, 49, 52, 53, 54, 55, 58, 59, 62, 63, 66, 67, 68, 69, 70, 73, 74, 77, 78, 79, 80, 81, 84, 85, 88, 89, 90, 91, 92, 93, 94, 95, 96, 97, 98, 99, 100, 101, 102]
def K_X5_init : List xA := [.inl (.aload 0), .inr (.inr (67, [])), .inl (.aload 0), .inr (.inl (.int 16)), .inr (.inr (52, [4])), .inr (.inr (6, [5, 0])), .inl (.aload 0), .inr (.inl (.int 4)), .inr (.inr (52, [4])), .inr (.inr (6, [5, 1])), .inl (.aload 0), .inr (.inl (.int 4)), .inr (.inr (52, [5])), .inr (.inr (6, [5, 2])), .inl (.aload 0), .inr (.inl (.int 4)), .inr (.inr (51, [3])), .inr (.inr (6, [5, 3])), .inr (.inl (.int 0)), .inl (.istore 1), .inl (.iload 1), .inr (.inl (.int 16)), .inr (.inr (24, [32])), .inl (.aload 0), .inr (.inr (3, [5, 0])), .inl (.iload 1), .inr (.inr (50, [6])), .inl .dup, .inr (.inr (41, [74, 6])), .inl .aastore, .inr (.inr (80, [1])), .inr (.inr (10, [20])), .inr (.inl (.int 0)), .inl (.istore 1), .inl (.iload 1), .inr (.inl (.int 4)), .inr (.inr (24, [53])), .inl (.aload 0), .inr (.inr (3, [5, 1])), .inl (.iload 1), .inr (.inr (50, [6])), .inl .dup, .inr (.inr (41, [74, 6])), .inl .aastore, .inl (.aload 0), .inr (.inr (3, [5, 2])), .inl (.iload 1), .inr (.inr (50, [7])), .inl .dup, .inr (.inr (41, [98, 7])), .inl .aastore, .inr (.inr (80, [1])), .inr (.inr (10, [34])), .inl .return_]
def P_X5_init : List Nat := [0, 1, 4, 5, 7, 10, 13, 14, 15, 18, 21, 22, 23, 26, 29, 30, 31, 33, 36, 37, 38, 39, 41, 44, 45, 48, 49, 52, 53, 56, 57, 60, 63, 64, 65, 66, 67, 70, 71, 74, 75, 78, 79, 82, 83, 84, 87, 88, 91, 92, 95, 96, 99, 102, 103]
def K_X5_forget : List xA := [.inl (.aload 0), .inr (.inl (.int 0)), .inr (.inr (4, [5, 5])), .inr (.inl (.int 0)), .inl (.istore 1), .inl (.iload 1), .inr (.inl (.int 4)), .inr (.inr (24, [15])), .inl (.aload 0), .inr (.inr (3, [5, 3])), .inl (.iload 1), .inr (.inl (.int 0)), .inl .bastore, .inr (.inr (80, [1])), .inr (.inr (10, [5])), .inl .return_]
def P_X5_forget : List Nat := [0, 1, 2, 5, 6, 7, 8, 9, 12, 13, 16, 17, 18, 19, 22, 25, 26]
def K_X5_keep : List xA := [.inl (.aload 0), .inr (.inr (1, [5, 4])), .inr (.inr (13, [7])), .inl (.aload 0), .inr (.inr (1, [5, 4])), .inr (.inl (.int 16)), .inr (.inr (23, [8])), .inl .return_, .inl (.aload 0), .inr (.inr (3, [5, 0])), .inl (.aload 0), .inr (.inr (1, [5, 4])), .inl .aaload, .inl (.aload 1), .inr (.inr (41, [76, 6])), .inl (.aload 0), .inl (.aload 0), .inr (.inr (1, [5, 4])), .inr (.inl (.int 1)), .inl .iadd, .inr (.inl (.int 16)), .inr (.inr (22, [24])), .inr (.inl (.int 0)), .inr (.inr (10, [28])), .inl (.aload 0), .inr (.inr (1, [5, 4])), .inr (.inl (.int 1)), .inl .iadd, .inr (.inr (4, [5, 4])), .inl (.aload 0), .inr (.inl (.int 16)), .inl (.aload 0), .inr (.inr (1, [5, 5])), .inr (.inl (.int 1)), .inl .iadd, .inr (.inr (61, [])), .inr (.inr (4, [5, 5])), .inl .return_]
def P_X5_keep : List Nat := [0, 1, 4, 7, 8, 11, 13, 16, 17, 18, 21, 22, 25, 26, 27, 30, 31, 32, 35, 36, 37, 39, 42, 43, 46, 47, 50, 51, 52, 55, 56, 58, 59, 62, 63, 64, 67, 70, 71]
def K_X5_undoInto : List xA := [.inl (.aload 0), .inr (.inr (1, [5, 5])), .inr (.inr (12, [5])), .inr (.inl (.int 0)), .inr (.inr (91, [])), .inl (.aload 0), .inl (.aload 0), .inr (.inr (1, [5, 4])), .inr (.inr (12, [11])), .inr (.inl (.int 15)), .inr (.inr (10, [15])), .inl (.aload 0), .inr (.inr (1, [5, 4])), .inr (.inl (.int 1)), .inl .isub, .inr (.inr (4, [5, 4])), .inl (.aload 0), .inl .dup, .inr (.inr (1, [5, 5])), .inr (.inl (.int 1)), .inl .isub, .inr (.inr (4, [5, 5])), .inl (.aload 0), .inr (.inr (1, [5, 4])), .inr (.inr (13, [36])), .inl (.aload 0), .inr (.inr (1, [5, 4])), .inr (.inl (.int 16)), .inr (.inr (24, [36])), .inl (.aload 1), .inl (.aload 0), .inr (.inr (3, [5, 0])), .inl (.aload 0), .inr (.inr (1, [5, 4])), .inl .aaload, .inr (.inr (41, [76, 6])), .inr (.inl (.int 1)), .inr (.inr (91, []))]
def P_X5_undoInto : List Nat := [0, 1, 4, 7, 8, 9, 10, 11, 14, 17, 19, 22, 23, 26, 27, 28, 31, 32, 33, 36, 37, 38, 41, 42, 45, 48, 49, 52, 54, 57, 58, 59, 62, 63, 66, 67, 70, 71, 72]
def K_X5_layMark : List xA := [.inl (.iload 1), .inr (.inr (13, [22])), .inl (.iload 1), .inr (.inl (.int 4)), .inr (.inr (24, [22])), .inl (.aload 0), .inr (.inr (3, [5, 1])), .inl (.iload 1), .inl .aaload, .inl (.aload 2), .inr (.inr (41, [76, 6])), .inl (.aload 0), .inr (.inr (3, [5, 2])), .inl (.iload 1), .inl .aaload, .inl (.aload 3), .inr (.inr (41, [100, 7])), .inl (.aload 0), .inr (.inr (3, [5, 3])), .inl (.iload 1), .inr (.inl (.int 1)), .inl .bastore, .inl .return_]
def P_X5_layMark : List Nat := [0, 1, 4, 5, 6, 9, 10, 13, 14, 15, 16, 19, 20, 23, 24, 25, 26, 29, 30, 33, 34, 35, 36, 37]
def K_X5_goBackTo : List xA := [.inl (.iload 1), .inr (.inr (13, [10])), .inl (.iload 1), .inr (.inl (.int 4)), .inr (.inr (24, [10])), .inl (.aload 0), .inr (.inr (3, [5, 3])), .inl (.iload 1), .inl .baload, .inr (.inr (12, [12])), .inr (.inl (.int 0)), .inr (.inr (91, [])), .inl (.aload 2), .inl (.aload 0), .inr (.inr (3, [5, 1])), .inl (.iload 1), .inl .aaload, .inr (.inr (41, [76, 6])), .inl (.aload 3), .inl (.aload 0), .inr (.inr (3, [5, 2])), .inl (.iload 1), .inl .aaload, .inr (.inr (41, [100, 7])), .inl (.aload 0), .inr (.inl (.int 0)), .inr (.inr (4, [5, 5])), .inr (.inl (.int 1)), .inr (.inr (91, []))]
def P_X5_goBackTo : List Nat := [0, 1, 4, 5, 6, 9, 10, 13, 14, 15, 18, 19, 20, 21, 22, 25, 26, 27, 30, 31, 32, 35, 36, 37, 40, 41, 42, 45, 46, 47]
def K_X6_init : List xA := [.inl (.aload 0), .inr (.inr (67, [])), .inl (.aload 0), .inr (.inl (.int 7)), .inr (.inr (51, [0])), .inr (.inr (6, [6, 0])), .inl (.aload 0), .inr (.inl (.int 7)), .inr (.inr (51, [0])), .inr (.inr (6, [6, 1])), .inl (.aload 0), .inr (.inl (.int 7)), .inr (.inr (51, [0])), .inr (.inr (6, [6, 2])), .inl (.aload 0), .inr (.inl (.int 5)), .inr (.inr (51, [0])), .inr (.inr (6, [6, 3])), .inl (.aload 0), .inr (.inl (.int 5)), .inr (.inr (51, [0])), .inr (.inr (6, [6, 4])), .inl (.aload 0), .inr (.inl (.int 7)), .inr (.inr (51, [0])), .inr (.inr (6, [6, 6])), .inl (.aload 0), .inr (.inr (3, [6, 0])), .inr (.inl (.int (-1))), .inr (.inr (40, [1])), .inl (.aload 0), .inr (.inr (3, [6, 2])), .inr (.inl (.int (-1))), .inr (.inr (40, [1])), .inl (.aload 0), .inr (.inr (3, [6, 4])), .inr (.inl (.int (-1))), .inr (.inr (40, [1])), .inl .return_]
def P_X6_init : List Nat := [0, 1, 4, 5, 7, 9, 12, 13, 15, 17, 20, 21, 23, 25, 28, 29, 30, 32, 35, 36, 37, 39, 42, 43, 45, 47, 50, 51, 54, 55, 58, 59, 62, 63, 66, 67, 70, 71, 74, 75]
def K_X6_begin : List xA := [.inl (.aload 0), .inr (.inr (3, [6, 0])), .inr (.inl (.int (-1))), .inr (.inr (40, [1])), .inl (.aload 0), .inr (.inr (3, [6, 1])), .inr (.inl (.int 0)), .inr (.inr (40, [1])), .inl (.aload 0), .inr (.inr (3, [6, 2])), .inr (.inl (.int (-1))), .inr (.inr (40, [1])), .inl (.aload 0), .inr (.inr (3, [6, 4])), .inr (.inl (.int (-1))), .inr (.inr (40, [1])), .inr (.inl (.int 0)), .inl (.istore 2), .inl (.iload 2), .inr (.inl (.int 5)), .inr (.inr (24, [37])), .inl (.aload 0), .inr (.inr (3, [6, 3])), .inl (.iload 2), .inl (.iload 2), .inl (.aload 1), .inr (.inr (1, [2, 10])), .inr (.inr (24, [33])), .inl (.aload 1), .inr (.inr (3, [2, 6])), .inl (.iload 2), .inl .iaload, .inr (.inr (10, [34])), .inr (.inl (.int 0)), .inl .iastore, .inr (.inr (80, [2])), .inr (.inr (10, [18])), .inl (.aload 0), .inr (.inl (.int 0)), .inr (.inr (4, [6, 5])), .inl .return_]
def P_X6_begin : List Nat := [0, 1, 4, 5, 8, 9, 12, 13, 16, 17, 20, 21, 24, 25, 28, 29, 32, 33, 34, 35, 36, 39, 40, 43, 44, 45, 46, 49, 52, 53, 56, 57, 58, 61, 62, 63, 66, 69, 70, 71, 74, 75]
def K_X6_copy : List xA := [.inr (.inl (.int 0)), .inl (.istore 2), .inl (.iload 2), .inr (.inl (.int 7)), .inr (.inr (24, [31])), .inl (.aload 0), .inr (.inr (3, [6, 0])), .inl (.iload 2), .inl (.aload 1), .inr (.inr (3, [6, 0])), .inl (.iload 2), .inl .iaload, .inl .iastore, .inl (.aload 0), .inr (.inr (3, [6, 1])), .inl (.iload 2), .inl (.aload 1), .inr (.inr (3, [6, 1])), .inl (.iload 2), .inl .iaload, .inl .iastore, .inl (.aload 0), .inr (.inr (3, [6, 2])), .inl (.iload 2), .inl (.aload 1), .inr (.inr (3, [6, 2])), .inl (.iload 2), .inl .iaload, .inl .iastore, .inr (.inr (80, [2])), .inr (.inr (10, [2])), .inr (.inl (.int 0)), .inl (.istore 2), .inl (.iload 2), .inr (.inl (.int 5)), .inr (.inr (24, [54])), .inl (.aload 0), .inr (.inr (3, [6, 3])), .inl (.iload 2), .inl (.aload 1), .inr (.inr (3, [6, 3])), .inl (.iload 2), .inl .iaload, .inl .iastore, .inl (.aload 0), .inr (.inr (3, [6, 4])), .inl (.iload 2), .inl (.aload 1), .inr (.inr (3, [6, 4])), .inl (.iload 2), .inl .iaload, .inl .iastore, .inr (.inr (80, [2])), .inr (.inr (10, [33])), .inl (.aload 0), .inl (.aload 1), .inr (.inr (1, [6, 5])), .inr (.inr (4, [6, 5])), .inl .return_]
def P_X6_copy : List Nat := [0, 1, 2, 3, 5, 8, 9, 12, 13, 14, 17, 18, 19, 20, 21, 24, 25, 26, 29, 30, 31, 32, 33, 36, 37, 38, 41, 42, 43, 44, 47, 50, 51, 52, 53, 54, 57, 58, 61, 62, 63, 66, 67, 68, 69, 70, 73, 74, 75, 78, 79, 80, 81, 84, 87, 88, 89, 92, 95, 96]
def K_X6_isHeld : List xA := [.inl (.iload 1), .inr (.inr (13, [13])), .inl (.iload 1), .inr (.inl (.int 7)), .inr (.inr (24, [13])), .inl (.aload 0), .inr (.inr (3, [6, 0])), .inl (.iload 1), .inl .iaload, .inr (.inl (.int (-1))), .inr (.inr (21, [13])), .inr (.inl (.int 1)), .inr (.inr (10, [14])), .inr (.inl (.int 0)), .inr (.inr (91, []))]
def P_X6_isHeld : List Nat := [0, 1, 4, 5, 7, 10, 11, 14, 15, 16, 17, 20, 21, 24, 25, 26]
def K_X6_isFree : List xA := [.inl (.iload 1), .inr (.inr (13, [19])), .inl (.iload 1), .inr (.inl (.int 7)), .inr (.inr (24, [19])), .inl (.aload 0), .inr (.inr (3, [6, 0])), .inl (.iload 1), .inl .iaload, .inr (.inl (.int (-1))), .inr (.inr (22, [19])), .inl (.aload 0), .inr (.inr (3, [6, 2])), .inl (.iload 1), .inl .iaload, .inr (.inl (.int (-1))), .inr (.inr (22, [19])), .inr (.inl (.int 1)), .inr (.inr (10, [20])), .inr (.inl (.int 0)), .inr (.inr (91, []))]
def P_X6_isFree : List Nat := [0, 1, 4, 5, 7, 10, 11, 14, 15, 16, 17, 20, 21, 24, 25, 26, 27, 30, 31, 34, 35, 36]
def K_X6_freshOn : List xA := [.inl (.iload 1), .inr (.inr (13, [10])), .inl (.iload 1), .inr (.inl (.int 7)), .inr (.inr (24, [10])), .inl (.aload 0), .inr (.inr (3, [6, 1])), .inl (.iload 1), .inl .iaload, .inr (.inr (10, [11])), .inr (.inl (.int 0)), .inl .ireturn]
def P_X6_freshOn : List Nat := [0, 1, 4, 5, 7, 10, 11, 14, 15, 16, 19, 20, 21]
def K_X6_pocketOf : List xA := [.inl (.iload 1), .inr (.inr (13, [10])), .inl (.iload 1), .inr (.inl (.int 5)), .inr (.inr (24, [10])), .inl (.aload 0), .inr (.inr (3, [6, 3])), .inl (.iload 1), .inl .iaload, .inr (.inr (10, [11])), .inr (.inl (.int 0)), .inl .ireturn]
def P_X6_pocketOf : List Nat := [0, 1, 4, 5, 6, 9, 10, 13, 14, 15, 18, 19, 20]
def K_X6_chairOf : List xA := [.inl (.iload 1), .inr (.inr (13, [10])), .inl (.iload 1), .inr (.inl (.int 5)), .inr (.inr (24, [10])), .inl (.aload 0), .inr (.inr (3, [6, 4])), .inl (.iload 1), .inl .iaload, .inr (.inr (10, [11])), .inr (.inl (.int (-1))), .inl .ireturn]
def P_X6_chairOf : List Nat := [0, 1, 4, 5, 6, 9, 10, 13, 14, 15, 18, 19, 20]
def K_X6_freeSeats : List xA := [.inr (.inl (.int 0)), .inl (.istore 2), .inr (.inl (.int 0)), .inl (.istore 3), .inl (.iload 3), .inl (.aload 1), .inr (.inr (1, [2, 9])), .inr (.inr (24, [20])), .inl (.aload 0), .inl (.iload 3), .inr (.inr (41, [78, 6])), .inr (.inr (11, [18])), .inl (.iload 2), .inr (.inl (.int 1)), .inl (.iload 3), .inl .ishl, .inl .ior, .inl (.istore 2), .inr (.inr (80, [3])), .inr (.inr (10, [4])), .inl (.iload 2), .inl .ireturn]
def P_X6_freeSeats : List Nat := [0, 1, 2, 3, 4, 5, 6, 9, 12, 13, 14, 17, 20, 21, 22, 23, 24, 25, 26, 29, 32, 33, 34]
def K_X6_heldSeats : List xA := [.inr (.inl (.int 0)), .inl (.istore 1), .inr (.inl (.int 0)), .inl (.istore 2), .inl (.iload 2), .inr (.inl (.int 7)), .inr (.inr (24, [21])), .inl (.aload 0), .inr (.inr (3, [6, 0])), .inl (.iload 2), .inl .iaload, .inr (.inl (.int (-1))), .inr (.inr (21, [19])), .inl (.iload 1), .inr (.inl (.int 1)), .inl (.iload 2), .inl .ishl, .inl .ior, .inl (.istore 1), .inr (.inr (80, [2])), .inr (.inr (10, [4])), .inl (.iload 1), .inl .ireturn]
def P_X6_heldSeats : List Nat := [0, 1, 2, 3, 4, 5, 7, 10, 11, 14, 15, 16, 17, 20, 21, 22, 23, 24, 25, 26, 29, 32, 33, 34]
def K_X6_laidBy : List xA := [.inr (.inl (.int 0)), .inl (.istore 2), .inr (.inl (.int 0)), .inl (.istore 3), .inl (.iload 3), .inr (.inl (.int 7)), .inr (.inr (24, [21])), .inl (.aload 0), .inr (.inr (3, [6, 0])), .inl (.iload 3), .inl .iaload, .inl (.iload 1), .inr (.inr (22, [19])), .inl (.iload 2), .inr (.inl (.int 1)), .inl (.iload 3), .inl .ishl, .inl .ior, .inl (.istore 2), .inr (.inr (80, [3])), .inr (.inr (10, [4])), .inl (.iload 2), .inl .ireturn]
def P_X6_laidBy : List Nat := [0, 1, 2, 3, 4, 5, 7, 10, 11, 14, 15, 16, 17, 20, 21, 22, 23, 24, 25, 26, 29, 32, 33, 34]
def K_X6_nutmegsOf : List xA := [.inl (.aload 0), .inl (.iload 1), .inr (.inr (41, [80, 6])), .inl (.aload 0), .inl (.iload 1), .inr (.inr (41, [84, 6])), .inr (.inr (40, [0])), .inl .iadd, .inl .ireturn]
def P_X6_nutmegsOf : List Nat := [0, 1, 2, 5, 6, 7, 10, 13, 14, 15]
def K_X6_inPockets : List xA := [.inr (.inl (.int 0)), .inl (.istore 1), .inr (.inl (.int 0)), .inl (.istore 2), .inl (.iload 2), .inr (.inl (.int 5)), .inr (.inr (24, [16])), .inl (.iload 1), .inl (.aload 0), .inr (.inr (3, [6, 3])), .inl (.iload 2), .inl .iaload, .inl .iadd, .inl (.istore 1), .inr (.inr (80, [2])), .inr (.inr (10, [4])), .inl (.iload 1), .inl .ireturn]
def P_X6_inPockets : List Nat := [0, 1, 2, 3, 4, 5, 6, 9, 10, 11, 14, 15, 16, 17, 18, 21, 24, 25, 26]
def K_X6_sittersOn : List xA := [.inr (.inl (.int 0)), .inl (.istore 2), .inr (.inl (.int 0)), .inl (.istore 3), .inl (.iload 3), .inr (.inl (.int 7)), .inr (.inr (24, [30])), .inl (.iload 1), .inl (.iload 3), .inl .ishr, .inr (.inl (.int 1)), .inl .iand, .inr (.inr (11, [28])), .inl (.aload 0), .inr (.inr (3, [6, 2])), .inl (.iload 3), .inl .iaload, .inr (.inl (.int (-1))), .inr (.inr (21, [28])), .inl (.iload 2), .inr (.inl (.int 1)), .inl (.aload 0), .inr (.inr (3, [6, 2])), .inl (.iload 3), .inl .iaload, .inl .ishl, .inl .ior, .inl (.istore 2), .inr (.inr (80, [3])), .inr (.inr (10, [4])), .inl (.iload 2), .inl .ireturn]
def P_X6_sittersOn : List Nat := [0, 1, 2, 3, 4, 5, 7, 10, 11, 12, 13, 14, 15, 18, 19, 22, 23, 24, 25, 28, 29, 30, 31, 34, 35, 36, 37, 38, 39, 42, 45, 46, 47]
def K_X6_ownersOn : List xA := [.inr (.inl (.int 0)), .inl (.istore 2), .inr (.inl (.int 0)), .inl (.istore 3), .inl (.iload 3), .inr (.inl (.int 7)), .inr (.inr (24, [30])), .inl (.iload 1), .inl (.iload 3), .inl .ishr, .inr (.inl (.int 1)), .inl .iand, .inr (.inr (11, [28])), .inl (.aload 0), .inr (.inr (3, [6, 0])), .inl (.iload 3), .inl .iaload, .inr (.inl (.int (-1))), .inr (.inr (21, [28])), .inl (.iload 2), .inr (.inl (.int 1)), .inl (.aload 0), .inr (.inr (3, [6, 0])), .inl (.iload 3), .inl .iaload, .inl .ishl, .inl .ior, .inl (.istore 2), .inr (.inr (80, [3])), .inr (.inr (10, [4])), .inl (.iload 2), .inl .ireturn]
def P_X6_ownersOn : List Nat := [0, 1, 2, 3, 4, 5, 7, 10, 11, 12, 13, 14, 15, 18, 19, 22, 23, 24, 25, 28, 29, 30, 31, 34, 35, 36, 37, 38, 39, 42, 45, 46, 47]
def K_X6_couldSitOn : List xA := [.inr (.inl (.int 0)), .inl (.istore 3), .inr (.inl (.int 0)), .inl (.istore 4), .inl (.iload 4), .inl (.aload 1), .inr (.inr (1, [2, 9])), .inr (.inr (24, [34])), .inl (.aload 0), .inr (.inr (3, [6, 2])), .inl (.iload 4), .inl .iaload, .inr (.inl (.int (-1))), .inr (.inr (22, [32])), .inl (.aload 0), .inr (.inr (3, [6, 0])), .inl (.iload 4), .inl .iaload, .inr (.inl (.int (-1))), .inr (.inr (21, [26])), .inl (.aload 0), .inr (.inr (3, [6, 0])), .inl (.iload 4), .inl .iaload, .inl (.iload 2), .inr (.inr (22, [32])), .inl (.iload 3), .inr (.inl (.int 1)), .inl (.iload 4), .inl .ishl, .inl .ior, .inl (.istore 3), .inr (.inr (80, [4])), .inr (.inr (10, [4])), .inl (.iload 3), .inl .ireturn]
def P_X6_couldSitOn : List Nat := [0, 1, 2, 3, 5, 7, 8, 11, 14, 15, 18, 20, 21, 22, 25, 26, 29, 31, 32, 33, 36, 37, 40, 42, 43, 44, 47, 48, 49, 51, 52, 53, 54, 57, 60, 61, 62]
def K_X6_canBe : List xA := [.inl (.iload 2), .inr (.inl (.int 4)), .inr (.inr (22, [5])), .inr (.inl (.int 1)), .inr (.inr (91, [])), .inl (.aload 1), .inl (.iload 3), .inr (.inr (41, [31, 2])), .inr (.inr (11, [16])), .inl (.iload 2), .inr (.inl (.int 2)), .inr (.inr (21, [18])), .inl (.aload 1), .inl (.iload 4), .inr (.inr (41, [30, 2])), .inr (.inr (12, [18])), .inr (.inl (.int 0)), .inr (.inr (91, [])), .inl (.iload 2), .inr (.inr (27, [100, 62, 20, 33, 52])), .inl (.aload 0), .inr (.inr (3, [6, 3])), .inl (.iload 3), .inl .iaload, .inr (.inr (16, [31])), .inl (.aload 0), .inl (.iload 4), .inr (.inr (41, [78, 6])), .inr (.inr (11, [31])), .inr (.inl (.int 1)), .inr (.inr (10, [32])), .inr (.inl (.int 0)), .inr (.inr (91, [])), .inl (.aload 0), .inr (.inr (3, [6, 4])), .inl (.iload 3), .inl .iaload, .inr (.inl (.int (-1))), .inr (.inr (22, [50])), .inl (.aload 0), .inl (.aload 1), .inl (.iload 3), .inr (.inr (41, [89, 6])), .inl (.iload 4), .inl .ishr, .inr (.inl (.int 1)), .inl .iand, .inr (.inr (11, [50])), .inr (.inl (.int 1)), .inr (.inr (10, [51])), .inr (.inl (.int 0)), .inr (.inr (91, [])), .inl (.aload 0), .inr (.inr (3, [6, 4])), .inl (.iload 3), .inl .iaload, .inr (.inl (.int (-1))), .inr (.inr (21, [60])), .inr (.inl (.int 1)), .inr (.inr (10, [61])), .inr (.inl (.int 0)), .inr (.inr (91, [])), .inl (.aload 0), .inr (.inr (3, [6, 0])), .inl (.iload 4), .inl .iaload, .inr (.inl (.int (-1))), .inr (.inr (21, [92])), .inl (.aload 1), .inl (.iload 3), .inr (.inr (41, [42, 2])), .inl (.aload 0), .inr (.inr (3, [6, 0])), .inl (.iload 4), .inl .iaload, .inl .ishr, .inr (.inl (.int 1)), .inl .iand, .inr (.inr (11, [92])), .inl (.aload 1), .inl (.aload 0), .inr (.inr (3, [6, 4])), .inl (.iload 3), .inl .iaload, .inr (.inr (41, [39, 2])), .inl (.iload 4), .inl .ishr, .inr (.inl (.int 1)), .inl .iand, .inr (.inr (11, [92])), .inr (.inl (.int 1)), .inr (.inr (10, [93])), .inr (.inl (.int 0)), .inr (.inr (91, []))]
def P_X6_canBe : List Nat := [0, 1, 2, 5, 6, 7, 8, 9, 12, 15, 16, 17, 20, 21, 23, 26, 29, 30, 31, 32, 60, 61, 64, 65, 66, 69, 70, 72, 75, 78, 79, 82, 83, 84, 85, 88, 89, 90, 91, 94, 95, 96, 97, 100, 102, 103, 104, 105, 108, 109, 112, 113, 114, 115, 118, 119, 120, 121, 124, 125, 128, 129, 130, 131, 134, 136, 137, 138, 141, 142, 143, 146, 147, 150, 152, 153, 154, 155, 156, 159, 160, 161, 164, 165, 166, 169, 171, 172, 173, 174, 177, 178, 181, 182, 183]
def K_X6_act : List xA := [.inl (.aload 0), .inl (.aload 1), .inl (.iload 2), .inl (.iload 3), .inl (.iload 4), .inr (.inr (41, [90, 6])), .inr (.inr (12, [9])), .inr (.inl (.int (-1))), .inl .ireturn, .inl (.iload 2), .inr (.inr (27, [100, 44, 11, 26, 32, 37])), .inl (.aload 0), .inr (.inr (3, [6, 3])), .inl (.iload 3), .inl .dup2, .inl .iaload, .inr (.inl (.int 1)), .inl .isub, .inl .iastore, .inl (.aload 0), .inl (.aload 1), .inl (.iload 3), .inl (.iload 4), .inr (.inr (41, [94, 6])), .inr (.inl (.int 0)), .inl .ireturn, .inl (.aload 0), .inl (.iload 3), .inl (.iload 4), .inr (.inr (41, [93, 6])), .inr (.inl (.int 0)), .inl .ireturn, .inl (.aload 0), .inl (.iload 3), .inr (.inr (41, [92, 6])), .inr (.inl (.int 0)), .inl .ireturn, .inl (.aload 0), .inl (.iload 4), .inl (.aload 1), .inl (.iload 3), .inr (.inr (41, [45, 2])), .inr (.inr (41, [96, 6])), .inl .ireturn, .inl (.aload 0), .inl (.aload 1), .inr (.inl (.int 0)), .inr (.inr (41, [97, 6])), .inl .ireturn]
def P_X6_act : List Nat := [0, 1, 2, 3, 4, 6, 9, 12, 13, 14, 15, 44, 45, 48, 49, 50, 51, 52, 53, 54, 55, 56, 57, 59, 62, 63, 64, 65, 66, 68, 71, 72, 73, 74, 75, 78, 79, 80, 81, 83, 84, 85, 88, 91, 92, 93, 94, 95, 98, 99]
def K_X6_riseUp : List xA := [.inl (.aload 0), .inr (.inr (3, [6, 4])), .inl (.iload 1), .inl .iaload, .inl (.istore 2), .inl (.iload 2), .inr (.inr (13, [15])), .inl (.iload 2), .inr (.inl (.int 7)), .inr (.inr (24, [15])), .inl (.aload 0), .inr (.inr (3, [6, 2])), .inl (.iload 2), .inr (.inl (.int (-1))), .inl .iastore, .inl (.aload 0), .inr (.inr (3, [6, 4])), .inl (.iload 1), .inr (.inl (.int (-1))), .inl .iastore, .inl .return_]
def P_X6_riseUp : List Nat := [0, 1, 4, 5, 6, 7, 8, 11, 12, 14, 17, 18, 21, 22, 23, 24, 25, 28, 29, 30, 31, 32]
def K_X6_sitDown : List xA := [.inl (.aload 0), .inr (.inr (3, [6, 0])), .inl (.iload 2), .inl .iaload, .inl (.iload 1), .inr (.inr (22, [17])), .inl (.aload 0), .inr (.inr (3, [6, 3])), .inl (.iload 1), .inl .dup2, .inl .iaload, .inr (.inl (.int 1)), .inl .iadd, .inl .iastore, .inl (.aload 0), .inl (.iload 2), .inr (.inr (41, [95, 6])), .inl (.aload 0), .inr (.inr (3, [6, 2])), .inl (.iload 2), .inl (.iload 1), .inl .iastore, .inl (.aload 0), .inr (.inr (3, [6, 4])), .inl (.iload 1), .inl (.iload 2), .inl .iastore, .inl .return_]
def P_X6_sitDown : List Nat := [0, 1, 4, 5, 6, 7, 10, 11, 14, 15, 16, 17, 18, 19, 20, 21, 22, 25, 26, 29, 30, 31, 32, 33, 36, 37, 38, 39, 40]
def K_X6_put : List xA := [.inl (.iload 3), .inr (.inr (13, [17])), .inl (.iload 3), .inr (.inl (.int 7)), .inr (.inr (24, [17])), .inl (.aload 0), .inr (.inr (3, [6, 0])), .inl (.iload 3), .inl (.iload 2), .inl .iastore, .inl (.aload 0), .inr (.inr (3, [6, 1])), .inl (.iload 3), .inl (.aload 1), .inl (.iload 2), .inr (.inr (41, [44, 2])), .inl .iastore, .inl .return_]
def P_X6_put : List Nat := [0, 1, 4, 5, 7, 10, 11, 14, 15, 16, 17, 18, 21, 22, 23, 24, 27, 28, 29]
def K_X6_takeAway : List xA := [.inl (.aload 0), .inr (.inr (3, [6, 0])), .inl (.iload 1), .inr (.inl (.int (-1))), .inl .iastore, .inl (.aload 0), .inr (.inr (3, [6, 1])), .inl (.iload 1), .inr (.inl (.int 0)), .inl .iastore, .inl .return_]
def P_X6_takeAway : List Nat := [0, 1, 4, 5, 6, 7, 8, 11, 12, 13, 14, 15]
def K_X6_lessen : List xA := [.inl (.aload 0), .inr (.inr (3, [6, 1])), .inl (.iload 1), .inl .dup2, .inl .iaload, .inl (.iload 2), .inl .isub, .inl .iastore, .inl (.aload 0), .inr (.inr (3, [6, 1])), .inl (.iload 1), .inl .iaload, .inr (.inr (16, [15])), .inr (.inl (.int 0)), .inl .ireturn, .inl (.aload 0), .inl (.iload 1), .inr (.inr (41, [95, 6])), .inr (.inl (.int 1)), .inl (.iload 1), .inl .ishl, .inl .ireturn]
def P_X6_lessen : List Nat := [0, 1, 4, 5, 6, 7, 8, 9, 10, 11, 14, 15, 16, 19, 20, 21, 22, 23, 26, 27, 28, 29, 30]
def K_X6_passHour : List xA := [.inl (.aload 0), .inr (.inr (41, [83, 6])), .inl (.istore 3), .inr (.inl (.int 0)), .inl (.istore 4), .inl (.iload 4), .inl (.aload 1), .inr (.inr (1, [2, 9])), .inr (.inr (24, [60])), .inl (.aload 0), .inr (.inr (3, [6, 0])), .inl (.iload 4), .inl .iaload, .inr (.inl (.int (-1))), .inr (.inr (21, [24])), .inl (.aload 1), .inl (.aload 0), .inr (.inr (3, [6, 0])), .inl (.iload 4), .inl .iaload, .inr (.inr (41, [43, 2])), .inr (.inr (12, [24])), .inr (.inl (.int 1)), .inr (.inr (10, [25])), .inr (.inl (.int 0)), .inl (.istore 5), .inl (.aload 1), .inr (.inr (3, [2, 3])), .inl (.iload 4), .inl .iaload, .inl (.iload 3), .inl .iand, .inr (.inr (40, [0])), .inl (.istore 6), .inl (.aload 0), .inr (.inr (3, [6, 6])), .inl (.iload 4), .inl (.iload 5), .inr (.inr (11, [56])), .inl (.iload 2), .inl (.aload 1), .inr (.inr (3, [2, 8])), .inl (.aload 0), .inr (.inr (3, [6, 1])), .inl (.iload 4), .inl .iaload, .inl (.iload 6), .inl (.aload 1), .inr (.inr (3, [2, 1])), .inl (.iload 4), .inl .iaload, .inl (.aload 0), .inr (.inr (1, [6, 5])), .inr (.inr (41, [65, 4])), .inl .iadd, .inr (.inr (10, [57])), .inr (.inl (.int 0)), .inl .iastore, .inr (.inr (80, [4])), .inr (.inr (10, [5])), .inr (.inl (.int 0)), .inl (.istore 4), .inr (.inl (.int 0)), .inl (.istore 5), .inl (.iload 5), .inl (.aload 1), .inr (.inr (1, [2, 9])), .inr (.inr (24, [86])), .inl (.aload 0), .inr (.inr (3, [6, 0])), .inl (.iload 5), .inl .iaload, .inr (.inl (.int (-1))), .inr (.inr (21, [84])), .inl (.iload 4), .inl (.aload 0), .inl (.iload 5), .inl (.aload 0), .inr (.inr (3, [6, 6])), .inl (.iload 5), .inl .iaload, .inr (.inr (41, [96, 6])), .inl .ior, .inl (.istore 4), .inr (.inr (80, [5])), .inr (.inr (10, [64])), .inl (.aload 0), .inl .dup, .inr (.inr (1, [6, 5])), .inr (.inl (.int 1)), .inl .iadd, .inr (.inr (4, [6, 5])), .inl (.iload 4), .inl .ireturn]
def P_X6_passHour : List Nat := [0, 1, 4, 5, 6, 8, 10, 11, 14, 17, 18, 21, 23, 24, 25, 28, 29, 30, 33, 35, 36, 39, 42, 43, 46, 47, 49, 50, 53, 55, 56, 57, 58, 61, 63, 64, 67, 69, 71, 74, 75, 76, 79, 80, 83, 85, 86, 88, 89, 92, 94, 95, 96, 99, 102, 103, 106, 107, 108, 111, 114, 115, 117, 118, 120, 122, 123, 126, 129, 130, 133, 135, 136, 137, 140, 142, 143, 145, 146, 149, 151, 152, 155, 156, 158, 161, 164, 165, 166, 169, 170, 171, 174, 176, 177]
def K_X7_init : List xA := [.inl (.aload 0), .inr (.inr (67, [])), .inl (.aload 0), .inr (.inl (.int 8)), .inr (.inr (51, [0])), .inr (.inr (6, [7, 0])), .inl (.aload 0), .inr (.inl (.int 8)), .inr (.inr (51, [0])), .inr (.inr (6, [7, 1])), .inl (.aload 0), .inr (.inl (.int 8)), .inr (.inr (51, [3])), .inr (.inr (6, [7, 2])), .inl .return_]
def P_X7_init : List Nat := [0, 1, 4, 5, 7, 9, 12, 13, 15, 17, 20, 21, 23, 25, 28, 29]
def K_X7_add : List xA := [.inl (.aload 0), .inr (.inr (1, [7, 3])), .inr (.inl (.int 8)), .inr (.inr (23, [6])), .inr (.inl (.int 0)), .inr (.inr (91, [])), .inl (.aload 0), .inr (.inr (3, [7, 0])), .inl (.aload 0), .inr (.inr (1, [7, 3])), .inl (.iload 1), .inl .iastore, .inl (.aload 0), .inr (.inr (3, [7, 1])), .inl (.aload 0), .inr (.inr (1, [7, 3])), .inl (.iload 2), .inl .iastore, .inl (.aload 0), .inr (.inr (3, [7, 2])), .inl (.aload 0), .inr (.inr (1, [7, 3])), .inl (.iload 3), .inl .bastore, .inl (.aload 0), .inl .dup, .inr (.inr (1, [7, 3])), .inr (.inl (.int 1)), .inl .iadd, .inr (.inr (4, [7, 3])), .inr (.inl (.int 1)), .inr (.inr (91, []))]
def P_X7_add : List Nat := [0, 1, 4, 6, 9, 10, 11, 12, 15, 16, 19, 20, 21, 22, 25, 26, 29, 30, 31, 32, 35, 36, 39, 40, 41, 42, 43, 46, 47, 48, 51, 52, 53]
def K_X7_copy : List xA := [.inr (.inl (.int 0)), .inl (.istore 2), .inl (.iload 2), .inr (.inl (.int 8)), .inr (.inr (24, [31])), .inl (.aload 0), .inr (.inr (3, [7, 0])), .inl (.iload 2), .inl (.aload 1), .inr (.inr (3, [7, 0])), .inl (.iload 2), .inl .iaload, .inl .iastore, .inl (.aload 0), .inr (.inr (3, [7, 1])), .inl (.iload 2), .inl (.aload 1), .inr (.inr (3, [7, 1])), .inl (.iload 2), .inl .iaload, .inl .iastore, .inl (.aload 0), .inr (.inr (3, [7, 2])), .inl (.iload 2), .inl (.aload 1), .inr (.inr (3, [7, 2])), .inl (.iload 2), .inl .baload, .inl .bastore, .inr (.inr (80, [2])), .inr (.inr (10, [2])), .inl (.aload 0), .inl (.aload 1), .inr (.inr (1, [7, 3])), .inr (.inr (4, [7, 3])), .inl .return_]
def P_X7_copy : List Nat := [0, 1, 2, 3, 5, 8, 9, 12, 13, 14, 17, 18, 19, 20, 21, 24, 25, 26, 29, 30, 31, 32, 33, 36, 37, 38, 41, 42, 43, 44, 47, 50, 51, 52, 55, 58, 59]
def K_X8_init : List xA := [.inl (.aload 0), .inr (.inr (67, [])), .inl (.aload 0), .inr (.inl (.int 5)), .inr (.inr (51, [0])), .inr (.inr (6, [8, 0])), .inl (.aload 0), .inr (.inl (.int 5)), .inr (.inr (51, [0])), .inr (.inr (6, [8, 1])), .inl .return_]
def P_X8_init : List Nat := [0, 1, 4, 5, 6, 8, 11, 12, 13, 15, 18, 19]
def K_X8_chairOf : List xA := [.inl (.iload 1), .inr (.inr (13, [10])), .inl (.iload 1), .inr (.inl (.int 5)), .inr (.inr (24, [10])), .inl (.aload 0), .inr (.inr (3, [8, 1])), .inl (.iload 1), .inl .iaload, .inr (.inr (10, [11])), .inr (.inl (.int (-1))), .inl .ireturn]
def P_X8_chairOf : List Nat := [0, 1, 4, 5, 6, 9, 10, 13, 14, 15, 18, 19, 20]
def K_X8_keepRow : List xA := [.inr (.inl (.int 0)), .inl (.istore 1), .inl (.iload 1), .inr (.inl (.int 5)), .inr (.inr (24, [15])), .inl (.aload 0), .inr (.inr (3, [8, 1])), .inl (.iload 1), .inl (.aload 0), .inr (.inr (3, [8, 0])), .inl (.iload 1), .inl .iaload, .inl .iastore, .inr (.inr (80, [1])), .inr (.inr (10, [2])), .inl .return_]
def P_X8_keepRow : List Nat := [0, 1, 2, 3, 4, 7, 8, 11, 12, 13, 16, 17, 18, 19, 22, 25, 26]
def K_X8_findMost : List xA := [.inl (.aload 0), .inr (.inl (.int (-1))), .inr (.inr (4, [8, 2])), .inl (.aload 0), .inl (.aload 1), .inl (.aload 2), .inr (.inl (.int 0)), .inr (.inl (.int 0)), .inr (.inl (.int 0)), .inr (.inr (40, [105])), .inl (.aload 0), .inr (.inr (1, [8, 2])), .inl .ireturn]
def P_X8_findMost : List Nat := [0, 1, 2, 5, 6, 7, 8, 9, 10, 11, 14, 15, 18, 19]
def K_X8_seatFrom : List xA := [.inl (.iload 5), .inl (.aload 1), .inr (.inr (1, [2, 10])), .inl .iadd, .inl (.iload 3), .inl .isub, .inl (.aload 0), .inr (.inr (1, [8, 2])), .inr (.inr (25, [10])), .inl .return_, .inl (.iload 3), .inl (.aload 1), .inr (.inr (1, [2, 10])), .inr (.inr (24, [17])), .inl (.iload 3), .inr (.inl (.int 5)), .inr (.inr (23, [23])), .inl (.aload 0), .inl (.iload 5), .inr (.inr (4, [8, 2])), .inl (.aload 0), .inr (.inr (41, [103, 8])), .inl .return_, .inl (.aload 2), .inr (.inr (3, [6, 4])), .inl (.iload 3), .inl .iaload, .inr (.inl (.int (-1))), .inr (.inr (22, [38])), .inl (.aload 2), .inl (.aload 1), .inl (.iload 3), .inr (.inr (41, [89, 6])), .inl (.iload 4), .inr (.inl (.int (-1))), .inl .ixor, .inl .iand, .inr (.inr (10, [39])), .inr (.inl (.int 0)), .inl (.istore 6), .inr (.inl (.int 0)), .inl (.istore 7), .inl (.iload 7), .inl (.aload 1), .inr (.inr (1, [2, 9])), .inr (.inr (24, [74])), .inl (.iload 6), .inl (.iload 7), .inl .ishr, .inr (.inl (.int 1)), .inl .iand, .inr (.inr (11, [72])), .inl (.aload 0), .inr (.inr (3, [8, 0])), .inl (.iload 3), .inl (.iload 7), .inl .iastore, .inl (.aload 0), .inl (.aload 1), .inl (.aload 2), .inl (.iload 3), .inr (.inl (.int 1)), .inl .iadd, .inl (.iload 4), .inr (.inl (.int 1)), .inl (.iload 7), .inl .ishl, .inl .ior, .inl (.iload 5), .inr (.inl (.int 1)), .inl .iadd, .inr (.inr (40, [105])), .inr (.inr (80, [7])), .inr (.inr (10, [42])), .inl (.aload 0), .inr (.inr (3, [8, 0])), .inl (.iload 3), .inr (.inl (.int (-1))), .inl .iastore, .inl (.aload 0), .inl (.aload 1), .inl (.aload 2), .inl (.iload 3), .inr (.inl (.int 1)), .inl .iadd, .inl (.iload 4), .inl (.iload 5), .inr (.inr (40, [105])), .inl .return_]
def P_X8_seatFrom : List Nat := [0, 2, 3, 6, 7, 8, 9, 10, 13, 16, 17, 18, 19, 22, 25, 26, 27, 30, 31, 33, 36, 37, 40, 41, 42, 45, 46, 47, 48, 51, 52, 53, 54, 57, 59, 60, 61, 62, 65, 66, 68, 69, 71, 73, 74, 77, 80, 82, 84, 85, 86, 87, 90, 91, 94, 95, 97, 98, 99, 100, 101, 102, 103, 104, 106, 107, 109, 110, 111, 113, 114, 115, 118, 121, 124, 125, 128, 129, 130, 131, 132, 133, 134, 135, 136, 137, 139, 141, 144, 145]
def K_X8_findPlaced : List xA := [.inl (.aload 0), .inr (.inl (.int 0)), .inr (.inr (4, [8, 2])), .inl (.aload 0), .inl (.aload 1), .inr (.inl (.int 0)), .inr (.inl (.int 0)), .inr (.inr (40, [107])), .inl (.aload 0), .inr (.inr (1, [8, 2])), .inl .ireturn]
def P_X8_findPlaced : List Nat := [0, 1, 2, 5, 6, 7, 8, 9, 12, 13, 16, 17]
def K_X8_placeFrom : List xA := [.inl (.iload 2), .inl (.aload 1), .inr (.inr (1, [2, 10])), .inr (.inr (24, [7])), .inl (.iload 2), .inr (.inl (.int 5)), .inr (.inr (23, [19])), .inl (.aload 0), .inr (.inr (1, [8, 2])), .inr (.inr (12, [12])), .inl (.aload 0), .inr (.inr (41, [103, 8])), .inl (.aload 0), .inl .dup, .inr (.inr (1, [8, 2])), .inr (.inl (.int 1)), .inl .iadd, .inr (.inr (4, [8, 2])), .inl .return_, .inl (.iload 3), .inl (.aload 1), .inl (.aload 0), .inl (.aload 1), .inl (.iload 2), .inr (.inr (41, [108, 8])), .inr (.inr (41, [40, 2])), .inl .ior, .inl (.istore 4), .inr (.inl (.int 0)), .inl (.istore 5), .inl (.iload 5), .inl (.aload 1), .inr (.inr (1, [2, 9])), .inr (.inr (24, [58])), .inl (.iload 4), .inl (.iload 5), .inl .ishr, .inr (.inl (.int 1)), .inl .iand, .inr (.inr (12, [56])), .inl (.aload 0), .inr (.inr (3, [8, 0])), .inl (.iload 2), .inl (.iload 5), .inl .iastore, .inl (.aload 0), .inl (.aload 1), .inl (.iload 2), .inr (.inl (.int 1)), .inl .iadd, .inl (.iload 3), .inr (.inl (.int 1)), .inl (.iload 5), .inl .ishl, .inl .ior, .inr (.inr (40, [107])), .inr (.inr (80, [5])), .inr (.inr (10, [30])), .inl .return_]
def P_X8_placeFrom : List Nat := [0, 1, 2, 5, 8, 9, 10, 13, 14, 17, 20, 21, 24, 25, 26, 29, 30, 31, 34, 35, 36, 37, 38, 39, 40, 43, 46, 47, 49, 50, 52, 54, 55, 58, 61, 63, 65, 66, 67, 68, 71, 72, 75, 76, 78, 79, 80, 81, 82, 83, 84, 85, 86, 88, 89, 90, 93, 96, 99, 100]
def K_X8_chairsOfFoes : List xA := [.inr (.inl (.int 0)), .inl (.istore 3), .inr (.inl (.int 0)), .inl (.istore 4), .inl (.iload 4), .inl (.iload 2), .inr (.inr (24, [26])), .inl (.aload 1), .inl (.iload 2), .inr (.inr (41, [42, 2])), .inl (.iload 4), .inl .ishr, .inr (.inl (.int 1)), .inl .iand, .inr (.inr (11, [24])), .inl (.iload 3), .inr (.inl (.int 1)), .inl (.aload 0), .inr (.inr (3, [8, 0])), .inl (.iload 4), .inl .iaload, .inl .ishl, .inl .ior, .inl (.istore 3), .inr (.inr (80, [4])), .inr (.inr (10, [4])), .inl (.iload 3), .inl .ireturn]
def P_X8_chairsOfFoes : List Nat := [0, 1, 2, 3, 5, 7, 8, 11, 12, 13, 16, 18, 19, 20, 21, 24, 25, 26, 27, 30, 32, 33, 34, 35, 36, 39, 42, 43, 44]
def K_X9_init : List xA := [.inl (.aload 0), .inr (.inr (67, [])), .inl (.aload 0), .inr (.inl (.int 1000)), .inr (.inr (51, [2])), .inr (.inr (6, [9, 0])), .inl .return_]
def P_X9_init : List Nat := [0, 1, 4, 5, 8, 10, 13, 14]
def K_X9_append : List xA := [.inr (.inl (.int 56)), .inl (.istore 3), .inl (.iload 3), .inr (.inr (13, [47])), .inl (.lload 1), .inl (.iload 3), .inl .lushr, .inl .l2i, .inr (.inl (.int 255)), .inl .iand, .inl (.istore 4), .inl (.iload 4), .inr (.inl (.int 10)), .inr (.inr (21, [20])), .inl (.iload 4), .inr (.inl (.int 32)), .inr (.inr (23, [22])), .inl (.iload 4), .inr (.inl (.int 126)), .inr (.inr (25, [22])), .inr (.inl (.int 1)), .inr (.inr (10, [23])), .inr (.inl (.int 0)), .inl (.istore 5), .inl (.iload 5), .inr (.inr (11, [45])), .inl (.aload 0), .inr (.inr (1, [9, 1])), .inl (.aload 0), .inr (.inr (3, [9, 0])), .inl .arraylength, .inr (.inr (24, [45])), .inl (.aload 0), .inr (.inr (3, [9, 0])), .inl (.aload 0), .inr (.inr (1, [9, 1])), .inl (.iload 4), .inl .i2c, .inl .castore, .inl (.aload 0), .inl .dup, .inr (.inr (1, [9, 1])), .inr (.inl (.int 1)), .inl .iadd, .inr (.inr (4, [9, 1])), .inr (.inr (82, [3])), .inr (.inr (10, [2])), .inl .return_]
def P_X9_append : List Nat := [0, 2, 3, 4, 7, 8, 9, 10, 11, 14, 15, 17, 19, 21, 24, 26, 28, 31, 33, 35, 38, 39, 42, 43, 45, 47, 50, 51, 54, 55, 58, 59, 62, 63, 66, 67, 70, 72, 73, 74, 75, 76, 79, 80, 81, 84, 87, 90, 91]
def K_X9_signAt : List xA := [.inl (.iload 1), .inr (.inr (13, [16])), .inl (.iload 1), .inl (.aload 0), .inr (.inr (1, [9, 1])), .inr (.inr (24, [16])), .inl (.iload 1), .inl (.aload 0), .inr (.inr (3, [9, 0])), .inl .arraylength, .inr (.inr (24, [16])), .inl (.aload 0), .inr (.inr (3, [9, 0])), .inl (.iload 1), .inl .caload, .inr (.inr (10, [17])), .inr (.inl (.int 0)), .inr (.inr (92, []))]
def P_X9_signAt : List Nat := [0, 1, 4, 5, 6, 9, 12, 13, 14, 17, 18, 21, 22, 25, 26, 27, 30, 31, 32]
def K_X9_kindAt : List xA := [.inl (.iload 1), .inr (.inr (13, [11])), .inl (.iload 1), .inl (.aload 0), .inr (.inr (1, [9, 1])), .inr (.inr (24, [11])), .inl (.iload 1), .inl (.aload 0), .inr (.inr (3, [9, 0])), .inl .arraylength, .inr (.inr (23, [13])), .inr (.inl (.int 0)), .inl .ireturn, .inl (.aload 0), .inr (.inr (3, [9, 0])), .inl (.iload 1), .inl .caload, .inl (.istore 2), .inl (.iload 2), .inr (.inl (.int 10)), .inr (.inr (21, [24])), .inl (.iload 2), .inr (.inl (.int 32)), .inr (.inr (22, [26])), .inr (.inl (.int 5)), .inl .ireturn, .inl (.iload 2), .inr (.inl (.int 97)), .inr (.inr (23, [34])), .inl (.iload 2), .inr (.inl (.int 122)), .inr (.inr (25, [34])), .inr (.inl (.int 2)), .inl .ireturn, .inl (.iload 2), .inr (.inl (.int 48)), .inr (.inr (23, [42])), .inl (.iload 2), .inr (.inl (.int 57)), .inr (.inr (25, [42])), .inr (.inl (.int 3)), .inl .ireturn, .inr (.inl (.ref 3000)), .inl (.iload 2), .inr (.inr (65, [])), .inr (.inr (13, [48])), .inr (.inl (.int 4)), .inr (.inr (10, [49])), .inr (.inl (.int 1)), .inl .ireturn]
def P_X9_kindAt : List Nat := [0, 1, 4, 5, 6, 9, 12, 13, 14, 17, 18, 21, 22, 23, 24, 27, 28, 29, 30, 31, 33, 36, 37, 39, 42, 43, 44, 45, 47, 50, 51, 53, 56, 57, 58, 59, 61, 64, 65, 67, 70, 71, 72, 74, 75, 78, 81, 82, 85, 86, 87]
def K_X10_init : List xA := [.inl (.aload 0), .inr (.inr (67, [])), .inl (.aload 0), .inr (.inr (50, [9])), .inl .dup, .inr (.inr (41, [109, 9])), .inr (.inr (6, [10, 0])), .inl .return_]
def P_X10_init : List Nat := [0, 1, 4, 5, 8, 9, 12, 15, 16]
def K_X10_begin : List xA := [.inl (.aload 0), .inr (.inl (.int 0)), .inr (.inr (4, [10, 6])), .inl (.aload 0), .inr (.inl (.int 0)), .inr (.inr (4, [10, 3])), .inl (.aload 0), .inr (.inr (41, [116, 10])), .inl .return_]
def P_X10_begin : List Nat := [0, 1, 2, 5, 6, 7, 10, 11, 14, 15]
def K_X10_goesOn : List xA := [.inl (.aload 0), .inr (.inr (1, [10, 6])), .inr (.inr (12, [8])), .inl (.aload 0), .inr (.inr (1, [10, 1])), .inr (.inr (11, [8])), .inr (.inl (.int 1)), .inr (.inr (10, [9])), .inr (.inl (.int 0)), .inr (.inr (91, []))]
def P_X10_goesOn : List Nat := [0, 1, 4, 7, 8, 11, 14, 15, 18, 19, 20]
def K_X10_step : List xA := [.inl (.aload 0), .inl (.aload 0), .inr (.inr (1, [10, 3])), .inr (.inr (4, [10, 2])), .inl (.aload 0), .inr (.inr (1, [10, 2])), .inl (.aload 0), .inr (.inr (3, [10, 0])), .inr (.inr (1, [9, 1])), .inr (.inr (24, [24])), .inl (.aload 0), .inr (.inr (3, [10, 0])), .inl (.aload 0), .inr (.inr (1, [10, 2])), .inr (.inr (41, [112, 9])), .inr (.inl (.int 5)), .inr (.inr (22, [24])), .inl (.aload 0), .inl .dup, .inr (.inr (1, [10, 2])), .inr (.inl (.int 1)), .inl .iadd, .inr (.inr (4, [10, 2])), .inr (.inr (10, [4])), .inl (.aload 0), .inl (.aload 0), .inr (.inr (3, [10, 0])), .inl (.aload 0), .inr (.inr (1, [10, 2])), .inr (.inr (41, [112, 9])), .inr (.inr (4, [10, 1])), .inl (.aload 0), .inl (.aload 0), .inr (.inr (1, [10, 1])), .inr (.inr (12, [38])), .inl (.aload 0), .inr (.inr (1, [10, 2])), .inr (.inr (10, [42])), .inl (.aload 0), .inr (.inr (1, [10, 2])), .inr (.inl (.int 1)), .inl .iadd, .inr (.inr (4, [10, 3])), .inl (.aload 0), .inr (.inr (1, [10, 1])), .inr (.inl (.int 2)), .inr (.inr (21, [51])), .inl (.aload 0), .inr (.inr (1, [10, 1])), .inr (.inl (.int 3)), .inr (.inr (22, [72])), .inl (.aload 0), .inr (.inr (1, [10, 3])), .inl (.aload 0), .inr (.inr (3, [10, 0])), .inr (.inr (1, [9, 1])), .inr (.inr (24, [72])), .inl (.aload 0), .inr (.inr (3, [10, 0])), .inl (.aload 0), .inr (.inr (1, [10, 3])), .inr (.inr (41, [112, 9])), .inl (.aload 0), .inr (.inr (1, [10, 1])), .inr (.inr (22, [72])), .inl (.aload 0), .inl .dup, .inr (.inr (1, [10, 3])), .inr (.inl (.int 1)), .inl .iadd, .inr (.inr (4, [10, 3])), .inr (.inr (10, [43])), .inl (.aload 0), .inr (.inl (.long 0)), .inr (.inr (5, [10, 5])), .inl (.aload 0), .inr (.inl (.int 0)), .inr (.inr (4, [10, 4])), .inl (.aload 0), .inr (.inr (1, [10, 2])), .inl (.istore 1), .inl (.iload 1), .inl (.aload 0), .inr (.inr (1, [10, 3])), .inr (.inr (24, [125])), .inl (.aload 0), .inr (.inr (1, [10, 1])), .inr (.inl (.int 2)), .inr (.inr (22, [106])), .inl (.aload 0), .inl (.aload 0), .inr (.inr (2, [10, 5])), .inr (.inl (.int 5)), .inl .lshl, .inl (.aload 0), .inr (.inr (3, [10, 0])), .inl (.iload 1), .inr (.inr (41, [111, 9])), .inr (.inl (.int 97)), .inl .isub, .inr (.inl (.int 1)), .inl .iadd, .inl .i2l, .inl .lor, .inr (.inr (5, [10, 5])), .inr (.inr (10, [123])), .inl (.aload 0), .inr (.inr (1, [10, 1])), .inr (.inl (.int 3)), .inr (.inr (22, [123])), .inl (.aload 0), .inl (.aload 0), .inr (.inr (1, [10, 4])), .inr (.inl (.int 10)), .inl .imul, .inl (.aload 0), .inr (.inr (3, [10, 0])), .inl (.iload 1), .inr (.inr (41, [111, 9])), .inl .iadd, .inr (.inl (.int 48)), .inl .isub, .inr (.inr (4, [10, 4])), .inr (.inr (80, [1])), .inr (.inr (10, [81])), .inl (.aload 0), .inr (.inr (1, [10, 1])), .inr (.inl (.int 2)), .inr (.inr (22, [136])), .inl (.aload 0), .inr (.inr (1, [10, 3])), .inl (.aload 0), .inr (.inr (1, [10, 2])), .inl .isub, .inr (.inl (.int 8)), .inr (.inr (25, [147])), .inl (.aload 0), .inr (.inr (1, [10, 1])), .inr (.inl (.int 3)), .inr (.inr (22, [150])), .inl (.aload 0), .inr (.inr (1, [10, 3])), .inl (.aload 0), .inr (.inr (1, [10, 2])), .inl .isub, .inr (.inl (.int 4)), .inr (.inr (26, [150])), .inl (.aload 0), .inr (.inl (.int 1)), .inr (.inr (4, [10, 1])), .inl .return_]
def P_X10_step : List Nat := [0, 1, 2, 5, 8, 9, 12, 13, 16, 19, 22, 23, 26, 27, 30, 33, 34, 37, 38, 39, 42, 43, 44, 47, 50, 51, 52, 55, 56, 59, 62, 65, 66, 67, 70, 73, 74, 77, 80, 81, 84, 85, 86, 89, 90, 93, 94, 97, 98, 101, 102, 105, 106, 109, 110, 113, 116, 119, 120, 123, 124, 127, 130, 131, 134, 137, 138, 139, 142, 143, 144, 147, 150, 151, 152, 155, 156, 157, 160, 161, 164, 165, 166, 167, 170, 173, 174, 177, 178, 181, 182, 183, 186, 187, 188, 189, 192, 193, 196, 198, 199, 200, 201, 202, 203, 206, 209, 210, 213, 214, 217, 218, 219, 222, 224, 225, 226, 229, 230, 233, 234, 236, 237, 240, 243, 246, 247, 250, 251, 254, 255, 258, 259, 262, 263, 265, 268, 269, 272, 273, 276, 277, 280, 281, 284, 285, 286, 289, 290, 291, 294, 295]
def K_X10_fail : List xA := [.inl (.aload 0), .inr (.inr (1, [10, 6])), .inr (.inr (12, [11])), .inl (.aload 0), .inl (.iload 1), .inr (.inl (.int 16)), .inl (.aload 0), .inr (.inr (1, [10, 2])), .inl .imul, .inl .iadd, .inr (.inr (4, [10, 6])), .inr (.inl (.int 0)), .inr (.inr (91, []))]
def P_X10_fail : List Nat := [0, 1, 4, 7, 8, 9, 11, 12, 15, 16, 17, 20, 21, 22]
def K_X10_is : List xA := [.inl (.aload 0), .inr (.inr (1, [10, 1])), .inr (.inl (.int 2)), .inr (.inr (22, [12])), .inl (.aload 1), .inr (.inr (63, [])), .inl (.aload 0), .inr (.inr (1, [10, 3])), .inl (.aload 0), .inr (.inr (1, [10, 2])), .inl .isub, .inr (.inr (21, [14])), .inr (.inl (.int 0)), .inr (.inr (91, [])), .inr (.inl (.int 0)), .inl (.istore 2), .inl (.iload 2), .inl (.aload 1), .inr (.inr (63, [])), .inr (.inr (24, [35])), .inl (.aload 0), .inr (.inr (3, [10, 0])), .inl (.aload 0), .inr (.inr (1, [10, 2])), .inl (.iload 2), .inl .iadd, .inr (.inr (41, [111, 9])), .inl (.aload 1), .inl (.iload 2), .inr (.inr (64, [])), .inr (.inr (21, [33])), .inr (.inl (.int 0)), .inr (.inr (91, [])), .inr (.inr (80, [2])), .inr (.inr (10, [16])), .inr (.inl (.int 1)), .inr (.inr (91, []))]
def P_X10_is : List Nat := [0, 1, 4, 5, 8, 9, 12, 13, 16, 17, 20, 21, 24, 25, 26, 27, 28, 29, 30, 33, 36, 37, 40, 41, 44, 45, 46, 49, 50, 51, 54, 57, 58, 59, 62, 65, 66, 67]
def K_X10_isSign : List xA := [.inl (.aload 0), .inr (.inr (1, [10, 1])), .inr (.inl (.int 4)), .inr (.inr (22, [13])), .inl (.aload 0), .inr (.inr (3, [10, 0])), .inl (.aload 0), .inr (.inr (1, [10, 2])), .inr (.inr (41, [111, 9])), .inl (.iload 1), .inr (.inr (22, [13])), .inr (.inl (.int 1)), .inr (.inr (10, [14])), .inr (.inl (.int 0)), .inr (.inr (91, []))]
def P_X10_isSign : List Nat := [0, 1, 4, 5, 8, 9, 12, 13, 16, 19, 20, 23, 24, 27, 28, 29]
def K_X10_passes : List xA := [.inl (.aload 0), .inl (.aload 1), .inr (.inr (41, [118, 10])), .inr (.inr (12, [8])), .inl (.aload 0), .inr (.inl (.int 1)), .inr (.inr (41, [117, 10])), .inr (.inr (91, [])), .inl (.aload 0), .inr (.inr (41, [116, 10])), .inr (.inl (.int 1)), .inr (.inr (91, []))]
def P_X10_passes : List Nat := [0, 1, 2, 5, 8, 9, 10, 13, 14, 15, 18, 19, 20]
def K_X10_passesSign : List xA := [.inl (.aload 0), .inl (.iload 1), .inr (.inr (41, [119, 10])), .inr (.inr (12, [8])), .inl (.aload 0), .inr (.inl (.int 1)), .inr (.inr (41, [117, 10])), .inr (.inr (91, [])), .inl (.aload 0), .inr (.inr (41, [116, 10])), .inr (.inl (.int 1)), .inr (.inr (91, []))]
def P_X10_passesSign : List Nat := [0, 1, 2, 5, 8, 9, 10, 13, 14, 15, 18, 19, 20]
def K_X10_hasNumber : List xA := [.inl (.aload 0), .inr (.inr (1, [10, 1])), .inr (.inl (.int 3)), .inr (.inr (21, [8])), .inl (.aload 0), .inr (.inl (.int 1)), .inr (.inr (41, [117, 10])), .inr (.inr (91, [])), .inl (.aload 0), .inr (.inr (1, [10, 4])), .inl (.iload 1), .inr (.inr (23, [16])), .inl (.aload 0), .inr (.inr (1, [10, 4])), .inl (.iload 2), .inr (.inr (26, [20])), .inl (.aload 0), .inr (.inl (.int 4)), .inr (.inr (41, [117, 10])), .inr (.inr (11, [22])), .inr (.inl (.int 1)), .inr (.inr (10, [23])), .inr (.inl (.int 0)), .inr (.inr (91, []))]
def P_X10_hasNumber : List Nat := [0, 1, 4, 5, 8, 9, 10, 13, 14, 15, 18, 19, 22, 23, 26, 27, 30, 31, 32, 35, 38, 39, 42, 43, 44]
def K_X10_hasNewName : List xA := [.inl (.aload 0), .inr (.inr (41, [126, 10])), .inr (.inr (12, [7])), .inl (.aload 0), .inr (.inl (.int 1)), .inr (.inr (41, [117, 10])), .inr (.inr (91, [])), .inl (.aload 1), .inl (.aload 0), .inr (.inr (2, [10, 5])), .inr (.inr (41, [33, 2])), .inr (.inl (.int (-1))), .inr (.inr (22, [19])), .inl (.aload 1), .inl (.aload 0), .inr (.inr (2, [10, 5])), .inr (.inr (41, [34, 2])), .inr (.inl (.int (-1))), .inr (.inr (21, [21])), .inr (.inl (.int 1)), .inr (.inr (10, [22])), .inr (.inl (.int 0)), .inl (.istore 2), .inl (.iload 2), .inr (.inr (11, [29])), .inl (.aload 0), .inr (.inl (.int 3)), .inr (.inr (41, [117, 10])), .inr (.inr (11, [31])), .inr (.inl (.int 1)), .inr (.inr (10, [32])), .inr (.inl (.int 0)), .inr (.inr (91, []))]
def P_X10_hasNewName : List Nat := [0, 1, 4, 7, 8, 9, 12, 13, 14, 15, 18, 21, 22, 25, 26, 27, 30, 33, 34, 37, 38, 41, 42, 43, 44, 47, 48, 49, 52, 55, 56, 59, 60, 61]
def K_X10_hasPerson : List xA := [.inl (.aload 0), .inr (.inr (41, [126, 10])), .inr (.inr (12, [7])), .inl (.aload 0), .inr (.inl (.int 1)), .inr (.inr (41, [117, 10])), .inr (.inr (91, [])), .inl (.aload 1), .inl (.aload 0), .inr (.inr (2, [10, 5])), .inr (.inr (41, [34, 2])), .inr (.inl (.int (-1))), .inr (.inr (22, [17])), .inl (.aload 0), .inr (.inl (.int 2)), .inr (.inr (41, [117, 10])), .inr (.inr (11, [19])), .inr (.inl (.int 1)), .inr (.inr (10, [20])), .inr (.inl (.int 0)), .inr (.inr (91, []))]
def P_X10_hasPerson : List Nat := [0, 1, 4, 7, 8, 9, 12, 13, 14, 15, 18, 21, 22, 25, 26, 27, 30, 33, 34, 37, 38, 39]
def K_X10_hasSeat : List xA := [.inl (.aload 0), .inr (.inr (41, [126, 10])), .inr (.inr (12, [7])), .inl (.aload 0), .inr (.inl (.int 1)), .inr (.inr (41, [117, 10])), .inr (.inr (91, [])), .inl (.aload 1), .inl (.aload 0), .inr (.inr (2, [10, 5])), .inr (.inr (41, [33, 2])), .inr (.inl (.int (-1))), .inr (.inr (22, [17])), .inl (.aload 0), .inr (.inl (.int 2)), .inr (.inr (41, [117, 10])), .inr (.inr (11, [19])), .inr (.inl (.int 1)), .inr (.inr (10, [20])), .inr (.inl (.int 0)), .inr (.inr (91, []))]
def P_X10_hasSeat : List Nat := [0, 1, 4, 7, 8, 9, 12, 13, 14, 15, 18, 21, 22, 25, 26, 27, 30, 33, 34, 37, 38, 39]
def K_X10_isName : List xA := [.inl (.aload 0), .inr (.inr (1, [10, 1])), .inr (.inl (.int 2)), .inr (.inr (22, [86])), .inl (.aload 0), .inr (.inl (.ref 3001)), .inr (.inr (41, [118, 10])), .inr (.inr (12, [86])), .inl (.aload 0), .inr (.inl (.ref 3002)), .inr (.inr (41, [118, 10])), .inr (.inr (12, [86])), .inl (.aload 0), .inr (.inl (.ref 3003)), .inr (.inr (41, [118, 10])), .inr (.inr (12, [86])), .inl (.aload 0), .inr (.inl (.ref 3004)), .inr (.inr (41, [118, 10])), .inr (.inr (12, [86])), .inl (.aload 0), .inr (.inl (.ref 3005)), .inr (.inr (41, [118, 10])), .inr (.inr (12, [86])), .inl (.aload 0), .inr (.inl (.ref 3006)), .inr (.inr (41, [118, 10])), .inr (.inr (12, [86])), .inl (.aload 0), .inr (.inl (.ref 3007)), .inr (.inr (41, [118, 10])), .inr (.inr (12, [86])), .inl (.aload 0), .inr (.inl (.ref 3008)), .inr (.inr (41, [118, 10])), .inr (.inr (12, [86])), .inl (.aload 0), .inr (.inl (.ref 3009)), .inr (.inr (41, [118, 10])), .inr (.inr (12, [86])), .inl (.aload 0), .inr (.inl (.ref 3010)), .inr (.inr (41, [118, 10])), .inr (.inr (12, [86])), .inl (.aload 0), .inr (.inl (.ref 3011)), .inr (.inr (41, [118, 10])), .inr (.inr (12, [86])), .inl (.aload 0), .inr (.inl (.ref 3012)), .inr (.inr (41, [118, 10])), .inr (.inr (12, [86])), .inl (.aload 0), .inr (.inl (.ref 3013)), .inr (.inr (41, [118, 10])), .inr (.inr (12, [86])), .inl (.aload 0), .inr (.inl (.ref 3014)), .inr (.inr (41, [118, 10])), .inr (.inr (12, [86])), .inl (.aload 0), .inr (.inl (.ref 3015)), .inr (.inr (41, [118, 10])), .inr (.inr (12, [86])), .inl (.aload 0), .inr (.inl (.ref 3016)), .inr (.inr (41, [118, 10])), .inr (.inr (12, [86])), .inl (.aload 0), .inr (.inl (.ref 3017)), .inr (.inr (41, [118, 10])), .inr (.inr (12, [86])), .inl (.aload 0), .inr (.inl (.ref 3018)), .inr (.inr (41, [118, 10])), .inr (.inr (12, [86])), .inl (.aload 0), .inr (.inl (.ref 3019)), .inr (.inr (41, [118, 10])), .inr (.inr (12, [86])), .inl (.aload 0), .inr (.inl (.ref 3020)), .inr (.inr (41, [118, 10])), .inr (.inr (12, [86])), .inr (.inl (.int 1)), .inr (.inr (10, [87])), .inr (.inl (.int 0)), .inr (.inr (91, []))]
def P_X10_isName : List Nat := [0, 1, 4, 5, 8, 9, 11, 14, 17, 18, 20, 23, 26, 27, 29, 32, 35, 36, 38, 41, 44, 45, 47, 50, 53, 54, 56, 59, 62, 63, 65, 68, 71, 72, 74, 77, 80, 81, 83, 86, 89, 90, 92, 95, 98, 99, 101, 104, 107, 108, 110, 113, 116, 117, 119, 122, 125, 126, 128, 131, 134, 135, 137, 140, 143, 144, 146, 149, 152, 153, 155, 158, 161, 162, 164, 167, 170, 171, 173, 176, 179, 180, 182, 185, 188, 189, 192, 193, 194]
def K_X10_personKind : List xA := [.inl (.aload 0), .inr (.inl (.ref 3014)), .inr (.inr (41, [118, 10])), .inr (.inr (11, [6])), .inr (.inl (.int 0)), .inr (.inr (10, [25])), .inl (.aload 0), .inr (.inl (.ref 3015)), .inr (.inr (41, [118, 10])), .inr (.inr (11, [12])), .inr (.inl (.int 1)), .inr (.inr (10, [25])), .inl (.aload 0), .inr (.inl (.ref 3016)), .inr (.inr (41, [118, 10])), .inr (.inr (11, [18])), .inr (.inl (.int 2)), .inr (.inr (10, [25])), .inl (.aload 0), .inr (.inl (.ref 3017)), .inr (.inr (41, [118, 10])), .inr (.inr (11, [24])), .inr (.inl (.int 3)), .inr (.inr (10, [25])), .inr (.inl (.int (-1))), .inl .ireturn]
def P_X10_personKind : List Nat := [0, 1, 3, 6, 9, 10, 13, 14, 16, 19, 22, 23, 26, 27, 29, 32, 35, 36, 39, 40, 42, 45, 48, 49, 52, 53, 54]
def K_X10_verb : List xA := [.inl (.aload 0), .inr (.inl (.ref 3009)), .inr (.inr (41, [118, 10])), .inr (.inr (11, [6])), .inr (.inl (.int 0)), .inr (.inr (10, [31])), .inl (.aload 0), .inr (.inl (.ref 3010)), .inr (.inr (41, [118, 10])), .inr (.inr (11, [12])), .inr (.inl (.int 1)), .inr (.inr (10, [31])), .inl (.aload 0), .inr (.inl (.ref 3011)), .inr (.inr (41, [118, 10])), .inr (.inr (11, [18])), .inr (.inl (.int 2)), .inr (.inr (10, [31])), .inl (.aload 0), .inr (.inl (.ref 3012)), .inr (.inr (41, [118, 10])), .inr (.inr (11, [24])), .inr (.inl (.int 3)), .inr (.inr (10, [31])), .inl (.aload 0), .inr (.inl (.ref 3013)), .inr (.inr (41, [118, 10])), .inr (.inr (11, [30])), .inr (.inl (.int 4)), .inr (.inr (10, [31])), .inr (.inl (.int (-1))), .inl .ireturn]
def P_X10_verb : List Nat := [0, 1, 3, 6, 9, 10, 13, 14, 16, 19, 22, 23, 26, 27, 29, 32, 35, 36, 39, 40, 42, 45, 48, 49, 52, 53, 55, 58, 61, 62, 65, 66, 67]
def K_X11_init : List xA := [.inl (.aload 0), .inr (.inr (67, [])), .inl (.aload 0), .inr (.inr (50, [10])), .inl .dup, .inr (.inr (41, [113, 10])), .inr (.inr (6, [11, 0])), .inl (.aload 0), .inr (.inr (50, [3])), .inl .dup, .inr (.inr (41, [46, 3])), .inr (.inr (6, [11, 1])), .inl (.aload 0), .inr (.inr (50, [2])), .inl .dup, .inr (.inr (41, [28, 2])), .inr (.inr (6, [11, 2])), .inl (.aload 0), .inr (.inr (50, [2])), .inl .dup, .inr (.inr (41, [28, 2])), .inr (.inr (6, [11, 3])), .inl (.aload 0), .inr (.inr (50, [1])), .inl .dup, .inr (.inr (41, [24, 1])), .inr (.inr (6, [11, 4])), .inl (.aload 0), .inr (.inr (50, [1])), .inl .dup, .inr (.inr (41, [24, 1])), .inr (.inr (6, [11, 5])), .inl (.aload 0), .inr (.inr (50, [6])), .inl .dup, .inr (.inr (41, [74, 6])), .inr (.inr (6, [11, 6])), .inl (.aload 0), .inr (.inr (50, [5])), .inl .dup, .inr (.inr (41, [68, 5])), .inr (.inr (6, [11, 7])), .inl (.aload 0), .inr (.inr (50, [7])), .inl .dup, .inr (.inr (41, [98, 7])), .inr (.inr (6, [11, 8])), .inl (.aload 0), .inr (.inr (50, [0])), .inl .dup, .inr (.inr (41, [2, 0])), .inr (.inr (6, [11, 9])), .inl (.aload 0), .inr (.inr (50, [8])), .inl .dup, .inr (.inr (41, [101, 8])), .inr (.inr (6, [11, 10])), .inl .return_]
def P_X11_init : List Nat := [0, 1, 4, 5, 8, 9, 12, 15, 16, 19, 20, 23, 26, 27, 30, 31, 34, 37, 38, 41, 42, 45, 48, 49, 52, 53, 56, 59, 60, 63, 64, 67, 70, 71, 74, 75, 78, 81, 82, 85, 86, 89, 92, 93, 96, 97, 100, 103, 104, 107, 108, 111, 114, 115, 118, 119, 122, 125, 126]
def K_X11_feed : List xA := [.inl (.aload 0), .inr (.inr (3, [11, 0])), .inr (.inr (3, [10, 0])), .inl (.lload 1), .inr (.inr (41, [110, 9])), .inl (.aload 0), .inr (.inr (3, [11, 0])), .inr (.inr (3, [10, 0])), .inl (.lload 3), .inr (.inr (41, [110, 9])), .inl (.aload 0), .inr (.inr (3, [11, 0])), .inr (.inr (3, [10, 0])), .inl (.lload 5), .inr (.inr (41, [110, 9])), .inl (.aload 0), .inr (.inr (3, [11, 0])), .inr (.inr (3, [10, 0])), .inr (.inr (1, [9, 1])), .inl .ireturn]
def P_X11_feed : List Nat := [0, 1, 4, 7, 8, 11, 12, 15, 18, 19, 22, 23, 26, 29, 31, 34, 35, 38, 41, 44, 45]
def K_X11_hall : List xA := [.inl (.aload 0), .inr (.inr (3, [11, 1])), .inl (.aload 0), .inr (.inr (3, [11, 0])), .inl (.aload 0), .inr (.inr (3, [11, 3])), .inr (.inr (41, [47, 3])), .inl (.istore 1), .inl (.aload 0), .inr (.inr (3, [11, 0])), .inr (.inr (3, [10, 0])), .inr (.inl (.int 0)), .inr (.inr (4, [9, 1])), .inl (.iload 1), .inr (.inr (11, [17])), .inl (.iload 1), .inl .ireturn, .inl (.aload 0), .inr (.inr (3, [11, 2])), .inl (.astore 2), .inl (.aload 0), .inl (.aload 0), .inr (.inr (3, [11, 3])), .inr (.inr (6, [11, 2])), .inl (.aload 0), .inl (.aload 2), .inr (.inr (6, [11, 3])), .inl (.aload 0), .inr (.inr (3, [11, 4])), .inr (.inl (.int 0)), .inr (.inr (4, [1, 3])), .inl (.aload 0), .inr (.inr (3, [11, 6])), .inl (.aload 0), .inr (.inr (3, [11, 2])), .inr (.inr (41, [75, 6])), .inl (.aload 0), .inr (.inr (3, [11, 8])), .inr (.inl (.int 0)), .inr (.inr (4, [7, 3])), .inl (.aload 0), .inr (.inr (3, [11, 7])), .inr (.inr (41, [69, 5])), .inr (.inl (.int 0)), .inl .ireturn]
def P_X11_hall : List Nat := [0, 1, 4, 5, 8, 9, 12, 15, 16, 17, 20, 23, 24, 27, 28, 31, 32, 33, 34, 37, 38, 39, 40, 43, 46, 47, 48, 51, 52, 55, 56, 59, 60, 63, 64, 67, 70, 71, 74, 75, 78, 79, 82, 85, 86, 87]
def K_X11_evening : List xA := [.inl (.aload 0), .inr (.inr (3, [11, 5])), .inl (.aload 0), .inr (.inr (3, [11, 0])), .inl (.aload 0), .inr (.inr (3, [11, 2])), .inr (.inr (41, [25, 1])), .inl (.istore 1), .inl (.aload 0), .inr (.inr (3, [11, 0])), .inr (.inr (3, [10, 0])), .inr (.inl (.int 0)), .inr (.inr (4, [9, 1])), .inl (.iload 1), .inr (.inr (11, [17])), .inl (.iload 1), .inl .ireturn, .inl (.aload 0), .inr (.inr (3, [11, 4])), .inl (.astore 2), .inl (.aload 0), .inl (.aload 0), .inr (.inr (3, [11, 5])), .inr (.inr (6, [11, 4])), .inl (.aload 0), .inl (.aload 2), .inr (.inr (6, [11, 5])), .inr (.inl (.int 0)), .inl .ireturn]
def P_X11_evening : List Nat := [0, 1, 4, 5, 8, 9, 12, 15, 16, 17, 20, 23, 24, 27, 28, 31, 32, 33, 34, 37, 38, 39, 40, 43, 46, 47, 48, 51, 52, 53]
def K_X11_seat : List xA := [.inl (.aload 0), .inr (.inr (3, [11, 2])), .inl (.iload 1), .inr (.inr (41, [30, 2])), .inr (.inr (12, [7])), .inr (.inl (.int (-2))), .inl .ireturn, .inl (.iload 2), .inr (.inr (27, [100, 45, 9, 15, 21, 27, 33, 39])), .inl (.aload 0), .inr (.inr (3, [11, 2])), .inr (.inr (3, [2, 1])), .inl (.iload 1), .inl .iaload, .inl .ireturn, .inl (.aload 0), .inr (.inr (3, [11, 2])), .inr (.inr (3, [2, 2])), .inl (.iload 1), .inl .iaload, .inl .ireturn, .inl (.aload 0), .inr (.inr (3, [11, 6])), .inr (.inr (3, [6, 0])), .inl (.iload 1), .inl .iaload, .inl .ireturn, .inl (.aload 0), .inr (.inr (3, [11, 6])), .inr (.inr (3, [6, 1])), .inl (.iload 1), .inl .iaload, .inl .ireturn, .inl (.aload 0), .inr (.inr (3, [11, 6])), .inr (.inr (3, [6, 2])), .inl (.iload 1), .inl .iaload, .inl .ireturn, .inl (.aload 0), .inr (.inr (3, [11, 2])), .inr (.inr (3, [2, 3])), .inl (.iload 1), .inl .iaload, .inl .ireturn, .inr (.inl (.int (-2))), .inl .ireturn]
def P_X11_seat : List Nat := [0, 1, 4, 5, 8, 11, 13, 14, 15, 52, 53, 56, 59, 60, 61, 62, 63, 66, 69, 70, 71, 72, 73, 76, 79, 80, 81, 82, 83, 86, 89, 90, 91, 92, 93, 96, 99, 100, 101, 102, 103, 106, 109, 110, 111, 112, 114, 115]
def K_X11_person : List xA := [.inl (.aload 0), .inr (.inr (3, [11, 2])), .inl (.iload 1), .inr (.inr (41, [31, 2])), .inr (.inr (12, [7])), .inr (.inl (.int (-2))), .inl .ireturn, .inl (.iload 2), .inr (.inr (27, [100, 38, 9, 15, 21, 27, 32])), .inl (.aload 0), .inr (.inr (3, [11, 2])), .inr (.inr (3, [2, 5])), .inl (.iload 1), .inl .iaload, .inl .ireturn, .inl (.aload 0), .inr (.inr (3, [11, 6])), .inr (.inr (3, [6, 3])), .inl (.iload 1), .inl .iaload, .inl .ireturn, .inl (.aload 0), .inr (.inr (3, [11, 6])), .inr (.inr (3, [6, 4])), .inl (.iload 1), .inl .iaload, .inl .ireturn, .inl (.aload 0), .inr (.inr (3, [11, 6])), .inl (.iload 1), .inr (.inr (41, [84, 6])), .inl .ireturn, .inl (.aload 0), .inr (.inr (3, [11, 2])), .inr (.inr (3, [2, 7])), .inl (.iload 1), .inl .iaload, .inl .ireturn, .inr (.inl (.int (-2))), .inl .ireturn]
def P_X11_person : List Nat := [0, 1, 4, 5, 8, 11, 13, 14, 15, 48, 49, 52, 55, 56, 57, 58, 59, 62, 65, 66, 67, 68, 69, 72, 75, 76, 77, 78, 79, 82, 83, 86, 87, 88, 91, 94, 95, 96, 97, 99, 100]
def K_X11_lay : List xA := [.inl (.aload 0), .inr (.inl (.int 0)), .inl (.iload 1), .inl (.iload 2), .inr (.inr (41, [169, 11])), .inr (.inr (12, [8])), .inr (.inl (.int (-1))), .inl .ireturn, .inl (.aload 0), .inr (.inr (3, [11, 6])), .inl (.iload 2), .inr (.inr (41, [79, 6])), .inl .ireturn]
def P_X11_lay : List Nat := [0, 1, 2, 3, 4, 7, 10, 11, 12, 13, 16, 17, 20, 21]
def K_X11_sit : List xA := [.inl (.aload 0), .inr (.inl (.int 1)), .inl (.iload 1), .inl (.iload 2), .inr (.inr (41, [169, 11])), .inr (.inr (12, [8])), .inr (.inl (.int (-1))), .inl .ireturn, .inl (.aload 0), .inr (.inr (3, [11, 6])), .inl (.iload 1), .inr (.inr (41, [80, 6])), .inl .ireturn]
def P_X11_sit : List Nat := [0, 1, 2, 3, 4, 7, 10, 11, 12, 13, 16, 17, 20, 21]
def K_X11_rise : List xA := [.inl (.aload 0), .inr (.inr (3, [11, 6])), .inl (.iload 1), .inr (.inr (41, [81, 6])), .inl (.istore 2), .inl (.aload 0), .inr (.inl (.int 2)), .inl (.iload 1), .inr (.inl (.int (-1))), .inr (.inr (41, [169, 11])), .inr (.inr (11, [13])), .inl (.iload 2), .inr (.inr (10, [14])), .inr (.inl (.int (-1))), .inl .ireturn]
def P_X11_rise : List Nat := [0, 1, 4, 5, 8, 9, 10, 11, 12, 13, 16, 19, 20, 23, 24, 25]
def K_X11_grate : List xA := [.inl (.aload 0), .inr (.inl (.int 3)), .inl (.iload 1), .inl (.iload 2), .inr (.inr (41, [169, 11])), .inr (.inr (12, [8])), .inr (.inl (.int (-1))), .inl .ireturn, .inl (.aload 0), .inr (.inr (3, [11, 6])), .inl (.iload 2), .inr (.inr (41, [79, 6])), .inl .ireturn]
def P_X11_grate : List Nat := [0, 1, 2, 3, 4, 7, 10, 11, 12, 13, 16, 17, 20, 21]
def K_X11_hour : List xA := [.inl (.aload 0), .inr (.inr (3, [11, 7])), .inl (.aload 0), .inr (.inr (3, [11, 6])), .inr (.inr (41, [70, 5])), .inl (.aload 0), .inr (.inr (3, [11, 6])), .inl (.aload 0), .inr (.inr (3, [11, 2])), .inr (.inl (.int 0)), .inr (.inr (41, [97, 6])), .inl .ireturn]
def P_X11_hour : List Nat := [0, 1, 4, 5, 8, 11, 12, 15, 16, 19, 20, 23, 24]
def K_X11_undo : List xA := [.inl (.aload 0), .inr (.inr (3, [11, 7])), .inl (.aload 0), .inr (.inr (3, [11, 6])), .inr (.inr (41, [71, 5])), .inr (.inr (91, []))]
def P_X11_undo : List Nat := [0, 1, 4, 5, 8, 11, 12]
def K_X11_judged : List xA := [.inl (.iload 1), .inr (.inl (.int 0)), .inr (.inl (.int 2)), .inr (.inr (40, [168])), .inr (.inr (11, [14])), .inl (.aload 0), .inr (.inr (3, [11, 9])), .inl (.aload 0), .inr (.inr (3, [11, 2])), .inl (.aload 0), .inr (.inr (3, [11, 4])), .inl (.iload 1), .inr (.inr (41, [23, 0])), .inr (.inr (10, [15])), .inr (.inl (.int (-2))), .inl .ireturn]
def P_X11_judged : List Nat := [0, 1, 2, 3, 6, 9, 10, 13, 14, 17, 18, 21, 22, 25, 28, 30, 31]
def K_X11_left : List xA := [.inl (.aload 0), .inr (.inr (3, [11, 2])), .inl (.iload 1), .inr (.inr (41, [30, 2])), .inr (.inr (11, [10])), .inl (.aload 0), .inr (.inr (3, [11, 6])), .inl (.iload 1), .inr (.inr (41, [77, 6])), .inr (.inr (12, [12])), .inr (.inl (.int (-1))), .inl .ireturn, .inl (.aload 0), .inr (.inr (3, [11, 9])), .inl (.aload 0), .inr (.inr (3, [11, 2])), .inl (.aload 0), .inr (.inr (3, [11, 6])), .inr (.inl (.int 1)), .inl (.iload 1), .inl .ishl, .inr (.inr (41, [3, 0])), .inl .ireturn]
def P_X11_left : List Nat := [0, 1, 4, 5, 8, 11, 12, 15, 16, 19, 22, 23, 24, 25, 28, 29, 32, 33, 36, 37, 38, 39, 42, 43]
def K_X11_later : List xA := [.inl (.aload 0), .inr (.inr (3, [11, 2])), .inl (.iload 1), .inr (.inr (41, [30, 2])), .inr (.inr (11, [15])), .inl (.aload 0), .inr (.inr (3, [11, 6])), .inl (.iload 1), .inr (.inr (41, [77, 6])), .inr (.inr (11, [15])), .inl (.iload 2), .inr (.inl (.int 0)), .inr (.inl (.int 60)), .inr (.inr (40, [168])), .inr (.inr (12, [17])), .inr (.inl (.int (-1))), .inl .ireturn, .inl (.aload 0), .inr (.inr (3, [11, 9])), .inl (.aload 0), .inr (.inr (3, [11, 2])), .inl (.aload 0), .inr (.inr (3, [11, 6])), .inl (.iload 1), .inl (.iload 2), .inr (.inr (41, [5, 0])), .inl .ireturn]
def P_X11_later : List Nat := [0, 1, 4, 5, 8, 11, 12, 15, 16, 19, 22, 23, 24, 26, 29, 32, 33, 34, 35, 38, 39, 42, 43, 46, 47, 48, 51, 52]
def K_X11_first : List xA := [.inl (.aload 0), .inr (.inr (3, [11, 9])), .inl (.aload 0), .inr (.inr (3, [11, 2])), .inl (.aload 0), .inr (.inr (3, [11, 6])), .inr (.inr (41, [6, 0])), .inl .ireturn]
def P_X11_first : List Nat := [0, 1, 4, 5, 8, 9, 12, 15, 16]
def K_X11_empties : List xA := [.inl (.aload 0), .inr (.inr (3, [11, 9])), .inl (.aload 0), .inr (.inr (3, [11, 2])), .inl (.aload 0), .inr (.inr (3, [11, 6])), .inr (.inr (41, [7, 0])), .inl .ireturn]
def P_X11_empties : List Nat := [0, 1, 4, 5, 8, 9, 12, 15, 16]
def K_X11_most : List xA := [.inl (.iload 1), .inr (.inl (.int (-1))), .inr (.inr (22, [11])), .inl (.aload 0), .inr (.inr (3, [11, 10])), .inl (.aload 0), .inr (.inr (3, [11, 2])), .inl (.aload 0), .inr (.inr (3, [11, 6])), .inr (.inr (41, [104, 8])), .inl .ireturn, .inl (.aload 0), .inr (.inr (3, [11, 2])), .inl (.iload 1), .inr (.inr (41, [31, 2])), .inr (.inr (11, [22])), .inl (.aload 0), .inr (.inr (3, [11, 6])), .inl (.iload 1), .inr (.inr (41, [81, 6])), .inr (.inl (.int (-1))), .inr (.inr (21, [24])), .inr (.inl (.int (-2))), .inl .ireturn, .inl (.aload 0), .inr (.inr (3, [11, 10])), .inl (.aload 0), .inr (.inr (3, [11, 2])), .inl (.aload 0), .inr (.inr (3, [11, 6])), .inr (.inr (41, [104, 8])), .inl .pop, .inl (.aload 0), .inr (.inr (3, [11, 10])), .inl (.iload 1), .inr (.inr (41, [102, 8])), .inl .ireturn]
def P_X11_most : List Nat := [0, 1, 2, 5, 6, 9, 10, 13, 14, 17, 20, 21, 22, 25, 26, 29, 32, 33, 36, 37, 40, 41, 44, 46, 47, 48, 51, 52, 55, 56, 59, 62, 63, 64, 67, 68, 71, 72]
def K_X11_could : List xA := [.inl (.aload 0), .inr (.inr (3, [11, 2])), .inl (.iload 1), .inr (.inr (41, [31, 2])), .inr (.inr (11, [11])), .inl (.aload 0), .inr (.inr (3, [11, 6])), .inl (.iload 1), .inr (.inr (41, [81, 6])), .inr (.inl (.int (-1))), .inr (.inr (21, [13])), .inr (.inl (.int (-1))), .inl .ireturn, .inl (.aload 0), .inr (.inr (3, [11, 6])), .inl (.aload 0), .inr (.inr (3, [11, 2])), .inl (.iload 1), .inr (.inr (41, [89, 6])), .inl .ireturn]
def P_X11_could : List Nat := [0, 1, 4, 5, 8, 11, 12, 15, 16, 19, 20, 23, 24, 25, 26, 29, 30, 33, 34, 37, 38]
def K_X11_needs : List xA := [.inl (.aload 0), .inr (.inr (3, [11, 2])), .inl (.iload 1), .inr (.inr (41, [31, 2])), .inr (.inr (11, [20])), .inl (.aload 0), .inr (.inr (3, [11, 2])), .inl (.iload 2), .inr (.inr (41, [30, 2])), .inr (.inr (11, [20])), .inl (.aload 0), .inr (.inr (3, [11, 6])), .inl (.iload 2), .inr (.inr (41, [78, 6])), .inr (.inr (11, [20])), .inl (.iload 3), .inr (.inl (.int 1)), .inr (.inl (.int 60)), .inr (.inr (40, [168])), .inr (.inr (12, [22])), .inr (.inl (.int (-1))), .inl .ireturn, .inl (.aload 0), .inr (.inr (3, [11, 9])), .inl (.aload 0), .inr (.inr (3, [11, 2])), .inl (.aload 0), .inr (.inr (3, [11, 6])), .inl (.iload 1), .inr (.inl (.int 1)), .inl (.iload 2), .inl .ishl, .inl (.iload 3), .inr (.inr (41, [8, 0])), .inl .ireturn]
def P_X11_needs : List Nat := [0, 1, 4, 5, 8, 11, 12, 15, 16, 19, 22, 23, 26, 27, 30, 33, 34, 35, 37, 40, 43, 44, 45, 46, 49, 50, 53, 54, 57, 58, 59, 60, 61, 62, 65, 66]
def K_X11_keeps : List xA := [.inl (.aload 0), .inr (.inr (3, [11, 2])), .inl (.iload 1), .inr (.inr (41, [31, 2])), .inr (.inr (11, [15])), .inl (.iload 2), .inr (.inl (.int 1)), .inr (.inl (.int 30)), .inr (.inr (40, [168])), .inr (.inr (11, [15])), .inl (.iload 3), .inr (.inl (.int 0)), .inr (.inl (.int 1)), .inr (.inr (40, [168])), .inr (.inr (12, [17])), .inr (.inl (.int (-1))), .inl .ireturn, .inl (.aload 0), .inr (.inr (3, [11, 9])), .inl (.aload 0), .inr (.inr (3, [11, 2])), .inl (.aload 0), .inr (.inr (3, [11, 6])), .inl (.iload 1), .inl (.iload 2), .inr (.inr (41, [10, 0])), .inl (.istore 4), .inl (.iload 3), .inr (.inr (12, [32])), .inl (.iload 4), .inr (.inr (40, [0])), .inr (.inr (10, [33])), .inl (.iload 4), .inl .ireturn]
def P_X11_keeps : List Nat := [0, 1, 4, 5, 8, 11, 12, 13, 15, 18, 21, 22, 23, 24, 27, 30, 31, 32, 33, 36, 37, 40, 41, 44, 45, 46, 49, 51, 52, 55, 57, 60, 63, 65, 66]
def K_X11_placed : List xA := [.inl (.aload 0), .inr (.inr (3, [11, 10])), .inl (.aload 0), .inr (.inr (3, [11, 2])), .inr (.inr (41, [106, 8])), .inl (.istore 2), .inl (.iload 1), .inr (.inl (.int (-1))), .inr (.inr (22, [11])), .inl (.iload 2), .inl .ireturn, .inl (.aload 0), .inr (.inr (3, [11, 2])), .inl (.iload 1), .inr (.inr (41, [31, 2])), .inr (.inr (11, [18])), .inl (.iload 2), .inr (.inr (12, [20])), .inr (.inl (.int (-2))), .inl .ireturn, .inl (.aload 0), .inr (.inr (3, [11, 10])), .inl (.iload 1), .inr (.inr (41, [102, 8])), .inl .ireturn]
def P_X11_placed : List Nat := [0, 1, 4, 5, 8, 11, 12, 13, 14, 17, 18, 19, 20, 23, 24, 27, 30, 31, 34, 36, 37, 38, 41, 42, 45, 46]
def K_X11_peace : List xA := [.inl (.aload 0), .inr (.inl (.int 0)), .inr (.inr (41, [170, 11])), .inl .ireturn]
def P_X11_peace : List Nat := [0, 1, 2, 5, 6]
def K_X11_war : List xA := [.inl (.aload 0), .inr (.inl (.int 1)), .inr (.inr (41, [170, 11])), .inl .ireturn]
def P_X11_war : List Nat := [0, 1, 2, 5, 6]
def K_X11_safe : List xA := [.inr (.inl (.int 0)), .inl (.istore 1), .inr (.inl (.int 0)), .inl (.istore 2), .inl (.iload 2), .inl (.aload 0), .inr (.inr (3, [11, 2])), .inr (.inr (1, [2, 9])), .inr (.inr (24, [39])), .inl (.aload 0), .inr (.inr (3, [11, 6])), .inl (.iload 2), .inr (.inr (41, [77, 6])), .inr (.inr (11, [37])), .inl (.aload 0), .inr (.inr (3, [11, 6])), .inl (.aload 0), .inr (.inr (3, [11, 2])), .inl (.iload 2), .inr (.inr (41, [39, 2])), .inr (.inr (41, [87, 6])), .inl (.aload 0), .inr (.inr (3, [11, 2])), .inl (.aload 0), .inr (.inr (3, [11, 6])), .inr (.inr (3, [6, 0])), .inl (.iload 2), .inl .iaload, .inr (.inr (41, [42, 2])), .inl .iand, .inr (.inr (12, [37])), .inl (.iload 1), .inr (.inl (.int 1)), .inl (.iload 2), .inl .ishl, .inl .ior, .inl (.istore 1), .inr (.inr (80, [2])), .inr (.inr (10, [4])), .inl (.iload 1), .inl .ireturn]
def P_X11_safe : List Nat := [0, 1, 2, 3, 4, 5, 6, 9, 12, 15, 16, 19, 20, 23, 26, 27, 30, 31, 34, 35, 38, 41, 42, 45, 46, 49, 52, 53, 54, 57, 58, 61, 62, 63, 64, 65, 66, 67, 70, 73, 74, 75]
def K_X11_see : List xA := [.inl (.aload 0), .inr (.inr (3, [11, 2])), .inl (.iload 1), .inr (.inr (41, [30, 2])), .inr (.inr (11, [10])), .inl (.iload 2), .inr (.inl (.int 1)), .inr (.inl (.int 60)), .inr (.inr (40, [168])), .inr (.inr (12, [12])), .inr (.inl (.int 0)), .inr (.inr (91, [])), .inl (.aload 0), .inr (.inr (3, [11, 8])), .inl (.iload 1), .inl (.iload 2), .inl (.iload 3), .inr (.inr (41, [99, 7])), .inr (.inr (91, []))]
def P_X11_see : List Nat := [0, 1, 4, 5, 8, 11, 12, 13, 15, 18, 21, 22, 23, 24, 27, 28, 29, 30, 33, 34]
def K_X11_who : List xA := [.inl (.aload 0), .inr (.inr (3, [11, 9])), .inl (.aload 0), .inr (.inr (3, [11, 2])), .inl (.aload 0), .inr (.inr (3, [11, 6])), .inl (.aload 0), .inr (.inr (3, [11, 8])), .inr (.inr (41, [12, 0])), .inl .ireturn]
def P_X11_who : List Nat := [0, 1, 4, 5, 8, 9, 12, 13, 16, 19, 20]
def K_X11_ask : List xA := [.inl (.aload 0), .inr (.inr (3, [11, 9])), .inl (.aload 0), .inr (.inr (3, [11, 2])), .inl (.aload 0), .inr (.inr (3, [11, 6])), .inl (.aload 0), .inr (.inr (3, [11, 8])), .inr (.inr (41, [13, 0])), .inl .ireturn]
def P_X11_ask : List Nat := [0, 1, 4, 5, 8, 9, 12, 13, 16, 19, 20]
def K_X11_far : List xA := [.inl (.aload 0), .inr (.inr (3, [11, 2])), .inl (.iload 1), .inr (.inr (41, [30, 2])), .inr (.inr (11, [10])), .inl (.aload 0), .inr (.inr (3, [11, 2])), .inl (.iload 2), .inr (.inr (41, [30, 2])), .inr (.inr (12, [12])), .inr (.inl (.int (-1))), .inl .ireturn, .inr (.inl (.int 1)), .inl (.iload 1), .inl .ishl, .inl (.istore 3), .inr (.inl (.int 0)), .inl (.istore 4), .inl (.iload 4), .inr (.inl (.int 7)), .inr (.inr (24, [38])), .inl (.iload 3), .inl (.iload 2), .inl .ishr, .inr (.inl (.int 1)), .inl .iand, .inr (.inr (11, [29])), .inl (.iload 4), .inl .ireturn, .inl (.iload 3), .inl (.aload 0), .inr (.inr (3, [11, 2])), .inl (.iload 3), .inr (.inr (41, [40, 2])), .inl .ior, .inl (.istore 3), .inr (.inr (80, [4])), .inr (.inr (10, [18])), .inr (.inl (.int (-1))), .inl .ireturn]
def P_X11_far : List Nat := [0, 1, 4, 5, 8, 11, 12, 15, 16, 19, 22, 23, 24, 25, 26, 27, 28, 29, 31, 33, 35, 38, 39, 40, 41, 42, 43, 46, 48, 49, 50, 51, 54, 55, 58, 59, 60, 63, 66, 67, 68]
def K_X11_blocks : List xA := [.inl (.iload 1), .inr (.inl (.int 0)), .inr (.inl (.int 1)), .inr (.inr (40, [168])), .inr (.inr (12, [7])), .inr (.inl (.int (-1))), .inl .ireturn, .inl (.aload 0), .inr (.inr (3, [11, 6])), .inl (.aload 0), .inr (.inr (3, [11, 2])), .inr (.inr (41, [82, 6])), .inl (.istore 2), .inl (.iload 2), .inl (.istore 3), .inr (.inl (.int 0)), .inl (.istore 4), .inr (.inl (.int 0)), .inl (.istore 5), .inr (.inl (.int 0)), .inl (.istore 6), .inl (.iload 6), .inl (.aload 0), .inr (.inr (3, [11, 2])), .inr (.inr (1, [2, 9])), .inr (.inr (24, [52])), .inl (.iload 3), .inl (.iload 6), .inl .ishr, .inr (.inl (.int 1)), .inl .iand, .inr (.inr (11, [50])), .inl (.aload 0), .inr (.inr (3, [11, 2])), .inl (.iload 6), .inl (.iload 2), .inr (.inr (41, [41, 2])), .inl (.istore 7), .inl (.iload 3), .inl (.iload 7), .inr (.inl (.int (-1))), .inl .ixor, .inl .iand, .inl (.istore 3), .inr (.inr (80, [4])), .inl (.iload 5), .inl (.iload 7), .inr (.inr (40, [0])), .inr (.inr (60, [])), .inl (.istore 5), .inr (.inr (80, [6])), .inr (.inr (10, [21])), .inl (.iload 1), .inr (.inr (12, [56])), .inl (.iload 4), .inr (.inr (10, [57])), .inl (.iload 5), .inl .ireturn]
def P_X11_blocks : List Nat := [0, 1, 2, 3, 6, 9, 10, 11, 12, 15, 16, 19, 22, 23, 24, 25, 26, 28, 29, 31, 32, 34, 36, 37, 40, 43, 46, 47, 49, 50, 51, 52, 55, 56, 59, 61, 62, 65, 67, 68, 70, 71, 72, 73, 74, 77, 79, 81, 84, 87, 89, 92, 95, 96, 99, 101, 104, 106, 107]
def K_X11_rich : List xA := [.inr (.inl (.int (-1))), .inl (.istore 1), .inr (.inl (.int (-1))), .inl (.istore 2), .inr (.inl (.int 0)), .inl (.istore 3), .inl (.iload 3), .inl (.aload 0), .inr (.inr (3, [11, 2])), .inr (.inr (1, [2, 10])), .inr (.inr (24, [25])), .inl (.aload 0), .inr (.inr (3, [11, 6])), .inl (.iload 3), .inr (.inr (41, [85, 6])), .inl (.istore 4), .inl (.iload 4), .inl (.iload 2), .inr (.inr (26, [23])), .inl (.iload 4), .inl (.istore 2), .inl (.iload 3), .inl (.istore 1), .inr (.inr (80, [3])), .inr (.inr (10, [6])), .inl (.iload 1), .inl .ireturn]
def P_X11_rich : List Nat := [0, 1, 2, 3, 4, 5, 6, 7, 8, 11, 14, 17, 18, 21, 22, 25, 27, 29, 30, 33, 35, 36, 37, 38, 41, 44, 45, 46]
def K_X11_lone : List xA := [.inr (.inl (.int 0)), .inl (.istore 1), .inr (.inl (.int 0)), .inl (.istore 2), .inl (.iload 2), .inl (.aload 0), .inr (.inr (3, [11, 2])), .inr (.inr (1, [2, 9])), .inr (.inr (24, [22])), .inl (.aload 0), .inr (.inr (3, [11, 2])), .inl (.iload 2), .inr (.inr (41, [39, 2])), .inr (.inr (12, [20])), .inl (.iload 1), .inr (.inl (.int 1)), .inl (.iload 2), .inl .ishl, .inl .ior, .inl (.istore 1), .inr (.inr (80, [2])), .inr (.inr (10, [4])), .inl (.iload 1), .inl .ireturn]
def P_X11_lone : List Nat := [0, 1, 2, 3, 4, 5, 6, 9, 12, 15, 16, 19, 20, 23, 26, 27, 28, 29, 30, 31, 32, 35, 38, 39, 40]
def K_X11_row : List xA := [.inl (.iload 1), .inr (.inl (.int 0)), .inr (.inl (.int 4)), .inr (.inr (40, [168])), .inr (.inr (12, [7])), .inr (.inl (.int (-1))), .inl .ireturn, .inr (.inl (.int 0)), .inl (.istore 2), .inr (.inl (.int 0)), .inl (.istore 3), .inl (.iload 3), .inl (.aload 0), .inr (.inr (3, [11, 2])), .inr (.inr (1, [2, 9])), .inr (.inr (24, [36])), .inl (.aload 0), .inr (.inr (3, [11, 2])), .inr (.inr (3, [2, 1])), .inl (.iload 3), .inl .iaload, .inl (.iload 1), .inr (.inr (22, [34])), .inl (.aload 0), .inr (.inr (3, [11, 6])), .inl (.iload 3), .inr (.inr (41, [78, 6])), .inr (.inr (11, [34])), .inl (.iload 2), .inr (.inl (.int 1)), .inl (.iload 3), .inl .ishl, .inl .ior, .inl (.istore 2), .inr (.inr (80, [3])), .inr (.inr (10, [11])), .inl (.iload 2), .inl .ireturn]
def P_X11_row : List Nat := [0, 1, 2, 3, 6, 9, 10, 11, 12, 13, 14, 15, 16, 17, 20, 23, 26, 27, 30, 33, 34, 35, 36, 39, 40, 43, 44, 47, 50, 51, 52, 53, 54, 55, 56, 59, 62, 63, 64]
def K_X11_stands : List xA := [.inr (.inl (.int 0)), .inl (.istore 1), .inr (.inl (.int 0)), .inl (.istore 2), .inl (.iload 2), .inl (.aload 0), .inr (.inr (3, [11, 2])), .inr (.inr (1, [2, 10])), .inr (.inr (24, [31])), .inl (.aload 0), .inr (.inr (3, [11, 6])), .inr (.inr (3, [6, 4])), .inl (.iload 2), .inl .iaload, .inr (.inl (.int (-1))), .inr (.inr (22, [29])), .inl (.aload 0), .inr (.inr (3, [11, 6])), .inl (.aload 0), .inr (.inr (3, [11, 2])), .inl (.iload 2), .inr (.inr (41, [89, 6])), .inr (.inr (12, [29])), .inl (.iload 1), .inr (.inl (.int 1)), .inl (.iload 2), .inl .ishl, .inl .ior, .inl (.istore 1), .inr (.inr (80, [2])), .inr (.inr (10, [4])), .inl (.iload 1), .inl .ireturn]
def P_X11_stands : List Nat := [0, 1, 2, 3, 4, 5, 6, 9, 12, 15, 16, 19, 22, 23, 24, 25, 28, 29, 32, 33, 36, 37, 40, 43, 44, 45, 46, 47, 48, 49, 52, 55, 56, 57]
def K_X11_guards : List xA := [.inl (.aload 0), .inr (.inr (3, [11, 2])), .inl (.iload 1), .inr (.inr (41, [31, 2])), .inr (.inr (12, [7])), .inr (.inl (.int (-1))), .inl .ireturn, .inl (.aload 0), .inr (.inr (3, [11, 2])), .inl (.iload 1), .inr (.inr (41, [42, 2])), .inl (.istore 2), .inr (.inl (.int 0)), .inl (.istore 3), .inr (.inl (.int 0)), .inl (.istore 4), .inl (.iload 4), .inl (.aload 0), .inr (.inr (3, [11, 2])), .inr (.inr (1, [2, 9])), .inr (.inr (24, [51])), .inl (.aload 0), .inr (.inr (3, [11, 2])), .inl (.iload 4), .inr (.inr (41, [39, 2])), .inl (.istore 5), .inl (.aload 0), .inr (.inr (3, [11, 6])), .inl (.iload 4), .inr (.inr (41, [78, 6])), .inr (.inr (11, [49])), .inl (.aload 0), .inr (.inr (3, [11, 6])), .inl (.iload 5), .inr (.inr (41, [87, 6])), .inl (.aload 0), .inr (.inr (3, [11, 6])), .inl (.iload 5), .inr (.inr (41, [88, 6])), .inl .ior, .inl (.iload 2), .inl .iand, .inr (.inr (12, [49])), .inl (.iload 3), .inr (.inl (.int 1)), .inl (.iload 4), .inl .ishl, .inl .ior, .inl (.istore 3), .inr (.inr (80, [4])), .inr (.inr (10, [16])), .inl (.iload 3), .inl .ireturn]
def P_X11_guards : List Nat := [0, 1, 4, 5, 8, 11, 12, 13, 14, 17, 18, 21, 22, 23, 24, 25, 27, 29, 30, 33, 36, 39, 40, 43, 45, 48, 50, 51, 54, 56, 59, 62, 63, 66, 68, 71, 72, 75, 77, 80, 81, 82, 83, 86, 87, 88, 90, 91, 92, 93, 96, 99, 100, 101]
def K_X11_chance : List xA := [.inl (.aload 0), .inr (.inr (3, [11, 2])), .inl (.iload 1), .inr (.inr (41, [30, 2])), .inr (.inr (11, [20])), .inl (.aload 0), .inr (.inr (3, [11, 6])), .inl (.iload 1), .inr (.inr (41, [77, 6])), .inr (.inr (11, [20])), .inl (.iload 2), .inr (.inl (.int 1)), .inr (.inl (.int 6)), .inr (.inr (40, [168])), .inr (.inr (11, [20])), .inl (.iload 3), .inr (.inl (.int 0)), .inr (.inl (.int 10)), .inr (.inr (40, [168])), .inr (.inr (12, [22])), .inr (.inl (.int (-1))), .inl .ireturn, .inl (.aload 0), .inr (.inr (3, [11, 9])), .inl (.aload 0), .inr (.inr (3, [11, 2])), .inl (.aload 0), .inr (.inr (3, [11, 6])), .inl (.iload 1), .inl (.iload 2), .inl (.iload 3), .inr (.inr (41, [16, 0])), .inl .ireturn]
def P_X11_chance : List Nat := [0, 1, 4, 5, 8, 11, 12, 15, 16, 19, 22, 23, 24, 26, 29, 32, 33, 34, 36, 39, 42, 43, 44, 45, 48, 49, 52, 53, 56, 57, 58, 59, 62, 63]
def K_X11_seasons : List xA := [.inl (.iload 1), .inr (.inl (.int 0)), .inr (.inl (.int 9999)), .inr (.inr (40, [168])), .inr (.inr (11, [15])), .inl (.iload 2), .inr (.inl (.int 1)), .inr (.inl (.int 99)), .inr (.inr (40, [168])), .inr (.inr (11, [15])), .inl (.iload 3), .inr (.inl (.int 0)), .inr (.inl (.int 2)), .inr (.inr (40, [168])), .inr (.inr (12, [17])), .inr (.inl (.int (-1))), .inl .ireturn, .inl (.aload 0), .inr (.inr (3, [11, 9])), .inl (.aload 0), .inr (.inr (3, [11, 2])), .inl (.aload 0), .inr (.inr (3, [11, 6])), .inl (.iload 1), .inl (.iload 2), .inl (.iload 3), .inr (.inr (41, [19, 0])), .inl .ireturn]
def P_X11_seasons : List Nat := [0, 1, 2, 5, 8, 11, 12, 13, 15, 18, 21, 22, 23, 24, 27, 30, 31, 32, 33, 36, 37, 40, 41, 44, 45, 46, 47, 50, 51]
def K_X11_mark : List xA := [.inl (.iload 1), .inr (.inl (.int 0)), .inr (.inl (.int 3)), .inr (.inr (40, [168])), .inr (.inr (12, [7])), .inr (.inl (.int 0)), .inr (.inr (91, [])), .inl (.iload 2), .inr (.inr (11, [18])), .inl (.aload 0), .inr (.inr (3, [11, 7])), .inl (.iload 1), .inl (.aload 0), .inr (.inr (3, [11, 6])), .inl (.aload 0), .inr (.inr (3, [11, 8])), .inr (.inr (41, [73, 5])), .inr (.inr (91, [])), .inl (.aload 0), .inr (.inr (3, [11, 7])), .inl (.iload 1), .inl (.aload 0), .inr (.inr (3, [11, 6])), .inl (.aload 0), .inr (.inr (3, [11, 8])), .inr (.inr (41, [72, 5])), .inr (.inl (.int 1)), .inr (.inr (91, []))]
def P_X11_mark : List Nat := [0, 1, 2, 3, 6, 9, 10, 11, 12, 15, 16, 19, 20, 21, 24, 25, 28, 31, 32, 33, 36, 37, 38, 41, 42, 45, 48, 49, 50]
def K_X11_count : List xA := [.inl (.iload 1), .inr (.inr (27, [100, 56, 2, 6, 10, 14, 18, 24, 28, 35, 39, 43, 47, 51])), .inl (.aload 0), .inr (.inr (3, [11, 2])), .inr (.inr (1, [2, 9])), .inl .ireturn, .inl (.aload 0), .inr (.inr (3, [11, 2])), .inr (.inr (1, [2, 10])), .inl .ireturn, .inl (.aload 0), .inr (.inr (3, [11, 2])), .inr (.inr (1, [2, 11])), .inl .ireturn, .inl (.aload 0), .inr (.inr (3, [11, 6])), .inr (.inr (1, [6, 5])), .inl .ireturn, .inl (.aload 0), .inr (.inr (3, [11, 6])), .inl (.aload 0), .inr (.inr (3, [11, 2])), .inr (.inr (41, [82, 6])), .inl .ireturn, .inl (.aload 0), .inr (.inr (3, [11, 6])), .inr (.inr (41, [83, 6])), .inl .ireturn, .inl (.aload 0), .inr (.inr (3, [11, 6])), .inl (.aload 0), .inr (.inr (3, [11, 2])), .inr (.inr (41, [32, 2])), .inr (.inr (41, [87, 6])), .inl .ireturn, .inl (.aload 0), .inr (.inr (3, [11, 6])), .inr (.inr (41, [86, 6])), .inl .ireturn, .inl (.aload 0), .inr (.inr (3, [11, 4])), .inr (.inr (1, [1, 3])), .inl .ireturn, .inl (.aload 0), .inr (.inr (3, [11, 8])), .inr (.inr (1, [7, 3])), .inl .ireturn, .inl (.aload 0), .inr (.inr (3, [11, 7])), .inr (.inr (1, [5, 5])), .inl .ireturn, .inl (.aload 0), .inr (.inr (3, [11, 0])), .inr (.inr (3, [10, 0])), .inr (.inr (1, [9, 1])), .inl .ireturn, .inr (.inl (.int (-1))), .inl .ireturn]
def P_X11_count : List Nat := [0, 1, 64, 65, 68, 71, 72, 73, 76, 79, 80, 81, 84, 87, 88, 89, 92, 95, 96, 97, 100, 101, 104, 107, 108, 109, 112, 115, 116, 117, 120, 121, 124, 127, 130, 131, 132, 135, 138, 139, 140, 143, 146, 147, 148, 151, 154, 155, 156, 159, 162, 163, 164, 167, 170, 173, 174, 175, 176]
def K_X11_isWithin : List xA := [.inl (.iload 0), .inl (.iload 1), .inr (.inr (23, [8])), .inl (.iload 0), .inl (.iload 2), .inr (.inr (25, [8])), .inr (.inl (.int 1)), .inr (.inr (10, [9])), .inr (.inl (.int 0)), .inr (.inr (91, []))]
def P_X11_isWithin : List Nat := [0, 1, 2, 5, 6, 7, 10, 11, 14, 15, 16]
def K_X11_done : List xA := [.inl (.aload 0), .inr (.inr (3, [11, 6])), .inl (.aload 0), .inr (.inr (3, [11, 2])), .inl (.iload 1), .inl (.iload 2), .inl (.iload 3), .inr (.inr (41, [90, 6])), .inr (.inr (12, [11])), .inr (.inl (.int 0)), .inr (.inr (91, [])), .inl (.aload 0), .inr (.inr (3, [11, 7])), .inl (.aload 0), .inr (.inr (3, [11, 6])), .inr (.inr (41, [70, 5])), .inl (.aload 0), .inr (.inr (3, [11, 6])), .inl (.aload 0), .inr (.inr (3, [11, 2])), .inl (.iload 1), .inl (.iload 2), .inl (.iload 3), .inr (.inr (41, [91, 6])), .inl .pop, .inr (.inl (.int 1)), .inr (.inr (91, []))]
def P_X11_done : List Nat := [0, 1, 4, 5, 8, 9, 10, 11, 14, 17, 18, 19, 20, 23, 24, 27, 30, 31, 34, 35, 38, 39, 40, 41, 44, 45, 46, 47]
def K_X11_pairsThatSitNear : List xA := [.inr (.inl (.int 0)), .inl (.istore 2), .inr (.inl (.int 0)), .inl (.istore 3), .inl (.iload 3), .inl (.aload 0), .inr (.inr (3, [11, 2])), .inr (.inr (1, [2, 10])), .inr (.inr (24, [55])), .inl (.aload 0), .inr (.inr (3, [11, 6])), .inr (.inr (3, [6, 4])), .inl (.iload 3), .inl .iaload, .inr (.inl (.int (-1))), .inr (.inr (22, [18])), .inr (.inl (.int 0)), .inr (.inr (10, [29])), .inl (.aload 0), .inr (.inr (3, [11, 6])), .inl (.aload 0), .inr (.inr (3, [11, 2])), .inl (.aload 0), .inr (.inr (3, [11, 6])), .inr (.inr (3, [6, 4])), .inl (.iload 3), .inl .iaload, .inr (.inr (41, [39, 2])), .inr (.inr (41, [87, 6])), .inl (.istore 4), .inl (.iload 1), .inr (.inr (11, [38])), .inl (.aload 0), .inr (.inr (3, [11, 2])), .inr (.inr (3, [2, 7])), .inl (.iload 3), .inl .iaload, .inr (.inr (10, [45])), .inl (.aload 0), .inr (.inr (3, [11, 2])), .inr (.inr (3, [2, 7])), .inl (.iload 3), .inl .iaload, .inr (.inl (.int (-1))), .inl .ixor, .inl (.istore 5), .inl (.iload 2), .inl (.iload 4), .inl (.iload 5), .inl .iand, .inr (.inr (40, [0])), .inl .iadd, .inl (.istore 2), .inr (.inr (80, [3])), .inr (.inr (10, [4])), .inl (.iload 2), .inr (.inl (.int 2)), .inl .idiv, .inl .ireturn]
def P_X11_pairsThatSitNear : List Nat := [0, 1, 2, 3, 4, 5, 6, 9, 12, 15, 16, 19, 22, 23, 24, 25, 28, 29, 32, 33, 36, 37, 40, 41, 44, 47, 48, 49, 52, 55, 57, 58, 61, 62, 65, 68, 69, 70, 73, 74, 77, 80, 81, 82, 83, 84, 86, 87, 89, 91, 92, 95, 96, 97, 100, 103, 104, 105, 106, 107]
def K_X11_isRest : List xA := [.inl (.iload 3), .inr (.inl (.int 1)), .inl .ishr, .inl (.istore 4), .inl (.iload 3), .inr (.inl (.int 1)), .inl .iand, .inl (.istore 5), .inl (.iload 0), .inl (.iload 1), .inl (.iload 2), .inl (.iload 4), .inl (.iload 5), .inr (.inr (40, [172])), .inl (.iload 0), .inl (.iload 1), .inl (.iload 2), .inr (.inl (.int 1)), .inl (.iload 4), .inl .isub, .inl (.iload 5), .inr (.inr (40, [172])), .inr (.inr (23, [40])), .inl (.iload 0), .inl (.iload 1), .inl (.iload 2), .inl (.iload 5), .inl (.iload 4), .inr (.inr (40, [172])), .inl (.iload 0), .inl (.iload 1), .inl (.iload 2), .inr (.inl (.int 1)), .inl (.iload 5), .inl .isub, .inl (.iload 4), .inr (.inr (40, [172])), .inr (.inr (23, [40])), .inr (.inl (.int 1)), .inr (.inr (10, [41])), .inr (.inl (.int 0)), .inr (.inr (91, []))]
def P_X11_isRest : List Nat := [0, 1, 2, 3, 5, 6, 7, 8, 10, 11, 12, 13, 15, 17, 20, 21, 22, 23, 24, 26, 27, 29, 32, 35, 36, 37, 38, 40, 42, 45, 46, 47, 48, 49, 51, 52, 54, 57, 60, 61, 64, 65, 66]
def K_X11_gain : List xA := [.inl (.iload 3), .inr (.inl (.int 1)), .inr (.inr (22, [11])), .inl (.iload 4), .inr (.inl (.int 1)), .inr (.inr (22, [9])), .inl (.iload 0), .inl .ineg, .inr (.inr (10, [10])), .inl (.iload 1), .inl .ireturn, .inl (.iload 4), .inr (.inl (.int 1)), .inr (.inr (22, [16])), .inl (.iload 2), .inr (.inr (10, [17])), .inr (.inl (.int 0)), .inl .ireturn]
def P_X11_gain : List Nat := [0, 1, 2, 5, 7, 8, 11, 12, 13, 16, 17, 18, 20, 21, 24, 25, 28, 29, 30]
def K_X12_thrown : List xA := [.inl (.aload 0), .inr (.inr (1, [12, 0])), .inl .ireturn]
def P_X12_thrown : List Nat := [0, 1, 4, 5]
def K_X12_feed : List xA := [.inl (.aload 0), .inr (.inl (.int 0)), .inr (.inr (4, [12, 0])), .inl (.aload 0), .inl (.lload 1), .inr (.inr (41, [175, 12])), .inl (.aload 0), .inl (.lload 3), .inr (.inr (41, [175, 12])), .inl (.aload 0), .inl (.lload 5), .inr (.inr (41, [175, 12])), .inl (.aload 0), .inr (.inr (1, [12, 2])), .inl .ireturn]
def P_X12_feed : List Nat := [0, 1, 2, 5, 6, 7, 10, 11, 12, 15, 16, 18, 21, 22, 25, 26]
def K_X12_lay : List xA := [.inr (.inl (.int 56)), .inl (.istore 3), .inl (.iload 3), .inr (.inr (13, [38])), .inl (.lload 1), .inl (.iload 3), .inl .lshr, .inl .l2i, .inr (.inl (.int 255)), .inl .iand, .inl (.istore 4), .inl (.iload 4), .inr (.inl (.int 10)), .inr (.inr (21, [20])), .inl (.iload 4), .inr (.inl (.int 32)), .inr (.inr (23, [36])), .inl (.iload 4), .inr (.inl (.int 126)), .inr (.inr (25, [36])), .inl (.aload 0), .inr (.inr (1, [12, 2])), .inr (.inl (.int 1000)), .inr (.inr (24, [36])), .inl (.aload 0), .inr (.inr (3, [12, 1])), .inl (.aload 0), .inr (.inr (1, [12, 2])), .inl (.iload 4), .inl .iastore, .inl (.aload 0), .inl .dup, .inr (.inr (1, [12, 2])), .inr (.inl (.int 1)), .inl .iadd, .inr (.inr (4, [12, 2])), .inr (.inr (82, [3])), .inr (.inr (10, [2])), .inl .return_]
def P_X12_lay : List Nat := [0, 2, 3, 4, 7, 8, 9, 10, 11, 14, 15, 17, 19, 21, 24, 26, 28, 31, 33, 35, 38, 39, 42, 45, 48, 49, 52, 53, 56, 58, 59, 60, 61, 64, 65, 66, 69, 72, 75, 76]
def K_X12_init : List xA := [.inl (.aload 0), .inr (.inr (67, [])), .inl (.aload 0), .inr (.inl (.int 1000)), .inr (.inr (51, [0])), .inr (.inr (6, [12, 1])), .inl (.aload 0), .inr (.inl (.int 1002)), .inr (.inr (51, [0])), .inr (.inr (6, [12, 4])), .inl (.aload 0), .inr (.inl (.int 1002)), .inr (.inr (51, [0])), .inr (.inr (6, [12, 5])), .inl (.aload 0), .inr (.inl (.int 1002)), .inr (.inr (51, [1])), .inr (.inr (6, [12, 6])), .inl (.aload 0), .inr (.inl (.int 24)), .inr (.inr (51, [1])), .inl .dup, .inr (.inl (.int 0)), .inr (.inl (.long 969309)), .inl .lastore, .inl .dup, .inr (.inl (.int 1)), .inr (.inl (.long 25220)), .inl .lastore, .inl .dup, .inr (.inl (.int 2)), .inr (.inl (.long 57)), .inl .lastore, .inl .dup, .inr (.inl (.int 3)), .inr (.inl (.long 1119812451)), .inl .lastore, .inl .dup, .inr (.inl (.int 4)), .inr (.inl (.long 37414541655)), .inl .lastore, .inl .dup, .inr (.inl (.int 5)), .inr (.inl (.long 8774)), .inl .lastore, .inl .dup, .inr (.inl (.int 6)), .inr (.inl (.long 22567355)), .inl .lastore, .inl .dup, .inr (.inl (.int 7)), .inr (.inl (.long 43361022)), .inl .lastore, .inl .dup, .inr (.inl (.int 8)), .inr (.inl (.long 16490)), .inl .lastore, .inl .dup, .inr (.inl (.int 9)), .inr (.inl (.long 26364)), .inl .lastore, .inl .dup, .inr (.inl (.int 10)), .inr (.inl (.long 924783)), .inl .lastore, .inl .dup, .inr (.inl (.int 11)), .inr (.inl (.long 14032995)), .inl .lastore, .inl .dup, .inr (.inl (.int 12)), .inr (.inl (.long 426554)), .inl .lastore, .inl .dup, .inr (.inl (.int 13)), .inr (.inl (.long 30596128)), .inl .lastore, .inl .dup, .inr (.inl (.int 14)), .inr (.inl (.long 609378)), .inl .lastore, .inl .dup, .inr (.inl (.int 15)), .inr (.inl (.long 913842)), .inl .lastore, .inl .dup, .inr (.inl (.int 16)), .inr (.inl (.long 7797524536)), .inl .lastore, .inl .dup, .inr (.inl (.int 17)), .inr (.inl (.long 19741)), .inl .lastore, .inl .dup, .inr (.inl (.int 18)), .inr (.inl (.long 1891)), .inl .lastore, .inl .dup, .inr (.inl (.int 19)), .inr (.inl (.long 573)), .inl .lastore, .inl .dup, .inr (.inl (.int 20)), .inr (.inl (.long 12164276)), .inl .lastore, .inl .dup, .inr (.inl (.int 21)), .inr (.inl (.long 8762515035)), .inl .lastore, .inl .dup, .inr (.inl (.int 22)), .inr (.inl (.long 913652)), .inl .lastore, .inl .dup, .inr (.inl (.int 23)), .inr (.inl (.long 204726)), .inl .lastore, .inr (.inr (6, [12, 9])), .inl (.aload 0), .inr (.inl (.int 80)), .inr (.inr (51, [0])), .inr (.inr (6, [12, 10])), .inl (.aload 0), .inr (.inl (.int 2200)), .inr (.inr (51, [0])), .inr (.inr (6, [12, 11])), .inl (.aload 0), .inr (.inl (.int 2200)), .inr (.inr (51, [0])), .inr (.inr (6, [12, 12])), .inl (.aload 0), .inr (.inl (.int 12)), .inr (.inr (51, [1])), .inr (.inr (6, [12, 14])), .inl (.aload 0), .inr (.inl (.int 12)), .inr (.inr (51, [1])), .inr (.inr (6, [12, 15])), .inl (.aload 0), .inr (.inl (.int 12)), .inr (.inr (51, [0])), .inr (.inr (6, [12, 16])), .inl (.aload 0), .inr (.inl (.int 12)), .inr (.inr (51, [0])), .inr (.inr (6, [12, 17])), .inl (.aload 0), .inr (.inl (.int 250)), .inr (.inr (51, [0])), .inr (.inr (6, [12, 21])), .inl (.aload 0), .inr (.inl (.int 4)), .inr (.inr (51, [0])), .inr (.inr (6, [12, 22])), .inl (.aload 0), .inr (.inl (.int 1100)), .inr (.inr (51, [0])), .inr (.inr (6, [12, 23])), .inl (.aload 0), .inr (.inl (.int 1150)), .inr (.inr (51, [0])), .inr (.inr (6, [12, 24])), .inl (.aload 0), .inr (.inl (.int 4)), .inr (.inr (51, [3])), .inr (.inr (6, [12, 26])), .inl (.aload 0), .inr (.inl (.int 7)), .inr (.inr (51, [0])), .inr (.inr (6, [12, 27])), .inl (.aload 0), .inr (.inl (.int 7)), .inr (.inr (51, [0])), .inr (.inr (6, [12, 28])), .inl (.aload 0), .inr (.inl (.int 5)), .inr (.inr (51, [0])), .inr (.inr (6, [12, 29])), .inl (.aload 0), .inr (.inl (.int 5)), .inr (.inr (51, [0])), .inr (.inr (6, [12, 30])), .inl (.aload 0), .inr (.inl (.int 35)), .inr (.inr (51, [0])), .inr (.inr (6, [12, 33])), .inl (.aload 0), .inr (.inl (.int 0)), .inr (.inr (41, [190, 12])), .inl (.aload 0), .inr (.inr (41, [214, 12])), .inl .return_]
def P_X12_init : List Nat := [0, 1, 4, 5, 8, 10, 13, 14, 17, 19, 22, 23, 26, 28, 31, 32, 35, 37, 40, 41, 43, 45, 46, 47, 50, 51, 52, 53, 56, 57, 58, 59, 62, 63, 64, 65, 68, 69, 70, 71, 74, 75, 76, 77, 80, 81, 82, 84, 87, 88, 89, 91, 94, 95, 96, 98, 101, 102, 103, 105, 108, 109, 110, 112, 115, 116, 117, 119, 122, 123, 124, 126, 129, 130, 131, 133, 136, 137, 138, 140, 143, 144, 145, 147, 150, 151, 152, 154, 157, 158, 159, 161, 164, 165, 166, 168, 171, 172, 173, 175, 178, 179, 180, 182, 185, 186, 187, 189, 192, 193, 194, 196, 199, 200, 201, 203, 206, 207, 210, 211, 213, 215, 218, 219, 222, 224, 227, 228, 231, 233, 236, 237, 239, 241, 244, 245, 247, 249, 252, 253, 255, 257, 260, 261, 263, 265, 268, 269, 272, 274, 277, 278, 279, 281, 284, 285, 288, 290, 293, 294, 297, 299, 302, 303, 304, 306, 309, 310, 312, 314, 317, 318, 320, 322, 325, 326, 327, 329, 332, 333, 334, 336, 339, 340, 342, 344, 347, 348, 349, 352, 353, 356, 357]
def K_X12_isLetter : List xA := [.inl (.iload 0), .inr (.inl (.int 97)), .inr (.inr (23, [8])), .inl (.iload 0), .inr (.inl (.int 122)), .inr (.inr (25, [8])), .inr (.inl (.int 1)), .inr (.inr (10, [9])), .inr (.inl (.int 0)), .inr (.inr (91, []))]
def P_X12_isLetter : List Nat := [0, 1, 3, 6, 7, 9, 12, 13, 16, 17, 18]
def K_X12_isDigit : List xA := [.inl (.iload 0), .inr (.inl (.int 48)), .inr (.inr (23, [8])), .inl (.iload 0), .inr (.inl (.int 57)), .inr (.inr (25, [8])), .inr (.inl (.int 1)), .inr (.inr (10, [9])), .inr (.inl (.int 0)), .inr (.inr (91, []))]
def P_X12_isDigit : List Nat := [0, 1, 3, 6, 7, 9, 12, 13, 16, 17, 18]
def K_X12_rank : List xA := [.inl (.iload 0), .inr (.inr (40, [177])), .inr (.inr (11, [7])), .inl (.iload 0), .inr (.inl (.int 96)), .inl .isub, .inr (.inr (10, [10])), .inl (.iload 0), .inr (.inl (.int 21)), .inl .isub, .inl .ireturn]
def P_X12_rank : List Nat := [0, 1, 4, 7, 8, 10, 11, 14, 15, 17, 18, 19]
def K_X12_isSignOf : List xA := [.inl (.iload 0), .inr (.inl (.int 40)), .inr (.inr (21, [24])), .inl (.iload 0), .inr (.inl (.int 41)), .inr (.inr (21, [24])), .inl (.iload 0), .inr (.inl (.int 59)), .inr (.inr (21, [24])), .inl (.iload 0), .inr (.inl (.int 61)), .inr (.inr (21, [24])), .inl (.iload 0), .inr (.inl (.int 60)), .inr (.inr (21, [24])), .inl (.iload 0), .inr (.inl (.int 43)), .inr (.inr (21, [24])), .inl (.iload 0), .inr (.inl (.int 45)), .inr (.inr (21, [24])), .inl (.iload 0), .inr (.inl (.int 42)), .inr (.inr (22, [26])), .inr (.inl (.int 1)), .inr (.inr (10, [27])), .inr (.inl (.int 0)), .inr (.inr (91, []))]
def P_X12_isSignOf : List Nat := [0, 1, 3, 6, 7, 9, 12, 13, 15, 18, 19, 21, 24, 25, 27, 30, 31, 33, 36, 37, 39, 42, 43, 45, 48, 49, 52, 53, 54]
def K_X12_cutAll : List xA := [.inl (.aload 0), .inl (.aload 0), .inr (.inr (1, [12, 2])), .inr (.inr (4, [12, 3])), .inl (.aload 0), .inr (.inl (.int 0)), .inr (.inr (4, [12, 2])), .inr (.inl (.int 0)), .inl (.istore 1), .inr (.inl (.int 0)), .inl (.istore 2), .inl (.iload 2), .inl (.aload 0), .inr (.inr (1, [12, 3])), .inr (.inr (24, [151])), .inl (.aload 0), .inr (.inr (3, [12, 1])), .inl (.iload 2), .inl .iaload, .inl (.istore 3), .inl (.iload 3), .inr (.inl (.int 10)), .inr (.inr (21, [26])), .inl (.iload 3), .inr (.inl (.int 32)), .inr (.inr (22, [28])), .inr (.inr (80, [2])), .inr (.inr (10, [11])), .inl (.iload 2), .inl (.istore 4), .inr (.inl (.long 0)), .inl (.lstore 5), .inl (.aload 0), .inr (.inr (3, [12, 5])), .inl (.iload 1), .inl (.iload 2), .inl .iastore, .inl (.iload 3), .inr (.inr (40, [177])), .inr (.inr (11, [83])), .inl (.iload 2), .inl (.aload 0), .inr (.inr (1, [12, 3])), .inr (.inr (24, [70])), .inl (.aload 0), .inr (.inr (3, [12, 1])), .inl (.iload 2), .inl .iaload, .inr (.inr (40, [177])), .inr (.inr (11, [70])), .inl (.iload 2), .inl (.iload 4), .inl .isub, .inr (.inl (.int 8)), .inr (.inr (24, [66])), .inr (.inl (.long 37)), .inl (.lload 5), .inl .lmul, .inl (.aload 0), .inr (.inr (3, [12, 1])), .inl (.iload 2), .inl .iaload, .inr (.inr (40, [179])), .inl .i2l, .inl .ladd, .inr (.inr (10, [67])), .inl (.lload 5), .inl (.lstore 5), .inr (.inr (80, [2])), .inr (.inr (10, [40])), .inl (.aload 0), .inr (.inr (3, [12, 4])), .inl (.iload 1), .inl (.iload 2), .inl (.iload 4), .inl .isub, .inr (.inl (.int 8)), .inr (.inr (26, [80])), .inr (.inl (.int 4)), .inr (.inr (10, [81])), .inr (.inl (.int 1)), .inl .iastore, .inr (.inr (10, [144])), .inl (.iload 3), .inr (.inr (40, [178])), .inr (.inr (11, [130])), .inl (.iload 2), .inl (.aload 0), .inr (.inr (1, [12, 3])), .inr (.inr (24, [117])), .inl (.aload 0), .inr (.inr (3, [12, 1])), .inl (.iload 2), .inl .iaload, .inr (.inr (40, [178])), .inr (.inr (11, [117])), .inl (.iload 2), .inl (.iload 4), .inl .isub, .inr (.inl (.int 4)), .inr (.inr (24, [113])), .inr (.inl (.long 10)), .inl (.lload 5), .inl .lmul, .inl (.aload 0), .inr (.inr (3, [12, 1])), .inl (.iload 2), .inl .iaload, .inl .i2l, .inl .ladd, .inr (.inl (.long 48)), .inl .lsub, .inr (.inr (10, [114])), .inl (.lload 5), .inl (.lstore 5), .inr (.inr (80, [2])), .inr (.inr (10, [86])), .inl (.aload 0), .inr (.inr (3, [12, 4])), .inl (.iload 1), .inl (.iload 2), .inl (.iload 4), .inl .isub, .inr (.inl (.int 4)), .inr (.inr (26, [127])), .inr (.inl (.int 4)), .inr (.inr (10, [128])), .inr (.inl (.int 2)), .inl .iastore, .inr (.inr (10, [144])), .inl (.iload 3), .inl .i2l, .inl (.lstore 5), .inl (.aload 0), .inr (.inr (3, [12, 4])), .inl (.iload 1), .inl (.iload 3), .inr (.inr (40, [180])), .inr (.inr (11, [141])), .inr (.inl (.int 3)), .inr (.inr (10, [142])), .inr (.inl (.int 4)), .inl .iastore, .inr (.inr (80, [2])), .inl (.aload 0), .inr (.inr (3, [12, 6])), .inl (.iload 1), .inl (.lload 5), .inl .lastore, .inr (.inr (80, [1])), .inr (.inr (10, [11])), .inl (.aload 0), .inr (.inr (3, [12, 4])), .inl (.iload 1), .inr (.inl (.int 0)), .inl .iastore, .inl (.aload 0), .inr (.inr (3, [12, 5])), .inl (.iload 1), .inl (.aload 0), .inr (.inr (1, [12, 3])), .inl .iastore, .inl (.aload 0), .inr (.inl (.int 0)), .inr (.inr (4, [12, 7])), .inl (.aload 0), .inr (.inl (.int 0)), .inr (.inr (4, [12, 8])), .inl .return_]
def P_X12_cutAll : List Nat := [0, 1, 2, 5, 8, 9, 10, 13, 14, 15, 16, 17, 18, 19, 22, 25, 26, 29, 30, 31, 32, 33, 35, 38, 39, 41, 44, 47, 50, 51, 53, 54, 56, 57, 60, 61, 62, 63, 64, 67, 70, 71, 72, 75, 78, 79, 82, 83, 84, 87, 90, 91, 93, 94, 96, 99, 102, 104, 105, 106, 109, 110, 111, 114, 115, 116, 119, 121, 123, 126, 129, 130, 133, 134, 135, 137, 138, 140, 143, 144, 147, 148, 149, 152, 153, 156, 159, 160, 161, 164, 167, 168, 171, 172, 173, 176, 179, 180, 182, 183, 184, 187, 190, 192, 193, 194, 197, 198, 199, 200, 201, 204, 205, 208, 210, 212, 215, 218, 219, 222, 223, 224, 226, 227, 228, 231, 232, 235, 236, 237, 240, 241, 242, 244, 245, 248, 249, 250, 253, 256, 257, 260, 261, 262, 265, 266, 269, 270, 272, 273, 276, 279, 280, 283, 284, 285, 286, 287, 290, 291, 292, 295, 296, 297, 298, 301, 302, 303, 306, 307]
def K_X12_wrong : List xA := [.inl (.aload 0), .inr (.inr (1, [12, 8])), .inr (.inr (12, [14])), .inl (.aload 0), .inl (.iload 1), .inr (.inl (.int 16)), .inl (.aload 0), .inr (.inr (3, [12, 5])), .inl (.aload 0), .inr (.inr (1, [12, 7])), .inl .iaload, .inl .imul, .inl .iadd, .inr (.inr (4, [12, 8])), .inl .return_]
def P_X12_wrong : List Nat := [0, 1, 4, 7, 8, 9, 11, 12, 15, 16, 19, 20, 21, 22, 25, 26]
def K_X12_isSign : List xA := [.inl (.aload 0), .inr (.inr (1, [12, 8])), .inr (.inr (12, [21])), .inl (.aload 0), .inr (.inr (3, [12, 4])), .inl (.aload 0), .inr (.inr (1, [12, 7])), .inl .iaload, .inr (.inl (.int 3)), .inr (.inr (22, [21])), .inl (.aload 0), .inr (.inr (3, [12, 6])), .inl (.aload 0), .inr (.inr (1, [12, 7])), .inl .laload, .inl (.iload 1), .inl .i2l, .inl .lcmp, .inr (.inr (12, [21])), .inr (.inl (.int 1)), .inr (.inr (10, [22])), .inr (.inl (.int 0)), .inr (.inr (91, []))]
def P_X12_isSign : List Nat := [0, 1, 4, 7, 8, 11, 12, 15, 16, 17, 20, 21, 24, 25, 28, 29, 30, 31, 32, 35, 36, 39, 40, 41]
def K_X12_isWord : List xA := [.inl (.aload 0), .inr (.inr (1, [12, 8])), .inr (.inr (12, [23])), .inl (.aload 0), .inr (.inr (3, [12, 4])), .inl (.aload 0), .inr (.inr (1, [12, 7])), .inl .iaload, .inr (.inl (.int 1)), .inr (.inr (22, [23])), .inl (.aload 0), .inr (.inr (3, [12, 6])), .inl (.aload 0), .inr (.inr (1, [12, 7])), .inl .laload, .inl (.aload 0), .inr (.inr (3, [12, 9])), .inl (.iload 1), .inl .laload, .inl .lcmp, .inr (.inr (12, [23])), .inr (.inl (.int 1)), .inr (.inr (10, [24])), .inr (.inl (.int 0)), .inr (.inr (91, []))]
def P_X12_isWord : List Nat := [0, 1, 4, 7, 8, 11, 12, 15, 16, 17, 20, 21, 24, 25, 28, 29, 30, 33, 34, 35, 36, 39, 40, 43, 44, 45]
def K_X12_takeSign : List xA := [.inl (.aload 0), .inl (.iload 1), .inr (.inr (41, [183, 12])), .inr (.inr (11, [11])), .inl (.aload 0), .inl .dup, .inr (.inr (1, [12, 7])), .inr (.inl (.int 1)), .inl .iadd, .inr (.inr (4, [12, 7])), .inr (.inr (10, [14])), .inl (.aload 0), .inr (.inl (.int 1)), .inr (.inr (41, [182, 12])), .inl .return_]
def P_X12_takeSign : List Nat := [0, 1, 2, 5, 8, 9, 10, 13, 14, 15, 18, 21, 22, 23, 26, 27]
def K_X12_hasSign : List xA := [.inl (.aload 0), .inl (.iload 1), .inr (.inr (41, [183, 12])), .inl (.istore 2), .inl (.aload 0), .inl .dup, .inr (.inr (1, [12, 7])), .inl (.iload 2), .inr (.inr (11, [11])), .inr (.inl (.int 1)), .inr (.inr (10, [12])), .inr (.inl (.int 0)), .inl .iadd, .inr (.inr (4, [12, 7])), .inl (.iload 2), .inr (.inr (91, []))]
def P_X12_hasSign : List Nat := [0, 1, 2, 5, 6, 7, 8, 11, 12, 15, 16, 19, 20, 21, 24, 25, 26]
def K_X12_hasWord : List xA := [.inl (.aload 0), .inl (.iload 1), .inr (.inr (41, [184, 12])), .inl (.istore 2), .inl (.aload 0), .inl .dup, .inr (.inr (1, [12, 7])), .inl (.iload 2), .inr (.inr (11, [11])), .inr (.inl (.int 1)), .inr (.inr (10, [12])), .inr (.inl (.int 0)), .inl .iadd, .inr (.inr (4, [12, 7])), .inl (.iload 2), .inr (.inr (91, []))]
def P_X12_hasWord : List Nat := [0, 1, 2, 5, 6, 7, 8, 11, 12, 15, 16, 19, 20, 21, 24, 25, 26]
def K_X12_takeWord : List xA := [.inl (.aload 0), .inl (.iload 1), .inr (.inr (41, [187, 12])), .inr (.inr (12, [7])), .inl (.aload 0), .inr (.inl (.int 1)), .inr (.inr (41, [182, 12])), .inl .return_]
def P_X12_takeWord : List Nat := [0, 1, 2, 5, 8, 9, 10, 13, 14]
def K_X12_within : List xA := [.inl (.iload 0), .inl (.iload 1), .inr (.inr (23, [8])), .inl (.iload 0), .inl (.iload 2), .inr (.inr (25, [8])), .inr (.inl (.int 1)), .inr (.inr (10, [9])), .inr (.inl (.int 0)), .inr (.inr (91, []))]
def P_X12_within : List Nat := [0, 1, 2, 5, 6, 7, 10, 11, 14, 15, 16]
def K_X12_standsAsAlways : List xA := [.inr (.inl (.int 0)), .inl (.istore 2), .inl (.iload 2), .inr (.inl (.int 40)), .inr (.inr (24, [14])), .inl (.aload 0), .inr (.inr (3, [12, 10])), .inl (.iload 1), .inl (.iload 2), .inl .iadd, .inr (.inl (.int 0)), .inl .iastore, .inr (.inr (80, [2])), .inr (.inr (10, [2])), .inl (.aload 0), .inr (.inr (3, [12, 10])), .inl (.iload 1), .inr (.inl (.int 2)), .inl .iadd, .inr (.inl (.int 6)), .inl .iastore, .inl (.aload 0), .inr (.inr (3, [12, 10])), .inl (.iload 1), .inr (.inl (.int 3)), .inl .iadd, .inr (.inl (.int (-1))), .inl .iastore, .inl .return_]
def P_X12_standsAsAlways : List Nat := [0, 1, 2, 3, 5, 8, 9, 12, 13, 14, 15, 16, 17, 20, 23, 24, 27, 28, 29, 30, 32, 33, 34, 37, 38, 39, 40, 41, 42, 43]
def K_X12_takeNumber : List xA := [.inl (.aload 0), .inr (.inr (1, [12, 8])), .inr (.inr (12, [14])), .inl (.aload 0), .inr (.inr (3, [12, 4])), .inl (.aload 0), .inr (.inr (1, [12, 7])), .inl .iaload, .inr (.inl (.int 2)), .inr (.inr (21, [14])), .inl (.aload 0), .inr (.inl (.int 1)), .inr (.inr (41, [182, 12])), .inr (.inr (10, [38])), .inl (.aload 0), .inr (.inr (1, [12, 8])), .inr (.inr (12, [38])), .inl (.aload 0), .inr (.inr (3, [12, 6])), .inl (.aload 0), .inr (.inr (1, [12, 7])), .inl .laload, .inl (.iload 1), .inl .i2l, .inl .lcmp, .inr (.inr (13, [35])), .inl (.aload 0), .inr (.inr (3, [12, 6])), .inl (.aload 0), .inr (.inr (1, [12, 7])), .inl .laload, .inl (.iload 2), .inl .i2l, .inl .lcmp, .inr (.inr (16, [38])), .inl (.aload 0), .inr (.inl (.int 4)), .inr (.inr (41, [182, 12])), .inl (.aload 0), .inr (.inr (1, [12, 8])), .inr (.inr (16, [43])), .inr (.inl (.int 0)), .inl .ireturn, .inl (.aload 0), .inl .dup, .inr (.inr (1, [12, 7])), .inr (.inl (.int 1)), .inl .iadd, .inr (.inr (4, [12, 7])), .inl (.aload 0), .inr (.inr (3, [12, 6])), .inl (.aload 0), .inr (.inr (1, [12, 7])), .inr (.inl (.int 1)), .inl .isub, .inl .laload, .inl .l2i, .inl .ireturn]
def P_X12_takeNumber : List Nat := [0, 1, 4, 7, 8, 11, 12, 15, 16, 17, 20, 21, 22, 25, 28, 29, 32, 35, 36, 39, 40, 43, 44, 45, 46, 47, 50, 51, 54, 55, 58, 59, 60, 61, 62, 65, 66, 67, 70, 71, 74, 77, 78, 79, 80, 81, 84, 85, 86, 89, 90, 93, 94, 97, 98, 99, 100, 101, 102]
def K_X12_takeAfter : List xA := [.inl (.aload 0), .inl (.iload 1), .inr (.inr (41, [188, 12])), .inl (.aload 0), .inl (.iload 2), .inl (.iload 3), .inr (.inr (41, [191, 12])), .inl .ireturn]
def P_X12_takeAfter : List Nat := [0, 1, 2, 5, 6, 7, 8, 11, 12]
def K_X12_wordHere : List xA := [.inr (.inl (.int (-1))), .inl (.istore 3), .inr (.inl (.int 0)), .inl (.istore 4), .inl (.iload 4), .inl (.iload 2), .inr (.inr (24, [19])), .inl (.aload 0), .inl (.iload 1), .inl (.iload 4), .inl .iadd, .inr (.inr (41, [184, 12])), .inr (.inr (11, [15])), .inl (.iload 4), .inr (.inr (10, [16])), .inl (.iload 3), .inl (.istore 3), .inr (.inr (80, [4])), .inr (.inr (10, [4])), .inl (.iload 3), .inl .ireturn]
def P_X12_wordHere : List Nat := [0, 1, 2, 3, 5, 7, 8, 11, 12, 13, 15, 16, 19, 22, 24, 27, 28, 29, 32, 35, 36, 37]
def K_X12_takeOne : List xA := [.inl (.aload 0), .inr (.inr (1, [12, 8])), .inr (.inr (16, [5])), .inr (.inl (.int (-1))), .inr (.inr (10, [9])), .inl (.aload 0), .inl (.iload 1), .inl (.iload 2), .inr (.inr (41, [193, 12])), .inl (.istore 3), .inl (.aload 0), .inr (.inr (1, [12, 8])), .inr (.inr (12, [18])), .inl (.iload 3), .inr (.inr (14, [18])), .inl (.aload 0), .inr (.inl (.int 1)), .inr (.inr (41, [182, 12])), .inl (.aload 0), .inl .dup, .inr (.inr (1, [12, 7])), .inl (.aload 0), .inr (.inr (1, [12, 8])), .inr (.inr (16, [26])), .inr (.inl (.int 0)), .inr (.inr (10, [27])), .inr (.inl (.int 1)), .inl .iadd, .inr (.inr (4, [12, 7])), .inl (.aload 0), .inr (.inr (1, [12, 8])), .inr (.inr (16, [34])), .inr (.inl (.int 0)), .inr (.inr (10, [35])), .inl (.iload 3), .inl .ireturn]
def P_X12_takeOne : List Nat := [0, 1, 4, 7, 8, 11, 12, 13, 14, 17, 18, 19, 22, 25, 26, 29, 30, 31, 34, 35, 36, 39, 40, 43, 46, 47, 50, 51, 52, 55, 56, 59, 62, 63, 66, 67, 68]
def K_X12_isName : List xA := [.inl (.aload 0), .inr (.inr (1, [12, 8])), .inr (.inr (12, [17])), .inl (.aload 0), .inr (.inr (3, [12, 4])), .inl (.aload 0), .inr (.inr (1, [12, 7])), .inl .iaload, .inr (.inl (.int 1)), .inr (.inr (22, [17])), .inl (.aload 0), .inr (.inl (.int 0)), .inr (.inl (.int 20)), .inr (.inr (41, [193, 12])), .inr (.inr (14, [17])), .inr (.inl (.int 1)), .inr (.inr (10, [18])), .inr (.inl (.int 0)), .inr (.inr (91, []))]
def P_X12_isName : List Nat := [0, 1, 4, 7, 8, 11, 12, 15, 16, 17, 20, 21, 22, 24, 27, 30, 31, 34, 35, 36]
def K_X12_nameAt : List xA := [.inr (.inl (.int 0)), .inl (.istore 2), .inl (.iload 2), .inl (.iload 1), .inr (.inr (11, [8])), .inl (.aload 0), .inr (.inr (1, [12, 19])), .inr (.inr (10, [10])), .inl (.aload 0), .inr (.inr (1, [12, 18])), .inr (.inr (24, [43])), .inl (.iload 1), .inr (.inr (11, [18])), .inl (.aload 0), .inr (.inr (3, [12, 15])), .inl (.iload 2), .inl .laload, .inr (.inr (10, [22])), .inl (.aload 0), .inr (.inr (3, [12, 14])), .inl (.iload 2), .inl .laload, .inl (.aload 0), .inr (.inr (3, [12, 6])), .inl (.aload 0), .inr (.inr (1, [12, 7])), .inl .laload, .inl .lcmp, .inr (.inr (12, [41])), .inl (.iload 1), .inr (.inr (11, [36])), .inl (.aload 0), .inr (.inr (3, [12, 17])), .inl (.iload 2), .inl .iaload, .inr (.inr (10, [40])), .inl (.aload 0), .inr (.inr (3, [12, 16])), .inl (.iload 2), .inl .iaload, .inl .ireturn, .inr (.inr (80, [2])), .inr (.inr (10, [2])), .inr (.inl (.int (-1))), .inl .ireturn]
def P_X12_nameAt : List Nat := [0, 1, 2, 3, 4, 7, 8, 11, 14, 15, 18, 21, 22, 25, 26, 29, 30, 31, 34, 35, 38, 39, 40, 41, 44, 45, 48, 49, 50, 53, 54, 57, 58, 61, 62, 63, 66, 67, 70, 71, 72, 73, 76, 79, 80, 81]
def K_X12_takeTold : List xA := [.inl (.aload 0), .inr (.inr (1, [12, 8])), .inr (.inr (12, [9])), .inl (.aload 0), .inr (.inr (41, [195, 12])), .inr (.inr (12, [9])), .inl (.aload 0), .inr (.inl (.int 1)), .inr (.inr (41, [182, 12])), .inl (.aload 0), .inr (.inr (1, [12, 8])), .inr (.inr (16, [14])), .inr (.inl (.int (-1))), .inr (.inr (10, [19])), .inl (.aload 0), .inl (.iload 1), .inr (.inr (41, [196, 12])), .inl (.iload 2), .inl .isub, .inl (.istore 4), .inl (.aload 0), .inr (.inr (1, [12, 8])), .inr (.inr (12, [32])), .inl (.iload 4), .inr (.inl (.int 0)), .inr (.inl (.int 6)), .inr (.inr (40, [189])), .inr (.inr (12, [32])), .inl (.aload 0), .inr (.inl (.int 2)), .inr (.inr (41, [182, 12])), .inr (.inr (10, [45])), .inl (.aload 0), .inr (.inr (1, [12, 8])), .inr (.inr (12, [45])), .inl (.iload 3), .inl (.iload 4), .inl .ishr, .inr (.inl (.int 1)), .inl .iand, .inr (.inl (.int 1)), .inr (.inr (22, [45])), .inl (.aload 0), .inr (.inl (.int 3)), .inr (.inr (41, [182, 12])), .inl (.aload 0), .inl .dup, .inr (.inr (1, [12, 7])), .inl (.aload 0), .inr (.inr (1, [12, 8])), .inr (.inr (16, [53])), .inr (.inl (.int 0)), .inr (.inr (10, [54])), .inr (.inl (.int 1)), .inl .iadd, .inr (.inr (4, [12, 7])), .inl (.aload 0), .inr (.inr (1, [12, 8])), .inr (.inr (16, [61])), .inr (.inl (.int 0)), .inr (.inr (10, [62])), .inl (.iload 4), .inl .ireturn]
def P_X12_takeTold : List Nat := [0, 1, 4, 7, 8, 11, 14, 15, 16, 19, 20, 23, 26, 27, 30, 31, 32, 35, 36, 37, 39, 40, 43, 46, 48, 49, 51, 54, 57, 58, 59, 62, 65, 66, 69, 72, 73, 75, 76, 77, 78, 79, 82, 83, 84, 87, 88, 89, 92, 93, 96, 99, 100, 103, 104, 105, 108, 109, 112, 115, 116, 119, 121, 122]
def K_X12_hall : List xA := [.inl (.aload 0), .inr (.inl (.int 0)), .inr (.inr (4, [12, 0])), .inl (.aload 0), .inr (.inr (41, [181, 12])), .inl (.aload 0), .inr (.inl (.int 0)), .inr (.inr (4, [12, 13])), .inl (.aload 0), .inr (.inl (.int 0)), .inr (.inr (4, [12, 19])), .inl (.aload 0), .inr (.inl (.int 0)), .inr (.inr (4, [12, 20])), .inl (.aload 0), .inr (.inl (.int 40)), .inr (.inr (41, [190, 12])), .inl (.aload 0), .inr (.inr (1, [12, 8])), .inr (.inr (12, [32])), .inl (.aload 0), .inr (.inr (3, [12, 4])), .inl (.aload 0), .inr (.inr (1, [12, 7])), .inl .iaload, .inr (.inr (11, [32])), .inl (.aload 0), .inr (.inr (41, [199, 12])), .inl (.aload 0), .inr (.inl (.int 59)), .inr (.inr (41, [185, 12])), .inr (.inr (10, [17])), .inl (.aload 0), .inr (.inr (1, [12, 8])), .inr (.inr (16, [38])), .inl (.aload 0), .inr (.inr (1, [12, 8])), .inl .ireturn, .inr (.inl (.int 0)), .inl (.istore 1), .inl (.iload 1), .inr (.inl (.int 40)), .inr (.inr (24, [55])), .inl (.aload 0), .inr (.inr (3, [12, 10])), .inl (.iload 1), .inl (.aload 0), .inr (.inr (3, [12, 10])), .inr (.inl (.int 40)), .inl (.iload 1), .inl .iadd, .inl .iaload, .inl .iastore, .inr (.inr (80, [1])), .inr (.inr (10, [40])), .inr (.inl (.int 0)), .inl (.istore 1), .inl (.iload 1), .inl (.aload 0), .inr (.inr (1, [12, 13])), .inr (.inr (24, [83])), .inl (.aload 0), .inr (.inr (3, [12, 11])), .inl (.iload 1), .inl (.aload 0), .inr (.inr (3, [12, 11])), .inr (.inl (.int 1100)), .inl (.iload 1), .inl .iadd, .inl .iaload, .inl .iastore, .inl (.aload 0), .inr (.inr (3, [12, 12])), .inl (.iload 1), .inl (.aload 0), .inr (.inr (3, [12, 12])), .inr (.inl (.int 1100)), .inl (.iload 1), .inl .iadd, .inl .iaload, .inl .iastore, .inr (.inr (80, [1])), .inr (.inr (10, [57])), .inr (.inl (.int 0)), .inl (.istore 1), .inl (.iload 1), .inl (.aload 0), .inr (.inr (1, [12, 19])), .inr (.inr (24, [107])), .inl (.aload 0), .inr (.inr (3, [12, 14])), .inl (.iload 1), .inl (.aload 0), .inr (.inr (3, [12, 15])), .inl (.iload 1), .inl .laload, .inl .lastore, .inl (.aload 0), .inr (.inr (3, [12, 16])), .inl (.iload 1), .inl (.aload 0), .inr (.inr (3, [12, 17])), .inl (.iload 1), .inl .iaload, .inl .iastore, .inr (.inr (80, [1])), .inr (.inr (10, [85])), .inl (.aload 0), .inl (.aload 0), .inr (.inr (1, [12, 19])), .inr (.inr (4, [12, 18])), .inl (.aload 0), .inr (.inr (41, [214, 12])), .inr (.inl (.int 0)), .inl .ireturn]
def P_X12_hall : List Nat := [0, 1, 2, 5, 6, 9, 10, 11, 14, 15, 16, 19, 20, 21, 24, 25, 27, 30, 31, 34, 37, 38, 41, 42, 45, 46, 49, 50, 53, 54, 56, 59, 62, 63, 66, 69, 70, 73, 74, 75, 76, 77, 79, 82, 83, 86, 87, 88, 91, 93, 94, 95, 96, 97, 100, 103, 104, 105, 106, 107, 110, 113, 114, 117, 118, 119, 122, 125, 126, 127, 128, 129, 130, 133, 134, 135, 138, 141, 142, 143, 144, 145, 148, 151, 152, 153, 154, 155, 158, 161, 162, 165, 166, 167, 170, 171, 172, 173, 174, 177, 178, 179, 182, 183, 184, 185, 188, 191, 192, 193, 196, 199, 200, 203, 204, 205]
def K_X12_readLine : List xA := [.inl (.aload 0), .inr (.inl (.int 0)), .inr (.inr (41, [184, 12])), .inr (.inr (11, [7])), .inl (.aload 0), .inr (.inr (41, [200, 12])), .inr (.inr (10, [121])), .inl (.aload 0), .inr (.inl (.int 3)), .inr (.inr (41, [184, 12])), .inr (.inr (11, [52])), .inr (.inl (.int 58)), .inr (.inl (.int 3)), .inl (.aload 0), .inr (.inr (3, [12, 10])), .inr (.inl (.int 41)), .inl .iaload, .inl .imul, .inl .iadd, .inl (.istore 1), .inl (.aload 0), .inr (.inl (.int 1)), .inr (.inl (.int 5)), .inr (.inl (.int 20)), .inr (.inr (41, [201, 12])), .inl (.aload 0), .inr (.inl (.int 13)), .inr (.inl (.int 4)), .inr (.inr (41, [194, 12])), .inl (.istore 2), .inl (.aload 0), .inr (.inl (.int 4)), .inr (.inl (.int 0)), .inr (.inl (.int 9)), .inr (.inr (41, [192, 12])), .inl (.istore 3), .inl (.aload 0), .inr (.inr (1, [12, 8])), .inr (.inr (12, [51])), .inl (.aload 0), .inr (.inr (3, [12, 10])), .inl (.iload 1), .inl (.iload 2), .inl .iastore, .inl (.aload 0), .inr (.inr (3, [12, 10])), .inl (.iload 1), .inr (.inl (.int 1)), .inl .iadd, .inl (.iload 3), .inl .iastore, .inr (.inr (10, [121])), .inl (.aload 0), .inr (.inl (.int 5)), .inr (.inr (41, [184, 12])), .inr (.inr (11, [119])), .inl (.aload 0), .inl .dup, .inr (.inr (1, [12, 7])), .inr (.inl (.int 1)), .inl .iadd, .inr (.inr (4, [12, 7])), .inl (.aload 0), .inr (.inl (.int 1)), .inr (.inl (.int 20)), .inr (.inl (.int 0)), .inr (.inr (41, [197, 12])), .inl (.istore 1), .inr (.inl (.int 58)), .inr (.inl (.int 3)), .inl (.iload 1), .inl .imul, .inl .iadd, .inr (.inl (.int 2)), .inl .iadd, .inl (.istore 2), .inl (.aload 0), .inr (.inl (.int 1)), .inr (.inl (.int 20)), .inl (.aload 0), .inr (.inr (3, [12, 10])), .inl (.iload 2), .inl .iaload, .inr (.inl (.int 1)), .inl (.iload 1), .inl .ishl, .inl .ior, .inr (.inr (41, [197, 12])), .inl (.istore 3), .inl (.aload 0), .inr (.inr (1, [12, 8])), .inr (.inr (12, [118])), .inl (.aload 0), .inr (.inr (3, [12, 10])), .inl (.iload 2), .inl .dup2, .inl .iaload, .inr (.inl (.int 1)), .inl (.iload 3), .inl .ishl, .inl .ior, .inl .iastore, .inl (.aload 0), .inr (.inr (3, [12, 10])), .inr (.inl (.int 58)), .inr (.inl (.int 3)), .inl (.iload 3), .inl .imul, .inl .iadd, .inr (.inl (.int 2)), .inl .iadd, .inl .dup2, .inl .iaload, .inr (.inl (.int 1)), .inl (.iload 1), .inl .ishl, .inl .ior, .inl .iastore, .inr (.inr (10, [121])), .inl (.aload 0), .inr (.inr (41, [202, 12])), .inl .return_]
def P_X12_readLine : List Nat := [0, 1, 2, 5, 8, 9, 12, 15, 16, 17, 20, 23, 25, 26, 27, 30, 32, 33, 34, 35, 36, 37, 38, 39, 41, 44, 45, 47, 48, 51, 52, 53, 54, 55, 57, 60, 61, 62, 65, 68, 69, 72, 73, 74, 75, 76, 79, 80, 81, 82, 83, 84, 87, 88, 89, 92, 95, 96, 97, 100, 101, 102, 105, 106, 107, 109, 110, 113, 114, 116, 117, 118, 119, 120, 121, 122, 123, 124, 125, 127, 128, 131, 132, 133, 134, 135, 136, 137, 140, 141, 142, 145, 148, 149, 152, 153, 154, 155, 156, 157, 158, 159, 160, 161, 164, 166, 167, 168, 169, 170, 171, 172, 173, 174, 175, 176, 177, 178, 179, 182, 183, 186, 187]
def K_X12_readSeat : List xA := [.inl (.aload 0), .inr (.inr (3, [12, 10])), .inr (.inl (.int 40)), .inl .iaload, .inl (.istore 1), .inl (.aload 0), .inr (.inl (.int 0)), .inr (.inl (.int 7)), .inr (.inl (.int 0)), .inr (.inr (41, [201, 12])), .inl (.aload 0), .inr (.inl (.int 1)), .inr (.inl (.int 0)), .inr (.inl (.int 4)), .inr (.inr (41, [192, 12])), .inl (.istore 2), .inl (.aload 0), .inr (.inl (.int 2)), .inr (.inl (.int 0)), .inr (.inl (.int 9)), .inr (.inr (41, [192, 12])), .inl (.istore 3), .inr (.inl (.int 0)), .inl (.istore 4), .inr (.inl (.int 0)), .inl (.istore 5), .inl (.iload 5), .inl (.iload 1), .inr (.inr (24, [59])), .inl (.iload 4), .inr (.inr (12, [53])), .inl (.aload 0), .inr (.inr (3, [12, 10])), .inr (.inl (.int 44)), .inr (.inl (.int 2)), .inl (.iload 5), .inl .imul, .inl .iadd, .inl .iaload, .inl (.iload 2), .inr (.inr (22, [55])), .inl (.aload 0), .inr (.inr (3, [12, 10])), .inr (.inl (.int 44)), .inr (.inl (.int 2)), .inl (.iload 5), .inl .imul, .inl .iadd, .inr (.inl (.int 1)), .inl .iadd, .inl .iaload, .inl (.iload 3), .inr (.inr (22, [55])), .inr (.inl (.int 1)), .inr (.inr (10, [56])), .inr (.inl (.int 0)), .inl (.istore 4), .inr (.inr (80, [5])), .inr (.inr (10, [26])), .inl (.aload 0), .inr (.inr (1, [12, 8])), .inr (.inr (12, [73])), .inl (.iload 4), .inr (.inr (11, [73])), .inl (.aload 0), .inl .dup, .inr (.inr (1, [12, 7])), .inr (.inl (.int 1)), .inl .isub, .inr (.inr (4, [12, 7])), .inl (.aload 0), .inr (.inl (.int 3)), .inr (.inr (41, [182, 12])), .inl (.aload 0), .inr (.inr (1, [12, 8])), .inr (.inr (12, [96])), .inl (.aload 0), .inr (.inr (3, [12, 10])), .inr (.inl (.int 44)), .inr (.inl (.int 2)), .inl (.iload 1), .inl .imul, .inl .iadd, .inl (.iload 2), .inl .iastore, .inl (.aload 0), .inr (.inr (3, [12, 10])), .inr (.inl (.int 44)), .inr (.inl (.int 2)), .inl (.iload 1), .inl .imul, .inl .iadd, .inr (.inl (.int 1)), .inl .iadd, .inl (.iload 3), .inl .iastore, .inl .return_]
def P_X12_readSeat : List Nat := [0, 1, 4, 6, 7, 8, 9, 10, 12, 13, 16, 17, 18, 19, 20, 23, 24, 25, 26, 27, 29, 32, 33, 34, 36, 37, 39, 41, 42, 45, 47, 50, 51, 54, 56, 57, 59, 60, 61, 62, 63, 66, 67, 70, 72, 73, 75, 76, 77, 78, 79, 80, 81, 84, 85, 88, 89, 91, 94, 97, 98, 101, 104, 106, 109, 110, 111, 114, 115, 116, 119, 120, 121, 124, 125, 128, 131, 132, 135, 137, 138, 139, 140, 141, 142, 143, 144, 147, 149, 150, 151, 152, 153, 154, 155, 156, 157, 158]
def K_X12_readName : List xA := [.inl (.aload 0), .inr (.inr (3, [12, 10])), .inr (.inl (.int 40)), .inl (.iload 1), .inl .iadd, .inl .iaload, .inl (.istore 4), .inl (.iload 4), .inl (.iload 2), .inr (.inr (22, [14])), .inl (.aload 0), .inr (.inl (.int 5)), .inr (.inr (41, [182, 12])), .inl .return_, .inl (.aload 0), .inl .dup, .inr (.inr (1, [12, 7])), .inr (.inl (.int 1)), .inl .iadd, .inr (.inr (4, [12, 7])), .inl (.aload 0), .inr (.inr (41, [195, 12])), .inr (.inr (12, [27])), .inl (.aload 0), .inr (.inl (.int 1)), .inr (.inr (41, [182, 12])), .inr (.inr (10, [34])), .inl (.aload 0), .inr (.inl (.int 1)), .inr (.inr (41, [196, 12])), .inr (.inr (13, [34])), .inl (.aload 0), .inr (.inl (.int 3)), .inr (.inr (41, [182, 12])), .inl (.aload 0), .inr (.inr (1, [12, 8])), .inr (.inr (12, [77])), .inl (.aload 0), .inr (.inr (3, [12, 15])), .inl (.aload 0), .inr (.inr (1, [12, 19])), .inl (.aload 0), .inr (.inr (3, [12, 6])), .inl (.aload 0), .inr (.inr (1, [12, 7])), .inl .laload, .inl .lastore, .inl (.aload 0), .inr (.inr (3, [12, 17])), .inl (.aload 0), .inr (.inr (1, [12, 19])), .inl (.iload 3), .inl (.iload 4), .inl .iadd, .inl .iastore, .inl (.aload 0), .inl .dup, .inr (.inr (1, [12, 19])), .inr (.inl (.int 1)), .inl .iadd, .inr (.inr (4, [12, 19])), .inl (.aload 0), .inl .dup, .inr (.inr (1, [12, 7])), .inr (.inl (.int 1)), .inl .iadd, .inr (.inr (4, [12, 7])), .inl (.aload 0), .inr (.inr (3, [12, 10])), .inr (.inl (.int 40)), .inl (.iload 1), .inl .iadd, .inl .dup2, .inl .iaload, .inr (.inl (.int 1)), .inl .iadd, .inl .iastore, .inl .return_]
def P_X12_readName : List Nat := [0, 1, 4, 6, 7, 8, 9, 11, 13, 14, 17, 18, 19, 22, 23, 24, 25, 28, 29, 30, 33, 34, 37, 40, 41, 42, 45, 48, 49, 50, 53, 56, 57, 58, 61, 62, 65, 68, 69, 72, 73, 76, 77, 80, 81, 84, 85, 86, 87, 90, 91, 94, 95, 97, 98, 99, 100, 101, 104, 105, 106, 109, 110, 111, 114, 115, 116, 119, 120, 123, 125, 126, 127, 128, 129, 130, 131, 132, 133]
def K_X12_readOnce : List xA := [.inl (.aload 0), .inr (.inl (.int 6)), .inr (.inl (.int 2)), .inr (.inr (41, [193, 12])), .inl (.istore 1), .inl (.iload 1), .inr (.inr (14, [11])), .inl (.aload 0), .inr (.inl (.int 1)), .inr (.inr (41, [182, 12])), .inr (.inr (10, [22])), .inl (.aload 0), .inr (.inr (1, [12, 20])), .inl (.iload 1), .inl .ishr, .inr (.inl (.int 1)), .inl .iand, .inr (.inl (.int 1)), .inr (.inr (22, [22])), .inl (.aload 0), .inr (.inl (.int 3)), .inr (.inr (41, [182, 12])), .inl (.aload 0), .inr (.inr (1, [12, 8])), .inr (.inr (16, [26])), .inl .return_, .inl (.aload 0), .inl .dup, .inr (.inr (1, [12, 20])), .inr (.inl (.int 1)), .inl (.iload 1), .inl .ishl, .inl .ior, .inr (.inr (4, [12, 20])), .inl (.aload 0), .inl .dup, .inr (.inr (1, [12, 7])), .inr (.inl (.int 1)), .inl .iadd, .inr (.inr (4, [12, 7])), .inl (.iload 1), .inr (.inr (12, [51])), .inl (.aload 0), .inr (.inr (3, [12, 10])), .inr (.inl (.int 42)), .inl (.aload 0), .inr (.inl (.int 1)), .inr (.inl (.int 30)), .inr (.inr (41, [191, 12])), .inl .iastore, .inr (.inr (10, [64])), .inl (.aload 0), .inr (.inr (3, [12, 10])), .inr (.inl (.int 43)), .inl (.aload 0), .inr (.inr (1, [12, 13])), .inl .iastore, .inl (.aload 0), .inr (.inl (.int 0)), .inr (.inr (41, [205, 12])), .inl (.aload 0), .inr (.inl (.int 0)), .inr (.inl (.int 0)), .inr (.inr (41, [204, 12])), .inl .return_]
def P_X12_readOnce : List Nat := [0, 1, 3, 4, 7, 8, 9, 12, 13, 14, 17, 20, 21, 24, 25, 26, 27, 28, 29, 32, 33, 34, 37, 38, 41, 44, 45, 46, 47, 50, 51, 52, 53, 54, 57, 58, 59, 62, 63, 64, 67, 68, 71, 72, 75, 77, 78, 79, 81, 84, 85, 88, 89, 92, 94, 95, 98, 99, 100, 101, 104, 105, 106, 107, 110, 111]
def K_X12_evening : List xA := [.inl (.aload 0), .inr (.inl (.int 0)), .inr (.inr (4, [12, 0])), .inl (.aload 0), .inr (.inr (41, [181, 12])), .inr (.inl (.int 0)), .inl (.istore 1), .inl (.aload 0), .inr (.inr (1, [12, 8])), .inr (.inr (12, [91])), .inl (.aload 0), .inr (.inr (3, [12, 4])), .inl (.aload 0), .inr (.inr (1, [12, 7])), .inl .iaload, .inr (.inr (11, [91])), .inl (.aload 0), .inr (.inl (.int 8)), .inr (.inl (.int 5)), .inr (.inr (41, [193, 12])), .inl (.istore 2), .inl (.iload 2), .inr (.inr (14, [27])), .inl (.aload 0), .inr (.inl (.int 1)), .inr (.inr (41, [182, 12])), .inr (.inr (10, [87])), .inl (.iload 1), .inr (.inl (.int 40)), .inr (.inr (22, [34])), .inl (.aload 0), .inr (.inl (.int 5)), .inr (.inr (41, [182, 12])), .inr (.inr (10, [87])), .inl (.aload 0), .inl .dup, .inr (.inr (1, [12, 7])), .inr (.inl (.int 1)), .inl .iadd, .inr (.inr (4, [12, 7])), .inr (.inl (.int 125)), .inr (.inl (.int 3)), .inl (.iload 1), .inl .imul, .inl .iadd, .inl (.istore 3), .inl (.aload 0), .inr (.inr (3, [12, 21])), .inl (.iload 3), .inl (.iload 2), .inl .iastore, .inl (.aload 0), .inr (.inr (3, [12, 21])), .inl (.iload 3), .inr (.inl (.int 1)), .inl .iadd, .inl (.iload 2), .inr (.inl (.int 4)), .inr (.inr (24, [65])), .inl (.aload 0), .inr (.inl (.int 0)), .inr (.inl (.int 20)), .inr (.inl (.int 0)), .inr (.inr (41, [197, 12])), .inr (.inr (10, [66])), .inr (.inl (.int 0)), .inl .iastore, .inl (.aload 0), .inr (.inr (3, [12, 21])), .inl (.iload 3), .inr (.inl (.int 2)), .inl .iadd, .inl (.iload 2), .inr (.inl (.int 4)), .inr (.inr (24, [84])), .inl (.iload 2), .inr (.inl (.int 2)), .inr (.inr (21, [84])), .inl (.aload 0), .inr (.inl (.int 0)), .inr (.inl (.int 0)), .inr (.inl (.int 0)), .inr (.inr (41, [197, 12])), .inr (.inr (10, [85])), .inr (.inl (.int 0)), .inl .iastore, .inr (.inr (80, [1])), .inl (.aload 0), .inr (.inl (.int 59)), .inr (.inr (41, [185, 12])), .inr (.inr (10, [7])), .inl (.aload 0), .inr (.inr (1, [12, 8])), .inr (.inr (16, [97])), .inl (.aload 0), .inr (.inr (1, [12, 8])), .inl .ireturn, .inl (.aload 0), .inr (.inr (3, [12, 21])), .inr (.inl (.int 0)), .inl (.iload 1), .inl .iastore, .inr (.inl (.int 0)), .inl (.istore 2), .inl (.iload 2), .inr (.inl (.int 3)), .inl (.iload 1), .inl .imul, .inr (.inr (24, [123])), .inl (.aload 0), .inr (.inr (3, [12, 21])), .inr (.inl (.int 1)), .inl (.iload 2), .inl .iadd, .inl (.aload 0), .inr (.inr (3, [12, 21])), .inr (.inl (.int 125)), .inl (.iload 2), .inl .iadd, .inl .iaload, .inl .iastore, .inr (.inr (80, [2])), .inr (.inr (10, [104])), .inr (.inl (.int 0)), .inl .ireturn]
def P_X12_evening : List Nat := [0, 1, 2, 5, 6, 9, 10, 11, 12, 15, 18, 19, 22, 23, 26, 27, 30, 31, 33, 34, 37, 38, 39, 42, 43, 44, 47, 50, 51, 53, 56, 57, 58, 61, 64, 65, 66, 69, 70, 71, 74, 76, 77, 78, 79, 80, 81, 82, 85, 86, 87, 88, 89, 92, 93, 94, 95, 96, 97, 100, 101, 102, 104, 105, 108, 111, 112, 113, 114, 117, 118, 119, 120, 121, 122, 125, 126, 127, 130, 131, 132, 133, 134, 137, 140, 141, 142, 145, 146, 148, 151, 154, 155, 158, 161, 162, 165, 166, 167, 170, 171, 172, 173, 174, 175, 176, 177, 178, 179, 182, 183, 186, 187, 188, 189, 190, 193, 195, 196, 197, 198, 199, 202, 205, 206, 207]
def K_X12_emit : List xA := [.inl (.aload 0), .inr (.inr (3, [12, 11])), .inr (.inl (.int 1100)), .inl (.aload 0), .inr (.inr (1, [12, 13])), .inl .iadd, .inl (.iload 1), .inl .iastore, .inl (.aload 0), .inr (.inr (3, [12, 12])), .inr (.inl (.int 1100)), .inl (.aload 0), .inr (.inr (1, [12, 13])), .inl .iadd, .inl (.iload 2), .inl .iastore, .inl (.aload 0), .inl .dup, .inr (.inr (1, [12, 13])), .inr (.inl (.int 1)), .inl .iadd, .inr (.inr (4, [12, 13])), .inl .return_]
def P_X12_emit : List Nat := [0, 1, 4, 7, 8, 11, 12, 13, 14, 15, 18, 21, 22, 25, 26, 27, 28, 29, 30, 33, 34, 35, 38, 39]
def K_X12_whole : List xA := [.inl (.aload 0), .inl (.iload 1), .inr (.inr (41, [206, 12])), .inl (.aload 0), .inr (.inl (.int 18)), .inr (.inr (41, [184, 12])), .inr (.inr (12, [11])), .inl (.aload 0), .inr (.inl (.int 19)), .inr (.inr (41, [184, 12])), .inr (.inr (11, [33])), .inl (.aload 0), .inr (.inl (.int 18)), .inr (.inr (41, [184, 12])), .inl (.istore 2), .inl (.aload 0), .inl .dup, .inr (.inr (1, [12, 7])), .inr (.inl (.int 1)), .inl .iadd, .inr (.inr (4, [12, 7])), .inl (.aload 0), .inl (.iload 1), .inr (.inr (41, [206, 12])), .inl (.aload 0), .inl (.iload 2), .inr (.inr (11, [29])), .inr (.inl (.int 9)), .inr (.inr (10, [30])), .inr (.inl (.int 10)), .inr (.inl (.int 0)), .inr (.inr (41, [204, 12])), .inr (.inr (10, [3])), .inl .return_]
def P_X12_whole : List Nat := [0, 1, 2, 5, 6, 8, 11, 14, 15, 17, 20, 23, 24, 26, 29, 30, 31, 32, 35, 36, 37, 40, 41, 42, 45, 46, 47, 50, 52, 55, 57, 58, 61, 64, 65]
def K_X12_test : List xA := [.inl (.aload 0), .inl (.iload 1), .inr (.inr (41, [207, 12])), .inl (.aload 0), .inr (.inl (.int 60)), .inr (.inr (41, [183, 12])), .inl (.istore 2), .inl (.aload 0), .inr (.inl (.int 60)), .inr (.inr (41, [186, 12])), .inr (.inr (12, [15])), .inl (.aload 0), .inr (.inl (.int 61)), .inr (.inr (41, [186, 12])), .inr (.inr (11, [26])), .inl (.aload 0), .inl (.iload 1), .inr (.inr (41, [207, 12])), .inl (.aload 0), .inl (.iload 2), .inr (.inr (11, [23])), .inr (.inl (.int 7)), .inr (.inr (10, [24])), .inr (.inl (.int 8)), .inr (.inl (.int 0)), .inr (.inr (41, [204, 12])), .inl .return_]
def P_X12_test : List Nat := [0, 1, 2, 5, 6, 8, 11, 12, 13, 15, 18, 21, 22, 24, 27, 30, 31, 32, 35, 36, 37, 40, 42, 45, 47, 48, 51, 52]
def K_X12_sums : List xA := [.inl (.aload 0), .inl (.iload 1), .inr (.inr (41, [208, 12])), .inl (.aload 0), .inr (.inl (.int 43)), .inr (.inr (41, [183, 12])), .inr (.inr (12, [11])), .inl (.aload 0), .inr (.inl (.int 45)), .inr (.inr (41, [183, 12])), .inr (.inr (11, [33])), .inl (.aload 0), .inr (.inl (.int 43)), .inr (.inr (41, [183, 12])), .inl (.istore 2), .inl (.aload 0), .inl .dup, .inr (.inr (1, [12, 7])), .inr (.inl (.int 1)), .inl .iadd, .inr (.inr (4, [12, 7])), .inl (.aload 0), .inl (.iload 1), .inr (.inr (41, [208, 12])), .inl (.aload 0), .inl (.iload 2), .inr (.inr (11, [29])), .inr (.inl (.int 4)), .inr (.inr (10, [30])), .inr (.inl (.int 5)), .inr (.inl (.int 0)), .inr (.inr (41, [204, 12])), .inr (.inr (10, [3])), .inl .return_]
def P_X12_sums : List Nat := [0, 1, 2, 5, 6, 8, 11, 14, 15, 17, 20, 23, 24, 26, 29, 30, 31, 32, 35, 36, 37, 40, 41, 42, 45, 46, 47, 50, 51, 54, 55, 56, 59, 62, 63]
def K_X12_products : List xA := [.inl (.aload 0), .inl (.iload 1), .inr (.inr (41, [209, 12])), .inl (.aload 0), .inr (.inl (.int 42)), .inr (.inr (41, [186, 12])), .inr (.inr (11, [15])), .inl (.aload 0), .inl (.iload 1), .inr (.inr (41, [209, 12])), .inl (.aload 0), .inr (.inl (.int 6)), .inr (.inl (.int 0)), .inr (.inr (41, [204, 12])), .inr (.inr (10, [3])), .inl .return_]
def P_X12_products : List Nat := [0, 1, 2, 5, 6, 8, 11, 14, 15, 16, 19, 20, 22, 23, 26, 29, 30]
def K_X12_takePart : List xA := [.inl (.aload 0), .inr (.inr (1, [12, 8])), .inr (.inr (16, [4])), .inl .return_, .inl (.aload 0), .inr (.inr (3, [12, 4])), .inl (.aload 0), .inr (.inr (1, [12, 7])), .inl .iaload, .inr (.inl (.int 2)), .inr (.inr (22, [13])), .inr (.inl (.int 1)), .inr (.inr (10, [14])), .inr (.inl (.int 0)), .inl (.istore 2), .inl (.aload 0), .inr (.inl (.int 20)), .inr (.inl (.int 4)), .inr (.inr (41, [193, 12])), .inl (.istore 3), .inl (.iload 3), .inr (.inr (14, [36])), .inl (.iload 2), .inr (.inr (12, [36])), .inl (.aload 0), .inr (.inl (.int 40)), .inr (.inr (41, [183, 12])), .inr (.inr (12, [36])), .inl (.aload 0), .inr (.inl (.int 17)), .inr (.inr (41, [184, 12])), .inr (.inr (12, [36])), .inl (.aload 0), .inr (.inl (.int 1)), .inr (.inr (41, [182, 12])), .inr (.inr (10, [42])), .inl (.iload 1), .inr (.inl (.int 5)), .inr (.inr (22, [42])), .inl (.aload 0), .inr (.inl (.int 5)), .inr (.inr (41, [182, 12])), .inl (.aload 0), .inr (.inr (1, [12, 8])), .inr (.inr (16, [46])), .inl .return_, .inl (.aload 0), .inr (.inl (.int 17)), .inr (.inr (41, [187, 12])), .inr (.inr (11, [60])), .inl (.aload 0), .inl (.iload 1), .inr (.inl (.int 1)), .inl .iadd, .inr (.inr (41, [209, 12])), .inl (.aload 0), .inr (.inl (.int 3)), .inr (.inl (.int 0)), .inr (.inr (41, [204, 12])), .inr (.inr (10, [96])), .inl (.aload 0), .inr (.inl (.int 40)), .inr (.inr (41, [186, 12])), .inr (.inr (11, [73])), .inl (.aload 0), .inl (.iload 1), .inr (.inl (.int 1)), .inl .iadd, .inr (.inr (41, [205, 12])), .inl (.aload 0), .inr (.inl (.int 41)), .inr (.inr (41, [185, 12])), .inr (.inr (10, [96])), .inl (.aload 0), .inl (.iload 2), .inr (.inr (11, [78])), .inr (.inl (.int 1)), .inr (.inr (10, [79])), .inr (.inl (.int 2)), .inl (.iload 2), .inr (.inr (11, [88])), .inl (.aload 0), .inr (.inr (3, [12, 6])), .inl (.aload 0), .inr (.inr (1, [12, 7])), .inl .laload, .inl .l2i, .inr (.inr (10, [89])), .inl (.iload 3), .inr (.inr (41, [204, 12])), .inl (.aload 0), .inl .dup, .inr (.inr (1, [12, 7])), .inr (.inl (.int 1)), .inl .iadd, .inr (.inr (4, [12, 7])), .inl .return_]
def P_X12_takePart : List Nat := [0, 1, 4, 7, 8, 9, 12, 13, 16, 17, 18, 21, 22, 25, 26, 27, 28, 30, 31, 34, 35, 36, 39, 40, 43, 44, 46, 49, 52, 53, 55, 58, 61, 62, 63, 66, 69, 70, 71, 74, 75, 76, 79, 80, 83, 86, 87, 88, 90, 93, 96, 97, 98, 99, 100, 103, 104, 105, 106, 109, 112, 113, 115, 118, 121, 122, 123, 124, 125, 128, 129, 131, 134, 137, 138, 139, 142, 143, 146, 147, 148, 151, 152, 155, 156, 159, 160, 161, 164, 165, 168, 169, 170, 173, 174, 175, 178, 179]
def K_X12_worthAt : List xA := [.inr (.inl (.int 0)), .inl (.istore 2), .inl (.iload 1), .inl (.istore 3), .inl (.aload 0), .inr (.inr (3, [12, 11])), .inl (.iload 3), .inl .iaload, .inr (.inr (11, [82])), .inl (.aload 0), .inr (.inr (3, [12, 11])), .inl (.iload 3), .inl .iaload, .inl (.istore 4), .inl (.iload 4), .inr (.inl (.int 1)), .inr (.inr (21, [20])), .inl (.iload 4), .inr (.inl (.int 2)), .inr (.inr (22, [41])), .inl (.aload 0), .inr (.inr (3, [12, 23])), .inl (.iload 2), .inl (.iload 4), .inr (.inl (.int 1)), .inr (.inr (22, [31])), .inl (.aload 0), .inr (.inr (3, [12, 12])), .inl (.iload 3), .inl .iaload, .inr (.inr (10, [38])), .inl (.aload 0), .inr (.inr (3, [12, 22])), .inl (.aload 0), .inr (.inr (3, [12, 12])), .inl (.iload 3), .inl .iaload, .inl .iaload, .inl .iastore, .inr (.inr (80, [2])), .inr (.inr (10, [80])), .inl (.iload 4), .inr (.inl (.int 3)), .inr (.inr (22, [61])), .inl (.aload 0), .inr (.inr (3, [12, 23])), .inl (.iload 2), .inr (.inl (.int 1)), .inl .isub, .inl (.aload 0), .inr (.inr (3, [12, 23])), .inl (.iload 2), .inr (.inl (.int 1)), .inl .isub, .inl .iaload, .inr (.inr (12, [58])), .inr (.inl (.int 1)), .inr (.inr (10, [59])), .inr (.inl (.int 0)), .inl .iastore, .inr (.inr (10, [80])), .inr (.inr (81, [2])), .inl (.aload 0), .inr (.inr (3, [12, 23])), .inl (.iload 2), .inr (.inl (.int 1)), .inl .isub, .inl (.iload 4), .inl (.aload 0), .inr (.inr (3, [12, 23])), .inl (.iload 2), .inr (.inl (.int 1)), .inl .isub, .inl .iaload, .inl (.aload 0), .inr (.inr (3, [12, 23])), .inl (.iload 2), .inl .iaload, .inr (.inr (40, [211])), .inl .iastore, .inr (.inr (80, [3])), .inr (.inr (10, [4])), .inl (.aload 0), .inr (.inr (3, [12, 23])), .inr (.inl (.int 0)), .inl .iaload, .inl .ireturn]
def P_X12_worthAt : List Nat := [0, 1, 2, 3, 4, 5, 8, 9, 10, 13, 14, 17, 18, 19, 21, 23, 24, 27, 29, 30, 33, 34, 37, 38, 40, 41, 44, 45, 48, 49, 50, 53, 54, 57, 58, 61, 62, 63, 64, 65, 68, 71, 73, 74, 77, 78, 81, 82, 83, 84, 85, 88, 89, 90, 91, 92, 95, 96, 99, 100, 101, 104, 107, 108, 111, 112, 113, 114, 116, 117, 120, 121, 122, 123, 124, 125, 128, 129, 130, 133, 134, 137, 140, 141, 144, 145, 146, 147]
def K_X12_both : List xA := [.inl (.iload 0), .inr (.inr (27, [104, 36, 2, 6, 10, 14, 21, 28])), .inl (.iload 1), .inl (.iload 2), .inl .iadd, .inl .ireturn, .inl (.iload 1), .inl (.iload 2), .inl .isub, .inl .ireturn, .inl (.iload 1), .inl (.iload 2), .inl .imul, .inl .ireturn, .inl (.iload 1), .inl (.iload 2), .inr (.inr (24, [19])), .inr (.inl (.int 1)), .inr (.inr (10, [20])), .inr (.inl (.int 0)), .inl .ireturn, .inl (.iload 1), .inl (.iload 2), .inr (.inr (22, [26])), .inr (.inl (.int 1)), .inr (.inr (10, [27])), .inr (.inl (.int 0)), .inl .ireturn, .inl (.iload 1), .inr (.inr (11, [34])), .inl (.iload 2), .inr (.inr (11, [34])), .inr (.inl (.int 1)), .inr (.inr (10, [35])), .inr (.inl (.int 0)), .inl .ireturn, .inl (.iload 1), .inr (.inr (12, [40])), .inl (.iload 2), .inr (.inr (11, [42])), .inr (.inl (.int 1)), .inr (.inr (10, [43])), .inr (.inl (.int 0)), .inl .ireturn]
def P_X12_both : List Nat := [0, 1, 40, 41, 42, 43, 44, 45, 46, 47, 48, 49, 50, 51, 52, 53, 54, 57, 58, 61, 62, 63, 64, 65, 68, 69, 72, 73, 74, 75, 78, 79, 82, 83, 86, 87, 88, 89, 92, 93, 96, 97, 100, 101, 102]
def K_X12_copies : List xA := [.inr (.inl (.int 0)), .inl (.istore 4), .inl (.iload 4), .inl (.iload 3), .inr (.inr (24, [19])), .inl (.aload 0), .inr (.inr (3, [12, 24])), .inl (.iload 2), .inl (.iload 4), .inl .iadd, .inl (.aload 0), .inr (.inr (3, [12, 24])), .inl (.iload 1), .inl (.iload 4), .inl .iadd, .inl .iaload, .inl .iastore, .inr (.inr (80, [4])), .inr (.inr (10, [2])), .inl .return_]
def P_X12_copies : List Nat := [0, 1, 3, 5, 6, 9, 10, 13, 14, 16, 17, 18, 21, 22, 24, 25, 26, 27, 30, 33, 34]
def K_X12_starts : List xA := [.inl (.aload 0), .inr (.inr (3, [12, 24])), .inl (.iload 1), .inr (.inl (.int 0)), .inl .iadd, .inr (.inl (.int 0)), .inl .iastore, .inr (.inl (.int 0)), .inl (.istore 2), .inl (.iload 2), .inr (.inl (.int 7)), .inr (.inr (24, [32])), .inl (.aload 0), .inr (.inr (3, [12, 24])), .inl (.iload 1), .inr (.inl (.int 1)), .inl .iadd, .inl (.iload 2), .inl .iadd, .inr (.inl (.int (-1))), .inl .iastore, .inl (.aload 0), .inr (.inr (3, [12, 24])), .inl (.iload 1), .inr (.inl (.int 8)), .inl .iadd, .inl (.iload 2), .inl .iadd, .inr (.inl (.int 0)), .inl .iastore, .inr (.inr (80, [2])), .inr (.inr (10, [9])), .inr (.inl (.int 0)), .inl (.istore 2), .inl (.iload 2), .inr (.inl (.int 5)), .inr (.inr (24, [66])), .inl (.aload 0), .inr (.inr (3, [12, 24])), .inl (.iload 1), .inr (.inl (.int 15)), .inl .iadd, .inl (.iload 2), .inl .iadd, .inl (.iload 2), .inl (.aload 0), .inr (.inr (41, [217, 12])), .inr (.inr (24, [53])), .inl (.aload 0), .inl (.iload 2), .inr (.inl (.int 1)), .inr (.inr (41, [219, 12])), .inr (.inr (10, [54])), .inr (.inl (.int 0)), .inl .iastore, .inl (.aload 0), .inr (.inr (3, [12, 24])), .inl (.iload 1), .inr (.inl (.int 20)), .inl .iadd, .inl (.iload 2), .inl .iadd, .inr (.inl (.int (-1))), .inl .iastore, .inr (.inr (80, [2])), .inr (.inr (10, [34])), .inl .return_]
def P_X12_starts : List Nat := [0, 1, 4, 5, 6, 7, 8, 9, 10, 11, 12, 14, 17, 18, 21, 22, 23, 24, 25, 26, 27, 28, 29, 32, 33, 35, 36, 37, 38, 39, 40, 43, 46, 47, 48, 49, 50, 53, 54, 57, 58, 60, 61, 62, 63, 64, 65, 68, 71, 72, 73, 74, 77, 80, 81, 82, 83, 86, 87, 89, 90, 91, 92, 93, 94, 97, 100, 101]
def K_X12_begins : List xA := [.inr (.inl (.int 0)), .inl (.istore 1), .inl (.iload 1), .inr (.inl (.int 7)), .inr (.inr (24, [65])), .inl (.aload 0), .inr (.inr (3, [12, 27])), .inl (.iload 1), .inr (.inl (.int 0)), .inl .iastore, .inr (.inl (.int 0)), .inl (.istore 2), .inl (.iload 2), .inl (.aload 0), .inr (.inr (41, [216, 12])), .inr (.inr (24, [63])), .inl (.iload 1), .inl (.aload 0), .inr (.inr (41, [216, 12])), .inr (.inr (24, [63])), .inl (.aload 0), .inl (.iload 1), .inr (.inl (.int 0)), .inr (.inr (41, [218, 12])), .inl (.aload 0), .inl (.iload 2), .inr (.inl (.int 0)), .inr (.inr (41, [218, 12])), .inl .isub, .inl (.istore 3), .inl (.aload 0), .inl (.iload 1), .inr (.inl (.int 1)), .inr (.inr (41, [218, 12])), .inl (.aload 0), .inl (.iload 2), .inr (.inl (.int 1)), .inr (.inr (41, [218, 12])), .inl .isub, .inl (.istore 4), .inl (.aload 0), .inr (.inr (3, [12, 27])), .inl (.iload 1), .inl .dup2, .inl .iaload, .inl (.iload 3), .inl (.iload 3), .inl .imul, .inl (.iload 4), .inl (.iload 4), .inl .imul, .inl .iadd, .inr (.inl (.int 1)), .inr (.inr (22, [58])), .inr (.inl (.int 1)), .inl (.iload 2), .inl .ishl, .inr (.inr (10, [59])), .inr (.inl (.int 0)), .inl .ior, .inl .iastore, .inr (.inr (80, [2])), .inr (.inr (10, [12])), .inr (.inr (80, [1])), .inr (.inr (10, [2])), .inl (.aload 0), .inr (.inl (.int 0)), .inr (.inr (41, [213, 12])), .inl (.aload 0), .inr (.inr (3, [12, 24])), .inr (.inl (.int 25)), .inr (.inl (.int 0)), .inl .iastore, .inl (.aload 0), .inr (.inr (3, [12, 21])), .inr (.inl (.int 0)), .inr (.inl (.int 0)), .inl .iastore, .inl (.aload 0), .inr (.inl (.int 0)), .inr (.inr (4, [12, 25])), .inr (.inl (.int 0)), .inl (.istore 1), .inl (.iload 1), .inr (.inl (.int 4)), .inr (.inr (24, [93])), .inl (.aload 0), .inr (.inr (3, [12, 26])), .inl (.iload 1), .inr (.inl (.int 0)), .inl .bastore, .inr (.inr (80, [1])), .inr (.inr (10, [83])), .inl .return_]
def P_X12_begins : List Nat := [0, 1, 2, 3, 5, 8, 9, 12, 13, 14, 15, 16, 17, 18, 19, 22, 25, 26, 27, 30, 33, 34, 35, 36, 39, 40, 41, 42, 45, 46, 47, 48, 49, 50, 53, 54, 55, 56, 59, 60, 62, 63, 66, 67, 68, 69, 70, 71, 72, 74, 76, 77, 78, 79, 82, 83, 84, 85, 88, 89, 90, 91, 94, 97, 100, 103, 104, 105, 108, 109, 112, 114, 115, 116, 117, 120, 121, 122, 123, 124, 125, 128, 129, 130, 131, 132, 135, 136, 139, 140, 141, 142, 145, 148, 149]
def K_X12_keepsNow : List xA := [.inl (.aload 0), .inr (.inr (1, [12, 25])), .inr (.inl (.int 16)), .inr (.inr (22, [32])), .inr (.inl (.int 1)), .inl (.istore 1), .inl (.iload 1), .inr (.inl (.int 16)), .inr (.inr (24, [26])), .inl (.aload 0), .inr (.inl (.int 50)), .inr (.inl (.int 5)), .inl (.iload 1), .inl .iadd, .inl .imul, .inr (.inl (.int 50)), .inr (.inl (.int 5)), .inl (.iload 1), .inl .iadd, .inr (.inl (.int 1)), .inl .isub, .inl .imul, .inr (.inl (.int 25)), .inr (.inr (41, [212, 12])), .inr (.inr (80, [1])), .inr (.inr (10, [6])), .inl (.aload 0), .inl .dup, .inr (.inr (1, [12, 25])), .inr (.inl (.int 1)), .inl .isub, .inr (.inr (4, [12, 25])), .inl (.aload 0), .inr (.inl (.int 0)), .inr (.inl (.int 50)), .inr (.inl (.int 5)), .inl (.aload 0), .inr (.inr (1, [12, 25])), .inl .iadd, .inl .imul, .inr (.inl (.int 25)), .inr (.inr (41, [212, 12])), .inl (.aload 0), .inl .dup, .inr (.inr (1, [12, 25])), .inr (.inl (.int 1)), .inl .iadd, .inr (.inr (4, [12, 25])), .inl .return_]
def P_X12_keepsNow : List Nat := [0, 1, 4, 6, 9, 10, 11, 12, 14, 17, 18, 20, 21, 22, 23, 24, 26, 27, 28, 29, 30, 31, 32, 34, 37, 40, 43, 44, 45, 48, 49, 50, 53, 54, 55, 57, 58, 59, 62, 63, 64, 66, 69, 70, 71, 74, 75, 76, 79, 80]
def K_X12_seats : List xA := [.inl (.aload 0), .inr (.inr (3, [12, 10])), .inr (.inl (.int 0)), .inl .iaload, .inl .ireturn]
def P_X12_seats : List Nat := [0, 1, 4, 5, 6, 7]
def K_X12_persons : List xA := [.inl (.aload 0), .inr (.inr (3, [12, 10])), .inr (.inl (.int 1)), .inl .iaload, .inl .ireturn]
def P_X12_persons : List Nat := [0, 1, 4, 5, 6, 7]
def K_X12_seatOf : List xA := [.inl (.aload 0), .inr (.inr (3, [12, 10])), .inr (.inl (.int 4)), .inr (.inl (.int 2)), .inl (.iload 1), .inl .imul, .inl .iadd, .inl (.iload 2), .inl .iadd, .inl .iaload, .inl .ireturn]
def P_X12_seatOf : List Nat := [0, 1, 4, 5, 6, 7, 8, 9, 10, 11, 12, 13]
def K_X12_personOf : List xA := [.inl (.aload 0), .inr (.inr (3, [12, 10])), .inr (.inl (.int 18)), .inr (.inl (.int 3)), .inl (.iload 1), .inl .imul, .inl .iadd, .inl (.iload 2), .inl .iadd, .inl .iaload, .inl .ireturn]
def P_X12_personOf : List Nat := [0, 1, 4, 6, 7, 8, 9, 10, 11, 12, 13, 14]
def K_X12_isSeat : List xA := [.inl (.iload 1), .inr (.inr (13, [8])), .inl (.iload 1), .inl (.aload 0), .inr (.inr (41, [216, 12])), .inr (.inr (24, [8])), .inr (.inl (.int 1)), .inr (.inr (10, [9])), .inr (.inl (.int 0)), .inr (.inr (91, []))]
def P_X12_isSeat : List Nat := [0, 1, 4, 5, 6, 9, 12, 13, 16, 17, 18]
def K_X12_isPerson : List xA := [.inl (.iload 1), .inr (.inr (13, [8])), .inl (.iload 1), .inl (.aload 0), .inr (.inr (41, [217, 12])), .inr (.inr (24, [8])), .inr (.inl (.int 1)), .inr (.inr (10, [9])), .inr (.inl (.int 0)), .inr (.inr (91, []))]
def P_X12_isPerson : List Nat := [0, 1, 4, 5, 6, 9, 12, 13, 16, 17, 18]
def K_X12_bits : List xA := [.inr (.inl (.int 0)), .inl (.istore 1), .inr (.inl (.int 0)), .inl (.istore 2), .inl (.iload 2), .inr (.inl (.int 30)), .inr (.inr (24, [17])), .inl (.iload 1), .inl (.iload 0), .inl (.iload 2), .inl .ishr, .inr (.inl (.int 1)), .inl .iand, .inl .iadd, .inl (.istore 1), .inr (.inr (80, [2])), .inr (.inr (10, [4])), .inl (.iload 1), .inl .ireturn]
def P_X12_bits : List Nat := [0, 1, 2, 3, 4, 5, 7, 10, 11, 12, 13, 14, 15, 16, 17, 18, 21, 24, 25, 26]
def K_X12_lifeOf : List xA := [.inl (.aload 0), .inr (.inr (3, [12, 10])), .inr (.inl (.int 2)), .inl .iaload, .inl (.istore 2), .inl (.aload 0), .inl (.iload 1), .inr (.inl (.int 0)), .inr (.inr (41, [219, 12])), .inl (.istore 3), .inl (.iload 3), .inr (.inl (.int 1)), .inr (.inr (22, [17])), .inr (.inl (.int 2)), .inl (.iload 2), .inl .imul, .inr (.inr (10, [32])), .inl (.iload 3), .inr (.inl (.int 2)), .inr (.inr (22, [26])), .inl (.iload 2), .inr (.inl (.int 1)), .inl .iadd, .inr (.inl (.int 2)), .inl .idiv, .inr (.inr (10, [32])), .inl (.iload 3), .inr (.inl (.int 3)), .inr (.inr (22, [31])), .inr (.inl (.int 99)), .inr (.inr (10, [32])), .inl (.iload 2), .inl .ireturn]
def P_X12_lifeOf : List Nat := [0, 1, 4, 5, 6, 7, 8, 9, 10, 13, 14, 15, 16, 19, 20, 21, 22, 25, 26, 27, 30, 31, 32, 33, 34, 35, 38, 39, 40, 43, 45, 48, 49, 50]
def K_X12_areFoes : List xA := [.inl (.aload 0), .inl (.iload 1), .inr (.inl (.int 2)), .inr (.inr (41, [219, 12])), .inl (.iload 2), .inl .ishr, .inr (.inl (.int 1)), .inl .iand, .inr (.inl (.int 1)), .inr (.inr (22, [12])), .inr (.inl (.int 1)), .inr (.inr (10, [13])), .inr (.inl (.int 0)), .inr (.inr (91, []))]
def P_X12_areFoes : List Nat := [0, 1, 2, 3, 6, 7, 8, 9, 10, 11, 14, 15, 18, 19, 20]
def K_X12_sitterOn : List xA := [.inr (.inl (.int (-1))), .inl (.istore 3), .inr (.inl (.int 0)), .inl (.istore 4), .inl (.iload 4), .inl (.aload 0), .inr (.inr (41, [217, 12])), .inr (.inr (24, [24])), .inl (.aload 0), .inr (.inr (3, [12, 24])), .inl (.iload 1), .inr (.inl (.int 20)), .inl .iadd, .inl (.iload 4), .inl .iadd, .inl .iaload, .inl (.iload 2), .inr (.inr (22, [20])), .inl (.iload 4), .inr (.inr (10, [21])), .inl (.iload 3), .inl (.istore 3), .inr (.inr (80, [4])), .inr (.inr (10, [4])), .inl (.iload 3), .inl .ireturn]
def P_X12_sitterOn : List Nat := [0, 1, 2, 3, 5, 7, 8, 11, 14, 15, 18, 19, 21, 22, 24, 25, 26, 27, 30, 32, 35, 36, 37, 40, 43, 44, 45]
def K_X12_isFree : List xA := [.inl (.aload 0), .inr (.inr (3, [12, 24])), .inl (.iload 1), .inr (.inl (.int 1)), .inl .iadd, .inl (.iload 2), .inl .iadd, .inl .iaload, .inr (.inr (14, [16])), .inl (.aload 0), .inl (.iload 1), .inl (.iload 2), .inr (.inr (41, [225, 12])), .inr (.inr (14, [16])), .inr (.inl (.int 1)), .inr (.inr (10, [17])), .inr (.inl (.int 0)), .inr (.inr (91, []))]
def P_X12_isFree : List Nat := [0, 1, 4, 5, 6, 7, 8, 9, 10, 13, 14, 15, 16, 19, 22, 23, 26, 27, 28]
def K_X12_freeSeats : List xA := [.inr (.inl (.int 0)), .inl (.istore 2), .inr (.inl (.int 0)), .inl (.istore 3), .inl (.iload 3), .inl (.aload 0), .inr (.inr (41, [216, 12])), .inr (.inr (24, [23])), .inl (.iload 2), .inl (.aload 0), .inl (.iload 1), .inl (.iload 3), .inr (.inr (41, [226, 12])), .inr (.inr (11, [18])), .inr (.inl (.int 1)), .inl (.iload 3), .inl .ishl, .inr (.inr (10, [19])), .inr (.inl (.int 0)), .inl .ior, .inl (.istore 2), .inr (.inr (80, [3])), .inr (.inr (10, [4])), .inl (.iload 2), .inl .ireturn]
def P_X12_freeSeats : List Nat := [0, 1, 2, 3, 4, 5, 6, 9, 12, 13, 14, 15, 16, 19, 22, 23, 24, 25, 28, 29, 30, 31, 34, 37, 38, 39]
def K_X12_laidSeats : List xA := [.inr (.inl (.int 0)), .inl (.istore 2), .inr (.inl (.int 0)), .inl (.istore 3), .inl (.iload 3), .inl (.aload 0), .inr (.inr (41, [216, 12])), .inr (.inr (24, [27])), .inl (.iload 2), .inl (.aload 0), .inr (.inr (3, [12, 24])), .inl (.iload 1), .inr (.inl (.int 1)), .inl .iadd, .inl (.iload 3), .inl .iadd, .inl .iaload, .inr (.inr (13, [22])), .inr (.inl (.int 1)), .inl (.iload 3), .inl .ishl, .inr (.inr (10, [23])), .inr (.inl (.int 0)), .inl .ior, .inl (.istore 2), .inr (.inr (80, [3])), .inr (.inr (10, [4])), .inl (.iload 2), .inl .ireturn]
def P_X12_laidSeats : List Nat := [0, 1, 2, 3, 4, 5, 6, 9, 12, 13, 14, 17, 18, 19, 20, 21, 22, 23, 26, 27, 28, 29, 32, 33, 34, 35, 38, 41, 42, 43]
def K_X12_laidBy : List xA := [.inr (.inl (.int 0)), .inl (.istore 3), .inr (.inl (.int 0)), .inl (.istore 4), .inl (.iload 4), .inl (.aload 0), .inr (.inr (41, [216, 12])), .inr (.inr (24, [28])), .inl (.iload 3), .inl (.aload 0), .inr (.inr (3, [12, 24])), .inl (.iload 1), .inr (.inl (.int 1)), .inl .iadd, .inl (.iload 4), .inl .iadd, .inl .iaload, .inl (.iload 2), .inr (.inr (22, [23])), .inr (.inl (.int 1)), .inl (.iload 4), .inl .ishl, .inr (.inr (10, [24])), .inr (.inl (.int 0)), .inl .ior, .inl (.istore 3), .inr (.inr (80, [4])), .inr (.inr (10, [4])), .inl (.iload 3), .inl .ireturn]
def P_X12_laidBy : List Nat := [0, 1, 2, 3, 5, 7, 8, 11, 14, 15, 16, 19, 20, 21, 22, 24, 25, 26, 27, 30, 31, 33, 34, 37, 38, 39, 40, 43, 46, 47, 48]
def K_X12_nutmegsOf : List xA := [.inl (.aload 0), .inr (.inr (3, [12, 24])), .inl (.iload 1), .inr (.inl (.int 15)), .inl .iadd, .inl (.iload 2), .inl .iadd, .inl .iaload, .inl (.aload 0), .inl (.iload 1), .inl (.iload 2), .inr (.inr (41, [229, 12])), .inr (.inr (40, [222])), .inl .iadd, .inl .ireturn]
def P_X12_nutmegsOf : List Nat := [0, 1, 4, 5, 7, 8, 9, 10, 11, 12, 13, 14, 17, 20, 21, 22]
def K_X12_puts : List xA := [.inl (.aload 0), .inr (.inr (3, [12, 24])), .inl (.iload 1), .inr (.inl (.int 1)), .inl .iadd, .inl (.iload 3), .inl .iadd, .inl (.iload 2), .inl .iastore, .inl (.aload 0), .inr (.inr (3, [12, 24])), .inl (.iload 1), .inr (.inl (.int 8)), .inl .iadd, .inl (.iload 3), .inl .iadd, .inl (.aload 0), .inl (.iload 2), .inr (.inr (41, [223, 12])), .inl .iastore, .inl .return_]
def P_X12_puts : List Nat := [0, 1, 4, 5, 6, 7, 8, 9, 10, 11, 12, 15, 16, 18, 19, 20, 21, 22, 23, 26, 27, 28]
def K_X12_clears : List xA := [.inl (.aload 0), .inr (.inr (3, [12, 24])), .inl (.iload 1), .inr (.inl (.int 1)), .inl .iadd, .inl (.iload 2), .inl .iadd, .inr (.inl (.int (-1))), .inl .iastore, .inl (.aload 0), .inr (.inr (3, [12, 24])), .inl (.iload 1), .inr (.inl (.int 8)), .inl .iadd, .inl (.iload 2), .inl .iadd, .inr (.inl (.int 0)), .inl .iastore, .inl .return_]
def P_X12_clears : List Nat := [0, 1, 4, 5, 6, 7, 8, 9, 10, 11, 12, 15, 16, 18, 19, 20, 21, 22, 23, 24]
def K_X12_mayLay : List xA := [.inl (.aload 0), .inr (.inr (3, [12, 24])), .inl (.iload 1), .inr (.inl (.int 15)), .inl .iadd, .inl (.iload 2), .inl .iadd, .inl .iaload, .inr (.inr (16, [16])), .inl (.aload 0), .inl (.iload 1), .inl (.iload 3), .inr (.inr (41, [226, 12])), .inr (.inr (11, [16])), .inr (.inl (.int 1)), .inr (.inr (10, [17])), .inr (.inl (.int 0)), .inr (.inr (91, []))]
def P_X12_mayLay : List Nat := [0, 1, 4, 5, 7, 8, 9, 10, 11, 14, 15, 16, 17, 20, 23, 24, 27, 28, 29]
def K_X12_maySit : List xA := [.inl (.aload 0), .inr (.inr (3, [12, 24])), .inl (.iload 1), .inr (.inl (.int 20)), .inl .iadd, .inl (.iload 2), .inl .iadd, .inl .iaload, .inr (.inr (14, [35])), .inl (.aload 0), .inl (.iload 1), .inl (.iload 3), .inr (.inr (41, [225, 12])), .inr (.inr (14, [35])), .inl (.aload 0), .inr (.inr (3, [12, 24])), .inl (.iload 1), .inr (.inl (.int 1)), .inl .iadd, .inl (.iload 3), .inl .iadd, .inl .iaload, .inr (.inr (13, [33])), .inl (.aload 0), .inr (.inr (3, [12, 24])), .inl (.iload 1), .inr (.inl (.int 1)), .inl .iadd, .inl (.iload 3), .inl .iadd, .inl .iaload, .inl (.iload 2), .inr (.inr (22, [35])), .inr (.inl (.int 1)), .inr (.inr (10, [36])), .inr (.inl (.int 0)), .inr (.inr (91, []))]
def P_X12_maySit : List Nat := [0, 1, 4, 5, 7, 8, 9, 10, 11, 14, 15, 16, 17, 20, 23, 24, 27, 28, 29, 30, 31, 32, 33, 36, 37, 40, 41, 42, 43, 44, 45, 46, 47, 50, 51, 54, 55, 56]
def K_X12_mayGrate : List xA := [.inl (.aload 0), .inr (.inr (3, [12, 24])), .inl (.iload 1), .inr (.inl (.int 20)), .inl .iadd, .inl (.iload 2), .inl .iadd, .inl .iaload, .inl (.istore 4), .inl (.aload 0), .inr (.inr (3, [12, 24])), .inl (.iload 1), .inr (.inl (.int 1)), .inl .iadd, .inl (.iload 3), .inl .iadd, .inl .iaload, .inl (.istore 5), .inl (.iload 4), .inr (.inr (13, [39])), .inl (.iload 5), .inr (.inr (13, [39])), .inl (.aload 0), .inr (.inr (3, [12, 27])), .inl (.iload 4), .inl .iaload, .inl (.iload 3), .inl .ishr, .inr (.inl (.int 1)), .inl .iand, .inr (.inl (.int 1)), .inr (.inr (22, [39])), .inl (.aload 0), .inl (.iload 2), .inl (.iload 5), .inr (.inr (41, [224, 12])), .inr (.inr (11, [39])), .inr (.inl (.int 1)), .inr (.inr (10, [40])), .inr (.inl (.int 0)), .inr (.inr (91, []))]
def P_X12_mayGrate : List Nat := [0, 1, 4, 5, 7, 8, 9, 10, 11, 13, 14, 17, 18, 19, 20, 21, 22, 23, 25, 27, 30, 32, 35, 36, 39, 41, 42, 43, 44, 45, 46, 47, 50, 51, 52, 54, 57, 60, 61, 64, 65, 66]
def K_X12_lays : List xA := [.inl (.aload 0), .inr (.inr (3, [12, 24])), .inl (.iload 1), .inr (.inl (.int 15)), .inl .iadd, .inl (.iload 2), .inl .iadd, .inl .dup2, .inl .iaload, .inr (.inl (.int 1)), .inl .isub, .inl .iastore, .inl (.aload 0), .inl (.iload 1), .inl (.iload 2), .inl (.iload 3), .inr (.inr (41, [231, 12])), .inl .return_]
def P_X12_lays : List Nat := [0, 1, 4, 5, 7, 8, 9, 10, 11, 12, 13, 14, 15, 16, 17, 18, 19, 22, 23]
def K_X12_sits : List xA := [.inl (.aload 0), .inr (.inr (3, [12, 24])), .inl (.iload 1), .inr (.inl (.int 20)), .inl .iadd, .inl (.iload 2), .inl .iadd, .inl (.iload 3), .inl .iastore, .inl (.aload 0), .inr (.inr (3, [12, 24])), .inl (.iload 1), .inr (.inl (.int 1)), .inl .iadd, .inl (.iload 3), .inl .iadd, .inl .iaload, .inl (.iload 2), .inr (.inr (22, [35])), .inl (.aload 0), .inr (.inr (3, [12, 24])), .inl (.iload 1), .inr (.inl (.int 15)), .inl .iadd, .inl (.iload 2), .inl .iadd, .inl .dup2, .inl .iaload, .inr (.inl (.int 1)), .inl .iadd, .inl .iastore, .inl (.aload 0), .inl (.iload 1), .inl (.iload 3), .inr (.inr (41, [232, 12])), .inl .return_]
def P_X12_sits : List Nat := [0, 1, 4, 5, 7, 8, 9, 10, 11, 12, 13, 16, 17, 18, 19, 20, 21, 22, 23, 26, 27, 30, 31, 33, 34, 35, 36, 37, 38, 39, 40, 41, 42, 43, 44, 47, 48]
def K_X12_isGoneBy : List xA := [.inl (.aload 0), .inr (.inr (3, [12, 24])), .inl (.iload 1), .inr (.inl (.int 8)), .inl .iadd, .inl (.iload 2), .inl .iadd, .inl .dup2, .inl .iaload, .inl (.iload 3), .inl .isub, .inl .iastore, .inl (.aload 0), .inr (.inr (3, [12, 24])), .inl (.iload 1), .inr (.inl (.int 8)), .inl .iadd, .inl (.iload 2), .inl .iadd, .inl .iaload, .inr (.inr (15, [23])), .inr (.inl (.int 1)), .inr (.inr (10, [24])), .inr (.inl (.int 0)), .inl (.istore 4), .inl (.iload 4), .inr (.inr (11, [31])), .inl (.aload 0), .inl (.iload 1), .inl (.iload 2), .inr (.inr (41, [232, 12])), .inl (.iload 4), .inr (.inr (91, []))]
def P_X12_isGoneBy : List Nat := [0, 1, 4, 5, 7, 8, 9, 10, 11, 12, 13, 14, 15, 16, 19, 20, 22, 23, 24, 25, 26, 29, 30, 33, 34, 36, 38, 41, 42, 43, 44, 47, 49, 50]
def K_X12_grates : List xA := [.inl (.aload 0), .inl (.iload 2), .inr (.inl (.int 0)), .inr (.inr (41, [219, 12])), .inl (.istore 4), .inl (.aload 0), .inl (.iload 1), .inl (.iload 3), .inl (.iload 4), .inr (.inl (.int 2)), .inr (.inr (22, [13])), .inr (.inl (.int 5)), .inr (.inr (10, [19])), .inl (.iload 4), .inr (.inl (.int 1)), .inr (.inr (22, [18])), .inr (.inl (.int 1)), .inr (.inr (10, [19])), .inr (.inl (.int 3)), .inr (.inr (41, [238, 12])), .inr (.inr (91, []))]
def P_X12_grates : List Nat := [0, 1, 2, 3, 6, 8, 9, 10, 11, 13, 14, 17, 18, 21, 23, 24, 27, 28, 31, 32, 35, 36]
def K_X12_passes : List xA := [.inl (.aload 0), .inl (.iload 1), .inr (.inr (41, [228, 12])), .inl (.istore 3), .inr (.inl (.int 0)), .inl (.istore 4), .inl (.iload 4), .inl (.aload 0), .inr (.inr (41, [216, 12])), .inr (.inr (24, [102])), .inl (.aload 0), .inr (.inr (3, [12, 24])), .inl (.iload 1), .inr (.inl (.int 1)), .inl .iadd, .inl (.iload 4), .inl .iadd, .inl .iaload, .inl (.istore 5), .inl (.aload 0), .inr (.inr (3, [12, 22])), .inr (.inl (.int 0)), .inl (.aload 0), .inr (.inr (3, [12, 24])), .inl (.iload 1), .inr (.inl (.int 8)), .inl .iadd, .inl (.iload 4), .inl .iadd, .inl .iaload, .inl .iastore, .inl (.aload 0), .inr (.inr (3, [12, 22])), .inr (.inl (.int 1)), .inl (.iload 3), .inl (.aload 0), .inr (.inr (3, [12, 27])), .inl (.iload 4), .inl .iaload, .inl .iand, .inr (.inr (40, [222])), .inl .iastore, .inl (.aload 0), .inr (.inr (3, [12, 22])), .inr (.inl (.int 2)), .inl (.aload 0), .inl (.iload 4), .inr (.inl (.int 0)), .inr (.inr (41, [218, 12])), .inl .iastore, .inl (.aload 0), .inr (.inr (3, [12, 22])), .inr (.inl (.int 3)), .inl (.aload 0), .inr (.inr (3, [12, 24])), .inl (.iload 1), .inr (.inl (.int 0)), .inl .iadd, .inl .iaload, .inl .iastore, .inl (.aload 0), .inr (.inr (3, [12, 10])), .inr (.inl (.int 3)), .inl .iaload, .inr (.inr (14, [67])), .inr (.inl (.int 1)), .inr (.inr (10, [73])), .inl (.aload 0), .inl (.aload 0), .inr (.inr (3, [12, 10])), .inr (.inl (.int 3)), .inl .iaload, .inr (.inr (41, [210, 12])), .inl (.istore 6), .inl (.aload 0), .inr (.inr (3, [12, 28])), .inl (.iload 4), .inl (.iload 5), .inr (.inr (13, [85])), .inl (.aload 0), .inl (.iload 5), .inr (.inl (.int 0)), .inr (.inr (41, [219, 12])), .inr (.inl (.int 3)), .inr (.inr (22, [87])), .inr (.inl (.int 0)), .inr (.inr (10, [99])), .inl (.iload 2), .inl (.iload 6), .inr (.inr (14, [92])), .inr (.inl (.int 0)), .inr (.inr (10, [98])), .inl (.iload 6), .inr (.inl (.int 9)), .inr (.inr (26, [97])), .inr (.inl (.int 9)), .inr (.inr (10, [98])), .inl (.iload 6), .inl .iadd, .inl .iastore, .inr (.inr (80, [4])), .inr (.inr (10, [6])), .inr (.inl (.int 0)), .inl (.istore 4), .inr (.inl (.int 0)), .inl (.istore 5), .inl (.iload 5), .inl (.aload 0), .inr (.inr (41, [216, 12])), .inr (.inr (24, [136])), .inl (.iload 4), .inl (.iload 3), .inl (.iload 5), .inl .ishr, .inr (.inl (.int 1)), .inl .iand, .inr (.inl (.int 1)), .inr (.inr (22, [131])), .inl (.aload 0), .inl (.iload 1), .inl (.iload 5), .inl (.aload 0), .inr (.inr (3, [12, 28])), .inl (.iload 5), .inl .iaload, .inr (.inr (41, [238, 12])), .inr (.inr (11, [131])), .inr (.inl (.int 1)), .inl (.iload 5), .inl .ishl, .inr (.inr (10, [132])), .inr (.inl (.int 0)), .inl .ior, .inl (.istore 4), .inr (.inr (80, [5])), .inr (.inr (10, [106])), .inl (.aload 0), .inr (.inr (3, [12, 24])), .inl (.iload 1), .inr (.inl (.int 0)), .inl .iadd, .inl .dup2, .inl .iaload, .inr (.inl (.int 1)), .inl .iadd, .inl .iastore, .inl (.iload 4), .inl .ireturn]
def P_X12_passes : List Nat := [0, 1, 2, 5, 6, 7, 9, 11, 12, 15, 18, 19, 22, 23, 24, 25, 27, 28, 29, 31, 32, 35, 36, 37, 40, 41, 43, 44, 46, 47, 48, 49, 50, 53, 54, 55, 56, 59, 61, 62, 63, 66, 67, 68, 71, 72, 73, 75, 76, 79, 80, 81, 84, 85, 86, 89, 90, 91, 92, 93, 94, 95, 98, 99, 100, 103, 104, 107, 108, 109, 112, 113, 114, 117, 119, 120, 123, 125, 127, 130, 131, 133, 134, 137, 138, 141, 142, 145, 146, 148, 151, 152, 155, 157, 159, 162, 164, 167, 169, 170, 171, 174, 177, 178, 180, 181, 183, 185, 186, 189, 192, 194, 195, 197, 198, 199, 200, 201, 204, 205, 206, 208, 209, 212, 214, 215, 218, 221, 222, 224, 225, 228, 229, 230, 232, 235, 238, 239, 242, 243, 244, 245, 246, 247, 248, 249, 250, 252, 253]
def K_X12_sitting : List xA := [.inr (.inl (.int 0)), .inl (.istore 2), .inr (.inl (.int 0)), .inl (.istore 3), .inl (.iload 3), .inl (.aload 0), .inr (.inr (41, [217, 12])), .inr (.inr (24, [27])), .inl (.iload 2), .inl (.aload 0), .inr (.inr (3, [12, 24])), .inl (.iload 1), .inr (.inl (.int 20)), .inl .iadd, .inl (.iload 3), .inl .iadd, .inl .iaload, .inr (.inr (13, [22])), .inr (.inl (.int 1)), .inl (.iload 3), .inl .ishl, .inr (.inr (10, [23])), .inr (.inl (.int 0)), .inl .ior, .inl (.istore 2), .inr (.inr (80, [3])), .inr (.inr (10, [4])), .inl (.iload 2), .inl .ireturn]
def P_X12_sitting : List Nat := [0, 1, 2, 3, 4, 5, 6, 9, 12, 13, 14, 17, 18, 20, 21, 22, 23, 24, 27, 28, 29, 30, 33, 34, 35, 36, 39, 42, 43, 44]
def K_X12_seat : List xA := [.inl (.aload 0), .inr (.inl (.int 0)), .inr (.inr (4, [12, 0])), .inl (.aload 0), .inl (.iload 1), .inr (.inr (41, [220, 12])), .inr (.inr (11, [12])), .inl (.iload 2), .inr (.inl (.int 0)), .inr (.inl (.int 5)), .inr (.inr (40, [189])), .inr (.inr (12, [14])), .inr (.inl (.int (-2))), .inl .ireturn, .inl (.iload 2), .inr (.inr (27, [102, 40, 16, 23, 30, 35])), .inl (.aload 0), .inr (.inr (3, [12, 24])), .inr (.inl (.int 1)), .inl (.iload 1), .inl .iadd, .inl .iaload, .inl .ireturn, .inl (.aload 0), .inr (.inr (3, [12, 24])), .inr (.inl (.int 8)), .inl (.iload 1), .inl .iadd, .inl .iaload, .inl .ireturn, .inl (.aload 0), .inr (.inl (.int 0)), .inl (.iload 1), .inr (.inr (41, [225, 12])), .inl .ireturn, .inl (.aload 0), .inr (.inr (3, [12, 27])), .inl (.iload 1), .inl .iaload, .inl .ireturn, .inl (.aload 0), .inl (.iload 1), .inl (.iload 2), .inr (.inr (41, [218, 12])), .inl .ireturn]
def P_X12_seat : List Nat := [0, 1, 2, 5, 6, 7, 10, 13, 14, 15, 16, 19, 22, 24, 25, 26, 56, 57, 60, 61, 62, 63, 64, 65, 66, 69, 71, 72, 73, 74, 75, 76, 77, 78, 81, 82, 83, 86, 87, 88, 89, 90, 91, 92, 95, 96]
def K_X12_person : List xA := [.inl (.aload 0), .inr (.inl (.int 0)), .inr (.inr (4, [12, 0])), .inl (.aload 0), .inl (.iload 1), .inr (.inr (41, [221, 12])), .inr (.inr (11, [12])), .inl (.iload 2), .inr (.inl (.int 0)), .inr (.inl (.int 4)), .inr (.inr (40, [189])), .inr (.inr (12, [14])), .inr (.inl (.int (-2))), .inl .ireturn, .inl (.iload 2), .inr (.inr (12, [21])), .inl (.aload 0), .inl (.iload 1), .inr (.inl (.int 0)), .inr (.inr (41, [219, 12])), .inr (.inr (10, [53])), .inl (.iload 2), .inr (.inl (.int 1)), .inr (.inr (22, [31])), .inl (.aload 0), .inr (.inr (3, [12, 24])), .inr (.inl (.int 15)), .inl (.iload 1), .inl .iadd, .inl .iaload, .inr (.inr (10, [53])), .inl (.iload 2), .inr (.inl (.int 2)), .inr (.inr (22, [41])), .inl (.aload 0), .inr (.inr (3, [12, 24])), .inr (.inl (.int 20)), .inl (.iload 1), .inl .iadd, .inl .iaload, .inr (.inr (10, [53])), .inl (.iload 2), .inr (.inl (.int 3)), .inr (.inr (22, [49])), .inl (.aload 0), .inr (.inl (.int 0)), .inl (.iload 1), .inr (.inr (41, [229, 12])), .inr (.inr (10, [53])), .inl (.aload 0), .inl (.iload 1), .inr (.inl (.int 2)), .inr (.inr (41, [219, 12])), .inl .ireturn]
def P_X12_person : List Nat := [0, 1, 2, 5, 6, 7, 10, 13, 14, 15, 16, 19, 22, 24, 25, 26, 29, 30, 31, 32, 35, 38, 39, 40, 43, 44, 47, 49, 50, 51, 52, 55, 56, 57, 60, 61, 64, 66, 67, 68, 69, 72, 73, 74, 77, 78, 79, 80, 83, 86, 87, 88, 89, 92, 93]
def K_X12_lay_ : List xA := [.inl (.aload 0), .inr (.inl (.int 0)), .inr (.inr (4, [12, 0])), .inl (.aload 0), .inl (.iload 1), .inr (.inr (41, [221, 12])), .inr (.inr (11, [17])), .inl (.aload 0), .inl (.iload 2), .inr (.inr (41, [220, 12])), .inr (.inr (11, [17])), .inl (.aload 0), .inr (.inl (.int 0)), .inl (.iload 1), .inl (.iload 2), .inr (.inr (41, [233, 12])), .inr (.inr (12, [19])), .inr (.inl (.int (-1))), .inl .ireturn, .inl (.aload 0), .inr (.inr (41, [215, 12])), .inl (.aload 0), .inr (.inl (.int 0)), .inl (.iload 1), .inl (.iload 2), .inr (.inr (41, [236, 12])), .inl (.aload 0), .inr (.inr (3, [12, 24])), .inr (.inl (.int 8)), .inl (.iload 2), .inl .iadd, .inl .iaload, .inl .ireturn]
def P_X12_lay_ : List Nat := [0, 1, 2, 5, 6, 7, 10, 13, 14, 15, 18, 21, 22, 23, 24, 25, 28, 31, 32, 33, 34, 37, 38, 39, 40, 41, 44, 45, 48, 50, 51, 52, 53, 54]
def K_X12_sit : List xA := [.inl (.aload 0), .inr (.inl (.int 0)), .inr (.inr (4, [12, 0])), .inl (.aload 0), .inl (.iload 1), .inr (.inr (41, [221, 12])), .inr (.inr (11, [17])), .inl (.aload 0), .inl (.iload 2), .inr (.inr (41, [220, 12])), .inr (.inr (11, [17])), .inl (.aload 0), .inr (.inl (.int 0)), .inl (.iload 1), .inl (.iload 2), .inr (.inr (41, [234, 12])), .inr (.inr (12, [19])), .inr (.inl (.int (-1))), .inl .ireturn, .inl (.aload 0), .inr (.inr (41, [215, 12])), .inl (.aload 0), .inr (.inl (.int 0)), .inl (.iload 1), .inl (.iload 2), .inr (.inr (41, [237, 12])), .inl (.aload 0), .inr (.inr (3, [12, 24])), .inr (.inl (.int 15)), .inl (.iload 1), .inl .iadd, .inl .iaload, .inl .ireturn]
def P_X12_sit : List Nat := [0, 1, 2, 5, 6, 7, 10, 13, 14, 15, 18, 21, 22, 23, 24, 25, 28, 31, 32, 33, 34, 37, 38, 39, 40, 41, 44, 45, 48, 50, 51, 52, 53, 54]
def K_X12_rise : List xA := [.inl (.aload 0), .inr (.inl (.int 0)), .inr (.inr (4, [12, 0])), .inl (.aload 0), .inl (.iload 1), .inr (.inr (41, [221, 12])), .inr (.inr (11, [14])), .inl (.aload 0), .inr (.inr (3, [12, 24])), .inr (.inl (.int 20)), .inl (.iload 1), .inl .iadd, .inl .iaload, .inr (.inr (14, [16])), .inr (.inl (.int (-1))), .inl .ireturn, .inl (.aload 0), .inr (.inr (41, [215, 12])), .inl (.aload 0), .inr (.inr (3, [12, 24])), .inr (.inl (.int 20)), .inl (.iload 1), .inl .iadd, .inl .iaload, .inl (.istore 2), .inl (.aload 0), .inr (.inr (3, [12, 24])), .inr (.inl (.int 20)), .inl (.iload 1), .inl .iadd, .inr (.inl (.int (-1))), .inl .iastore, .inl (.iload 2), .inl .ireturn]
def P_X12_rise : List Nat := [0, 1, 2, 5, 6, 7, 10, 13, 14, 17, 19, 20, 21, 22, 25, 26, 27, 28, 31, 32, 35, 37, 38, 39, 40, 41, 42, 45, 47, 48, 49, 50, 51, 52, 53]
def K_X12_grate : List xA := [.inl (.aload 0), .inr (.inl (.int 0)), .inr (.inr (4, [12, 0])), .inl (.aload 0), .inl (.iload 1), .inr (.inr (41, [221, 12])), .inr (.inr (11, [17])), .inl (.aload 0), .inl (.iload 2), .inr (.inr (41, [220, 12])), .inr (.inr (11, [17])), .inl (.aload 0), .inr (.inl (.int 0)), .inl (.iload 1), .inl (.iload 2), .inr (.inr (41, [235, 12])), .inr (.inr (12, [19])), .inr (.inl (.int (-1))), .inl .ireturn, .inl (.aload 0), .inr (.inr (41, [215, 12])), .inl (.aload 0), .inr (.inl (.int 0)), .inl (.iload 1), .inl (.iload 2), .inr (.inr (41, [239, 12])), .inl .pop, .inl (.aload 0), .inr (.inr (3, [12, 24])), .inr (.inl (.int 8)), .inl (.iload 2), .inl .iadd, .inl .iaload, .inl .ireturn]
def P_X12_grate : List Nat := [0, 1, 2, 5, 6, 7, 10, 13, 14, 15, 18, 21, 22, 23, 24, 25, 28, 31, 32, 33, 34, 37, 38, 39, 40, 41, 44, 45, 46, 49, 51, 52, 53, 54, 55]
def K_X12_hour : List xA := [.inl (.aload 0), .inr (.inl (.int 0)), .inr (.inr (4, [12, 0])), .inl (.aload 0), .inr (.inr (41, [215, 12])), .inl (.aload 0), .inr (.inl (.int 0)), .inr (.inl (.int 0)), .inr (.inr (41, [240, 12])), .inl .ireturn]
def P_X12_hour : List Nat := [0, 1, 2, 5, 6, 9, 10, 11, 12, 15, 16]
def K_X12_undo : List xA := [.inl (.aload 0), .inr (.inl (.int 0)), .inr (.inr (4, [12, 0])), .inl (.aload 0), .inr (.inr (1, [12, 25])), .inr (.inr (12, [8])), .inr (.inl (.int 0)), .inr (.inr (91, [])), .inl (.aload 0), .inl .dup, .inr (.inr (1, [12, 25])), .inr (.inl (.int 1)), .inl .isub, .inr (.inr (4, [12, 25])), .inl (.aload 0), .inr (.inl (.int 50)), .inr (.inl (.int 5)), .inl (.aload 0), .inr (.inr (1, [12, 25])), .inl .iadd, .inl .imul, .inr (.inl (.int 0)), .inr (.inl (.int 25)), .inr (.inr (41, [212, 12])), .inr (.inl (.int 1)), .inr (.inr (91, []))]
def P_X12_undo : List Nat := [0, 1, 2, 5, 6, 9, 12, 13, 14, 15, 16, 19, 20, 21, 24, 25, 27, 28, 29, 32, 33, 34, 35, 37, 40, 41, 42]
def K_X12_mayBe : List xA := [.inl (.iload 1), .inr (.inr (12, [8])), .inl (.aload 0), .inr (.inl (.int 1050)), .inl (.iload 2), .inl (.iload 3), .inr (.inr (41, [233, 12])), .inr (.inr (10, [43])), .inl (.iload 1), .inr (.inl (.int 1)), .inr (.inr (22, [17])), .inl (.aload 0), .inr (.inl (.int 1050)), .inl (.iload 2), .inl (.iload 3), .inr (.inr (41, [234, 12])), .inr (.inr (10, [43])), .inl (.iload 1), .inr (.inl (.int 2)), .inr (.inr (22, [31])), .inl (.aload 0), .inr (.inr (3, [12, 24])), .inr (.inl (.int 1070)), .inl (.iload 2), .inl .iadd, .inl .iaload, .inr (.inr (13, [29])), .inr (.inl (.int 1)), .inr (.inr (10, [43])), .inr (.inl (.int 0)), .inr (.inr (10, [43])), .inl (.iload 1), .inr (.inl (.int 4)), .inr (.inr (21, [40])), .inl (.aload 0), .inr (.inl (.int 1050)), .inl (.iload 2), .inl (.iload 3), .inr (.inr (41, [235, 12])), .inr (.inr (11, [42])), .inr (.inl (.int 1)), .inr (.inr (10, [43])), .inr (.inl (.int 0)), .inr (.inr (91, []))]
def P_X12_mayBe : List Nat := [0, 1, 4, 5, 8, 9, 10, 13, 16, 17, 18, 21, 22, 25, 26, 27, 30, 33, 34, 35, 38, 39, 42, 45, 46, 47, 48, 51, 52, 55, 56, 59, 60, 61, 64, 65, 68, 69, 70, 73, 76, 77, 80, 81, 82]
def K_X12_judged : List xA := [.inl (.aload 0), .inr (.inl (.int 0)), .inr (.inr (4, [12, 0])), .inl (.iload 1), .inr (.inl (.int 0)), .inr (.inl (.int 2)), .inr (.inr (40, [189])), .inr (.inr (12, [10])), .inr (.inl (.int (-2))), .inl .ireturn, .inl (.aload 0), .inr (.inl (.int 1050)), .inr (.inr (41, [213, 12])), .inr (.inl (.int (-1))), .inl (.istore 2), .inr (.inl (.int (-1))), .inl (.istore 3), .inr (.inl (.int 0)), .inl (.istore 4), .inl (.iload 4), .inl (.aload 0), .inr (.inr (3, [12, 21])), .inr (.inl (.int 0)), .inl .iaload, .inr (.inr (24, [132])), .inl (.aload 0), .inr (.inr (3, [12, 21])), .inr (.inl (.int 1)), .inr (.inl (.int 3)), .inl (.iload 4), .inl .imul, .inl .iadd, .inl .iaload, .inl (.istore 5), .inl (.aload 0), .inr (.inr (3, [12, 21])), .inr (.inl (.int 2)), .inr (.inl (.int 3)), .inl (.iload 4), .inl .imul, .inl .iadd, .inl .iaload, .inl (.istore 6), .inl (.aload 0), .inr (.inr (3, [12, 21])), .inr (.inl (.int 3)), .inr (.inl (.int 3)), .inl (.iload 4), .inl .imul, .inl .iadd, .inl .iaload, .inl (.istore 7), .inl (.aload 0), .inl (.iload 5), .inl (.iload 6), .inl (.iload 7), .inr (.inr (41, [250, 12])), .inl (.istore 8), .inl (.iload 8), .inr (.inr (12, [64])), .inl (.iload 2), .inr (.inr (14, [64])), .inl (.iload 4), .inr (.inr (10, [65])), .inl (.iload 2), .inl (.istore 2), .inr (.inl (.int 0)), .inl (.istore 9), .inl (.iload 8), .inr (.inr (11, [78])), .inl (.iload 5), .inr (.inr (12, [78])), .inl (.aload 0), .inr (.inl (.int 1050)), .inl (.iload 6), .inl (.iload 7), .inr (.inr (41, [236, 12])), .inr (.inr (10, [122])), .inl (.iload 8), .inr (.inr (11, [89])), .inl (.iload 5), .inr (.inl (.int 1)), .inr (.inr (22, [89])), .inl (.aload 0), .inr (.inl (.int 1050)), .inl (.iload 6), .inl (.iload 7), .inr (.inr (41, [237, 12])), .inr (.inr (10, [122])), .inl (.iload 8), .inr (.inr (11, [102])), .inl (.iload 5), .inr (.inl (.int 2)), .inr (.inr (22, [102])), .inl (.aload 0), .inr (.inr (3, [12, 24])), .inr (.inl (.int 1070)), .inl (.iload 6), .inl .iadd, .inr (.inl (.int (-1))), .inl .iastore, .inr (.inr (10, [122])), .inl (.iload 8), .inr (.inr (11, [122])), .inl (.iload 5), .inr (.inl (.int 3)), .inr (.inr (22, [113])), .inl (.aload 0), .inr (.inl (.int 1050)), .inl (.iload 6), .inl (.iload 7), .inr (.inr (41, [239, 12])), .inr (.inr (10, [121])), .inl (.aload 0), .inr (.inl (.int 1050)), .inr (.inl (.int 0)), .inr (.inr (41, [240, 12])), .inr (.inr (11, [120])), .inr (.inl (.int 1)), .inr (.inr (10, [121])), .inr (.inl (.int 0)), .inl (.istore 9), .inl (.iload 9), .inr (.inr (11, [128])), .inl (.iload 3), .inr (.inr (14, [128])), .inl (.iload 4), .inr (.inr (10, [129])), .inl (.iload 3), .inl (.istore 3), .inr (.inr (80, [4])), .inr (.inr (10, [19])), .inl (.iload 1), .inr (.inr (12, [136])), .inl (.iload 2), .inr (.inr (10, [145])), .inl (.iload 1), .inr (.inl (.int 1)), .inr (.inr (22, [141])), .inl (.iload 3), .inr (.inr (10, [145])), .inl (.aload 0), .inr (.inl (.int 1050)), .inr (.inr (41, [241, 12])), .inr (.inr (40, [222])), .inl .ireturn]
def P_X12_judged : List Nat := [0, 1, 2, 5, 6, 7, 8, 11, 14, 16, 17, 18, 21, 24, 25, 26, 27, 28, 29, 31, 33, 34, 37, 38, 39, 42, 43, 46, 47, 48, 50, 51, 52, 53, 55, 56, 59, 60, 61, 63, 64, 65, 66, 68, 69, 72, 73, 74, 76, 77, 78, 79, 81, 82, 84, 86, 88, 91, 93, 95, 98, 99, 102, 104, 107, 108, 109, 110, 112, 114, 117, 119, 122, 123, 126, 128, 130, 133, 136, 138, 141, 143, 144, 147, 148, 151, 153, 155, 158, 161, 163, 166, 168, 169, 172, 173, 176, 179, 181, 182, 183, 184, 187, 189, 192, 194, 195, 198, 199, 202, 204, 206, 209, 212, 213, 216, 217, 220, 223, 224, 227, 228, 230, 232, 235, 236, 239, 241, 244, 245, 246, 249, 252, 253, 256, 257, 260, 261, 262, 265, 266, 269, 270, 273, 276, 279, 280]
def K_X12_triesNow : List xA := [.inl (.aload 0), .inr (.inl (.int 0)), .inr (.inl (.int 1050)), .inr (.inl (.int 25)), .inr (.inr (41, [212, 12])), .inl .return_]
def P_X12_triesNow : List Nat := [0, 1, 2, 5, 7, 10, 11]
def K_X12_goneIn : List xA := [.inr (.inl (.int 1)), .inl (.istore 3), .inl (.iload 3), .inl (.iload 2), .inr (.inr (25, [19])), .inl (.aload 0), .inr (.inl (.int 1050)), .inr (.inl (.int 0)), .inr (.inr (41, [240, 12])), .inl (.iload 1), .inl .ishr, .inr (.inl (.int 1)), .inl .iand, .inr (.inl (.int 1)), .inr (.inr (22, [17])), .inl (.iload 3), .inl .ireturn, .inr (.inr (80, [3])), .inr (.inr (10, [2])), .inl (.iload 2), .inr (.inl (.int 1)), .inl .iadd, .inl .ireturn]
def P_X12_goneIn : List Nat := [0, 1, 2, 3, 4, 7, 8, 11, 12, 15, 16, 17, 18, 19, 20, 23, 24, 25, 28, 31, 32, 33, 34, 35]
def K_X12_left : List xA := [.inl (.aload 0), .inr (.inl (.int 0)), .inr (.inr (4, [12, 0])), .inl (.aload 0), .inl (.iload 1), .inr (.inr (41, [220, 12])), .inr (.inr (11, [14])), .inl (.aload 0), .inr (.inr (3, [12, 24])), .inr (.inl (.int 1)), .inl (.iload 1), .inl .iadd, .inl .iaload, .inr (.inr (14, [16])), .inr (.inl (.int (-1))), .inl .ireturn, .inl (.aload 0), .inr (.inr (41, [252, 12])), .inl (.aload 0), .inl (.iload 1), .inr (.inl (.int 99)), .inr (.inr (41, [253, 12])), .inl (.istore 2), .inl (.iload 2), .inr (.inl (.int 99)), .inr (.inr (26, [28])), .inr (.inl (.int (-1))), .inr (.inr (10, [29])), .inl (.iload 2), .inl .ireturn]
def P_X12_left : List Nat := [0, 1, 2, 5, 6, 7, 10, 13, 14, 17, 18, 19, 20, 21, 24, 25, 26, 27, 30, 31, 32, 34, 37, 38, 39, 41, 44, 45, 48, 49, 50]
def K_X12_later : List xA := [.inl (.aload 0), .inr (.inl (.int 0)), .inr (.inr (4, [12, 0])), .inl (.aload 0), .inl (.iload 1), .inr (.inr (41, [220, 12])), .inr (.inr (11, [19])), .inl (.aload 0), .inr (.inr (3, [12, 24])), .inr (.inl (.int 1)), .inl (.iload 1), .inl .iadd, .inl .iaload, .inr (.inr (13, [19])), .inl (.iload 2), .inr (.inl (.int 0)), .inr (.inl (.int 60)), .inr (.inr (40, [189])), .inr (.inr (12, [21])), .inr (.inl (.int (-1))), .inl .ireturn, .inl (.aload 0), .inr (.inr (41, [252, 12])), .inr (.inl (.int 0)), .inl (.istore 3), .inl (.iload 3), .inl (.iload 2), .inr (.inr (24, [35])), .inl (.aload 0), .inr (.inl (.int 1050)), .inr (.inl (.int 0)), .inr (.inr (41, [240, 12])), .inl .pop, .inr (.inr (80, [3])), .inr (.inr (10, [25])), .inl (.aload 0), .inr (.inr (3, [12, 24])), .inr (.inl (.int 1058)), .inl (.iload 1), .inl .iadd, .inl .iaload, .inl .ireturn]
def P_X12_later : List Nat := [0, 1, 2, 5, 6, 7, 10, 13, 14, 17, 18, 19, 20, 21, 24, 25, 26, 28, 31, 34, 35, 36, 37, 40, 41, 42, 43, 44, 47, 48, 51, 52, 55, 56, 59, 62, 63, 66, 69, 70, 71, 72, 73]
def K_X12_first : List xA := [.inl (.aload 0), .inr (.inl (.int 0)), .inr (.inr (4, [12, 0])), .inl (.aload 0), .inr (.inr (41, [252, 12])), .inr (.inl (.int 1)), .inl (.istore 1), .inl (.iload 1), .inr (.inl (.int 99)), .inr (.inr (25, [31])), .inl (.aload 0), .inr (.inl (.int 1050)), .inr (.inl (.int 0)), .inr (.inr (41, [240, 12])), .inl (.istore 2), .inl (.iload 2), .inr (.inr (11, [29])), .inr (.inl (.int 0)), .inl (.istore 3), .inl (.iload 2), .inl (.iload 3), .inl .ishr, .inr (.inl (.int 1)), .inl .iand, .inr (.inr (12, [27])), .inr (.inr (80, [3])), .inr (.inr (10, [19])), .inl (.iload 3), .inl .ireturn, .inr (.inr (80, [1])), .inr (.inr (10, [7])), .inr (.inl (.int (-1))), .inl .ireturn]
def P_X12_first : List Nat := [0, 1, 2, 5, 6, 9, 10, 11, 12, 14, 17, 18, 21, 22, 25, 26, 27, 30, 31, 32, 33, 34, 35, 36, 37, 40, 43, 46, 47, 48, 51, 54, 55, 56]
def K_X12_empties : List xA := [.inl (.aload 0), .inr (.inl (.int 0)), .inr (.inr (4, [12, 0])), .inl (.aload 0), .inr (.inr (41, [252, 12])), .inr (.inl (.int 0)), .inl (.istore 1), .inl (.iload 1), .inr (.inl (.int 99)), .inr (.inr (25, [23])), .inl (.aload 0), .inr (.inl (.int 1050)), .inr (.inr (41, [228, 12])), .inr (.inr (12, [16])), .inl (.iload 1), .inl .ireturn, .inl (.aload 0), .inr (.inl (.int 1050)), .inr (.inl (.int 0)), .inr (.inr (41, [240, 12])), .inl .pop, .inr (.inr (80, [1])), .inr (.inr (10, [7])), .inr (.inl (.int (-1))), .inl .ireturn]
def P_X12_empties : List Nat := [0, 1, 2, 5, 6, 9, 10, 11, 12, 14, 17, 18, 21, 24, 27, 28, 29, 30, 33, 34, 37, 38, 41, 44, 45, 46]
def K_X12_couldNow : List xA := [.inr (.inl (.int 0)), .inl (.istore 2), .inr (.inl (.int 0)), .inl (.istore 3), .inl (.iload 3), .inl (.aload 0), .inr (.inr (41, [216, 12])), .inr (.inr (24, [24])), .inl (.iload 2), .inl (.aload 0), .inr (.inl (.int 0)), .inl (.iload 1), .inl (.iload 3), .inr (.inr (41, [234, 12])), .inr (.inr (11, [19])), .inr (.inl (.int 1)), .inl (.iload 3), .inl .ishl, .inr (.inr (10, [20])), .inr (.inl (.int 0)), .inl .ior, .inl (.istore 2), .inr (.inr (80, [3])), .inr (.inr (10, [4])), .inl (.iload 2), .inl .ireturn]
def P_X12_couldNow : List Nat := [0, 1, 2, 3, 4, 5, 6, 9, 12, 13, 14, 15, 16, 17, 20, 23, 24, 25, 26, 29, 30, 31, 32, 35, 38, 39, 40]
def K_X12_doesStand : List xA := [.inl (.aload 0), .inl (.iload 1), .inr (.inr (41, [221, 12])), .inr (.inr (11, [13])), .inl (.aload 0), .inr (.inr (3, [12, 24])), .inr (.inl (.int 20)), .inl (.iload 1), .inl .iadd, .inl .iaload, .inr (.inr (14, [13])), .inr (.inl (.int 1)), .inr (.inr (10, [14])), .inr (.inl (.int 0)), .inr (.inr (91, []))]
def P_X12_doesStand : List Nat := [0, 1, 2, 5, 8, 9, 12, 14, 15, 16, 17, 20, 21, 24, 25, 26]
def K_X12_seatsFrom : List xA := [.inl (.iload 1), .inl (.aload 0), .inr (.inr (41, [217, 12])), .inr (.inr (22, [40])), .inl (.iload 2), .inr (.inr (40, [222])), .inl (.aload 0), .inr (.inr (1, [12, 31])), .inr (.inr (26, [11])), .inr (.inl (.int 1)), .inr (.inr (10, [12])), .inr (.inl (.int 0)), .inl (.istore 3), .inr (.inl (.int 0)), .inl (.istore 4), .inl (.iload 4), .inr (.inl (.int 5)), .inr (.inr (24, [30])), .inl (.iload 3), .inr (.inr (11, [30])), .inl (.aload 0), .inr (.inr (3, [12, 30])), .inl (.iload 4), .inl (.aload 0), .inr (.inr (3, [12, 29])), .inl (.iload 4), .inl .iaload, .inl .iastore, .inr (.inr (80, [4])), .inr (.inr (10, [15])), .inl (.aload 0), .inl (.iload 3), .inr (.inr (11, [36])), .inl (.iload 2), .inr (.inr (40, [222])), .inr (.inr (10, [38])), .inl (.aload 0), .inr (.inr (1, [12, 31])), .inr (.inr (4, [12, 31])), .inl .return_, .inl (.aload 0), .inr (.inr (3, [12, 29])), .inl (.iload 1), .inr (.inl (.int (-1))), .inl .iastore, .inl (.aload 0), .inl (.iload 1), .inr (.inr (41, [259, 12])), .inr (.inr (12, [56])), .inl (.aload 0), .inl (.iload 1), .inr (.inl (.int 1)), .inl .iadd, .inl (.iload 2), .inr (.inr (41, [260, 12])), .inl .return_, .inl (.aload 0), .inl (.iload 1), .inr (.inr (41, [258, 12])), .inl (.iload 2), .inr (.inl (.int (-1))), .inl .ixor, .inl .iand, .inl (.istore 3), .inr (.inl (.int 0)), .inl (.istore 4), .inl (.iload 4), .inl (.aload 0), .inr (.inr (41, [216, 12])), .inr (.inr (24, [94])), .inl (.iload 3), .inl (.iload 4), .inl .ishr, .inr (.inl (.int 1)), .inl .iand, .inr (.inl (.int 1)), .inr (.inr (22, [92])), .inl (.aload 0), .inr (.inr (3, [12, 29])), .inl (.iload 1), .inl (.iload 4), .inl .iastore, .inl (.aload 0), .inl (.iload 1), .inr (.inl (.int 1)), .inl .iadd, .inl (.iload 2), .inr (.inl (.int 1)), .inl (.iload 4), .inl .ishl, .inl .ior, .inr (.inr (41, [260, 12])), .inr (.inr (80, [4])), .inr (.inr (10, [66])), .inl (.aload 0), .inr (.inr (3, [12, 29])), .inl (.iload 1), .inr (.inl (.int (-1))), .inl .iastore, .inl (.aload 0), .inl (.iload 1), .inr (.inl (.int 1)), .inl .iadd, .inl (.iload 2), .inr (.inr (41, [260, 12])), .inl .return_]
def P_X12_seatsFrom : List Nat := [0, 1, 2, 5, 8, 9, 12, 13, 16, 19, 20, 23, 24, 25, 26, 28, 30, 31, 34, 35, 38, 39, 42, 44, 45, 48, 50, 51, 52, 55, 58, 59, 60, 63, 64, 67, 70, 71, 74, 77, 78, 79, 82, 83, 84, 85, 86, 87, 90, 93, 94, 95, 96, 97, 98, 101, 102, 103, 104, 107, 108, 109, 110, 111, 112, 113, 115, 117, 118, 121, 124, 125, 127, 128, 129, 130, 131, 134, 135, 138, 139, 141, 142, 143, 144, 145, 146, 147, 148, 150, 151, 152, 155, 158, 161, 162, 165, 166, 167, 168, 169, 170, 171, 172, 173, 176, 177]
def K_X12_most : List xA := [.inl (.aload 0), .inr (.inl (.int 0)), .inr (.inr (4, [12, 0])), .inl (.iload 1), .inr (.inl (.int (-1))), .inr (.inr (21, [12])), .inl (.aload 0), .inl (.iload 1), .inr (.inr (41, [259, 12])), .inr (.inr (12, [12])), .inr (.inl (.int (-2))), .inl .ireturn, .inl (.aload 0), .inr (.inl (.int (-1))), .inr (.inr (4, [12, 31])), .inl (.aload 0), .inr (.inl (.int 0)), .inr (.inl (.int 0)), .inr (.inr (41, [260, 12])), .inl (.iload 1), .inr (.inl (.int (-1))), .inr (.inr (22, [25])), .inl (.aload 0), .inr (.inr (1, [12, 31])), .inr (.inr (10, [29])), .inl (.aload 0), .inr (.inr (3, [12, 30])), .inl (.iload 1), .inl .iaload, .inl .ireturn]
def P_X12_most : List Nat := [0, 1, 2, 5, 6, 7, 10, 11, 12, 15, 18, 20, 21, 22, 23, 26, 27, 28, 29, 32, 33, 34, 37, 38, 41, 44, 45, 48, 49, 50, 51]
def K_X12_could : List xA := [.inl (.aload 0), .inr (.inl (.int 0)), .inr (.inr (4, [12, 0])), .inl (.aload 0), .inl (.iload 1), .inr (.inr (41, [259, 12])), .inr (.inr (11, [11])), .inl (.aload 0), .inl (.iload 1), .inr (.inr (41, [258, 12])), .inr (.inr (10, [12])), .inr (.inl (.int (-1))), .inl .ireturn]
def P_X12_could : List Nat := [0, 1, 2, 5, 6, 7, 10, 13, 14, 15, 18, 21, 22, 23]
def K_X12_stands : List xA := [.inl (.aload 0), .inr (.inl (.int 0)), .inr (.inr (4, [12, 0])), .inr (.inl (.int 0)), .inl (.istore 1), .inr (.inl (.int 0)), .inl (.istore 2), .inl (.iload 2), .inl (.aload 0), .inr (.inr (41, [217, 12])), .inr (.inr (24, [29])), .inl (.iload 1), .inl (.aload 0), .inl (.iload 2), .inr (.inr (41, [259, 12])), .inr (.inr (11, [24])), .inl (.aload 0), .inl (.iload 2), .inr (.inr (41, [258, 12])), .inr (.inr (12, [24])), .inr (.inl (.int 1)), .inl (.iload 2), .inl .ishl, .inr (.inr (10, [25])), .inr (.inl (.int 0)), .inl .ior, .inl (.istore 1), .inr (.inr (80, [2])), .inr (.inr (10, [7])), .inl (.iload 1), .inl .ireturn]
def P_X12_stands : List Nat := [0, 1, 2, 5, 6, 7, 8, 9, 10, 11, 14, 17, 18, 19, 20, 23, 26, 27, 28, 31, 34, 35, 36, 37, 40, 41, 42, 43, 46, 49, 50, 51]
def K_X12_holdsBy : List xA := [.inl (.aload 0), .inr (.inr (41, [252, 12])), .inr (.inl (.int 0)), .inl (.istore 4), .inl (.iload 2), .inl (.istore 5), .inr (.inl (.int 1)), .inl (.istore 6), .inl (.iload 6), .inl (.iload 3), .inr (.inr (25, [41])), .inr (.inl (.int 0)), .inl (.istore 7), .inl (.iload 7), .inl (.aload 0), .inr (.inr (41, [216, 12])), .inr (.inr (24, [32])), .inl (.iload 5), .inl (.iload 7), .inl .ishr, .inr (.inl (.int 1)), .inl .iand, .inr (.inl (.int 1)), .inr (.inr (22, [30])), .inl (.aload 0), .inr (.inl (.int 1050)), .inl (.iload 1), .inl (.iload 7), .inr (.inr (41, [231, 12])), .inr (.inr (80, [4])), .inr (.inr (80, [7])), .inr (.inr (10, [13])), .inl (.aload 0), .inr (.inl (.int 1050)), .inr (.inl (.int 0)), .inr (.inr (41, [240, 12])), .inl (.iload 2), .inl .iand, .inl (.istore 5), .inr (.inr (80, [6])), .inr (.inr (10, [8])), .inl (.iload 4), .inl .ireturn]
def P_X12_holdsBy : List Nat := [0, 1, 4, 5, 7, 8, 10, 11, 13, 15, 16, 19, 20, 22, 24, 25, 28, 31, 33, 35, 36, 37, 38, 39, 42, 43, 46, 47, 49, 52, 55, 58, 61, 62, 65, 66, 69, 70, 71, 73, 76, 79, 81, 82]
def K_X12_needs : List xA := [.inl (.aload 0), .inr (.inl (.int 0)), .inr (.inr (4, [12, 0])), .inl (.aload 0), .inl (.iload 1), .inr (.inr (41, [221, 12])), .inr (.inr (11, [29])), .inl (.aload 0), .inl (.iload 2), .inr (.inr (41, [220, 12])), .inr (.inr (11, [29])), .inl (.aload 0), .inr (.inl (.int 0)), .inl (.iload 2), .inr (.inr (41, [226, 12])), .inr (.inr (11, [29])), .inl (.iload 3), .inr (.inl (.int 1)), .inr (.inl (.int 60)), .inr (.inr (40, [189])), .inr (.inr (11, [29])), .inl (.aload 0), .inl (.iload 1), .inr (.inl (.int 1)), .inl (.iload 2), .inl .ishl, .inl (.iload 3), .inr (.inr (41, [264, 12])), .inr (.inr (10, [30])), .inr (.inl (.int (-1))), .inl .ireturn]
def P_X12_needs : List Nat := [0, 1, 2, 5, 6, 7, 10, 13, 14, 15, 18, 21, 22, 23, 24, 27, 30, 31, 32, 34, 37, 40, 41, 42, 43, 44, 45, 46, 49, 52, 53, 54]
def K_X12_keeps : List xA := [.inl (.aload 0), .inr (.inl (.int 0)), .inr (.inr (4, [12, 0])), .inl (.aload 0), .inl (.iload 1), .inr (.inr (41, [221, 12])), .inr (.inr (11, [17])), .inl (.iload 2), .inr (.inl (.int 1)), .inr (.inl (.int 30)), .inr (.inr (40, [189])), .inr (.inr (11, [17])), .inl (.iload 3), .inr (.inl (.int 0)), .inr (.inl (.int 1)), .inr (.inr (40, [189])), .inr (.inr (12, [19])), .inr (.inl (.int (-1))), .inl .ireturn, .inl (.aload 0), .inr (.inl (.int 0)), .inr (.inr (41, [227, 12])), .inl (.istore 4), .inr (.inl (.int 0)), .inl (.istore 5), .inr (.inl (.int 1)), .inl (.istore 6), .inl (.iload 6), .inr (.inl (.int 1)), .inl (.aload 0), .inr (.inr (41, [216, 12])), .inl .ishl, .inr (.inr (24, [68])), .inl (.iload 6), .inl (.iload 4), .inr (.inl (.int (-1))), .inl .ixor, .inl .iand, .inr (.inr (12, [46])), .inl (.iload 6), .inr (.inr (40, [222])), .inl (.iload 5), .inr (.inr (40, [222])), .inr (.inr (26, [46])), .inr (.inl (.int 1)), .inr (.inr (10, [47])), .inr (.inl (.int 0)), .inl (.istore 7), .inl (.iload 7), .inr (.inr (11, [64])), .inl (.aload 0), .inl (.iload 1), .inl (.iload 6), .inl (.iload 2), .inr (.inr (41, [264, 12])), .inl (.aload 0), .inr (.inr (3, [12, 24])), .inr (.inl (.int 15)), .inl (.iload 1), .inl .iadd, .inl .iaload, .inr (.inr (25, [64])), .inl (.iload 6), .inr (.inr (10, [65])), .inl (.iload 5), .inl (.istore 5), .inr (.inr (80, [6])), .inr (.inr (10, [27])), .inl (.iload 3), .inr (.inr (12, [73])), .inl (.iload 5), .inr (.inr (40, [222])), .inr (.inr (10, [74])), .inl (.iload 5), .inl .ireturn]
def P_X12_keeps : List Nat := [0, 1, 2, 5, 6, 7, 10, 13, 14, 15, 17, 20, 23, 24, 25, 26, 29, 32, 33, 34, 35, 36, 39, 41, 42, 44, 45, 47, 49, 50, 51, 54, 55, 58, 60, 62, 63, 64, 65, 68, 70, 73, 75, 78, 81, 82, 85, 86, 88, 90, 93, 94, 95, 97, 98, 101, 102, 105, 107, 108, 109, 110, 113, 115, 118, 120, 122, 125, 128, 129, 132, 134, 137, 140, 142, 143]
def K_X12_placesFrom : List xA := [.inl (.iload 1), .inl (.aload 0), .inr (.inr (41, [217, 12])), .inr (.inr (22, [29])), .inr (.inl (.int 0)), .inl (.istore 3), .inl (.iload 3), .inr (.inl (.int 5)), .inr (.inr (24, [22])), .inl (.aload 0), .inr (.inr (1, [12, 32])), .inr (.inr (12, [22])), .inl (.aload 0), .inr (.inr (3, [12, 30])), .inl (.iload 3), .inl (.aload 0), .inr (.inr (3, [12, 29])), .inl (.iload 3), .inl .iaload, .inl .iastore, .inr (.inr (80, [3])), .inr (.inr (10, [6])), .inl (.aload 0), .inl .dup, .inr (.inr (1, [12, 32])), .inr (.inl (.int 1)), .inl .iadd, .inr (.inr (4, [12, 32])), .inl .return_, .inr (.inl (.int 0)), .inl (.istore 3), .inl (.iload 3), .inl (.aload 0), .inr (.inr (41, [216, 12])), .inr (.inr (24, [95])), .inl (.iload 2), .inl (.iload 3), .inl .ishr, .inr (.inl (.int 1)), .inl .iand, .inr (.inr (12, [43])), .inr (.inl (.int 1)), .inr (.inr (10, [44])), .inr (.inl (.int 0)), .inl (.istore 4), .inr (.inl (.int 0)), .inl (.istore 5), .inl (.iload 5), .inl (.iload 1), .inr (.inr (24, [76])), .inl (.iload 4), .inr (.inr (11, [72])), .inl (.aload 0), .inl (.iload 1), .inl (.iload 5), .inr (.inr (41, [224, 12])), .inr (.inr (11, [70])), .inl (.aload 0), .inr (.inr (3, [12, 27])), .inl (.iload 3), .inl .iaload, .inl (.aload 0), .inr (.inr (3, [12, 29])), .inl (.iload 5), .inl .iaload, .inl .ishr, .inr (.inl (.int 1)), .inl .iand, .inr (.inl (.int 1)), .inr (.inr (21, [72])), .inr (.inl (.int 1)), .inr (.inr (10, [73])), .inr (.inl (.int 0)), .inl (.istore 4), .inr (.inr (80, [5])), .inr (.inr (10, [47])), .inl (.iload 4), .inr (.inr (11, [93])), .inl (.aload 0), .inr (.inr (3, [12, 29])), .inl (.iload 1), .inl (.iload 3), .inl .iastore, .inl (.aload 0), .inl (.iload 1), .inr (.inl (.int 1)), .inl .iadd, .inl (.iload 2), .inr (.inl (.int 1)), .inl (.iload 3), .inl .ishl, .inl .ior, .inr (.inr (41, [267, 12])), .inr (.inr (80, [3])), .inr (.inr (10, [31])), .inl .return_]
def P_X12_placesFrom : List Nat := [0, 1, 2, 5, 8, 9, 10, 11, 12, 15, 16, 19, 22, 23, 26, 27, 28, 31, 32, 33, 34, 37, 40, 41, 42, 45, 46, 47, 50, 51, 52, 53, 54, 55, 58, 61, 62, 63, 64, 65, 66, 69, 70, 73, 74, 76, 77, 79, 81, 82, 85, 87, 90, 91, 92, 94, 97, 100, 101, 104, 105, 106, 107, 110, 112, 113, 114, 115, 116, 117, 120, 121, 124, 125, 127, 130, 133, 135, 138, 139, 142, 143, 144, 145, 146, 147, 148, 149, 150, 151, 152, 153, 154, 157, 160, 163, 164]
def K_X12_placed : List xA := [.inl (.aload 0), .inr (.inl (.int 0)), .inr (.inr (4, [12, 0])), .inl (.iload 1), .inr (.inl (.int (-1))), .inr (.inr (21, [12])), .inl (.aload 0), .inl (.iload 1), .inr (.inr (41, [221, 12])), .inr (.inr (12, [12])), .inr (.inl (.int (-2))), .inl .ireturn, .inl (.aload 0), .inr (.inl (.int 0)), .inr (.inr (4, [12, 32])), .inl (.aload 0), .inr (.inl (.int 0)), .inr (.inl (.int 0)), .inr (.inr (41, [267, 12])), .inl (.iload 1), .inr (.inl (.int (-1))), .inr (.inr (22, [25])), .inl (.aload 0), .inr (.inr (1, [12, 32])), .inr (.inr (10, [34])), .inl (.aload 0), .inr (.inr (1, [12, 32])), .inr (.inr (12, [30])), .inr (.inl (.int (-2))), .inr (.inr (10, [34])), .inl (.aload 0), .inr (.inr (3, [12, 30])), .inl (.iload 1), .inl .iaload, .inl .ireturn]
def P_X12_placed : List Nat := [0, 1, 2, 5, 6, 7, 10, 11, 12, 15, 18, 20, 21, 22, 23, 26, 27, 28, 29, 32, 33, 34, 37, 38, 41, 44, 45, 48, 51, 53, 56, 57, 60, 61, 62, 63]
def K_X12_pairsOf : List xA := [.inr (.inl (.int 0)), .inl (.istore 2), .inr (.inl (.int 0)), .inl (.istore 3), .inl (.iload 3), .inl (.aload 0), .inr (.inr (41, [217, 12])), .inr (.inr (24, [57])), .inr (.inl (.int 0)), .inl (.istore 4), .inl (.iload 4), .inl (.iload 3), .inr (.inr (24, [55])), .inl (.aload 0), .inr (.inr (3, [12, 24])), .inr (.inl (.int 20)), .inl (.iload 3), .inl .iadd, .inl .iaload, .inl (.istore 5), .inl (.aload 0), .inr (.inr (3, [12, 24])), .inr (.inl (.int 20)), .inl (.iload 4), .inl .iadd, .inl .iaload, .inl (.istore 6), .inl (.iload 2), .inl (.iload 5), .inr (.inr (13, [50])), .inl (.iload 6), .inr (.inr (13, [50])), .inl (.aload 0), .inr (.inr (3, [12, 27])), .inl (.iload 5), .inl .iaload, .inl (.iload 6), .inl .ishr, .inr (.inl (.int 1)), .inl .iand, .inr (.inl (.int 1)), .inr (.inr (22, [50])), .inl (.aload 0), .inl (.iload 3), .inl (.iload 4), .inr (.inr (41, [224, 12])), .inl (.iload 1), .inr (.inr (22, [50])), .inr (.inl (.int 1)), .inr (.inr (10, [51])), .inr (.inl (.int 0)), .inl .iadd, .inl (.istore 2), .inr (.inr (80, [4])), .inr (.inr (10, [10])), .inr (.inr (80, [3])), .inr (.inr (10, [4])), .inl (.iload 2), .inl .ireturn]
def P_X12_pairsOf : List Nat := [0, 1, 2, 3, 4, 5, 6, 9, 12, 13, 15, 17, 18, 21, 22, 25, 27, 28, 29, 30, 32, 33, 36, 38, 40, 41, 42, 44, 45, 47, 50, 52, 55, 56, 59, 61, 62, 64, 65, 66, 67, 68, 71, 72, 73, 75, 78, 79, 82, 83, 86, 87, 88, 89, 92, 95, 98, 101, 102, 103]
def K_X12_peace : List xA := [.inl (.aload 0), .inr (.inl (.int 0)), .inr (.inr (4, [12, 0])), .inl (.aload 0), .inr (.inl (.int 0)), .inr (.inr (41, [269, 12])), .inl .ireturn]
def P_X12_peace : List Nat := [0, 1, 2, 5, 6, 7, 10, 11]
def K_X12_war : List xA := [.inl (.aload 0), .inr (.inl (.int 0)), .inr (.inr (4, [12, 0])), .inl (.aload 0), .inr (.inl (.int 1)), .inr (.inr (41, [269, 12])), .inl .ireturn]
def P_X12_war : List Nat := [0, 1, 2, 5, 6, 7, 10, 11]
def K_X12_isFoeNear : List xA := [.inr (.inl (.int 0)), .inl (.istore 3), .inr (.inl (.int 0)), .inl (.istore 4), .inl (.iload 4), .inl (.aload 0), .inr (.inr (41, [217, 12])), .inr (.inr (24, [43])), .inl (.iload 3), .inr (.inr (12, [37])), .inl (.aload 0), .inl (.iload 1), .inl (.iload 4), .inr (.inr (41, [224, 12])), .inr (.inr (11, [39])), .inl (.aload 0), .inr (.inr (3, [12, 24])), .inr (.inl (.int 20)), .inl (.iload 4), .inl .iadd, .inl .iaload, .inr (.inr (13, [39])), .inl (.aload 0), .inr (.inr (3, [12, 27])), .inl (.iload 2), .inl .iaload, .inl (.aload 0), .inr (.inr (3, [12, 24])), .inr (.inl (.int 20)), .inl (.iload 4), .inl .iadd, .inl .iaload, .inl .ishr, .inr (.inl (.int 1)), .inl .iand, .inr (.inl (.int 1)), .inr (.inr (22, [39])), .inr (.inl (.int 1)), .inr (.inr (10, [40])), .inr (.inl (.int 0)), .inl (.istore 3), .inr (.inr (80, [4])), .inr (.inr (10, [4])), .inl (.iload 3), .inr (.inr (91, []))]
def P_X12_isFoeNear : List Nat := [0, 1, 2, 3, 5, 7, 8, 11, 14, 15, 18, 19, 20, 22, 25, 28, 29, 32, 34, 36, 37, 38, 41, 42, 45, 46, 47, 48, 51, 53, 55, 56, 57, 58, 59, 60, 61, 64, 65, 68, 69, 70, 73, 76, 77, 78]
def K_X12_safe : List xA := [.inl (.aload 0), .inr (.inl (.int 0)), .inr (.inr (4, [12, 0])), .inr (.inl (.int 0)), .inl (.istore 1), .inr (.inl (.int 0)), .inl (.istore 2), .inl (.iload 2), .inl (.aload 0), .inr (.inr (41, [216, 12])), .inr (.inr (24, [38])), .inl (.iload 1), .inl (.aload 0), .inr (.inr (3, [12, 24])), .inr (.inl (.int 1)), .inl (.iload 2), .inl .iadd, .inl .iaload, .inr (.inr (13, [33])), .inl (.aload 0), .inl (.aload 0), .inr (.inr (3, [12, 24])), .inr (.inl (.int 1)), .inl (.iload 2), .inl .iadd, .inl .iaload, .inl (.iload 2), .inr (.inr (41, [272, 12])), .inr (.inr (12, [33])), .inr (.inl (.int 1)), .inl (.iload 2), .inl .ishl, .inr (.inr (10, [34])), .inr (.inl (.int 0)), .inl .ior, .inl (.istore 1), .inr (.inr (80, [2])), .inr (.inr (10, [7])), .inl (.iload 1), .inl .ireturn]
def P_X12_safe : List Nat := [0, 1, 2, 5, 6, 7, 8, 9, 10, 11, 14, 17, 18, 19, 22, 23, 24, 25, 26, 29, 30, 31, 34, 35, 36, 37, 38, 39, 42, 45, 46, 47, 48, 51, 52, 53, 54, 57, 60, 61, 62]
def K_X12_guards : List xA := [.inl (.aload 0), .inr (.inl (.int 0)), .inr (.inr (4, [12, 0])), .inl (.aload 0), .inl (.iload 1), .inr (.inr (41, [221, 12])), .inr (.inr (12, [9])), .inr (.inl (.int (-1))), .inl .ireturn, .inr (.inl (.int 0)), .inl (.istore 2), .inr (.inl (.int 0)), .inl (.istore 3), .inl (.iload 3), .inl (.aload 0), .inr (.inr (41, [216, 12])), .inr (.inr (24, [81])), .inl (.aload 0), .inr (.inl (.int 0)), .inl (.iload 3), .inr (.inr (41, [226, 12])), .inr (.inr (11, [29])), .inl (.aload 0), .inl (.iload 1), .inl (.iload 3), .inr (.inr (41, [272, 12])), .inr (.inr (12, [29])), .inr (.inl (.int 1)), .inr (.inr (10, [30])), .inr (.inl (.int 0)), .inl (.istore 4), .inr (.inl (.int 0)), .inl (.istore 5), .inl (.iload 5), .inl (.aload 0), .inr (.inr (41, [216, 12])), .inr (.inr (24, [69])), .inl (.aload 0), .inr (.inr (3, [12, 24])), .inr (.inl (.int 1)), .inl (.iload 5), .inl .iadd, .inl .iaload, .inl (.istore 6), .inl (.iload 4), .inr (.inr (11, [65])), .inl (.aload 0), .inr (.inr (3, [12, 27])), .inl (.iload 3), .inl .iaload, .inl (.iload 5), .inl .ishr, .inr (.inl (.int 1)), .inl .iand, .inr (.inl (.int 1)), .inr (.inr (22, [63])), .inl (.iload 6), .inr (.inr (13, [63])), .inl (.aload 0), .inl (.iload 1), .inl (.iload 6), .inr (.inr (41, [224, 12])), .inr (.inr (12, [65])), .inr (.inl (.int 1)), .inr (.inr (10, [66])), .inr (.inl (.int 0)), .inl (.istore 4), .inr (.inr (80, [5])), .inr (.inr (10, [33])), .inl (.iload 2), .inl (.iload 4), .inr (.inr (11, [76])), .inr (.inl (.int 1)), .inl (.iload 3), .inl .ishl, .inr (.inr (10, [77])), .inr (.inl (.int 0)), .inl .ior, .inl (.istore 2), .inr (.inr (80, [3])), .inr (.inr (10, [13])), .inl (.iload 2), .inl .ireturn]
def P_X12_guards : List Nat := [0, 1, 2, 5, 6, 7, 10, 13, 14, 15, 16, 17, 18, 19, 20, 21, 24, 27, 28, 29, 30, 33, 36, 37, 38, 39, 42, 45, 46, 49, 50, 52, 53, 55, 57, 58, 61, 64, 65, 68, 69, 71, 72, 73, 75, 77, 80, 81, 84, 85, 86, 88, 89, 90, 91, 92, 95, 97, 100, 101, 102, 104, 107, 110, 111, 114, 115, 117, 120, 123, 124, 126, 129, 130, 131, 132, 135, 136, 137, 138, 141, 144, 145, 146]
def K_X12_see : List xA := [.inl (.aload 0), .inr (.inl (.int 0)), .inr (.inr (4, [12, 0])), .inl (.aload 0), .inl (.iload 1), .inr (.inr (41, [220, 12])), .inr (.inr (11, [18])), .inl (.iload 2), .inr (.inl (.int 1)), .inr (.inl (.int 60)), .inr (.inr (40, [189])), .inr (.inr (11, [18])), .inl (.aload 0), .inr (.inr (3, [12, 24])), .inr (.inl (.int 25)), .inl .iaload, .inr (.inl (.int 8)), .inr (.inr (22, [20])), .inr (.inl (.int 0)), .inr (.inr (91, [])), .inr (.inl (.int 26)), .inr (.inl (.int 3)), .inl (.aload 0), .inr (.inr (3, [12, 24])), .inr (.inl (.int 25)), .inl .iaload, .inl .imul, .inl .iadd, .inl (.istore 4), .inl (.aload 0), .inr (.inr (3, [12, 24])), .inl (.iload 4), .inl (.iload 1), .inl .iastore, .inl (.aload 0), .inr (.inr (3, [12, 24])), .inl (.iload 4), .inr (.inl (.int 1)), .inl .iadd, .inl (.iload 2), .inl .iastore, .inl (.aload 0), .inr (.inr (3, [12, 24])), .inl (.iload 4), .inr (.inl (.int 2)), .inl .iadd, .inl (.iload 3), .inr (.inr (11, [50])), .inr (.inl (.int 1)), .inr (.inr (10, [51])), .inr (.inl (.int 0)), .inl .iastore, .inl (.aload 0), .inr (.inr (3, [12, 24])), .inr (.inl (.int 25)), .inl .dup2, .inl .iaload, .inr (.inl (.int 1)), .inl .iadd, .inl .iastore, .inr (.inl (.int 1)), .inr (.inr (91, []))]
def P_X12_see : List Nat := [0, 1, 2, 5, 6, 7, 10, 13, 14, 15, 17, 20, 23, 24, 27, 29, 30, 32, 35, 36, 37, 39, 40, 41, 44, 46, 47, 48, 49, 51, 52, 55, 57, 58, 59, 60, 63, 65, 66, 67, 68, 69, 70, 73, 75, 76, 77, 78, 81, 82, 85, 86, 87, 88, 91, 93, 94, 95, 96, 97, 98, 99, 100]
def K_X12_goneLaid : List xA := [.inl (.aload 0), .inr (.inl (.int 0)), .inl (.iload 2), .inr (.inr (41, [226, 12])), .inr (.inr (12, [7])), .inr (.inl (.int 0)), .inl .ireturn, .inl (.aload 0), .inr (.inr (41, [252, 12])), .inl (.aload 0), .inr (.inl (.int 1050)), .inl (.iload 1), .inl (.iload 2), .inr (.inr (41, [231, 12])), .inl (.aload 0), .inl (.iload 2), .inr (.inl (.int 60)), .inr (.inr (41, [253, 12])), .inl .ireturn]
def P_X12_goneLaid : List Nat := [0, 1, 2, 3, 6, 9, 10, 11, 12, 15, 16, 19, 20, 21, 24, 25, 26, 28, 31, 32]
def K_X12_whoNow : List xA := [.inr (.inl (.int 1)), .inl (.aload 0), .inr (.inr (41, [217, 12])), .inl .ishl, .inr (.inl (.int 1)), .inl .isub, .inl (.istore 1), .inr (.inl (.int 0)), .inl (.istore 2), .inl (.iload 2), .inl (.aload 0), .inr (.inr (3, [12, 24])), .inr (.inl (.int 25)), .inl .iaload, .inr (.inr (24, [72])), .inr (.inl (.int 26)), .inr (.inl (.int 3)), .inl (.iload 2), .inl .imul, .inl .iadd, .inl (.istore 3), .inr (.inl (.int 0)), .inl (.istore 4), .inl (.iload 4), .inl (.aload 0), .inr (.inr (41, [217, 12])), .inr (.inr (24, [70])), .inl (.aload 0), .inl (.iload 4), .inl (.aload 0), .inr (.inr (3, [12, 24])), .inl (.iload 3), .inl .iaload, .inr (.inr (41, [276, 12])), .inl (.aload 0), .inr (.inr (3, [12, 24])), .inl (.iload 3), .inr (.inl (.int 1)), .inl .iadd, .inl .iaload, .inr (.inr (26, [43])), .inr (.inl (.int 1)), .inr (.inr (10, [44])), .inr (.inl (.int 0)), .inl (.istore 5), .inl (.iload 1), .inl (.iload 5), .inl (.aload 0), .inr (.inr (3, [12, 24])), .inl (.iload 3), .inr (.inl (.int 2)), .inl .iadd, .inl .iaload, .inr (.inl (.int 1)), .inr (.inr (22, [57])), .inr (.inl (.int 1)), .inr (.inr (10, [58])), .inr (.inl (.int 0)), .inr (.inr (22, [61])), .inr (.inl (.int (-1))), .inr (.inr (10, [66])), .inr (.inl (.int 1)), .inl (.iload 4), .inl .ishl, .inr (.inl (.int (-1))), .inl .ixor, .inl .iand, .inl (.istore 1), .inr (.inr (80, [4])), .inr (.inr (10, [23])), .inr (.inr (80, [2])), .inr (.inr (10, [9])), .inl (.iload 1), .inl .ireturn]
def P_X12_whoNow : List Nat := [0, 1, 2, 5, 6, 7, 8, 9, 10, 11, 12, 13, 16, 18, 19, 22, 24, 25, 26, 27, 28, 29, 30, 32, 34, 35, 38, 41, 42, 44, 45, 48, 49, 50, 53, 54, 57, 58, 59, 60, 61, 64, 65, 68, 69, 71, 72, 74, 75, 78, 79, 80, 81, 82, 83, 86, 87, 90, 91, 94, 95, 98, 99, 101, 102, 103, 104, 105, 106, 109, 112, 115, 118, 119, 120]
def K_X12_who : List xA := [.inl (.aload 0), .inr (.inl (.int 0)), .inr (.inr (4, [12, 0])), .inl (.aload 0), .inr (.inr (41, [277, 12])), .inl .ireturn]
def P_X12_who : List Nat := [0, 1, 2, 5, 6, 9, 10]
def K_X12_ask : List xA := [.inl (.aload 0), .inr (.inl (.int 0)), .inr (.inr (4, [12, 0])), .inl (.aload 0), .inr (.inr (41, [277, 12])), .inl (.istore 1), .inl (.iload 1), .inr (.inr (40, [222])), .inl (.istore 2), .inr (.inl (.int 0)), .inl (.istore 3), .inl (.iload 3), .inl (.aload 0), .inr (.inr (41, [216, 12])), .inl (.aload 0), .inr (.inr (41, [217, 12])), .inl .imul, .inr (.inr (24, [34])), .inl (.aload 0), .inr (.inr (3, [12, 33])), .inl (.iload 3), .inl (.aload 0), .inl (.iload 3), .inl (.aload 0), .inr (.inr (41, [217, 12])), .inl .irem, .inl (.iload 3), .inl (.aload 0), .inr (.inr (41, [217, 12])), .inl .idiv, .inr (.inr (41, [276, 12])), .inl .iastore, .inr (.inr (80, [3])), .inr (.inr (10, [11])), .inr (.inl (.int (-1))), .inl (.istore 3), .inl (.iload 2), .inl (.istore 4), .inr (.inl (.int 1)), .inl (.istore 5), .inl (.iload 5), .inr (.inl (.int 60)), .inr (.inr (25, [126])), .inr (.inl (.int 0)), .inl (.istore 6), .inl (.iload 6), .inl (.aload 0), .inr (.inr (41, [216, 12])), .inr (.inr (24, [124])), .inr (.inl (.int 0)), .inl (.istore 7), .inr (.inl (.int 0)), .inl (.istore 8), .inl (.iload 8), .inl (.aload 0), .inr (.inr (41, [217, 12])), .inr (.inr (24, [83])), .inl (.iload 7), .inl (.iload 1), .inl (.iload 8), .inl .ishr, .inr (.inl (.int 1)), .inl .iand, .inr (.inl (.int 1)), .inr (.inr (22, [78])), .inl (.aload 0), .inr (.inr (3, [12, 33])), .inl (.iload 6), .inl (.aload 0), .inr (.inr (41, [217, 12])), .inl .imul, .inl (.iload 8), .inl .iadd, .inl .iaload, .inl (.iload 5), .inr (.inr (26, [78])), .inr (.inl (.int 1)), .inr (.inr (10, [79])), .inr (.inl (.int 0)), .inl .iadd, .inl (.istore 7), .inr (.inr (80, [8])), .inr (.inr (10, [53])), .inl (.iload 7), .inl (.iload 2), .inl (.iload 7), .inl .isub, .inr (.inr (26, [90])), .inl (.iload 7), .inr (.inr (10, [93])), .inl (.iload 2), .inl (.iload 7), .inl .isub, .inl (.istore 8), .inl (.aload 0), .inr (.inl (.int 0)), .inl (.iload 6), .inr (.inr (41, [226, 12])), .inr (.inr (11, [104])), .inl (.iload 8), .inl (.iload 4), .inr (.inr (24, [104])), .inr (.inl (.int 1)), .inr (.inr (10, [105])), .inr (.inl (.int 0)), .inl (.istore 9), .inl (.iload 9), .inr (.inr (11, [114])), .inr (.inl (.int 8)), .inl (.iload 5), .inl .imul, .inl (.iload 6), .inl .iadd, .inr (.inr (10, [115])), .inl (.iload 3), .inl (.istore 3), .inl (.iload 9), .inr (.inr (11, [120])), .inl (.iload 8), .inr (.inr (10, [121])), .inl (.iload 4), .inl (.istore 4), .inr (.inr (80, [6])), .inr (.inr (10, [45])), .inr (.inr (80, [5])), .inr (.inr (10, [40])), .inl (.iload 3), .inl .ireturn]
def P_X12_ask : List Nat := [0, 1, 2, 5, 6, 9, 10, 11, 14, 15, 16, 17, 18, 19, 22, 23, 26, 27, 30, 31, 34, 35, 36, 37, 38, 41, 42, 43, 44, 47, 48, 51, 52, 55, 58, 59, 60, 61, 63, 64, 66, 68, 70, 73, 74, 76, 78, 79, 82, 85, 86, 88, 89, 91, 93, 94, 97, 100, 102, 103, 105, 106, 107, 108, 109, 112, 113, 116, 118, 119, 122, 123, 125, 126, 127, 129, 132, 133, 136, 137, 138, 140, 143, 146, 148, 149, 151, 152, 155, 157, 160, 161, 163, 164, 166, 167, 168, 170, 173, 176, 178, 180, 183, 184, 187, 188, 190, 192, 195, 197, 199, 200, 202, 203, 206, 207, 208, 210, 213, 215, 218, 220, 222, 225, 228, 231, 234, 235, 236]
def K_X12_around : List xA := [.inr (.inl (.int 1)), .inl (.iload 1), .inl .ishl, .inl (.istore 4), .inr (.inl (.int 0)), .inl (.istore 5), .inl (.iload 5), .inl (.iload 3), .inr (.inr (24, [39])), .inl (.iload 4), .inl (.istore 6), .inr (.inl (.int 0)), .inl (.istore 7), .inl (.iload 7), .inl (.aload 0), .inr (.inr (41, [216, 12])), .inr (.inr (24, [37])), .inl (.iload 4), .inl (.iload 6), .inl (.iload 7), .inl .ishr, .inr (.inl (.int 1)), .inl .iand, .inr (.inl (.int 1)), .inr (.inr (22, [32])), .inl (.aload 0), .inr (.inr (3, [12, 27])), .inl (.iload 7), .inl .iaload, .inl (.iload 2), .inl .iand, .inr (.inr (10, [33])), .inr (.inl (.int 0)), .inl .ior, .inl (.istore 4), .inr (.inr (80, [7])), .inr (.inr (10, [13])), .inr (.inr (80, [5])), .inr (.inr (10, [6])), .inl (.iload 4), .inl .ireturn]
def P_X12_around : List Nat := [0, 1, 2, 3, 5, 6, 8, 10, 11, 14, 16, 18, 19, 21, 23, 24, 27, 30, 32, 34, 36, 37, 38, 39, 40, 43, 44, 47, 49, 50, 51, 52, 55, 56, 57, 59, 62, 65, 68, 71, 73, 74]
def K_X12_far : List xA := [.inl (.aload 0), .inr (.inl (.int 0)), .inr (.inr (4, [12, 0])), .inr (.inl (.int 0)), .inl (.istore 3), .inl (.iload 3), .inr (.inl (.int 7)), .inr (.inr (24, [31])), .inl (.aload 0), .inl (.iload 1), .inr (.inr (41, [220, 12])), .inr (.inr (11, [31])), .inl (.aload 0), .inl (.iload 2), .inr (.inr (41, [220, 12])), .inr (.inr (11, [31])), .inl (.aload 0), .inl (.iload 1), .inr (.inl (.int (-1))), .inl (.iload 3), .inr (.inr (41, [280, 12])), .inl (.iload 2), .inl .ishr, .inr (.inl (.int 1)), .inl .iand, .inr (.inl (.int 1)), .inr (.inr (22, [29])), .inl (.iload 3), .inl .ireturn, .inr (.inr (80, [3])), .inr (.inr (10, [5])), .inr (.inl (.int (-1))), .inl .ireturn]
def P_X12_far : List Nat := [0, 1, 2, 5, 6, 7, 8, 10, 13, 14, 15, 18, 21, 22, 23, 26, 29, 30, 31, 32, 33, 36, 37, 38, 39, 40, 41, 44, 45, 46, 49, 52, 53, 54]
def K_X12_blocks : List xA := [.inl (.aload 0), .inr (.inl (.int 0)), .inr (.inr (4, [12, 0])), .inl (.iload 1), .inr (.inl (.int 0)), .inr (.inl (.int 1)), .inr (.inr (40, [189])), .inr (.inr (12, [10])), .inr (.inl (.int (-1))), .inl .ireturn, .inl (.aload 0), .inr (.inl (.int 0)), .inr (.inr (41, [227, 12])), .inl (.istore 2), .inr (.inl (.int 0)), .inl (.istore 3), .inr (.inl (.int 0)), .inl (.istore 4), .inr (.inl (.int 0)), .inl (.istore 5), .inl (.iload 5), .inl (.aload 0), .inr (.inr (41, [216, 12])), .inr (.inr (24, [62])), .inl (.iload 2), .inl (.iload 5), .inl .ishr, .inr (.inl (.int 1)), .inl .iand, .inr (.inl (.int 1)), .inr (.inr (22, [60])), .inl (.aload 0), .inl (.iload 5), .inl (.iload 2), .inr (.inl (.int 7)), .inr (.inr (41, [280, 12])), .inl (.istore 6), .inl (.iload 3), .inl (.iload 6), .inr (.inl (.int 1)), .inl (.iload 5), .inl .ishl, .inr (.inl (.int 1)), .inl .isub, .inl .iand, .inr (.inr (12, [48])), .inr (.inl (.int 1)), .inr (.inr (10, [49])), .inr (.inl (.int 0)), .inl .iadd, .inl (.istore 3), .inl (.iload 6), .inr (.inr (40, [222])), .inl (.iload 4), .inr (.inr (26, [58])), .inl (.iload 6), .inr (.inr (40, [222])), .inr (.inr (10, [59])), .inl (.iload 4), .inl (.istore 4), .inr (.inr (80, [5])), .inr (.inr (10, [20])), .inl (.iload 1), .inr (.inr (12, [66])), .inl (.iload 3), .inr (.inr (10, [67])), .inl (.iload 4), .inl .ireturn]
def P_X12_blocks : List Nat := [0, 1, 2, 5, 6, 7, 8, 11, 14, 15, 16, 17, 18, 21, 22, 23, 24, 25, 27, 28, 30, 32, 33, 36, 39, 40, 42, 43, 44, 45, 46, 49, 50, 52, 53, 55, 58, 60, 61, 63, 64, 66, 67, 68, 69, 70, 73, 74, 77, 78, 79, 80, 82, 85, 87, 90, 92, 95, 98, 100, 102, 105, 108, 109, 112, 113, 116, 118, 119]
def K_X12_rich : List xA := [.inl (.aload 0), .inr (.inl (.int 0)), .inr (.inr (4, [12, 0])), .inr (.inl (.int (-1))), .inl (.istore 1), .inr (.inl (.int 0)), .inl (.istore 2), .inl (.iload 2), .inl (.aload 0), .inr (.inr (41, [217, 12])), .inr (.inr (24, [28])), .inl (.iload 1), .inr (.inr (13, [22])), .inl (.aload 0), .inr (.inl (.int 0)), .inl (.iload 2), .inr (.inr (41, [230, 12])), .inl (.aload 0), .inr (.inl (.int 0)), .inl (.iload 1), .inr (.inr (41, [230, 12])), .inr (.inr (26, [24])), .inl (.iload 2), .inr (.inr (10, [25])), .inl (.iload 1), .inl (.istore 1), .inr (.inr (80, [2])), .inr (.inr (10, [7])), .inl (.iload 1), .inl .ireturn]
def P_X12_rich : List Nat := [0, 1, 2, 5, 6, 7, 8, 9, 10, 11, 14, 17, 18, 21, 22, 23, 24, 27, 28, 29, 30, 33, 36, 37, 40, 41, 42, 45, 48, 49, 50]
def K_X12_lone : List xA := [.inl (.aload 0), .inr (.inl (.int 0)), .inr (.inr (4, [12, 0])), .inr (.inl (.int 0)), .inl (.istore 1), .inr (.inl (.int 0)), .inl (.istore 2), .inl (.iload 2), .inl (.aload 0), .inr (.inr (41, [216, 12])), .inr (.inr (24, [26])), .inl (.iload 1), .inl (.aload 0), .inr (.inr (3, [12, 27])), .inl (.iload 2), .inl .iaload, .inr (.inr (12, [21])), .inr (.inl (.int 1)), .inl (.iload 2), .inl .ishl, .inr (.inr (10, [22])), .inr (.inl (.int 0)), .inl .ior, .inl (.istore 1), .inr (.inr (80, [2])), .inr (.inr (10, [7])), .inl (.iload 1), .inl .ireturn]
def P_X12_lone : List Nat := [0, 1, 2, 5, 6, 7, 8, 9, 10, 11, 14, 17, 18, 19, 22, 23, 24, 27, 28, 29, 30, 33, 34, 35, 36, 39, 42, 43, 44]
def K_X12_row : List xA := [.inl (.aload 0), .inr (.inl (.int 0)), .inr (.inr (4, [12, 0])), .inl (.iload 1), .inr (.inl (.int 0)), .inr (.inl (.int 4)), .inr (.inr (40, [189])), .inr (.inr (12, [10])), .inr (.inl (.int (-1))), .inl .ireturn, .inr (.inl (.int 0)), .inl (.istore 2), .inr (.inl (.int 0)), .inl (.istore 3), .inl (.iload 3), .inl (.aload 0), .inr (.inr (41, [216, 12])), .inr (.inr (24, [39])), .inl (.iload 2), .inl (.aload 0), .inr (.inl (.int 0)), .inl (.iload 3), .inr (.inr (41, [226, 12])), .inr (.inr (11, [34])), .inl (.aload 0), .inl (.iload 3), .inr (.inl (.int 0)), .inr (.inr (41, [218, 12])), .inl (.iload 1), .inr (.inr (22, [34])), .inr (.inl (.int 1)), .inl (.iload 3), .inl .ishl, .inr (.inr (10, [35])), .inr (.inl (.int 0)), .inl .ior, .inl (.istore 2), .inr (.inr (80, [3])), .inr (.inr (10, [14])), .inl (.iload 2), .inl .ireturn]
def P_X12_row : List Nat := [0, 1, 2, 5, 6, 7, 8, 11, 14, 15, 16, 17, 18, 19, 20, 21, 22, 25, 28, 29, 30, 31, 32, 35, 38, 39, 40, 41, 44, 45, 48, 49, 50, 51, 54, 55, 56, 57, 60, 63, 64, 65]
def K_X12_chance : List xA := [.inl (.aload 0), .inr (.inl (.int 0)), .inr (.inr (4, [12, 0])), .inl (.aload 0), .inl (.iload 1), .inr (.inr (41, [220, 12])), .inr (.inr (11, [24])), .inl (.aload 0), .inr (.inr (3, [12, 24])), .inr (.inl (.int 1)), .inl (.iload 1), .inl .iadd, .inl .iaload, .inr (.inr (13, [24])), .inl (.iload 2), .inr (.inl (.int 1)), .inr (.inl (.int 6)), .inr (.inr (40, [189])), .inr (.inr (11, [24])), .inl (.iload 3), .inr (.inl (.int 0)), .inr (.inl (.int 10)), .inr (.inr (40, [189])), .inr (.inr (12, [26])), .inr (.inl (.int (-1))), .inl .ireturn, .inr (.inl (.long 1)), .inl (.lstore 4), .inr (.inl (.long 0)), .inl (.lstore 6), .inr (.inl (.int 0)), .inl (.istore 8), .inl (.iload 8), .inl (.iload 2), .inr (.inr (24, [41])), .inl (.lload 4), .inr (.inl (.long 10)), .inl .lmul, .inl (.lstore 4), .inr (.inr (80, [8])), .inr (.inr (10, [32])), .inr (.inl (.int 0)), .inl (.istore 8), .inl (.iload 8), .inr (.inl (.int 1)), .inl (.iload 2), .inl .ishl, .inr (.inr (24, [106])), .inl (.aload 0), .inr (.inr (41, [252, 12])), .inr (.inl (.long 1)), .inl (.lstore 9), .inr (.inl (.int 0)), .inl (.istore 11), .inl (.iload 11), .inl (.iload 2), .inr (.inr (24, [91])), .inl (.iload 8), .inl (.iload 11), .inl .ishr, .inr (.inl (.int 1)), .inl .iand, .inr (.inl (.int 1)), .inr (.inr (22, [66])), .inr (.inl (.int 1)), .inr (.inr (10, [67])), .inr (.inl (.int 0)), .inl (.istore 12), .inl (.lload 9), .inl (.iload 12), .inr (.inr (11, [74])), .inl (.iload 3), .inl .i2l, .inr (.inr (10, [78])), .inr (.inl (.int 10)), .inl (.iload 3), .inl .isub, .inl .i2l, .inl .lmul, .inl (.lstore 9), .inl (.aload 0), .inr (.inl (.int 1050)), .inl (.iload 12), .inr (.inr (11, [86])), .inr (.inl (.int 2)), .inr (.inr (10, [87])), .inr (.inl (.int 0)), .inr (.inr (41, [240, 12])), .inl .pop, .inr (.inr (80, [11])), .inr (.inr (10, [54])), .inl (.lload 6), .inl (.aload 0), .inr (.inr (3, [12, 24])), .inr (.inl (.int 1051)), .inl (.iload 1), .inl .iadd, .inl .iaload, .inr (.inr (14, [101])), .inl (.lload 9), .inr (.inr (10, [102])), .inr (.inl (.long 0)), .inl .ladd, .inl (.lstore 6), .inr (.inr (80, [8])), .inr (.inr (10, [43])), .inl (.lload 6), .inr (.inl (.long 1000000)), .inl .lmul, .inl (.lload 4), .inl .ldiv, .inl .l2i, .inl .ireturn]
def P_X12_chance : List Nat := [0, 1, 2, 5, 6, 7, 10, 13, 14, 17, 18, 19, 20, 21, 24, 25, 26, 28, 31, 34, 35, 36, 38, 41, 44, 45, 46, 47, 49, 50, 52, 53, 55, 57, 58, 61, 63, 66, 67, 69, 72, 75, 76, 78, 80, 81, 82, 83, 86, 87, 90, 91, 93, 94, 96, 98, 99, 102, 104, 106, 107, 108, 109, 110, 113, 114, 117, 118, 120, 122, 124, 127, 128, 129, 132, 134, 135, 136, 137, 138, 140, 141, 144, 146, 149, 150, 153, 154, 157, 158, 161, 164, 166, 167, 170, 173, 174, 175, 176, 179, 181, 184, 185, 186, 188, 191, 194, 196, 199, 200, 202, 203, 204, 205]
def K_X12_getsBy : List xA := [.inl (.iload 0), .inr (.inl (.int 1)), .inr (.inr (22, [11])), .inl (.iload 1), .inr (.inl (.int 1)), .inr (.inr (22, [9])), .inl (.iload 2), .inl .ineg, .inr (.inr (10, [17])), .inl (.iload 3), .inr (.inr (10, [17])), .inl (.iload 1), .inr (.inl (.int 1)), .inr (.inr (22, [16])), .inl (.iload 4), .inr (.inr (10, [17])), .inr (.inl (.int 0)), .inl .ireturn]
def P_X12_getsBy : List Nat := [0, 1, 2, 5, 6, 7, 10, 11, 12, 15, 16, 19, 20, 21, 24, 26, 29, 30, 31]
def K_X12_rests : List xA := [.inl (.iload 1), .inr (.inl (.int 0)), .inr (.inl (.int 9)), .inr (.inr (40, [189])), .inr (.inr (11, [20])), .inl (.iload 2), .inr (.inl (.int 0)), .inr (.inl (.int 9)), .inr (.inr (40, [189])), .inr (.inr (11, [20])), .inl (.iload 3), .inr (.inl (.int 0)), .inr (.inl (.int 9)), .inr (.inr (40, [189])), .inr (.inr (11, [20])), .inl (.iload 4), .inr (.inl (.int (-1))), .inr (.inr (23, [20])), .inr (.inl (.int 1)), .inr (.inr (10, [21])), .inr (.inl (.int 0)), .inl (.istore 5), .inr (.inl (.int 0)), .inl (.istore 6), .inr (.inl (.int (-1))), .inl (.istore 7), .inr (.inl (.int 0)), .inl (.istore 8), .inl (.iload 8), .inr (.inl (.int 4)), .inr (.inr (24, [94])), .inl (.iload 5), .inr (.inr (11, [94])), .inl (.iload 8), .inr (.inl (.int 2)), .inl .idiv, .inl (.istore 9), .inl (.iload 8), .inr (.inl (.int 2)), .inl .irem, .inl (.istore 10), .inr (.inl (.int 1)), .inl (.iload 9), .inl .isub, .inl (.iload 10), .inl (.iload 1), .inl (.iload 2), .inl (.iload 3), .inr (.inr (40, [287])), .inl (.iload 9), .inl (.iload 10), .inl (.iload 1), .inl (.iload 2), .inl (.iload 3), .inr (.inr (40, [287])), .inr (.inr (25, [73])), .inr (.inl (.int 1)), .inl (.iload 10), .inl .isub, .inl (.iload 9), .inl (.iload 1), .inl (.iload 2), .inl (.iload 3), .inr (.inr (40, [287])), .inl (.iload 10), .inl (.iload 9), .inl (.iload 1), .inl (.iload 2), .inl (.iload 3), .inr (.inr (40, [287])), .inr (.inr (25, [73])), .inr (.inl (.int 1)), .inr (.inr (10, [74])), .inr (.inl (.int 0)), .inl (.istore 11), .inl (.iload 11), .inr (.inr (11, [82])), .inl (.iload 6), .inl (.iload 4), .inr (.inr (22, [82])), .inl (.iload 8), .inr (.inr (10, [83])), .inl (.iload 7), .inl (.istore 7), .inl (.iload 6), .inl (.iload 11), .inr (.inr (11, [89])), .inr (.inl (.int 1)), .inr (.inr (10, [90])), .inr (.inl (.int 0)), .inl .iadd, .inl (.istore 6), .inr (.inr (80, [8])), .inr (.inr (10, [28])), .inl (.aload 0), .inl (.iload 5), .inr (.inr (11, [103])), .inl (.iload 4), .inr (.inr (13, [101])), .inl (.iload 7), .inr (.inr (13, [103])), .inr (.inl (.int 0)), .inr (.inr (10, [104])), .inr (.inl (.int 1)), .inr (.inr (4, [12, 0])), .inl (.aload 0), .inr (.inr (1, [12, 0])), .inr (.inr (16, [110])), .inr (.inl (.int 0)), .inr (.inr (10, [115])), .inl (.iload 4), .inr (.inr (14, [114])), .inl (.iload 6), .inr (.inr (10, [115])), .inl (.iload 7), .inl .ireturn]
def P_X12_rests : List Nat := [0, 1, 2, 4, 7, 10, 11, 12, 14, 17, 20, 21, 22, 24, 27, 30, 32, 33, 36, 37, 40, 41, 43, 44, 46, 47, 49, 50, 52, 54, 55, 58, 60, 63, 65, 66, 67, 69, 71, 72, 73, 75, 76, 78, 79, 81, 82, 83, 84, 87, 89, 91, 92, 93, 94, 97, 100, 101, 103, 104, 106, 107, 108, 109, 112, 114, 116, 117, 118, 119, 122, 125, 126, 129, 130, 132, 134, 137, 139, 141, 144, 146, 149, 151, 153, 155, 157, 160, 161, 164, 165, 166, 168, 171, 174, 175, 177, 180, 182, 185, 187, 190, 191, 194, 195, 198, 199, 202, 205, 206, 209, 211, 214, 216, 219, 221, 222]
def K_X12_draw : List xA := [.inl (.aload 0), .inl (.aload 0), .inr (.inr (2, [12, 34])), .inr (.inl (.long 1103515245)), .inl .lmul, .inr (.inl (.long 12345)), .inl .ladd, .inr (.inl (.long 2147483648)), .inl .lrem, .inr (.inr (5, [12, 34])), .inl (.aload 0), .inr (.inr (2, [12, 34])), .inr (.inl (.long 65536)), .inl .ldiv, .inl (.iload 1), .inl .i2l, .inl .lrem, .inl .l2i, .inl .ireturn]
def P_X12_draw : List Nat := [0, 1, 2, 5, 8, 9, 12, 13, 16, 17, 20, 21, 24, 27, 28, 29, 30, 31, 32, 33]
def K_X12_drawsDeed : List xA := [.inl (.aload 0), .inl (.aload 0), .inr (.inr (41, [217, 12])), .inr (.inr (41, [289, 12])), .inl (.istore 1), .inl (.aload 0), .inl (.aload 0), .inr (.inr (41, [216, 12])), .inr (.inr (41, [289, 12])), .inl (.istore 2), .inl (.aload 0), .inr (.inl (.int 5)), .inr (.inr (41, [289, 12])), .inl (.istore 3), .inl (.iload 3), .inr (.inr (12, [28])), .inl (.aload 0), .inr (.inl (.int 1100)), .inl (.iload 1), .inl (.iload 2), .inr (.inr (41, [233, 12])), .inr (.inr (11, [28])), .inl (.aload 0), .inr (.inl (.int 1100)), .inl (.iload 1), .inl (.iload 2), .inr (.inr (41, [236, 12])), .inr (.inr (10, [53])), .inl (.iload 3), .inr (.inl (.int 1)), .inr (.inr (22, [43])), .inl (.aload 0), .inr (.inl (.int 1100)), .inl (.iload 1), .inl (.iload 2), .inr (.inr (41, [234, 12])), .inr (.inr (11, [43])), .inl (.aload 0), .inr (.inl (.int 1100)), .inl (.iload 1), .inl (.iload 2), .inr (.inr (41, [237, 12])), .inr (.inr (10, [53])), .inl (.iload 3), .inr (.inl (.int 2)), .inr (.inr (22, [53])), .inl (.aload 0), .inr (.inr (3, [12, 24])), .inr (.inl (.int 1120)), .inl (.iload 1), .inl .iadd, .inr (.inl (.int (-1))), .inl .iastore, .inl (.iload 3), .inr (.inl (.int 3)), .inr (.inr (22, [70])), .inl (.aload 0), .inr (.inl (.int 1100)), .inl (.iload 1), .inl (.iload 2), .inr (.inr (41, [235, 12])), .inr (.inr (11, [70])), .inl (.aload 0), .inr (.inl (.int 1100)), .inl (.iload 1), .inl (.iload 2), .inr (.inr (41, [239, 12])), .inr (.inr (11, [70])), .inr (.inl (.int 1)), .inr (.inr (10, [71])), .inr (.inl (.int 0)), .inr (.inr (91, []))]
def P_X12_drawsDeed : List Nat := [0, 1, 2, 5, 8, 9, 10, 11, 14, 17, 18, 19, 20, 23, 24, 25, 28, 29, 32, 33, 34, 37, 40, 41, 44, 45, 46, 49, 52, 53, 54, 57, 58, 61, 62, 63, 66, 69, 70, 73, 74, 75, 78, 81, 82, 83, 86, 87, 90, 93, 94, 95, 96, 97, 98, 99, 102, 103, 106, 107, 108, 111, 114, 115, 118, 119, 120, 123, 126, 127, 130, 131, 132]
def K_X12_seasons : List xA := [.inl (.aload 0), .inr (.inl (.int 0)), .inr (.inr (4, [12, 0])), .inl (.iload 1), .inr (.inl (.int 0)), .inr (.inl (.int 9999)), .inr (.inr (40, [189])), .inr (.inr (11, [18])), .inl (.iload 2), .inr (.inl (.int 1)), .inr (.inl (.int 99)), .inr (.inr (40, [189])), .inr (.inr (11, [18])), .inl (.iload 3), .inr (.inl (.int 0)), .inr (.inl (.int 2)), .inr (.inr (40, [189])), .inr (.inr (12, [20])), .inr (.inl (.int (-1))), .inl .ireturn, .inl (.aload 0), .inr (.inl (.int 0)), .inr (.inl (.int 1100)), .inr (.inl (.int 25)), .inr (.inr (41, [212, 12])), .inl (.aload 0), .inl (.iload 1), .inl .i2l, .inr (.inr (5, [12, 34])), .inr (.inl (.int 0)), .inl (.istore 4), .inr (.inl (.int 0)), .inl (.istore 5), .inl (.iload 5), .inl (.iload 2), .inr (.inr (24, [61])), .inl (.iload 4), .inl (.aload 0), .inr (.inr (41, [217, 12])), .inr (.inr (16, [48])), .inl (.aload 0), .inr (.inr (41, [216, 12])), .inr (.inr (16, [48])), .inl (.aload 0), .inr (.inr (41, [290, 12])), .inr (.inr (11, [48])), .inr (.inl (.int 1)), .inr (.inr (10, [49])), .inr (.inl (.int 0)), .inl .iadd, .inl (.istore 4), .inl (.iload 4), .inl (.aload 0), .inr (.inl (.int 1100)), .inr (.inl (.int 0)), .inr (.inr (41, [240, 12])), .inr (.inr (40, [222])), .inl .iadd, .inl (.istore 4), .inr (.inr (80, [5])), .inr (.inr (10, [33])), .inr (.inl (.int 0)), .inl (.istore 5), .inr (.inl (.int 0)), .inl (.istore 6), .inl (.iload 6), .inl (.aload 0), .inr (.inr (41, [217, 12])), .inr (.inr (24, [78])), .inl (.iload 5), .inl (.aload 0), .inr (.inl (.int 1100)), .inl (.iload 6), .inr (.inr (41, [230, 12])), .inl .iadd, .inl (.istore 5), .inr (.inr (80, [6])), .inr (.inr (10, [65])), .inl (.iload 3), .inr (.inr (12, [82])), .inl (.iload 4), .inr (.inr (10, [90])), .inl (.iload 3), .inr (.inl (.int 1)), .inr (.inr (22, [89])), .inl (.aload 0), .inr (.inl (.int 1100)), .inr (.inr (41, [241, 12])), .inr (.inr (10, [90])), .inl (.iload 5), .inl .ireturn]
def P_X12_seasons : List Nat := [0, 1, 2, 5, 6, 7, 10, 13, 16, 17, 18, 20, 23, 26, 27, 28, 29, 32, 35, 36, 37, 38, 39, 42, 44, 47, 48, 49, 50, 53, 54, 56, 57, 59, 61, 62, 65, 67, 68, 71, 74, 75, 78, 81, 82, 85, 88, 89, 92, 93, 94, 96, 98, 99, 102, 103, 106, 109, 110, 112, 115, 118, 119, 121, 122, 124, 126, 127, 130, 133, 135, 136, 139, 141, 144, 145, 147, 150, 153, 154, 157, 159, 162, 163, 164, 167, 168, 171, 174, 177, 179, 180]
def K_X12_mark : List xA := [.inl (.aload 0), .inr (.inl (.int 0)), .inr (.inr (4, [12, 0])), .inl (.iload 1), .inr (.inl (.int 0)), .inr (.inl (.int 3)), .inr (.inr (40, [189])), .inr (.inr (11, [15])), .inl (.iload 2), .inr (.inr (11, [17])), .inl (.aload 0), .inr (.inr (3, [12, 26])), .inl (.iload 1), .inl .baload, .inr (.inr (12, [17])), .inr (.inl (.int 0)), .inr (.inr (91, [])), .inl (.aload 0), .inr (.inr (3, [12, 26])), .inl (.iload 1), .inr (.inl (.int 1)), .inl .bastore, .inl (.aload 0), .inl (.iload 2), .inr (.inr (11, [31])), .inr (.inl (.int 50)), .inr (.inl (.int 1)), .inl (.iload 1), .inl .iadd, .inl .imul, .inr (.inr (10, [32])), .inr (.inl (.int 0)), .inl (.iload 2), .inr (.inr (11, [36])), .inr (.inl (.int 0)), .inr (.inr (10, [41])), .inr (.inl (.int 50)), .inr (.inl (.int 1)), .inl (.iload 1), .inl .iadd, .inl .imul, .inr (.inl (.int 50)), .inr (.inr (41, [212, 12])), .inl (.aload 0), .inl (.iload 2), .inr (.inr (11, [48])), .inr (.inl (.int 0)), .inr (.inr (10, [50])), .inl (.aload 0), .inr (.inr (1, [12, 25])), .inr (.inr (4, [12, 25])), .inr (.inl (.int 1)), .inr (.inr (91, []))]
def P_X12_mark : List Nat := [0, 1, 2, 5, 6, 7, 8, 11, 14, 15, 18, 19, 22, 23, 24, 27, 28, 29, 30, 33, 34, 35, 36, 37, 38, 41, 43, 44, 45, 46, 47, 50, 51, 52, 55, 56, 59, 61, 62, 63, 64, 65, 67, 70, 71, 72, 75, 76, 79, 80, 83, 86, 87, 88]
def K_X12_inPockets : List xA := [.inr (.inl (.int 0)), .inl (.istore 1), .inr (.inl (.int 0)), .inl (.istore 2), .inl (.iload 2), .inl (.aload 0), .inr (.inr (41, [217, 12])), .inr (.inr (24, [19])), .inl (.iload 1), .inl (.aload 0), .inr (.inr (3, [12, 24])), .inr (.inl (.int 15)), .inl (.iload 2), .inl .iadd, .inl .iaload, .inl .iadd, .inl (.istore 1), .inr (.inr (80, [2])), .inr (.inr (10, [4])), .inl (.iload 1), .inl .ireturn]
def P_X12_inPockets : List Nat := [0, 1, 2, 3, 4, 5, 6, 9, 12, 13, 14, 17, 19, 20, 21, 22, 23, 24, 27, 30, 31, 32]
def K_X12_count : List xA := [.inl (.aload 0), .inr (.inl (.int 0)), .inr (.inr (4, [12, 0])), .inl (.iload 1), .inr (.inr (27, [100, 46, 5, 5, 5, 10, 15, 19, 23, 27, 30, 35, 40, 43])), .inl (.aload 0), .inr (.inr (3, [12, 10])), .inl (.iload 1), .inl .iaload, .inl .ireturn, .inl (.aload 0), .inr (.inr (3, [12, 24])), .inr (.inl (.int 0)), .inl .iaload, .inl .ireturn, .inl (.aload 0), .inr (.inl (.int 0)), .inr (.inr (41, [227, 12])), .inl .ireturn, .inl (.aload 0), .inr (.inl (.int 0)), .inr (.inr (41, [228, 12])), .inl .ireturn, .inl (.aload 0), .inr (.inl (.int 0)), .inr (.inr (41, [241, 12])), .inl .ireturn, .inl (.aload 0), .inr (.inr (41, [293, 12])), .inl .ireturn, .inl (.aload 0), .inr (.inr (3, [12, 21])), .inr (.inl (.int 0)), .inl .iaload, .inl .ireturn, .inl (.aload 0), .inr (.inr (3, [12, 24])), .inr (.inl (.int 25)), .inl .iaload, .inl .ireturn, .inl (.aload 0), .inr (.inr (1, [12, 25])), .inl .ireturn, .inl (.aload 0), .inr (.inr (1, [12, 2])), .inl .ireturn, .inr (.inl (.int (-1))), .inl .ireturn]
def P_X12_count : List Nat := [0, 1, 2, 5, 6, 68, 69, 72, 73, 74, 75, 76, 79, 80, 81, 82, 83, 84, 87, 88, 89, 90, 93, 94, 95, 96, 99, 100, 101, 104, 105, 106, 109, 110, 111, 112, 113, 116, 118, 119, 120, 121, 124, 125, 126, 129, 130, 131, 132]
def K_L_law : List xA := [.inr (.inr (50, [11])), .inl .dup, .inr (.inr (41, [129, 11])), .inl (.astore 1), .inr (.inr (50, [12])), .inl .dup, .inr (.inr (41, [176, 12])), .inl (.astore 2), .inr (.inl (.int 1)), .inr (.inr (51, [1])), .inl (.astore 3), .inr (.inl (.int 0)), .inl (.istore 4), .inl (.iload 4), .inl (.aload 0), .inl .arraylength, .inr (.inl (.int 7)), .inl .isub, .inr (.inr (25, [886])), .inl (.aload 0), .inl (.iload 4), .inl .iaload, .inr (.inl (.int 63)), .inl .iand, .inr (.inr (27, [100, 884, 25, 134, 141, 148, 175, 202, 229, 256, 273, 300, 307, 314, 331, 348, 375, 382, 389, 406, 423, 460, 497, 514, 521, 528, 535, 580, 587, 594, 621, 638, 645, 652, 669, 676, 693, 730, 795, 832, 867])), .inl (.aload 1), .inl (.aload 0), .inl (.iload 4), .inr (.inl (.int 1)), .inl .iadd, .inl .iaload, .inl .i2l, .inr (.inl (.int 32)), .inl .lshl, .inl (.aload 0), .inl (.iload 4), .inr (.inl (.int 2)), .inl .iadd, .inl .iaload, .inl .i2l, .inr (.inl (.long 4294967295)), .inl .land, .inl .lor, .inl (.aload 0), .inl (.iload 4), .inr (.inl (.int 3)), .inl .iadd, .inl .iaload, .inl .i2l, .inr (.inl (.int 32)), .inl .lshl, .inl (.aload 0), .inl (.iload 4), .inr (.inl (.int 4)), .inl .iadd, .inl .iaload, .inl .i2l, .inr (.inl (.long 4294967295)), .inl .land, .inl .lor, .inl (.aload 0), .inl (.iload 4), .inr (.inl (.int 5)), .inl .iadd, .inl .iaload, .inl .i2l, .inr (.inl (.int 32)), .inl .lshl, .inl (.aload 0), .inl (.iload 4), .inr (.inl (.int 6)), .inl .iadd, .inl .iaload, .inl .i2l, .inr (.inl (.long 4294967295)), .inl .land, .inl .lor, .inr (.inr (41, [130, 11])), .inl (.aload 2), .inl (.aload 0), .inl (.iload 4), .inr (.inl (.int 1)), .inl .iadd, .inl .iaload, .inl .i2l, .inr (.inl (.int 32)), .inl .lshl, .inl (.aload 0), .inl (.iload 4), .inr (.inl (.int 2)), .inl .iadd, .inl .iaload, .inl .i2l, .inr (.inl (.long 4294967295)), .inl .land, .inl .lor, .inl (.aload 0), .inl (.iload 4), .inr (.inl (.int 3)), .inl .iadd, .inl .iaload, .inl .i2l, .inr (.inl (.int 32)), .inl .lshl, .inl (.aload 0), .inl (.iload 4), .inr (.inl (.int 4)), .inl .iadd, .inl .iaload, .inl .i2l, .inr (.inl (.long 4294967295)), .inl .land, .inl .lor, .inl (.aload 0), .inl (.iload 4), .inr (.inl (.int 5)), .inl .iadd, .inl .iaload, .inl .i2l, .inr (.inl (.int 32)), .inl .lshl, .inl (.aload 0), .inl (.iload 4), .inr (.inl (.int 6)), .inl .iadd, .inl .iaload, .inl .i2l, .inr (.inl (.long 4294967295)), .inl .land, .inl .lor, .inr (.inr (41, [174, 12])), .inr (.inr (21, [884])), .inr (.inl (.int 0)), .inr (.inr (91, [])), .inl (.aload 1), .inr (.inr (41, [131, 11])), .inl (.aload 2), .inr (.inr (41, [198, 12])), .inr (.inr (21, [884])), .inr (.inl (.int 0)), .inr (.inr (91, [])), .inl (.aload 1), .inr (.inr (41, [132, 11])), .inl (.aload 2), .inr (.inr (41, [203, 12])), .inr (.inr (21, [884])), .inr (.inl (.int 0)), .inr (.inr (91, [])), .inl (.aload 1), .inl (.aload 0), .inl (.iload 4), .inr (.inl (.int 1)), .inl .iadd, .inl .iaload, .inl (.aload 0), .inl (.iload 4), .inr (.inl (.int 2)), .inl .iadd, .inl .iaload, .inr (.inr (41, [133, 11])), .inl (.aload 2), .inl (.aload 0), .inl (.iload 4), .inr (.inl (.int 1)), .inl .iadd, .inl .iaload, .inl (.aload 0), .inl (.iload 4), .inr (.inl (.int 2)), .inl .iadd, .inl .iaload, .inr (.inr (41, [242, 12])), .inr (.inr (21, [884])), .inr (.inl (.int 0)), .inr (.inr (91, [])), .inl (.aload 1), .inl (.aload 0), .inl (.iload 4), .inr (.inl (.int 1)), .inl .iadd, .inl .iaload, .inl (.aload 0), .inl (.iload 4), .inr (.inl (.int 2)), .inl .iadd, .inl .iaload, .inr (.inr (41, [134, 11])), .inl (.aload 2), .inl (.aload 0), .inl (.iload 4), .inr (.inl (.int 1)), .inl .iadd, .inl .iaload, .inl (.aload 0), .inl (.iload 4), .inr (.inl (.int 2)), .inl .iadd, .inl .iaload, .inr (.inr (41, [243, 12])), .inr (.inr (21, [884])), .inr (.inl (.int 0)), .inr (.inr (91, [])), .inl (.aload 1), .inl (.aload 0), .inl (.iload 4), .inr (.inl (.int 1)), .inl .iadd, .inl .iaload, .inl (.aload 0), .inl (.iload 4), .inr (.inl (.int 2)), .inl .iadd, .inl .iaload, .inr (.inr (41, [135, 11])), .inl (.aload 2), .inl (.aload 0), .inl (.iload 4), .inr (.inl (.int 1)), .inl .iadd, .inl .iaload, .inl (.aload 0), .inl (.iload 4), .inr (.inl (.int 2)), .inl .iadd, .inl .iaload, .inr (.inr (41, [244, 12])), .inr (.inr (21, [884])), .inr (.inl (.int 0)), .inr (.inr (91, [])), .inl (.aload 1), .inl (.aload 0), .inl (.iload 4), .inr (.inl (.int 1)), .inl .iadd, .inl .iaload, .inl (.aload 0), .inl (.iload 4), .inr (.inl (.int 2)), .inl .iadd, .inl .iaload, .inr (.inr (41, [136, 11])), .inl (.aload 2), .inl (.aload 0), .inl (.iload 4), .inr (.inl (.int 1)), .inl .iadd, .inl .iaload, .inl (.aload 0), .inl (.iload 4), .inr (.inl (.int 2)), .inl .iadd, .inl .iaload, .inr (.inr (41, [245, 12])), .inr (.inr (21, [884])), .inr (.inl (.int 0)), .inr (.inr (91, [])), .inl (.aload 1), .inl (.aload 0), .inl (.iload 4), .inr (.inl (.int 1)), .inl .iadd, .inl .iaload, .inr (.inr (41, [137, 11])), .inl (.aload 2), .inl (.aload 0), .inl (.iload 4), .inr (.inl (.int 1)), .inl .iadd, .inl .iaload, .inr (.inr (41, [246, 12])), .inr (.inr (21, [884])), .inr (.inl (.int 0)), .inr (.inr (91, [])), .inl (.aload 1), .inl (.aload 0), .inl (.iload 4), .inr (.inl (.int 1)), .inl .iadd, .inl .iaload, .inl (.aload 0), .inl (.iload 4), .inr (.inl (.int 2)), .inl .iadd, .inl .iaload, .inr (.inr (41, [138, 11])), .inl (.aload 2), .inl (.aload 0), .inl (.iload 4), .inr (.inl (.int 1)), .inl .iadd, .inl .iaload, .inl (.aload 0), .inl (.iload 4), .inr (.inl (.int 2)), .inl .iadd, .inl .iaload, .inr (.inr (41, [247, 12])), .inr (.inr (21, [884])), .inr (.inl (.int 0)), .inr (.inr (91, [])), .inl (.aload 1), .inr (.inr (41, [139, 11])), .inl (.aload 2), .inr (.inr (41, [248, 12])), .inr (.inr (21, [884])), .inr (.inl (.int 0)), .inr (.inr (91, [])), .inl (.aload 1), .inr (.inr (41, [140, 11])), .inl (.aload 2), .inr (.inr (41, [249, 12])), .inr (.inr (21, [884])), .inr (.inl (.int 0)), .inr (.inr (91, [])), .inl (.aload 1), .inl (.aload 0), .inl (.iload 4), .inr (.inl (.int 1)), .inl .iadd, .inl .iaload, .inr (.inr (41, [141, 11])), .inl (.aload 2), .inl (.aload 0), .inl (.iload 4), .inr (.inl (.int 1)), .inl .iadd, .inl .iaload, .inr (.inr (41, [251, 12])), .inr (.inr (21, [884])), .inr (.inl (.int 0)), .inr (.inr (91, [])), .inl (.aload 1), .inl (.aload 0), .inl (.iload 4), .inr (.inl (.int 1)), .inl .iadd, .inl .iaload, .inr (.inr (41, [142, 11])), .inl (.aload 2), .inl (.aload 0), .inl (.iload 4), .inr (.inl (.int 1)), .inl .iadd, .inl .iaload, .inr (.inr (41, [254, 12])), .inr (.inr (21, [884])), .inr (.inl (.int 0)), .inr (.inr (91, [])), .inl (.aload 1), .inl (.aload 0), .inl (.iload 4), .inr (.inl (.int 1)), .inl .iadd, .inl .iaload, .inl (.aload 0), .inl (.iload 4), .inr (.inl (.int 2)), .inl .iadd, .inl .iaload, .inr (.inr (41, [143, 11])), .inl (.aload 2), .inl (.aload 0), .inl (.iload 4), .inr (.inl (.int 1)), .inl .iadd, .inl .iaload, .inl (.aload 0), .inl (.iload 4), .inr (.inl (.int 2)), .inl .iadd, .inl .iaload, .inr (.inr (41, [255, 12])), .inr (.inr (21, [884])), .inr (.inl (.int 0)), .inr (.inr (91, [])), .inl (.aload 1), .inr (.inr (41, [144, 11])), .inl (.aload 2), .inr (.inr (41, [256, 12])), .inr (.inr (21, [884])), .inr (.inl (.int 0)), .inr (.inr (91, [])), .inl (.aload 1), .inr (.inr (41, [145, 11])), .inl (.aload 2), .inr (.inr (41, [257, 12])), .inr (.inr (21, [884])), .inr (.inl (.int 0)), .inr (.inr (91, [])), .inl (.aload 1), .inl (.aload 0), .inl (.iload 4), .inr (.inl (.int 1)), .inl .iadd, .inl .iaload, .inr (.inr (41, [146, 11])), .inl (.aload 2), .inl (.aload 0), .inl (.iload 4), .inr (.inl (.int 1)), .inl .iadd, .inl .iaload, .inr (.inr (41, [261, 12])), .inr (.inr (21, [884])), .inr (.inl (.int 0)), .inr (.inr (91, [])), .inl (.aload 1), .inl (.aload 0), .inl (.iload 4), .inr (.inl (.int 1)), .inl .iadd, .inl .iaload, .inr (.inr (41, [147, 11])), .inl (.aload 2), .inl (.aload 0), .inl (.iload 4), .inr (.inl (.int 1)), .inl .iadd, .inl .iaload, .inr (.inr (41, [262, 12])), .inr (.inr (21, [884])), .inr (.inl (.int 0)), .inr (.inr (91, [])), .inl (.aload 1), .inl (.aload 0), .inl (.iload 4), .inr (.inl (.int 1)), .inl .iadd, .inl .iaload, .inl (.aload 0), .inl (.iload 4), .inr (.inl (.int 2)), .inl .iadd, .inl .iaload, .inl (.aload 0), .inl (.iload 4), .inr (.inl (.int 3)), .inl .iadd, .inl .iaload, .inr (.inr (41, [148, 11])), .inl (.aload 2), .inl (.aload 0), .inl (.iload 4), .inr (.inl (.int 1)), .inl .iadd, .inl .iaload, .inl (.aload 0), .inl (.iload 4), .inr (.inl (.int 2)), .inl .iadd, .inl .iaload, .inl (.aload 0), .inl (.iload 4), .inr (.inl (.int 3)), .inl .iadd, .inl .iaload, .inr (.inr (41, [265, 12])), .inr (.inr (21, [884])), .inr (.inl (.int 0)), .inr (.inr (91, [])), .inl (.aload 1), .inl (.aload 0), .inl (.iload 4), .inr (.inl (.int 1)), .inl .iadd, .inl .iaload, .inl (.aload 0), .inl (.iload 4), .inr (.inl (.int 2)), .inl .iadd, .inl .iaload, .inl (.aload 0), .inl (.iload 4), .inr (.inl (.int 3)), .inl .iadd, .inl .iaload, .inr (.inr (41, [149, 11])), .inl (.aload 2), .inl (.aload 0), .inl (.iload 4), .inr (.inl (.int 1)), .inl .iadd, .inl .iaload, .inl (.aload 0), .inl (.iload 4), .inr (.inl (.int 2)), .inl .iadd, .inl .iaload, .inl (.aload 0), .inl (.iload 4), .inr (.inl (.int 3)), .inl .iadd, .inl .iaload, .inr (.inr (41, [266, 12])), .inr (.inr (21, [884])), .inr (.inl (.int 0)), .inr (.inr (91, [])), .inl (.aload 1), .inl (.aload 0), .inl (.iload 4), .inr (.inl (.int 1)), .inl .iadd, .inl .iaload, .inr (.inr (41, [150, 11])), .inl (.aload 2), .inl (.aload 0), .inl (.iload 4), .inr (.inl (.int 1)), .inl .iadd, .inl .iaload, .inr (.inr (41, [268, 12])), .inr (.inr (21, [884])), .inr (.inl (.int 0)), .inr (.inr (91, [])), .inl (.aload 1), .inr (.inr (41, [151, 11])), .inl (.aload 2), .inr (.inr (41, [270, 12])), .inr (.inr (21, [884])), .inr (.inl (.int 0)), .inr (.inr (91, [])), .inl (.aload 1), .inr (.inr (41, [152, 11])), .inl (.aload 2), .inr (.inr (41, [271, 12])), .inr (.inr (21, [884])), .inr (.inl (.int 0)), .inr (.inr (91, [])), .inl (.aload 1), .inr (.inr (41, [153, 11])), .inl (.aload 2), .inr (.inr (41, [273, 12])), .inr (.inr (21, [884])), .inr (.inl (.int 0)), .inr (.inr (91, [])), .inl (.aload 1), .inl (.aload 0), .inl (.iload 4), .inr (.inl (.int 1)), .inl .iadd, .inl .iaload, .inl (.aload 0), .inl (.iload 4), .inr (.inl (.int 2)), .inl .iadd, .inl .iaload, .inl (.aload 0), .inl (.iload 4), .inr (.inl (.int 3)), .inl .iadd, .inl .iaload, .inr (.inr (11, [554])), .inr (.inl (.int 1)), .inr (.inr (10, [555])), .inr (.inl (.int 0)), .inr (.inr (41, [154, 11])), .inl (.aload 2), .inl (.aload 0), .inl (.iload 4), .inr (.inl (.int 1)), .inl .iadd, .inl .iaload, .inl (.aload 0), .inl (.iload 4), .inr (.inl (.int 2)), .inl .iadd, .inl .iaload, .inl (.aload 0), .inl (.iload 4), .inr (.inl (.int 3)), .inl .iadd, .inl .iaload, .inr (.inr (11, [575])), .inr (.inl (.int 1)), .inr (.inr (10, [576])), .inr (.inl (.int 0)), .inr (.inr (41, [275, 12])), .inr (.inr (21, [884])), .inr (.inl (.int 0)), .inr (.inr (91, [])), .inl (.aload 1), .inr (.inr (41, [155, 11])), .inl (.aload 2), .inr (.inr (41, [278, 12])), .inr (.inr (21, [884])), .inr (.inl (.int 0)), .inr (.inr (91, [])), .inl (.aload 1), .inr (.inr (41, [156, 11])), .inl (.aload 2), .inr (.inr (41, [279, 12])), .inr (.inr (21, [884])), .inr (.inl (.int 0)), .inr (.inr (91, [])), .inl (.aload 1), .inl (.aload 0), .inl (.iload 4), .inr (.inl (.int 1)), .inl .iadd, .inl .iaload, .inl (.aload 0), .inl (.iload 4), .inr (.inl (.int 2)), .inl .iadd, .inl .iaload, .inr (.inr (41, [157, 11])), .inl (.aload 2), .inl (.aload 0), .inl (.iload 4), .inr (.inl (.int 1)), .inl .iadd, .inl .iaload, .inl (.aload 0), .inl (.iload 4), .inr (.inl (.int 2)), .inl .iadd, .inl .iaload, .inr (.inr (41, [281, 12])), .inr (.inr (21, [884])), .inr (.inl (.int 0)), .inr (.inr (91, [])), .inl (.aload 1), .inl (.aload 0), .inl (.iload 4), .inr (.inl (.int 1)), .inl .iadd, .inl .iaload, .inr (.inr (41, [158, 11])), .inl (.aload 2), .inl (.aload 0), .inl (.iload 4), .inr (.inl (.int 1)), .inl .iadd, .inl .iaload, .inr (.inr (41, [282, 12])), .inr (.inr (21, [884])), .inr (.inl (.int 0)), .inr (.inr (91, [])), .inl (.aload 1), .inr (.inr (41, [159, 11])), .inl (.aload 2), .inr (.inr (41, [283, 12])), .inr (.inr (21, [884])), .inr (.inl (.int 0)), .inr (.inr (91, [])), .inl (.aload 1), .inr (.inr (41, [160, 11])), .inl (.aload 2), .inr (.inr (41, [284, 12])), .inr (.inr (21, [884])), .inr (.inl (.int 0)), .inr (.inr (91, [])), .inl (.aload 1), .inl (.aload 0), .inl (.iload 4), .inr (.inl (.int 1)), .inl .iadd, .inl .iaload, .inr (.inr (41, [161, 11])), .inl (.aload 2), .inl (.aload 0), .inl (.iload 4), .inr (.inl (.int 1)), .inl .iadd, .inl .iaload, .inr (.inr (41, [285, 12])), .inr (.inr (21, [884])), .inr (.inl (.int 0)), .inr (.inr (91, [])), .inl (.aload 1), .inr (.inr (41, [162, 11])), .inl (.aload 2), .inr (.inr (41, [263, 12])), .inr (.inr (21, [884])), .inr (.inl (.int 0)), .inr (.inr (91, [])), .inl (.aload 1), .inl (.aload 0), .inl (.iload 4), .inr (.inl (.int 1)), .inl .iadd, .inl .iaload, .inr (.inr (41, [163, 11])), .inl (.aload 2), .inl (.aload 0), .inl (.iload 4), .inr (.inl (.int 1)), .inl .iadd, .inl .iaload, .inr (.inr (41, [274, 12])), .inr (.inr (21, [884])), .inr (.inl (.int 0)), .inr (.inr (91, [])), .inl (.aload 1), .inl (.aload 0), .inl (.iload 4), .inr (.inl (.int 1)), .inl .iadd, .inl .iaload, .inl (.aload 0), .inl (.iload 4), .inr (.inl (.int 2)), .inl .iadd, .inl .iaload, .inl (.aload 0), .inl (.iload 4), .inr (.inl (.int 3)), .inl .iadd, .inl .iaload, .inr (.inr (41, [164, 11])), .inl (.aload 2), .inl (.aload 0), .inl (.iload 4), .inr (.inl (.int 1)), .inl .iadd, .inl .iaload, .inl (.aload 0), .inl (.iload 4), .inr (.inl (.int 2)), .inl .iadd, .inl .iaload, .inl (.aload 0), .inl (.iload 4), .inr (.inl (.int 3)), .inl .iadd, .inl .iaload, .inr (.inr (41, [286, 12])), .inr (.inr (21, [884])), .inr (.inl (.int 0)), .inr (.inr (91, [])), .inl (.aload 1), .inl (.aload 0), .inl (.iload 4), .inr (.inl (.int 1)), .inl .iadd, .inl .iaload, .inl (.aload 0), .inl (.iload 4), .inr (.inl (.int 2)), .inl .iadd, .inl .iaload, .inl (.aload 0), .inl (.iload 4), .inr (.inl (.int 3)), .inl .iadd, .inl .iaload, .inl (.aload 0), .inl (.iload 4), .inr (.inl (.int 4)), .inl .iadd, .inl .iaload, .inl (.aload 3), .inr (.inr (66, [])), .inl (.istore 5), .inl (.aload 2), .inl (.aload 0), .inl (.iload 4), .inr (.inl (.int 1)), .inl .iadd, .inl .iaload, .inl (.aload 0), .inl (.iload 4), .inr (.inl (.int 2)), .inl .iadd, .inl .iaload, .inl (.aload 0), .inl (.iload 4), .inr (.inl (.int 3)), .inl .iadd, .inl .iaload, .inl (.aload 0), .inl (.iload 4), .inr (.inl (.int 4)), .inl .iadd, .inl .iaload, .inr (.inr (41, [288, 12])), .inl (.istore 6), .inl (.aload 2), .inr (.inr (41, [173, 12])), .inl (.iload 5), .inr (.inr (21, [783])), .inr (.inl (.int 0)), .inr (.inr (91, [])), .inl (.iload 5), .inr (.inr (12, [794])), .inl (.aload 3), .inr (.inl (.int 0)), .inl .laload, .inl (.iload 6), .inl .i2l, .inl .lcmp, .inr (.inr (11, [794])), .inr (.inl (.int 0)), .inr (.inr (91, [])), .inr (.inr (10, [884])), .inl (.aload 1), .inl (.aload 0), .inl (.iload 4), .inr (.inl (.int 1)), .inl .iadd, .inl .iaload, .inl (.aload 0), .inl (.iload 4), .inr (.inl (.int 2)), .inl .iadd, .inl .iaload, .inl (.aload 0), .inl (.iload 4), .inr (.inl (.int 3)), .inl .iadd, .inl .iaload, .inr (.inr (41, [165, 11])), .inl (.aload 2), .inl (.aload 0), .inl (.iload 4), .inr (.inl (.int 1)), .inl .iadd, .inl .iaload, .inl (.aload 0), .inl (.iload 4), .inr (.inl (.int 2)), .inl .iadd, .inl .iaload, .inl (.aload 0), .inl (.iload 4), .inr (.inl (.int 3)), .inl .iadd, .inl .iaload, .inr (.inr (41, [291, 12])), .inr (.inr (21, [884])), .inr (.inl (.int 0)), .inr (.inr (91, [])), .inl (.aload 1), .inl (.aload 0), .inl (.iload 4), .inr (.inl (.int 1)), .inl .iadd, .inl .iaload, .inl (.aload 0), .inl (.iload 4), .inr (.inl (.int 2)), .inl .iadd, .inl .iaload, .inr (.inr (11, [846])), .inr (.inl (.int 1)), .inr (.inr (10, [847])), .inr (.inl (.int 0)), .inr (.inr (41, [166, 11])), .inl (.aload 2), .inl (.aload 0), .inl (.iload 4), .inr (.inl (.int 1)), .inl .iadd, .inl .iaload, .inl (.aload 0), .inl (.iload 4), .inr (.inl (.int 2)), .inl .iadd, .inl .iaload, .inr (.inr (11, [862])), .inr (.inl (.int 1)), .inr (.inr (10, [863])), .inr (.inl (.int 0)), .inr (.inr (41, [292, 12])), .inr (.inr (21, [884])), .inr (.inl (.int 0)), .inr (.inr (91, [])), .inl (.aload 1), .inl (.aload 0), .inl (.iload 4), .inr (.inl (.int 1)), .inl .iadd, .inl .iaload, .inr (.inr (41, [167, 11])), .inl (.aload 2), .inl (.aload 0), .inl (.iload 4), .inr (.inl (.int 1)), .inl .iadd, .inl .iaload, .inr (.inr (41, [294, 12])), .inr (.inr (21, [884])), .inr (.inl (.int 0)), .inr (.inr (91, [])), .inr (.inr (83, [4])), .inr (.inr (10, [13])), .inr (.inl (.int 1)), .inr (.inr (91, []))]
def P_L_law : List Nat := [0, 3, 4, 7, 8, 11, 12, 15, 16, 17, 19, 20, 21, 23, 25, 26, 27, 29, 30, 33, 34, 36, 37, 39, 40, 212, 213, 214, 216, 217, 218, 219, 220, 222, 223, 224, 226, 227, 228, 229, 230, 233, 234, 235, 236, 238, 239, 240, 241, 242, 244, 245, 246, 248, 249, 250, 251, 252, 255, 256, 257, 258, 260, 261, 262, 263, 264, 266, 267, 268, 270, 272, 273, 274, 275, 278, 279, 280, 283, 284, 285, 287, 288, 289, 290, 291, 293, 294, 295, 297, 298, 299, 300, 301, 304, 305, 306, 307, 309, 310, 311, 312, 313, 315, 316, 317, 319, 320, 321, 322, 323, 326, 327, 328, 329, 331, 332, 333, 334, 335, 337, 338, 339, 341, 343, 344, 345, 346, 349, 350, 351, 354, 357, 358, 359, 360, 363, 364, 367, 370, 371, 372, 373, 376, 377, 380, 383, 384, 385, 386, 387, 389, 390, 391, 392, 393, 395, 396, 397, 398, 401, 402, 403, 405, 406, 407, 408, 409, 411, 412, 413, 414, 417, 420, 421, 422, 423, 424, 426, 427, 428, 429, 430, 432, 433, 434, 435, 438, 439, 440, 442, 443, 444, 445, 446, 448, 449, 450, 451, 454, 457, 458, 459, 460, 461, 463, 464, 465, 466, 467, 469, 470, 471, 472, 475, 476, 477, 479, 480, 481, 482, 483, 485, 486, 487, 488, 491, 494, 495, 496, 497, 498, 500, 501, 502, 503, 504, 506, 507, 508, 509, 512, 513, 514, 516, 517, 518, 519, 520, 522, 523, 524, 525, 528, 531, 532, 533, 534, 535, 537, 538, 539, 540, 543, 544, 545, 547, 548, 549, 550, 553, 556, 557, 558, 559, 560, 562, 563, 564, 565, 566, 568, 569, 570, 571, 574, 575, 576, 578, 579, 580, 581, 582, 584, 585, 586, 587, 590, 593, 594, 595, 596, 599, 600, 603, 606, 607, 608, 609, 612, 613, 616, 619, 620, 621, 622, 623, 625, 626, 627, 628, 631, 632, 633, 635, 636, 637, 638, 641, 644, 645, 646, 647, 648, 650, 651, 652, 653, 656, 657, 658, 660, 661, 662, 663, 666, 669, 670, 671, 672, 673, 675, 676, 677, 678, 679, 681, 682, 683, 684, 687, 688, 689, 691, 692, 693, 694, 695, 697, 698, 699, 700, 703, 706, 707, 708, 709, 712, 713, 716, 719, 720, 721, 722, 725, 726, 729, 732, 733, 734, 735, 736, 738, 739, 740, 741, 744, 745, 746, 748, 749, 750, 751, 754, 757, 758, 759, 760, 761, 763, 764, 765, 766, 769, 770, 771, 773, 774, 775, 776, 779, 782, 783, 784, 785, 786, 788, 789, 790, 791, 792, 794, 795, 796, 797, 798, 800, 801, 802, 803, 806, 807, 808, 810, 811, 812, 813, 814, 816, 817, 818, 819, 820, 822, 823, 824, 825, 828, 831, 832, 833, 834, 835, 837, 838, 839, 840, 841, 843, 844, 845, 846, 847, 849, 850, 851, 852, 855, 856, 857, 859, 860, 861, 862, 863, 865, 866, 867, 868, 869, 871, 872, 873, 874, 877, 880, 881, 882, 883, 884, 886, 887, 888, 889, 892, 893, 894, 896, 897, 898, 899, 902, 905, 906, 907, 908, 911, 912, 915, 918, 919, 920, 921, 924, 925, 928, 931, 932, 933, 934, 937, 938, 941, 944, 945, 946, 947, 948, 950, 951, 952, 953, 954, 956, 957, 958, 959, 960, 962, 963, 964, 965, 968, 969, 972, 973, 976, 977, 978, 980, 981, 982, 983, 984, 986, 987, 988, 989, 990, 992, 993, 994, 995, 998, 999, 1002, 1003, 1006, 1009, 1010, 1011, 1012, 1015, 1016, 1019, 1022, 1023, 1024, 1025, 1028, 1029, 1032, 1035, 1036, 1037, 1038, 1039, 1041, 1042, 1043, 1044, 1045, 1047, 1048, 1049, 1050, 1053, 1054, 1055, 1057, 1058, 1059, 1060, 1061, 1063, 1064, 1065, 1066, 1069, 1072, 1073, 1074, 1075, 1076, 1078, 1079, 1080, 1081, 1084, 1085, 1086, 1088, 1089, 1090, 1091, 1094, 1097, 1098, 1099, 1100, 1103, 1104, 1107, 1110, 1111, 1112, 1113, 1116, 1117, 1120, 1123, 1124, 1125, 1126, 1127, 1129, 1130, 1131, 1132, 1135, 1136, 1137, 1139, 1140, 1141, 1142, 1145, 1148, 1149, 1150, 1151, 1154, 1155, 1158, 1161, 1162, 1163, 1164, 1165, 1167, 1168, 1169, 1170, 1173, 1174, 1175, 1177, 1178, 1179, 1180, 1183, 1186, 1187, 1188, 1189, 1190, 1192, 1193, 1194, 1195, 1196, 1198, 1199, 1200, 1201, 1202, 1204, 1205, 1206, 1207, 1210, 1211, 1212, 1214, 1215, 1216, 1217, 1218, 1220, 1221, 1222, 1223, 1224, 1226, 1227, 1228, 1229, 1232, 1235, 1236, 1237, 1238, 1239, 1241, 1242, 1243, 1244, 1245, 1247, 1248, 1249, 1250, 1251, 1253, 1254, 1255, 1256, 1257, 1259, 1260, 1261, 1262, 1263, 1266, 1268, 1269, 1270, 1272, 1273, 1274, 1275, 1276, 1278, 1279, 1280, 1281, 1282, 1284, 1285, 1286, 1287, 1288, 1290, 1291, 1292, 1293, 1296, 1298, 1299, 1302, 1304, 1307, 1308, 1309, 1311, 1314, 1315, 1316, 1317, 1319, 1320, 1321, 1324, 1325, 1326, 1329, 1330, 1331, 1333, 1334, 1335, 1336, 1337, 1339, 1340, 1341, 1342, 1343, 1345, 1346, 1347, 1348, 1351, 1352, 1353, 1355, 1356, 1357, 1358, 1359, 1361, 1362, 1363, 1364, 1365, 1367, 1368, 1369, 1370, 1373, 1376, 1377, 1378, 1379, 1380, 1382, 1383, 1384, 1385, 1386, 1388, 1389, 1390, 1391, 1394, 1395, 1398, 1399, 1402, 1403, 1404, 1406, 1407, 1408, 1409, 1410, 1412, 1413, 1414, 1415, 1418, 1419, 1422, 1423, 1426, 1429, 1430, 1431, 1432, 1433, 1435, 1436, 1437, 1438, 1441, 1442, 1443, 1445, 1446, 1447, 1448, 1451, 1454, 1455, 1456, 1459, 1462, 1463, 1464]
abbrev M_J6_bitCount_0f7a4 : xMeth := (1, 1, K_J6_bitCount_0f7a4)
abbrev n_J6_bitCount_0f7a4 : Nat := 0
abbrev M_J7_fill_53178 : xMeth := (2, 4, K_J7_fill_53178)
abbrev n_J7_fill_53178 : Nat := 1
abbrev M_X0_init : xMeth := (1, 1, K_X0_init)
abbrev n_X0_init : Nat := 2
abbrev M_X0_hoursTillGone : xMeth := (4, 4, K_X0_hoursTillGone)
abbrev n_X0_hoursTillGone : Nat := 3
abbrev M_X0_playTillGone : xMeth := (4, 5, K_X0_playTillGone)
abbrev n_X0_playTillGone : Nat := 4
abbrev M_X0_freshLater : xMeth := (5, 6, K_X0_freshLater)
abbrev n_X0_freshLater : Nat := 5
abbrev M_X0_firstGone : xMeth := (3, 6, K_X0_firstGone)
abbrev n_X0_firstGone : Nat := 6
abbrev M_X0_hoursTillEmpty : xMeth := (3, 4, K_X0_hoursTillEmpty)
abbrev n_X0_hoursTillEmpty : Nat := 7
abbrev M_X0_nutmegsFor : xMeth := (6, 9, K_X0_nutmegsFor)
abbrev n_X0_nutmegsFor : Nat := 8
abbrev M_X0_putOn : xMeth := (4, 5, K_X0_putOn)
abbrev n_X0_putOn : Nat := 9
abbrev M_X0_mostKept : xMeth := (5, 11, K_X0_mostKept)
abbrev n_X0_mostKept : Nat := 10
abbrev M_X0_hourItIsGone : xMeth := (6, 7, K_X0_hourItIsGone)
abbrev n_X0_hourItIsGone : Nat := 11
abbrev M_X0_whoFits : xMeth := (4, 11, K_X0_whoFits)
abbrev n_X0_whoFits : Nat := 12
abbrev M_X0_bestQuestion : xMeth := (4, 13, K_X0_bestQuestion)
abbrev n_X0_bestQuestion : Nat := 13
abbrev M_X0_findGone : xMeth := (5, 8, K_X0_findGone)
abbrev n_X0_findGone : Nat := 14
abbrev M_X0_countLying : xMeth := (5, 7, K_X0_countLying)
abbrev n_X0_countLying : Nat := 15
abbrev M_X0_millionthsGone : xMeth := (6, 8, K_X0_millionthsGone)
abbrev n_X0_millionthsGone : Nat := 16
abbrev M_X0_isGoneBy : xMeth := (6, 8, K_X0_isGoneBy)
abbrev n_X0_isGoneBy : Nat := 17
abbrev M_X0_weightOf : xMeth := (3, 6, K_X0_weightOf)
abbrev n_X0_weightOf : Nat := 18
abbrev M_X0_season : xMeth := (6, 13, K_X0_season)
abbrev n_X0_season : Nat := 19
abbrev M_X0_goneByDeed : xMeth := (5, 5, K_X0_goneByDeed)
abbrev n_X0_goneByDeed : Nat := 20
abbrev M_X0_drawn : xMeth := (1, 2, K_X0_drawn)
abbrev n_X0_drawn : Nat := 21
abbrev M_X0_below : xMeth := (2, 3, K_X0_below)
abbrev n_X0_below : Nat := 22
abbrev M_X0_verdict : xMeth := (4, 8, K_X0_verdict)
abbrev n_X0_verdict : Nat := 23
abbrev M_X1_init : xMeth := (1, 1, K_X1_init)
abbrev n_X1_init : Nat := 24
abbrev M_X1_read : xMeth := (3, 5, K_X1_read)
abbrev n_X1_read : Nat := 25
abbrev M_X1_readLine : xMeth := (3, 6, K_X1_readLine)
abbrev n_X1_readLine : Nat := 26
abbrev M_X1_add : xMeth := (4, 4, K_X1_add)
abbrev n_X1_add : Nat := 27
abbrev M_X2_init : xMeth := (1, 1, K_X2_init)
abbrev n_X2_init : Nat := 28
abbrev M_X2_clear : xMeth := (1, 1, K_X2_clear)
abbrev n_X2_clear : Nat := 29
abbrev M_X2_isSeat : xMeth := (2, 2, K_X2_isSeat)
abbrev n_X2_isSeat : Nat := 30
abbrev M_X2_isPerson : xMeth := (2, 2, K_X2_isPerson)
abbrev n_X2_isPerson : Nat := 31
abbrev M_X2_allSeats : xMeth := (1, 1, K_X2_allSeats)
abbrev n_X2_allSeats : Nat := 32
abbrev M_X2_seatNamed : xMeth := (2, 4, K_X2_seatNamed)
abbrev n_X2_seatNamed : Nat := 33
abbrev M_X2_personNamed : xMeth := (2, 4, K_X2_personNamed)
abbrev n_X2_personNamed : Nat := 34
abbrev M_X2_hasSeatAt : xMeth := (3, 4, K_X2_hasSeatAt)
abbrev n_X2_hasSeatAt : Nat := 35
abbrev M_X2_addSeat : xMeth := (4, 6, K_X2_addSeat)
abbrev n_X2_addSeat : Nat := 36
abbrev M_X2_addPerson : xMeth := (4, 5, K_X2_addPerson)
abbrev n_X2_addPerson : Nat := 37
abbrev M_X2_addFoes : xMeth := (3, 3, K_X2_addFoes)
abbrev n_X2_addFoes : Nat := 38
abbrev M_X2_nearTo : xMeth := (2, 2, K_X2_nearTo)
abbrev n_X2_nearTo : Nat := 39
abbrev M_X2_nearAny : xMeth := (2, 4, K_X2_nearAny)
abbrev n_X2_nearAny : Nat := 40
abbrev M_X2_blockOf : xMeth := (3, 5, K_X2_blockOf)
abbrev n_X2_blockOf : Nat := 41
abbrev M_X2_foesOf : xMeth := (2, 2, K_X2_foesOf)
abbrev n_X2_foesOf : Nat := 42
abbrev M_X2_isCaptain : xMeth := (2, 2, K_X2_isCaptain)
abbrev n_X2_isCaptain : Nat := 43
abbrev M_X2_lifeOf : xMeth := (2, 2, K_X2_lifeOf)
abbrev n_X2_lifeOf : Nat := 44
abbrev M_X2_raspedBy : xMeth := (2, 2, K_X2_raspedBy)
abbrev n_X2_raspedBy : Nat := 45
abbrev M_X3_init : xMeth := (1, 1, K_X3_init)
abbrev n_X3_init : Nat := 46
abbrev M_X3_read : xMeth := (3, 5, K_X3_read)
abbrev n_X3_read : Nat := 47
abbrev M_X3_readLine : xMeth := (3, 3, K_X3_readLine)
abbrev n_X3_readLine : Nat := 48
abbrev M_X3_readSeat : xMeth := (3, 7, K_X3_readSeat)
abbrev n_X3_readSeat : Nat := 49
abbrev M_X3_readPerson : xMeth := (3, 6, K_X3_readPerson)
abbrev n_X3_readPerson : Nat := 50
abbrev M_X3_readFoe : xMeth := (3, 5, K_X3_readFoe)
abbrev n_X3_readFoe : Nat := 51
abbrev M_X3_readLasts : xMeth := (3, 3, K_X3_readLasts)
abbrev n_X3_readLasts : Nat := 52
abbrev M_X4_init : xMeth := (1, 1, K_X4_init)
abbrev n_X4_init : Nat := 53
abbrev M_X4_clear : xMeth := (1, 1, K_X4_clear)
abbrev n_X4_clear : Nat := 54
abbrev M_X4_add : xMeth := (2, 2, K_X4_add)
abbrev n_X4_add : Nat := 55
abbrev M_X4_read : xMeth := (2, 2, K_X4_read)
abbrev n_X4_read : Nat := 56
abbrev M_X4_readChoice : xMeth := (3, 6, K_X4_readChoice)
abbrev n_X4_readChoice : Nat := 57
abbrev M_X4_readTest : xMeth := (3, 5, K_X4_readTest)
abbrev n_X4_readTest : Nat := 58
abbrev M_X4_readSum : xMeth := (3, 6, K_X4_readSum)
abbrev n_X4_readSum : Nat := 59
abbrev M_X4_readProduct : xMeth := (3, 5, K_X4_readProduct)
abbrev n_X4_readProduct : Nat := 60
abbrev M_X4_readPart : xMeth := (3, 6, K_X4_readPart)
abbrev n_X4_readPart : Nat := 61
abbrev M_X4_stepOverNots : xMeth := (2, 3, K_X4_stepOverNots)
abbrev n_X4_stepOverNots : Nat := 62
abbrev M_X4_readBarePart : xMeth := (3, 5, K_X4_readBarePart)
abbrev n_X4_readBarePart : Nat := 63
abbrev M_X4_operandOf : xMeth := (1, 1, K_X4_operandOf)
abbrev n_X4_operandOf : Nat := 64
abbrev M_X4_wear : xMeth := (5, 8, K_X4_wear)
abbrev n_X4_wear : Nat := 65
abbrev M_X4_operandValue : xMeth := (5, 5, K_X4_operandValue)
abbrev n_X4_operandValue : Nat := 66
abbrev M_X4_joined : xMeth := (3, 3, K_X4_joined)
abbrev n_X4_joined : Nat := 67
abbrev M_X5_init : xMeth := (1, 2, K_X5_init)
abbrev n_X5_init : Nat := 68
abbrev M_X5_forget : xMeth := (1, 2, K_X5_forget)
abbrev n_X5_forget : Nat := 69
abbrev M_X5_keep : xMeth := (2, 2, K_X5_keep)
abbrev n_X5_keep : Nat := 70
abbrev M_X5_undoInto : xMeth := (2, 2, K_X5_undoInto)
abbrev n_X5_undoInto : Nat := 71
abbrev M_X5_layMark : xMeth := (4, 4, K_X5_layMark)
abbrev n_X5_layMark : Nat := 72
abbrev M_X5_goBackTo : xMeth := (4, 4, K_X5_goBackTo)
abbrev n_X5_goBackTo : Nat := 73
abbrev M_X6_init : xMeth := (1, 1, K_X6_init)
abbrev n_X6_init : Nat := 74
abbrev M_X6_begin : xMeth := (2, 3, K_X6_begin)
abbrev n_X6_begin : Nat := 75
abbrev M_X6_copy : xMeth := (2, 3, K_X6_copy)
abbrev n_X6_copy : Nat := 76
abbrev M_X6_isHeld : xMeth := (2, 2, K_X6_isHeld)
abbrev n_X6_isHeld : Nat := 77
abbrev M_X6_isFree : xMeth := (2, 2, K_X6_isFree)
abbrev n_X6_isFree : Nat := 78
abbrev M_X6_freshOn : xMeth := (2, 2, K_X6_freshOn)
abbrev n_X6_freshOn : Nat := 79
abbrev M_X6_pocketOf : xMeth := (2, 2, K_X6_pocketOf)
abbrev n_X6_pocketOf : Nat := 80
abbrev M_X6_chairOf : xMeth := (2, 2, K_X6_chairOf)
abbrev n_X6_chairOf : Nat := 81
abbrev M_X6_freeSeats : xMeth := (2, 4, K_X6_freeSeats)
abbrev n_X6_freeSeats : Nat := 82
abbrev M_X6_heldSeats : xMeth := (1, 3, K_X6_heldSeats)
abbrev n_X6_heldSeats : Nat := 83
abbrev M_X6_laidBy : xMeth := (2, 4, K_X6_laidBy)
abbrev n_X6_laidBy : Nat := 84
abbrev M_X6_nutmegsOf : xMeth := (2, 2, K_X6_nutmegsOf)
abbrev n_X6_nutmegsOf : Nat := 85
abbrev M_X6_inPockets : xMeth := (1, 3, K_X6_inPockets)
abbrev n_X6_inPockets : Nat := 86
abbrev M_X6_sittersOn : xMeth := (2, 4, K_X6_sittersOn)
abbrev n_X6_sittersOn : Nat := 87
abbrev M_X6_ownersOn : xMeth := (2, 4, K_X6_ownersOn)
abbrev n_X6_ownersOn : Nat := 88
abbrev M_X6_couldSitOn : xMeth := (3, 5, K_X6_couldSitOn)
abbrev n_X6_couldSitOn : Nat := 89
abbrev M_X6_canBe : xMeth := (5, 5, K_X6_canBe)
abbrev n_X6_canBe : Nat := 90
abbrev M_X6_act : xMeth := (5, 5, K_X6_act)
abbrev n_X6_act : Nat := 91
abbrev M_X6_riseUp : xMeth := (2, 3, K_X6_riseUp)
abbrev n_X6_riseUp : Nat := 92
abbrev M_X6_sitDown : xMeth := (3, 3, K_X6_sitDown)
abbrev n_X6_sitDown : Nat := 93
abbrev M_X6_put : xMeth := (4, 4, K_X6_put)
abbrev n_X6_put : Nat := 94
abbrev M_X6_takeAway : xMeth := (2, 2, K_X6_takeAway)
abbrev n_X6_takeAway : Nat := 95
abbrev M_X6_lessen : xMeth := (3, 3, K_X6_lessen)
abbrev n_X6_lessen : Nat := 96
abbrev M_X6_passHour : xMeth := (3, 7, K_X6_passHour)
abbrev n_X6_passHour : Nat := 97
abbrev M_X7_init : xMeth := (1, 1, K_X7_init)
abbrev n_X7_init : Nat := 98
abbrev M_X7_add : xMeth := (4, 4, K_X7_add)
abbrev n_X7_add : Nat := 99
abbrev M_X7_copy : xMeth := (2, 3, K_X7_copy)
abbrev n_X7_copy : Nat := 100
abbrev M_X8_init : xMeth := (1, 1, K_X8_init)
abbrev n_X8_init : Nat := 101
abbrev M_X8_chairOf : xMeth := (2, 2, K_X8_chairOf)
abbrev n_X8_chairOf : Nat := 102
abbrev M_X8_keepRow : xMeth := (1, 2, K_X8_keepRow)
abbrev n_X8_keepRow : Nat := 103
abbrev M_X8_findMost : xMeth := (3, 3, K_X8_findMost)
abbrev n_X8_findMost : Nat := 104
abbrev M_X8_seatFrom : xMeth := (6, 8, K_X8_seatFrom)
abbrev n_X8_seatFrom : Nat := 105
abbrev M_X8_findPlaced : xMeth := (2, 2, K_X8_findPlaced)
abbrev n_X8_findPlaced : Nat := 106
abbrev M_X8_placeFrom : xMeth := (4, 6, K_X8_placeFrom)
abbrev n_X8_placeFrom : Nat := 107
abbrev M_X8_chairsOfFoes : xMeth := (3, 5, K_X8_chairsOfFoes)
abbrev n_X8_chairsOfFoes : Nat := 108
abbrev M_X9_init : xMeth := (1, 1, K_X9_init)
abbrev n_X9_init : Nat := 109
abbrev M_X9_append : xMeth := (2, 6, K_X9_append)
abbrev n_X9_append : Nat := 110
abbrev M_X9_signAt : xMeth := (2, 2, K_X9_signAt)
abbrev n_X9_signAt : Nat := 111
abbrev M_X9_kindAt : xMeth := (2, 3, K_X9_kindAt)
abbrev n_X9_kindAt : Nat := 112
abbrev M_X10_init : xMeth := (1, 1, K_X10_init)
abbrev n_X10_init : Nat := 113
abbrev M_X10_begin : xMeth := (1, 1, K_X10_begin)
abbrev n_X10_begin : Nat := 114
abbrev M_X10_goesOn : xMeth := (1, 1, K_X10_goesOn)
abbrev n_X10_goesOn : Nat := 115
abbrev M_X10_step : xMeth := (1, 2, K_X10_step)
abbrev n_X10_step : Nat := 116
abbrev M_X10_fail : xMeth := (2, 2, K_X10_fail)
abbrev n_X10_fail : Nat := 117
abbrev M_X10_is : xMeth := (2, 3, K_X10_is)
abbrev n_X10_is : Nat := 118
abbrev M_X10_isSign : xMeth := (2, 2, K_X10_isSign)
abbrev n_X10_isSign : Nat := 119
abbrev M_X10_passes : xMeth := (2, 2, K_X10_passes)
abbrev n_X10_passes : Nat := 120
abbrev M_X10_passesSign : xMeth := (2, 2, K_X10_passesSign)
abbrev n_X10_passesSign : Nat := 121
abbrev M_X10_hasNumber : xMeth := (3, 3, K_X10_hasNumber)
abbrev n_X10_hasNumber : Nat := 122
abbrev M_X10_hasNewName : xMeth := (2, 3, K_X10_hasNewName)
abbrev n_X10_hasNewName : Nat := 123
abbrev M_X10_hasPerson : xMeth := (2, 2, K_X10_hasPerson)
abbrev n_X10_hasPerson : Nat := 124
abbrev M_X10_hasSeat : xMeth := (2, 2, K_X10_hasSeat)
abbrev n_X10_hasSeat : Nat := 125
abbrev M_X10_isName : xMeth := (1, 1, K_X10_isName)
abbrev n_X10_isName : Nat := 126
abbrev M_X10_personKind : xMeth := (1, 1, K_X10_personKind)
abbrev n_X10_personKind : Nat := 127
abbrev M_X10_verb : xMeth := (1, 1, K_X10_verb)
abbrev n_X10_verb : Nat := 128
abbrev M_X11_init : xMeth := (1, 1, K_X11_init)
abbrev n_X11_init : Nat := 129
abbrev M_X11_feed : xMeth := (4, 7, K_X11_feed)
abbrev n_X11_feed : Nat := 130
abbrev M_X11_hall : xMeth := (1, 3, K_X11_hall)
abbrev n_X11_hall : Nat := 131
abbrev M_X11_evening : xMeth := (1, 3, K_X11_evening)
abbrev n_X11_evening : Nat := 132
abbrev M_X11_seat : xMeth := (3, 3, K_X11_seat)
abbrev n_X11_seat : Nat := 133
abbrev M_X11_person : xMeth := (3, 3, K_X11_person)
abbrev n_X11_person : Nat := 134
abbrev M_X11_lay : xMeth := (3, 3, K_X11_lay)
abbrev n_X11_lay : Nat := 135
abbrev M_X11_sit : xMeth := (3, 3, K_X11_sit)
abbrev n_X11_sit : Nat := 136
abbrev M_X11_rise : xMeth := (2, 3, K_X11_rise)
abbrev n_X11_rise : Nat := 137
abbrev M_X11_grate : xMeth := (3, 3, K_X11_grate)
abbrev n_X11_grate : Nat := 138
abbrev M_X11_hour : xMeth := (1, 1, K_X11_hour)
abbrev n_X11_hour : Nat := 139
abbrev M_X11_undo : xMeth := (1, 1, K_X11_undo)
abbrev n_X11_undo : Nat := 140
abbrev M_X11_judged : xMeth := (2, 2, K_X11_judged)
abbrev n_X11_judged : Nat := 141
abbrev M_X11_left : xMeth := (2, 2, K_X11_left)
abbrev n_X11_left : Nat := 142
abbrev M_X11_later : xMeth := (3, 3, K_X11_later)
abbrev n_X11_later : Nat := 143
abbrev M_X11_first : xMeth := (1, 1, K_X11_first)
abbrev n_X11_first : Nat := 144
abbrev M_X11_empties : xMeth := (1, 1, K_X11_empties)
abbrev n_X11_empties : Nat := 145
abbrev M_X11_most : xMeth := (2, 2, K_X11_most)
abbrev n_X11_most : Nat := 146
abbrev M_X11_could : xMeth := (2, 2, K_X11_could)
abbrev n_X11_could : Nat := 147
abbrev M_X11_needs : xMeth := (4, 4, K_X11_needs)
abbrev n_X11_needs : Nat := 148
abbrev M_X11_keeps : xMeth := (4, 5, K_X11_keeps)
abbrev n_X11_keeps : Nat := 149
abbrev M_X11_placed : xMeth := (2, 3, K_X11_placed)
abbrev n_X11_placed : Nat := 150
abbrev M_X11_peace : xMeth := (1, 1, K_X11_peace)
abbrev n_X11_peace : Nat := 151
abbrev M_X11_war : xMeth := (1, 1, K_X11_war)
abbrev n_X11_war : Nat := 152
abbrev M_X11_safe : xMeth := (1, 3, K_X11_safe)
abbrev n_X11_safe : Nat := 153
abbrev M_X11_see : xMeth := (4, 4, K_X11_see)
abbrev n_X11_see : Nat := 154
abbrev M_X11_who : xMeth := (1, 1, K_X11_who)
abbrev n_X11_who : Nat := 155
abbrev M_X11_ask : xMeth := (1, 1, K_X11_ask)
abbrev n_X11_ask : Nat := 156
abbrev M_X11_far : xMeth := (3, 5, K_X11_far)
abbrev n_X11_far : Nat := 157
abbrev M_X11_blocks : xMeth := (2, 8, K_X11_blocks)
abbrev n_X11_blocks : Nat := 158
abbrev M_X11_rich : xMeth := (1, 5, K_X11_rich)
abbrev n_X11_rich : Nat := 159
abbrev M_X11_lone : xMeth := (1, 3, K_X11_lone)
abbrev n_X11_lone : Nat := 160
abbrev M_X11_row : xMeth := (2, 4, K_X11_row)
abbrev n_X11_row : Nat := 161
abbrev M_X11_stands : xMeth := (1, 3, K_X11_stands)
abbrev n_X11_stands : Nat := 162
abbrev M_X11_guards : xMeth := (2, 6, K_X11_guards)
abbrev n_X11_guards : Nat := 163
abbrev M_X11_chance : xMeth := (4, 4, K_X11_chance)
abbrev n_X11_chance : Nat := 164
abbrev M_X11_seasons : xMeth := (4, 4, K_X11_seasons)
abbrev n_X11_seasons : Nat := 165
abbrev M_X11_mark : xMeth := (3, 3, K_X11_mark)
abbrev n_X11_mark : Nat := 166
abbrev M_X11_count : xMeth := (2, 2, K_X11_count)
abbrev n_X11_count : Nat := 167
abbrev M_X11_isWithin : xMeth := (3, 3, K_X11_isWithin)
abbrev n_X11_isWithin : Nat := 168
abbrev M_X11_done : xMeth := (4, 4, K_X11_done)
abbrev n_X11_done : Nat := 169
abbrev M_X11_pairsThatSitNear : xMeth := (2, 6, K_X11_pairsThatSitNear)
abbrev n_X11_pairsThatSitNear : Nat := 170
abbrev M_X11_isRest : xMeth := (4, 6, K_X11_isRest)
abbrev n_X11_isRest : Nat := 171
abbrev M_X11_gain : xMeth := (5, 5, K_X11_gain)
abbrev n_X11_gain : Nat := 172
abbrev M_X12_thrown : xMeth := (1, 1, K_X12_thrown)
abbrev n_X12_thrown : Nat := 173
abbrev M_X12_feed : xMeth := (4, 7, K_X12_feed)
abbrev n_X12_feed : Nat := 174
abbrev M_X12_lay : xMeth := (2, 5, K_X12_lay)
abbrev n_X12_lay : Nat := 175
abbrev M_X12_init : xMeth := (1, 1, K_X12_init)
abbrev n_X12_init : Nat := 176
abbrev M_X12_isLetter : xMeth := (1, 1, K_X12_isLetter)
abbrev n_X12_isLetter : Nat := 177
abbrev M_X12_isDigit : xMeth := (1, 1, K_X12_isDigit)
abbrev n_X12_isDigit : Nat := 178
abbrev M_X12_rank : xMeth := (1, 1, K_X12_rank)
abbrev n_X12_rank : Nat := 179
abbrev M_X12_isSignOf : xMeth := (1, 1, K_X12_isSignOf)
abbrev n_X12_isSignOf : Nat := 180
abbrev M_X12_cutAll : xMeth := (1, 7, K_X12_cutAll)
abbrev n_X12_cutAll : Nat := 181
abbrev M_X12_wrong : xMeth := (2, 2, K_X12_wrong)
abbrev n_X12_wrong : Nat := 182
abbrev M_X12_isSign : xMeth := (2, 2, K_X12_isSign)
abbrev n_X12_isSign : Nat := 183
abbrev M_X12_isWord : xMeth := (2, 2, K_X12_isWord)
abbrev n_X12_isWord : Nat := 184
abbrev M_X12_takeSign : xMeth := (2, 2, K_X12_takeSign)
abbrev n_X12_takeSign : Nat := 185
abbrev M_X12_hasSign : xMeth := (2, 3, K_X12_hasSign)
abbrev n_X12_hasSign : Nat := 186
abbrev M_X12_hasWord : xMeth := (2, 3, K_X12_hasWord)
abbrev n_X12_hasWord : Nat := 187
abbrev M_X12_takeWord : xMeth := (2, 2, K_X12_takeWord)
abbrev n_X12_takeWord : Nat := 188
abbrev M_X12_within : xMeth := (3, 3, K_X12_within)
abbrev n_X12_within : Nat := 189
abbrev M_X12_standsAsAlways : xMeth := (2, 3, K_X12_standsAsAlways)
abbrev n_X12_standsAsAlways : Nat := 190
abbrev M_X12_takeNumber : xMeth := (3, 3, K_X12_takeNumber)
abbrev n_X12_takeNumber : Nat := 191
abbrev M_X12_takeAfter : xMeth := (4, 4, K_X12_takeAfter)
abbrev n_X12_takeAfter : Nat := 192
abbrev M_X12_wordHere : xMeth := (3, 5, K_X12_wordHere)
abbrev n_X12_wordHere : Nat := 193
abbrev M_X12_takeOne : xMeth := (3, 4, K_X12_takeOne)
abbrev n_X12_takeOne : Nat := 194
abbrev M_X12_isName : xMeth := (1, 1, K_X12_isName)
abbrev n_X12_isName : Nat := 195
abbrev M_X12_nameAt : xMeth := (2, 3, K_X12_nameAt)
abbrev n_X12_nameAt : Nat := 196
abbrev M_X12_takeTold : xMeth := (4, 5, K_X12_takeTold)
abbrev n_X12_takeTold : Nat := 197
abbrev M_X12_hall : xMeth := (1, 2, K_X12_hall)
abbrev n_X12_hall : Nat := 198
abbrev M_X12_readLine : xMeth := (1, 4, K_X12_readLine)
abbrev n_X12_readLine : Nat := 199
abbrev M_X12_readSeat : xMeth := (1, 6, K_X12_readSeat)
abbrev n_X12_readSeat : Nat := 200
abbrev M_X12_readName : xMeth := (4, 5, K_X12_readName)
abbrev n_X12_readName : Nat := 201
abbrev M_X12_readOnce : xMeth := (1, 2, K_X12_readOnce)
abbrev n_X12_readOnce : Nat := 202
abbrev M_X12_evening : xMeth := (1, 4, K_X12_evening)
abbrev n_X12_evening : Nat := 203
abbrev M_X12_emit : xMeth := (3, 3, K_X12_emit)
abbrev n_X12_emit : Nat := 204
abbrev M_X12_whole : xMeth := (2, 3, K_X12_whole)
abbrev n_X12_whole : Nat := 205
abbrev M_X12_test : xMeth := (2, 3, K_X12_test)
abbrev n_X12_test : Nat := 206
abbrev M_X12_sums : xMeth := (2, 3, K_X12_sums)
abbrev n_X12_sums : Nat := 207
abbrev M_X12_products : xMeth := (2, 2, K_X12_products)
abbrev n_X12_products : Nat := 208
abbrev M_X12_takePart : xMeth := (2, 4, K_X12_takePart)
abbrev n_X12_takePart : Nat := 209
abbrev M_X12_worthAt : xMeth := (2, 5, K_X12_worthAt)
abbrev n_X12_worthAt : Nat := 210
abbrev M_X12_both : xMeth := (3, 3, K_X12_both)
abbrev n_X12_both : Nat := 211
abbrev M_X12_copies : xMeth := (4, 5, K_X12_copies)
abbrev n_X12_copies : Nat := 212
abbrev M_X12_starts : xMeth := (2, 3, K_X12_starts)
abbrev n_X12_starts : Nat := 213
abbrev M_X12_begins : xMeth := (1, 5, K_X12_begins)
abbrev n_X12_begins : Nat := 214
abbrev M_X12_keepsNow : xMeth := (1, 2, K_X12_keepsNow)
abbrev n_X12_keepsNow : Nat := 215
abbrev M_X12_seats : xMeth := (1, 1, K_X12_seats)
abbrev n_X12_seats : Nat := 216
abbrev M_X12_persons : xMeth := (1, 1, K_X12_persons)
abbrev n_X12_persons : Nat := 217
abbrev M_X12_seatOf : xMeth := (3, 3, K_X12_seatOf)
abbrev n_X12_seatOf : Nat := 218
abbrev M_X12_personOf : xMeth := (3, 3, K_X12_personOf)
abbrev n_X12_personOf : Nat := 219
abbrev M_X12_isSeat : xMeth := (2, 2, K_X12_isSeat)
abbrev n_X12_isSeat : Nat := 220
abbrev M_X12_isPerson : xMeth := (2, 2, K_X12_isPerson)
abbrev n_X12_isPerson : Nat := 221
abbrev M_X12_bits : xMeth := (1, 3, K_X12_bits)
abbrev n_X12_bits : Nat := 222
abbrev M_X12_lifeOf : xMeth := (2, 4, K_X12_lifeOf)
abbrev n_X12_lifeOf : Nat := 223
abbrev M_X12_areFoes : xMeth := (3, 3, K_X12_areFoes)
abbrev n_X12_areFoes : Nat := 224
abbrev M_X12_sitterOn : xMeth := (3, 5, K_X12_sitterOn)
abbrev n_X12_sitterOn : Nat := 225
abbrev M_X12_isFree : xMeth := (3, 3, K_X12_isFree)
abbrev n_X12_isFree : Nat := 226
abbrev M_X12_freeSeats : xMeth := (2, 4, K_X12_freeSeats)
abbrev n_X12_freeSeats : Nat := 227
abbrev M_X12_laidSeats : xMeth := (2, 4, K_X12_laidSeats)
abbrev n_X12_laidSeats : Nat := 228
abbrev M_X12_laidBy : xMeth := (3, 5, K_X12_laidBy)
abbrev n_X12_laidBy : Nat := 229
abbrev M_X12_nutmegsOf : xMeth := (3, 3, K_X12_nutmegsOf)
abbrev n_X12_nutmegsOf : Nat := 230
abbrev M_X12_puts : xMeth := (4, 4, K_X12_puts)
abbrev n_X12_puts : Nat := 231
abbrev M_X12_clears : xMeth := (3, 3, K_X12_clears)
abbrev n_X12_clears : Nat := 232
abbrev M_X12_mayLay : xMeth := (4, 4, K_X12_mayLay)
abbrev n_X12_mayLay : Nat := 233
abbrev M_X12_maySit : xMeth := (4, 4, K_X12_maySit)
abbrev n_X12_maySit : Nat := 234
abbrev M_X12_mayGrate : xMeth := (4, 6, K_X12_mayGrate)
abbrev n_X12_mayGrate : Nat := 235
abbrev M_X12_lays : xMeth := (4, 4, K_X12_lays)
abbrev n_X12_lays : Nat := 236
abbrev M_X12_sits : xMeth := (4, 4, K_X12_sits)
abbrev n_X12_sits : Nat := 237
abbrev M_X12_isGoneBy : xMeth := (4, 5, K_X12_isGoneBy)
abbrev n_X12_isGoneBy : Nat := 238
abbrev M_X12_grates : xMeth := (4, 5, K_X12_grates)
abbrev n_X12_grates : Nat := 239
abbrev M_X12_passes : xMeth := (3, 7, K_X12_passes)
abbrev n_X12_passes : Nat := 240
abbrev M_X12_sitting : xMeth := (2, 4, K_X12_sitting)
abbrev n_X12_sitting : Nat := 241
abbrev M_X12_seat : xMeth := (3, 3, K_X12_seat)
abbrev n_X12_seat : Nat := 242
abbrev M_X12_person : xMeth := (3, 3, K_X12_person)
abbrev n_X12_person : Nat := 243
abbrev M_X12_lay_ : xMeth := (3, 3, K_X12_lay_)
abbrev n_X12_lay_ : Nat := 244
abbrev M_X12_sit : xMeth := (3, 3, K_X12_sit)
abbrev n_X12_sit : Nat := 245
abbrev M_X12_rise : xMeth := (2, 3, K_X12_rise)
abbrev n_X12_rise : Nat := 246
abbrev M_X12_grate : xMeth := (3, 3, K_X12_grate)
abbrev n_X12_grate : Nat := 247
abbrev M_X12_hour : xMeth := (1, 1, K_X12_hour)
abbrev n_X12_hour : Nat := 248
abbrev M_X12_undo : xMeth := (1, 1, K_X12_undo)
abbrev n_X12_undo : Nat := 249
abbrev M_X12_mayBe : xMeth := (4, 4, K_X12_mayBe)
abbrev n_X12_mayBe : Nat := 250
abbrev M_X12_judged : xMeth := (2, 10, K_X12_judged)
abbrev n_X12_judged : Nat := 251
abbrev M_X12_triesNow : xMeth := (1, 1, K_X12_triesNow)
abbrev n_X12_triesNow : Nat := 252
abbrev M_X12_goneIn : xMeth := (3, 4, K_X12_goneIn)
abbrev n_X12_goneIn : Nat := 253
abbrev M_X12_left : xMeth := (2, 3, K_X12_left)
abbrev n_X12_left : Nat := 254
abbrev M_X12_later : xMeth := (3, 4, K_X12_later)
abbrev n_X12_later : Nat := 255
abbrev M_X12_first : xMeth := (1, 4, K_X12_first)
abbrev n_X12_first : Nat := 256
abbrev M_X12_empties : xMeth := (1, 2, K_X12_empties)
abbrev n_X12_empties : Nat := 257
abbrev M_X12_couldNow : xMeth := (2, 4, K_X12_couldNow)
abbrev n_X12_couldNow : Nat := 258
abbrev M_X12_doesStand : xMeth := (2, 2, K_X12_doesStand)
abbrev n_X12_doesStand : Nat := 259
abbrev M_X12_seatsFrom : xMeth := (3, 5, K_X12_seatsFrom)
abbrev n_X12_seatsFrom : Nat := 260
abbrev M_X12_most : xMeth := (2, 2, K_X12_most)
abbrev n_X12_most : Nat := 261
abbrev M_X12_could : xMeth := (2, 2, K_X12_could)
abbrev n_X12_could : Nat := 262
abbrev M_X12_stands : xMeth := (1, 3, K_X12_stands)
abbrev n_X12_stands : Nat := 263
abbrev M_X12_holdsBy : xMeth := (4, 8, K_X12_holdsBy)
abbrev n_X12_holdsBy : Nat := 264
abbrev M_X12_needs : xMeth := (4, 4, K_X12_needs)
abbrev n_X12_needs : Nat := 265
abbrev M_X12_keeps : xMeth := (4, 8, K_X12_keeps)
abbrev n_X12_keeps : Nat := 266
abbrev M_X12_placesFrom : xMeth := (3, 6, K_X12_placesFrom)
abbrev n_X12_placesFrom : Nat := 267
abbrev M_X12_placed : xMeth := (2, 2, K_X12_placed)
abbrev n_X12_placed : Nat := 268
abbrev M_X12_pairsOf : xMeth := (2, 7, K_X12_pairsOf)
abbrev n_X12_pairsOf : Nat := 269
abbrev M_X12_peace : xMeth := (1, 1, K_X12_peace)
abbrev n_X12_peace : Nat := 270
abbrev M_X12_war : xMeth := (1, 1, K_X12_war)
abbrev n_X12_war : Nat := 271
abbrev M_X12_isFoeNear : xMeth := (3, 5, K_X12_isFoeNear)
abbrev n_X12_isFoeNear : Nat := 272
abbrev M_X12_safe : xMeth := (1, 3, K_X12_safe)
abbrev n_X12_safe : Nat := 273
abbrev M_X12_guards : xMeth := (2, 7, K_X12_guards)
abbrev n_X12_guards : Nat := 274
abbrev M_X12_see : xMeth := (4, 5, K_X12_see)
abbrev n_X12_see : Nat := 275
abbrev M_X12_goneLaid : xMeth := (3, 3, K_X12_goneLaid)
abbrev n_X12_goneLaid : Nat := 276
abbrev M_X12_whoNow : xMeth := (1, 6, K_X12_whoNow)
abbrev n_X12_whoNow : Nat := 277
abbrev M_X12_who : xMeth := (1, 1, K_X12_who)
abbrev n_X12_who : Nat := 278
abbrev M_X12_ask : xMeth := (1, 10, K_X12_ask)
abbrev n_X12_ask : Nat := 279
abbrev M_X12_around : xMeth := (4, 8, K_X12_around)
abbrev n_X12_around : Nat := 280
abbrev M_X12_far : xMeth := (3, 4, K_X12_far)
abbrev n_X12_far : Nat := 281
abbrev M_X12_blocks : xMeth := (2, 7, K_X12_blocks)
abbrev n_X12_blocks : Nat := 282
abbrev M_X12_rich : xMeth := (1, 3, K_X12_rich)
abbrev n_X12_rich : Nat := 283
abbrev M_X12_lone : xMeth := (1, 3, K_X12_lone)
abbrev n_X12_lone : Nat := 284
abbrev M_X12_row : xMeth := (2, 4, K_X12_row)
abbrev n_X12_row : Nat := 285
abbrev M_X12_chance : xMeth := (4, 13, K_X12_chance)
abbrev n_X12_chance : Nat := 286
abbrev M_X12_getsBy : xMeth := (5, 5, K_X12_getsBy)
abbrev n_X12_getsBy : Nat := 287
abbrev M_X12_rests : xMeth := (5, 12, K_X12_rests)
abbrev n_X12_rests : Nat := 288
abbrev M_X12_draw : xMeth := (2, 2, K_X12_draw)
abbrev n_X12_draw : Nat := 289
abbrev M_X12_drawsDeed : xMeth := (1, 4, K_X12_drawsDeed)
abbrev n_X12_drawsDeed : Nat := 290
abbrev M_X12_seasons : xMeth := (4, 7, K_X12_seasons)
abbrev n_X12_seasons : Nat := 291
abbrev M_X12_mark : xMeth := (3, 3, K_X12_mark)
abbrev n_X12_mark : Nat := 292
abbrev M_X12_inPockets : xMeth := (1, 3, K_X12_inPockets)
abbrev n_X12_inPockets : Nat := 293
abbrev M_X12_count : xMeth := (2, 2, K_X12_count)
abbrev n_X12_count : Nat := 294
abbrev M_L_law : xMeth := (1, 7, K_L_law)
abbrev n_L_law : Nat := 295
def xMT : List xMeth := [M_J6_bitCount_0f7a4, M_J7_fill_53178, M_X0_init, M_X0_hoursTillGone, M_X0_playTillGone, M_X0_freshLater, M_X0_firstGone, M_X0_hoursTillEmpty, M_X0_nutmegsFor, M_X0_putOn, M_X0_mostKept, M_X0_hourItIsGone, M_X0_whoFits, M_X0_bestQuestion, M_X0_findGone, M_X0_countLying, M_X0_millionthsGone, M_X0_isGoneBy, M_X0_weightOf, M_X0_season, M_X0_goneByDeed, M_X0_drawn, M_X0_below, M_X0_verdict, M_X1_init, M_X1_read, M_X1_readLine, M_X1_add, M_X2_init, M_X2_clear, M_X2_isSeat, M_X2_isPerson, M_X2_allSeats, M_X2_seatNamed, M_X2_personNamed, M_X2_hasSeatAt, M_X2_addSeat, M_X2_addPerson, M_X2_addFoes, M_X2_nearTo, M_X2_nearAny, M_X2_blockOf, M_X2_foesOf, M_X2_isCaptain, M_X2_lifeOf, M_X2_raspedBy, M_X3_init, M_X3_read, M_X3_readLine, M_X3_readSeat, M_X3_readPerson, M_X3_readFoe, M_X3_readLasts, M_X4_init, M_X4_clear, M_X4_add, M_X4_read, M_X4_readChoice, M_X4_readTest, M_X4_readSum, M_X4_readProduct, M_X4_readPart, M_X4_stepOverNots, M_X4_readBarePart, M_X4_operandOf, M_X4_wear, M_X4_operandValue, M_X4_joined, M_X5_init, M_X5_forget, M_X5_keep, M_X5_undoInto, M_X5_layMark, M_X5_goBackTo, M_X6_init, M_X6_begin, M_X6_copy, M_X6_isHeld, M_X6_isFree, M_X6_freshOn, M_X6_pocketOf, M_X6_chairOf, M_X6_freeSeats, M_X6_heldSeats, M_X6_laidBy, M_X6_nutmegsOf, M_X6_inPockets, M_X6_sittersOn, M_X6_ownersOn, M_X6_couldSitOn, M_X6_canBe, M_X6_act, M_X6_riseUp, M_X6_sitDown, M_X6_put, M_X6_takeAway, M_X6_lessen, M_X6_passHour, M_X7_init, M_X7_add, M_X7_copy, M_X8_init, M_X8_chairOf, M_X8_keepRow, M_X8_findMost, M_X8_seatFrom, M_X8_findPlaced, M_X8_placeFrom, M_X8_chairsOfFoes, M_X9_init, M_X9_append, M_X9_signAt, M_X9_kindAt, M_X10_init, M_X10_begin, M_X10_goesOn, M_X10_step, M_X10_fail, M_X10_is, M_X10_isSign, M_X10_passes, M_X10_passesSign, M_X10_hasNumber, M_X10_hasNewName, M_X10_hasPerson, M_X10_hasSeat, M_X10_isName, M_X10_personKind, M_X10_verb, M_X11_init, M_X11_feed, M_X11_hall, M_X11_evening, M_X11_seat, M_X11_person, M_X11_lay, M_X11_sit, M_X11_rise, M_X11_grate, M_X11_hour, M_X11_undo, M_X11_judged, M_X11_left, M_X11_later, M_X11_first, M_X11_empties, M_X11_most, M_X11_could, M_X11_needs, M_X11_keeps, M_X11_placed, M_X11_peace, M_X11_war, M_X11_safe, M_X11_see, M_X11_who, M_X11_ask, M_X11_far, M_X11_blocks, M_X11_rich, M_X11_lone, M_X11_row, M_X11_stands, M_X11_guards, M_X11_chance, M_X11_seasons, M_X11_mark, M_X11_count, M_X11_isWithin, M_X11_done, M_X11_pairsThatSitNear, M_X11_isRest, M_X11_gain, M_X12_thrown, M_X12_feed, M_X12_lay, M_X12_init, M_X12_isLetter, M_X12_isDigit, M_X12_rank, M_X12_isSignOf, M_X12_cutAll, M_X12_wrong, M_X12_isSign, M_X12_isWord, M_X12_takeSign, M_X12_hasSign, M_X12_hasWord, M_X12_takeWord, M_X12_within, M_X12_standsAsAlways, M_X12_takeNumber, M_X12_takeAfter, M_X12_wordHere, M_X12_takeOne, M_X12_isName, M_X12_nameAt, M_X12_takeTold, M_X12_hall, M_X12_readLine, M_X12_readSeat, M_X12_readName, M_X12_readOnce, M_X12_evening, M_X12_emit, M_X12_whole, M_X12_test, M_X12_sums, M_X12_products, M_X12_takePart, M_X12_worthAt, M_X12_both, M_X12_copies, M_X12_starts, M_X12_begins, M_X12_keepsNow, M_X12_seats, M_X12_persons, M_X12_seatOf, M_X12_personOf, M_X12_isSeat, M_X12_isPerson, M_X12_bits, M_X12_lifeOf, M_X12_areFoes, M_X12_sitterOn, M_X12_isFree, M_X12_freeSeats, M_X12_laidSeats, M_X12_laidBy, M_X12_nutmegsOf, M_X12_puts, M_X12_clears, M_X12_mayLay, M_X12_maySit, M_X12_mayGrate, M_X12_lays, M_X12_sits, M_X12_isGoneBy, M_X12_grates, M_X12_passes, M_X12_sitting, M_X12_seat, M_X12_person, M_X12_lay_, M_X12_sit, M_X12_rise, M_X12_grate, M_X12_hour, M_X12_undo, M_X12_mayBe, M_X12_judged, M_X12_triesNow, M_X12_goneIn, M_X12_left, M_X12_later, M_X12_first, M_X12_empties, M_X12_couldNow, M_X12_doesStand, M_X12_seatsFrom, M_X12_most, M_X12_could, M_X12_stands, M_X12_holdsBy, M_X12_needs, M_X12_keeps, M_X12_placesFrom, M_X12_placed, M_X12_pairsOf, M_X12_peace, M_X12_war, M_X12_isFoeNear, M_X12_safe, M_X12_guards, M_X12_see, M_X12_goneLaid, M_X12_whoNow, M_X12_who, M_X12_ask, M_X12_around, M_X12_far, M_X12_blocks, M_X12_rich, M_X12_lone, M_X12_row, M_X12_chance, M_X12_getsBy, M_X12_rests, M_X12_draw, M_X12_drawsDeed, M_X12_seasons, M_X12_mark, M_X12_inPockets, M_X12_count]
set_option maxRecDepth 20000 in
theorem mt_J6_bitCount_0f7a4 : xMT[0]? = some M_J6_bitCount_0f7a4 := rfl
set_option maxRecDepth 20000 in
theorem mt_J7_fill_53178 : xMT[1]? = some M_J7_fill_53178 := rfl
set_option maxRecDepth 20000 in
theorem mt_X0_init : xMT[2]? = some M_X0_init := rfl
set_option maxRecDepth 20000 in
theorem mt_X0_hoursTillGone : xMT[3]? = some M_X0_hoursTillGone := rfl
set_option maxRecDepth 20000 in
theorem mt_X0_playTillGone : xMT[4]? = some M_X0_playTillGone := rfl
set_option maxRecDepth 20000 in
theorem mt_X0_freshLater : xMT[5]? = some M_X0_freshLater := rfl
set_option maxRecDepth 20000 in
theorem mt_X0_firstGone : xMT[6]? = some M_X0_firstGone := rfl
set_option maxRecDepth 20000 in
theorem mt_X0_hoursTillEmpty : xMT[7]? = some M_X0_hoursTillEmpty := rfl
set_option maxRecDepth 20000 in
theorem mt_X0_nutmegsFor : xMT[8]? = some M_X0_nutmegsFor := rfl
set_option maxRecDepth 20000 in
theorem mt_X0_putOn : xMT[9]? = some M_X0_putOn := rfl
set_option maxRecDepth 20000 in
theorem mt_X0_mostKept : xMT[10]? = some M_X0_mostKept := rfl
set_option maxRecDepth 20000 in
theorem mt_X0_hourItIsGone : xMT[11]? = some M_X0_hourItIsGone := rfl
set_option maxRecDepth 20000 in
theorem mt_X0_whoFits : xMT[12]? = some M_X0_whoFits := rfl
set_option maxRecDepth 20000 in
theorem mt_X0_bestQuestion : xMT[13]? = some M_X0_bestQuestion := rfl
set_option maxRecDepth 20000 in
theorem mt_X0_findGone : xMT[14]? = some M_X0_findGone := rfl
set_option maxRecDepth 20000 in
theorem mt_X0_countLying : xMT[15]? = some M_X0_countLying := rfl
set_option maxRecDepth 20000 in
theorem mt_X0_millionthsGone : xMT[16]? = some M_X0_millionthsGone := rfl
set_option maxRecDepth 20000 in
theorem mt_X0_isGoneBy : xMT[17]? = some M_X0_isGoneBy := rfl
set_option maxRecDepth 20000 in
theorem mt_X0_weightOf : xMT[18]? = some M_X0_weightOf := rfl
set_option maxRecDepth 20000 in
theorem mt_X0_season : xMT[19]? = some M_X0_season := rfl
set_option maxRecDepth 20000 in
theorem mt_X0_goneByDeed : xMT[20]? = some M_X0_goneByDeed := rfl
set_option maxRecDepth 20000 in
theorem mt_X0_drawn : xMT[21]? = some M_X0_drawn := rfl
set_option maxRecDepth 20000 in
theorem mt_X0_below : xMT[22]? = some M_X0_below := rfl
set_option maxRecDepth 20000 in
theorem mt_X0_verdict : xMT[23]? = some M_X0_verdict := rfl
set_option maxRecDepth 20000 in
theorem mt_X1_init : xMT[24]? = some M_X1_init := rfl
set_option maxRecDepth 20000 in
theorem mt_X1_read : xMT[25]? = some M_X1_read := rfl
set_option maxRecDepth 20000 in
theorem mt_X1_readLine : xMT[26]? = some M_X1_readLine := rfl
set_option maxRecDepth 20000 in
theorem mt_X1_add : xMT[27]? = some M_X1_add := rfl
set_option maxRecDepth 20000 in
theorem mt_X2_init : xMT[28]? = some M_X2_init := rfl
set_option maxRecDepth 20000 in
theorem mt_X2_clear : xMT[29]? = some M_X2_clear := rfl
set_option maxRecDepth 20000 in
theorem mt_X2_isSeat : xMT[30]? = some M_X2_isSeat := rfl
set_option maxRecDepth 20000 in
theorem mt_X2_isPerson : xMT[31]? = some M_X2_isPerson := rfl
set_option maxRecDepth 20000 in
theorem mt_X2_allSeats : xMT[32]? = some M_X2_allSeats := rfl
set_option maxRecDepth 20000 in
theorem mt_X2_seatNamed : xMT[33]? = some M_X2_seatNamed := rfl
set_option maxRecDepth 20000 in
theorem mt_X2_personNamed : xMT[34]? = some M_X2_personNamed := rfl
set_option maxRecDepth 20000 in
theorem mt_X2_hasSeatAt : xMT[35]? = some M_X2_hasSeatAt := rfl
set_option maxRecDepth 20000 in
theorem mt_X2_addSeat : xMT[36]? = some M_X2_addSeat := rfl
set_option maxRecDepth 20000 in
theorem mt_X2_addPerson : xMT[37]? = some M_X2_addPerson := rfl
set_option maxRecDepth 20000 in
theorem mt_X2_addFoes : xMT[38]? = some M_X2_addFoes := rfl
set_option maxRecDepth 20000 in
theorem mt_X2_nearTo : xMT[39]? = some M_X2_nearTo := rfl
set_option maxRecDepth 20000 in
theorem mt_X2_nearAny : xMT[40]? = some M_X2_nearAny := rfl
set_option maxRecDepth 20000 in
theorem mt_X2_blockOf : xMT[41]? = some M_X2_blockOf := rfl
set_option maxRecDepth 20000 in
theorem mt_X2_foesOf : xMT[42]? = some M_X2_foesOf := rfl
set_option maxRecDepth 20000 in
theorem mt_X2_isCaptain : xMT[43]? = some M_X2_isCaptain := rfl
set_option maxRecDepth 20000 in
theorem mt_X2_lifeOf : xMT[44]? = some M_X2_lifeOf := rfl
set_option maxRecDepth 20000 in
theorem mt_X2_raspedBy : xMT[45]? = some M_X2_raspedBy := rfl
set_option maxRecDepth 20000 in
theorem mt_X3_init : xMT[46]? = some M_X3_init := rfl
set_option maxRecDepth 20000 in
theorem mt_X3_read : xMT[47]? = some M_X3_read := rfl
set_option maxRecDepth 20000 in
theorem mt_X3_readLine : xMT[48]? = some M_X3_readLine := rfl
set_option maxRecDepth 20000 in
theorem mt_X3_readSeat : xMT[49]? = some M_X3_readSeat := rfl
set_option maxRecDepth 20000 in
theorem mt_X3_readPerson : xMT[50]? = some M_X3_readPerson := rfl
set_option maxRecDepth 20000 in
theorem mt_X3_readFoe : xMT[51]? = some M_X3_readFoe := rfl
set_option maxRecDepth 20000 in
theorem mt_X3_readLasts : xMT[52]? = some M_X3_readLasts := rfl
set_option maxRecDepth 20000 in
theorem mt_X4_init : xMT[53]? = some M_X4_init := rfl
set_option maxRecDepth 20000 in
theorem mt_X4_clear : xMT[54]? = some M_X4_clear := rfl
set_option maxRecDepth 20000 in
theorem mt_X4_add : xMT[55]? = some M_X4_add := rfl
set_option maxRecDepth 20000 in
theorem mt_X4_read : xMT[56]? = some M_X4_read := rfl
set_option maxRecDepth 20000 in
theorem mt_X4_readChoice : xMT[57]? = some M_X4_readChoice := rfl
set_option maxRecDepth 20000 in
theorem mt_X4_readTest : xMT[58]? = some M_X4_readTest := rfl
set_option maxRecDepth 20000 in
theorem mt_X4_readSum : xMT[59]? = some M_X4_readSum := rfl
set_option maxRecDepth 20000 in
theorem mt_X4_readProduct : xMT[60]? = some M_X4_readProduct := rfl
set_option maxRecDepth 20000 in
theorem mt_X4_readPart : xMT[61]? = some M_X4_readPart := rfl
set_option maxRecDepth 20000 in
theorem mt_X4_stepOverNots : xMT[62]? = some M_X4_stepOverNots := rfl
set_option maxRecDepth 20000 in
theorem mt_X4_readBarePart : xMT[63]? = some M_X4_readBarePart := rfl
set_option maxRecDepth 20000 in
theorem mt_X4_operandOf : xMT[64]? = some M_X4_operandOf := rfl
set_option maxRecDepth 20000 in
theorem mt_X4_wear : xMT[65]? = some M_X4_wear := rfl
set_option maxRecDepth 20000 in
theorem mt_X4_operandValue : xMT[66]? = some M_X4_operandValue := rfl
set_option maxRecDepth 20000 in
theorem mt_X4_joined : xMT[67]? = some M_X4_joined := rfl
set_option maxRecDepth 20000 in
theorem mt_X5_init : xMT[68]? = some M_X5_init := rfl
set_option maxRecDepth 20000 in
theorem mt_X5_forget : xMT[69]? = some M_X5_forget := rfl
set_option maxRecDepth 20000 in
theorem mt_X5_keep : xMT[70]? = some M_X5_keep := rfl
set_option maxRecDepth 20000 in
theorem mt_X5_undoInto : xMT[71]? = some M_X5_undoInto := rfl
set_option maxRecDepth 20000 in
theorem mt_X5_layMark : xMT[72]? = some M_X5_layMark := rfl
set_option maxRecDepth 20000 in
theorem mt_X5_goBackTo : xMT[73]? = some M_X5_goBackTo := rfl
set_option maxRecDepth 20000 in
theorem mt_X6_init : xMT[74]? = some M_X6_init := rfl
set_option maxRecDepth 20000 in
theorem mt_X6_begin : xMT[75]? = some M_X6_begin := rfl
set_option maxRecDepth 20000 in
theorem mt_X6_copy : xMT[76]? = some M_X6_copy := rfl
set_option maxRecDepth 20000 in
theorem mt_X6_isHeld : xMT[77]? = some M_X6_isHeld := rfl
set_option maxRecDepth 20000 in
theorem mt_X6_isFree : xMT[78]? = some M_X6_isFree := rfl
set_option maxRecDepth 20000 in
theorem mt_X6_freshOn : xMT[79]? = some M_X6_freshOn := rfl
set_option maxRecDepth 20000 in
theorem mt_X6_pocketOf : xMT[80]? = some M_X6_pocketOf := rfl
set_option maxRecDepth 20000 in
theorem mt_X6_chairOf : xMT[81]? = some M_X6_chairOf := rfl
set_option maxRecDepth 20000 in
theorem mt_X6_freeSeats : xMT[82]? = some M_X6_freeSeats := rfl
set_option maxRecDepth 20000 in
theorem mt_X6_heldSeats : xMT[83]? = some M_X6_heldSeats := rfl
set_option maxRecDepth 20000 in
theorem mt_X6_laidBy : xMT[84]? = some M_X6_laidBy := rfl
set_option maxRecDepth 20000 in
theorem mt_X6_nutmegsOf : xMT[85]? = some M_X6_nutmegsOf := rfl
set_option maxRecDepth 20000 in
theorem mt_X6_inPockets : xMT[86]? = some M_X6_inPockets := rfl
set_option maxRecDepth 20000 in
theorem mt_X6_sittersOn : xMT[87]? = some M_X6_sittersOn := rfl
set_option maxRecDepth 20000 in
theorem mt_X6_ownersOn : xMT[88]? = some M_X6_ownersOn := rfl
set_option maxRecDepth 20000 in
theorem mt_X6_couldSitOn : xMT[89]? = some M_X6_couldSitOn := rfl
set_option maxRecDepth 20000 in
theorem mt_X6_canBe : xMT[90]? = some M_X6_canBe := rfl
set_option maxRecDepth 20000 in
theorem mt_X6_act : xMT[91]? = some M_X6_act := rfl
set_option maxRecDepth 20000 in
theorem mt_X6_riseUp : xMT[92]? = some M_X6_riseUp := rfl
set_option maxRecDepth 20000 in
theorem mt_X6_sitDown : xMT[93]? = some M_X6_sitDown := rfl
set_option maxRecDepth 20000 in
theorem mt_X6_put : xMT[94]? = some M_X6_put := rfl
set_option maxRecDepth 20000 in
theorem mt_X6_takeAway : xMT[95]? = some M_X6_takeAway := rfl
set_option maxRecDepth 20000 in
theorem mt_X6_lessen : xMT[96]? = some M_X6_lessen := rfl
set_option maxRecDepth 20000 in
theorem mt_X6_passHour : xMT[97]? = some M_X6_passHour := rfl
set_option maxRecDepth 20000 in
theorem mt_X7_init : xMT[98]? = some M_X7_init := rfl
set_option maxRecDepth 20000 in
theorem mt_X7_add : xMT[99]? = some M_X7_add := rfl
set_option maxRecDepth 20000 in
theorem mt_X7_copy : xMT[100]? = some M_X7_copy := rfl
set_option maxRecDepth 20000 in
theorem mt_X8_init : xMT[101]? = some M_X8_init := rfl
set_option maxRecDepth 20000 in
theorem mt_X8_chairOf : xMT[102]? = some M_X8_chairOf := rfl
set_option maxRecDepth 20000 in
theorem mt_X8_keepRow : xMT[103]? = some M_X8_keepRow := rfl
set_option maxRecDepth 20000 in
theorem mt_X8_findMost : xMT[104]? = some M_X8_findMost := rfl
set_option maxRecDepth 20000 in
theorem mt_X8_seatFrom : xMT[105]? = some M_X8_seatFrom := rfl
set_option maxRecDepth 20000 in
theorem mt_X8_findPlaced : xMT[106]? = some M_X8_findPlaced := rfl
set_option maxRecDepth 20000 in
theorem mt_X8_placeFrom : xMT[107]? = some M_X8_placeFrom := rfl
set_option maxRecDepth 20000 in
theorem mt_X8_chairsOfFoes : xMT[108]? = some M_X8_chairsOfFoes := rfl
set_option maxRecDepth 20000 in
theorem mt_X9_init : xMT[109]? = some M_X9_init := rfl
set_option maxRecDepth 20000 in
theorem mt_X9_append : xMT[110]? = some M_X9_append := rfl
set_option maxRecDepth 20000 in
theorem mt_X9_signAt : xMT[111]? = some M_X9_signAt := rfl
set_option maxRecDepth 20000 in
theorem mt_X9_kindAt : xMT[112]? = some M_X9_kindAt := rfl
set_option maxRecDepth 20000 in
theorem mt_X10_init : xMT[113]? = some M_X10_init := rfl
set_option maxRecDepth 20000 in
theorem mt_X10_begin : xMT[114]? = some M_X10_begin := rfl
set_option maxRecDepth 20000 in
theorem mt_X10_goesOn : xMT[115]? = some M_X10_goesOn := rfl
set_option maxRecDepth 20000 in
theorem mt_X10_step : xMT[116]? = some M_X10_step := rfl
set_option maxRecDepth 20000 in
theorem mt_X10_fail : xMT[117]? = some M_X10_fail := rfl
set_option maxRecDepth 20000 in
theorem mt_X10_is : xMT[118]? = some M_X10_is := rfl
set_option maxRecDepth 20000 in
theorem mt_X10_isSign : xMT[119]? = some M_X10_isSign := rfl
set_option maxRecDepth 20000 in
theorem mt_X10_passes : xMT[120]? = some M_X10_passes := rfl
set_option maxRecDepth 20000 in
theorem mt_X10_passesSign : xMT[121]? = some M_X10_passesSign := rfl
set_option maxRecDepth 20000 in
theorem mt_X10_hasNumber : xMT[122]? = some M_X10_hasNumber := rfl
set_option maxRecDepth 20000 in
theorem mt_X10_hasNewName : xMT[123]? = some M_X10_hasNewName := rfl
set_option maxRecDepth 20000 in
theorem mt_X10_hasPerson : xMT[124]? = some M_X10_hasPerson := rfl
set_option maxRecDepth 20000 in
theorem mt_X10_hasSeat : xMT[125]? = some M_X10_hasSeat := rfl
set_option maxRecDepth 20000 in
theorem mt_X10_isName : xMT[126]? = some M_X10_isName := rfl
set_option maxRecDepth 20000 in
theorem mt_X10_personKind : xMT[127]? = some M_X10_personKind := rfl
set_option maxRecDepth 20000 in
theorem mt_X10_verb : xMT[128]? = some M_X10_verb := rfl
set_option maxRecDepth 20000 in
theorem mt_X11_init : xMT[129]? = some M_X11_init := rfl
set_option maxRecDepth 20000 in
theorem mt_X11_feed : xMT[130]? = some M_X11_feed := rfl
set_option maxRecDepth 20000 in
theorem mt_X11_hall : xMT[131]? = some M_X11_hall := rfl
set_option maxRecDepth 20000 in
theorem mt_X11_evening : xMT[132]? = some M_X11_evening := rfl
set_option maxRecDepth 20000 in
theorem mt_X11_seat : xMT[133]? = some M_X11_seat := rfl
set_option maxRecDepth 20000 in
theorem mt_X11_person : xMT[134]? = some M_X11_person := rfl
set_option maxRecDepth 20000 in
theorem mt_X11_lay : xMT[135]? = some M_X11_lay := rfl
set_option maxRecDepth 20000 in
theorem mt_X11_sit : xMT[136]? = some M_X11_sit := rfl
set_option maxRecDepth 20000 in
theorem mt_X11_rise : xMT[137]? = some M_X11_rise := rfl
set_option maxRecDepth 20000 in
theorem mt_X11_grate : xMT[138]? = some M_X11_grate := rfl
set_option maxRecDepth 20000 in
theorem mt_X11_hour : xMT[139]? = some M_X11_hour := rfl
set_option maxRecDepth 20000 in
theorem mt_X11_undo : xMT[140]? = some M_X11_undo := rfl
set_option maxRecDepth 20000 in
theorem mt_X11_judged : xMT[141]? = some M_X11_judged := rfl
set_option maxRecDepth 20000 in
theorem mt_X11_left : xMT[142]? = some M_X11_left := rfl
set_option maxRecDepth 20000 in
theorem mt_X11_later : xMT[143]? = some M_X11_later := rfl
set_option maxRecDepth 20000 in
theorem mt_X11_first : xMT[144]? = some M_X11_first := rfl
set_option maxRecDepth 20000 in
theorem mt_X11_empties : xMT[145]? = some M_X11_empties := rfl
set_option maxRecDepth 20000 in
theorem mt_X11_most : xMT[146]? = some M_X11_most := rfl
set_option maxRecDepth 20000 in
theorem mt_X11_could : xMT[147]? = some M_X11_could := rfl
set_option maxRecDepth 20000 in
theorem mt_X11_needs : xMT[148]? = some M_X11_needs := rfl
set_option maxRecDepth 20000 in
theorem mt_X11_keeps : xMT[149]? = some M_X11_keeps := rfl
set_option maxRecDepth 20000 in
theorem mt_X11_placed : xMT[150]? = some M_X11_placed := rfl
set_option maxRecDepth 20000 in
theorem mt_X11_peace : xMT[151]? = some M_X11_peace := rfl
set_option maxRecDepth 20000 in
theorem mt_X11_war : xMT[152]? = some M_X11_war := rfl
set_option maxRecDepth 20000 in
theorem mt_X11_safe : xMT[153]? = some M_X11_safe := rfl
set_option maxRecDepth 20000 in
theorem mt_X11_see : xMT[154]? = some M_X11_see := rfl
set_option maxRecDepth 20000 in
theorem mt_X11_who : xMT[155]? = some M_X11_who := rfl
set_option maxRecDepth 20000 in
theorem mt_X11_ask : xMT[156]? = some M_X11_ask := rfl
set_option maxRecDepth 20000 in
theorem mt_X11_far : xMT[157]? = some M_X11_far := rfl
set_option maxRecDepth 20000 in
theorem mt_X11_blocks : xMT[158]? = some M_X11_blocks := rfl
set_option maxRecDepth 20000 in
theorem mt_X11_rich : xMT[159]? = some M_X11_rich := rfl
set_option maxRecDepth 20000 in
theorem mt_X11_lone : xMT[160]? = some M_X11_lone := rfl
set_option maxRecDepth 20000 in
theorem mt_X11_row : xMT[161]? = some M_X11_row := rfl
set_option maxRecDepth 20000 in
theorem mt_X11_stands : xMT[162]? = some M_X11_stands := rfl
set_option maxRecDepth 20000 in
theorem mt_X11_guards : xMT[163]? = some M_X11_guards := rfl
set_option maxRecDepth 20000 in
theorem mt_X11_chance : xMT[164]? = some M_X11_chance := rfl
set_option maxRecDepth 20000 in
theorem mt_X11_seasons : xMT[165]? = some M_X11_seasons := rfl
set_option maxRecDepth 20000 in
theorem mt_X11_mark : xMT[166]? = some M_X11_mark := rfl
set_option maxRecDepth 20000 in
theorem mt_X11_count : xMT[167]? = some M_X11_count := rfl
set_option maxRecDepth 20000 in
theorem mt_X11_isWithin : xMT[168]? = some M_X11_isWithin := rfl
set_option maxRecDepth 20000 in
theorem mt_X11_done : xMT[169]? = some M_X11_done := rfl
set_option maxRecDepth 20000 in
theorem mt_X11_pairsThatSitNear : xMT[170]? = some M_X11_pairsThatSitNear := rfl
set_option maxRecDepth 20000 in
theorem mt_X11_isRest : xMT[171]? = some M_X11_isRest := rfl
set_option maxRecDepth 20000 in
theorem mt_X11_gain : xMT[172]? = some M_X11_gain := rfl
set_option maxRecDepth 20000 in
theorem mt_X12_thrown : xMT[173]? = some M_X12_thrown := rfl
set_option maxRecDepth 20000 in
theorem mt_X12_feed : xMT[174]? = some M_X12_feed := rfl
set_option maxRecDepth 20000 in
theorem mt_X12_lay : xMT[175]? = some M_X12_lay := rfl
set_option maxRecDepth 20000 in
theorem mt_X12_init : xMT[176]? = some M_X12_init := rfl
set_option maxRecDepth 20000 in
theorem mt_X12_isLetter : xMT[177]? = some M_X12_isLetter := rfl
set_option maxRecDepth 20000 in
theorem mt_X12_isDigit : xMT[178]? = some M_X12_isDigit := rfl
set_option maxRecDepth 20000 in
theorem mt_X12_rank : xMT[179]? = some M_X12_rank := rfl
set_option maxRecDepth 20000 in
theorem mt_X12_isSignOf : xMT[180]? = some M_X12_isSignOf := rfl
set_option maxRecDepth 20000 in
theorem mt_X12_cutAll : xMT[181]? = some M_X12_cutAll := rfl
set_option maxRecDepth 20000 in
theorem mt_X12_wrong : xMT[182]? = some M_X12_wrong := rfl
set_option maxRecDepth 20000 in
theorem mt_X12_isSign : xMT[183]? = some M_X12_isSign := rfl
set_option maxRecDepth 20000 in
theorem mt_X12_isWord : xMT[184]? = some M_X12_isWord := rfl
set_option maxRecDepth 20000 in
theorem mt_X12_takeSign : xMT[185]? = some M_X12_takeSign := rfl
set_option maxRecDepth 20000 in
theorem mt_X12_hasSign : xMT[186]? = some M_X12_hasSign := rfl
set_option maxRecDepth 20000 in
theorem mt_X12_hasWord : xMT[187]? = some M_X12_hasWord := rfl
set_option maxRecDepth 20000 in
theorem mt_X12_takeWord : xMT[188]? = some M_X12_takeWord := rfl
set_option maxRecDepth 20000 in
theorem mt_X12_within : xMT[189]? = some M_X12_within := rfl
set_option maxRecDepth 20000 in
theorem mt_X12_standsAsAlways : xMT[190]? = some M_X12_standsAsAlways := rfl
set_option maxRecDepth 20000 in
theorem mt_X12_takeNumber : xMT[191]? = some M_X12_takeNumber := rfl
set_option maxRecDepth 20000 in
theorem mt_X12_takeAfter : xMT[192]? = some M_X12_takeAfter := rfl
set_option maxRecDepth 20000 in
theorem mt_X12_wordHere : xMT[193]? = some M_X12_wordHere := rfl
set_option maxRecDepth 20000 in
theorem mt_X12_takeOne : xMT[194]? = some M_X12_takeOne := rfl
set_option maxRecDepth 20000 in
theorem mt_X12_isName : xMT[195]? = some M_X12_isName := rfl
set_option maxRecDepth 20000 in
theorem mt_X12_nameAt : xMT[196]? = some M_X12_nameAt := rfl
set_option maxRecDepth 20000 in
theorem mt_X12_takeTold : xMT[197]? = some M_X12_takeTold := rfl
set_option maxRecDepth 20000 in
theorem mt_X12_hall : xMT[198]? = some M_X12_hall := rfl
set_option maxRecDepth 20000 in
theorem mt_X12_readLine : xMT[199]? = some M_X12_readLine := rfl
set_option maxRecDepth 20000 in
theorem mt_X12_readSeat : xMT[200]? = some M_X12_readSeat := rfl
set_option maxRecDepth 20000 in
theorem mt_X12_readName : xMT[201]? = some M_X12_readName := rfl
set_option maxRecDepth 20000 in
theorem mt_X12_readOnce : xMT[202]? = some M_X12_readOnce := rfl
set_option maxRecDepth 20000 in
theorem mt_X12_evening : xMT[203]? = some M_X12_evening := rfl
set_option maxRecDepth 20000 in
theorem mt_X12_emit : xMT[204]? = some M_X12_emit := rfl
set_option maxRecDepth 20000 in
theorem mt_X12_whole : xMT[205]? = some M_X12_whole := rfl
set_option maxRecDepth 20000 in
theorem mt_X12_test : xMT[206]? = some M_X12_test := rfl
set_option maxRecDepth 20000 in
theorem mt_X12_sums : xMT[207]? = some M_X12_sums := rfl
set_option maxRecDepth 20000 in
theorem mt_X12_products : xMT[208]? = some M_X12_products := rfl
set_option maxRecDepth 20000 in
theorem mt_X12_takePart : xMT[209]? = some M_X12_takePart := rfl
set_option maxRecDepth 20000 in
theorem mt_X12_worthAt : xMT[210]? = some M_X12_worthAt := rfl
set_option maxRecDepth 20000 in
theorem mt_X12_both : xMT[211]? = some M_X12_both := rfl
set_option maxRecDepth 20000 in
theorem mt_X12_copies : xMT[212]? = some M_X12_copies := rfl
set_option maxRecDepth 20000 in
theorem mt_X12_starts : xMT[213]? = some M_X12_starts := rfl
set_option maxRecDepth 20000 in
theorem mt_X12_begins : xMT[214]? = some M_X12_begins := rfl
set_option maxRecDepth 20000 in
theorem mt_X12_keepsNow : xMT[215]? = some M_X12_keepsNow := rfl
set_option maxRecDepth 20000 in
theorem mt_X12_seats : xMT[216]? = some M_X12_seats := rfl
set_option maxRecDepth 20000 in
theorem mt_X12_persons : xMT[217]? = some M_X12_persons := rfl
set_option maxRecDepth 20000 in
theorem mt_X12_seatOf : xMT[218]? = some M_X12_seatOf := rfl
set_option maxRecDepth 20000 in
theorem mt_X12_personOf : xMT[219]? = some M_X12_personOf := rfl
set_option maxRecDepth 20000 in
theorem mt_X12_isSeat : xMT[220]? = some M_X12_isSeat := rfl
set_option maxRecDepth 20000 in
theorem mt_X12_isPerson : xMT[221]? = some M_X12_isPerson := rfl
set_option maxRecDepth 20000 in
theorem mt_X12_bits : xMT[222]? = some M_X12_bits := rfl
set_option maxRecDepth 20000 in
theorem mt_X12_lifeOf : xMT[223]? = some M_X12_lifeOf := rfl
set_option maxRecDepth 20000 in
theorem mt_X12_areFoes : xMT[224]? = some M_X12_areFoes := rfl
set_option maxRecDepth 20000 in
theorem mt_X12_sitterOn : xMT[225]? = some M_X12_sitterOn := rfl
set_option maxRecDepth 20000 in
theorem mt_X12_isFree : xMT[226]? = some M_X12_isFree := rfl
set_option maxRecDepth 20000 in
theorem mt_X12_freeSeats : xMT[227]? = some M_X12_freeSeats := rfl
set_option maxRecDepth 20000 in
theorem mt_X12_laidSeats : xMT[228]? = some M_X12_laidSeats := rfl
set_option maxRecDepth 20000 in
theorem mt_X12_laidBy : xMT[229]? = some M_X12_laidBy := rfl
set_option maxRecDepth 20000 in
theorem mt_X12_nutmegsOf : xMT[230]? = some M_X12_nutmegsOf := rfl
set_option maxRecDepth 20000 in
theorem mt_X12_puts : xMT[231]? = some M_X12_puts := rfl
set_option maxRecDepth 20000 in
theorem mt_X12_clears : xMT[232]? = some M_X12_clears := rfl
set_option maxRecDepth 20000 in
theorem mt_X12_mayLay : xMT[233]? = some M_X12_mayLay := rfl
set_option maxRecDepth 20000 in
theorem mt_X12_maySit : xMT[234]? = some M_X12_maySit := rfl
set_option maxRecDepth 20000 in
theorem mt_X12_mayGrate : xMT[235]? = some M_X12_mayGrate := rfl
set_option maxRecDepth 20000 in
theorem mt_X12_lays : xMT[236]? = some M_X12_lays := rfl
set_option maxRecDepth 20000 in
theorem mt_X12_sits : xMT[237]? = some M_X12_sits := rfl
set_option maxRecDepth 20000 in
theorem mt_X12_isGoneBy : xMT[238]? = some M_X12_isGoneBy := rfl
set_option maxRecDepth 20000 in
theorem mt_X12_grates : xMT[239]? = some M_X12_grates := rfl
set_option maxRecDepth 20000 in
theorem mt_X12_passes : xMT[240]? = some M_X12_passes := rfl
set_option maxRecDepth 20000 in
theorem mt_X12_sitting : xMT[241]? = some M_X12_sitting := rfl
set_option maxRecDepth 20000 in
theorem mt_X12_seat : xMT[242]? = some M_X12_seat := rfl
set_option maxRecDepth 20000 in
theorem mt_X12_person : xMT[243]? = some M_X12_person := rfl
set_option maxRecDepth 20000 in
theorem mt_X12_lay_ : xMT[244]? = some M_X12_lay_ := rfl
set_option maxRecDepth 20000 in
theorem mt_X12_sit : xMT[245]? = some M_X12_sit := rfl
set_option maxRecDepth 20000 in
theorem mt_X12_rise : xMT[246]? = some M_X12_rise := rfl
set_option maxRecDepth 20000 in
theorem mt_X12_grate : xMT[247]? = some M_X12_grate := rfl
set_option maxRecDepth 20000 in
theorem mt_X12_hour : xMT[248]? = some M_X12_hour := rfl
set_option maxRecDepth 20000 in
theorem mt_X12_undo : xMT[249]? = some M_X12_undo := rfl
set_option maxRecDepth 20000 in
theorem mt_X12_mayBe : xMT[250]? = some M_X12_mayBe := rfl
set_option maxRecDepth 20000 in
theorem mt_X12_judged : xMT[251]? = some M_X12_judged := rfl
set_option maxRecDepth 20000 in
theorem mt_X12_triesNow : xMT[252]? = some M_X12_triesNow := rfl
set_option maxRecDepth 20000 in
theorem mt_X12_goneIn : xMT[253]? = some M_X12_goneIn := rfl
set_option maxRecDepth 20000 in
theorem mt_X12_left : xMT[254]? = some M_X12_left := rfl
set_option maxRecDepth 20000 in
theorem mt_X12_later : xMT[255]? = some M_X12_later := rfl
set_option maxRecDepth 20000 in
theorem mt_X12_first : xMT[256]? = some M_X12_first := rfl
set_option maxRecDepth 20000 in
theorem mt_X12_empties : xMT[257]? = some M_X12_empties := rfl
set_option maxRecDepth 20000 in
theorem mt_X12_couldNow : xMT[258]? = some M_X12_couldNow := rfl
set_option maxRecDepth 20000 in
theorem mt_X12_doesStand : xMT[259]? = some M_X12_doesStand := rfl
set_option maxRecDepth 20000 in
theorem mt_X12_seatsFrom : xMT[260]? = some M_X12_seatsFrom := rfl
set_option maxRecDepth 20000 in
theorem mt_X12_most : xMT[261]? = some M_X12_most := rfl
set_option maxRecDepth 20000 in
theorem mt_X12_could : xMT[262]? = some M_X12_could := rfl
set_option maxRecDepth 20000 in
theorem mt_X12_stands : xMT[263]? = some M_X12_stands := rfl
set_option maxRecDepth 20000 in
theorem mt_X12_holdsBy : xMT[264]? = some M_X12_holdsBy := rfl
set_option maxRecDepth 20000 in
theorem mt_X12_needs : xMT[265]? = some M_X12_needs := rfl
set_option maxRecDepth 20000 in
theorem mt_X12_keeps : xMT[266]? = some M_X12_keeps := rfl
set_option maxRecDepth 20000 in
theorem mt_X12_placesFrom : xMT[267]? = some M_X12_placesFrom := rfl
set_option maxRecDepth 20000 in
theorem mt_X12_placed : xMT[268]? = some M_X12_placed := rfl
set_option maxRecDepth 20000 in
theorem mt_X12_pairsOf : xMT[269]? = some M_X12_pairsOf := rfl
set_option maxRecDepth 20000 in
theorem mt_X12_peace : xMT[270]? = some M_X12_peace := rfl
set_option maxRecDepth 20000 in
theorem mt_X12_war : xMT[271]? = some M_X12_war := rfl
set_option maxRecDepth 20000 in
theorem mt_X12_isFoeNear : xMT[272]? = some M_X12_isFoeNear := rfl
set_option maxRecDepth 20000 in
theorem mt_X12_safe : xMT[273]? = some M_X12_safe := rfl
set_option maxRecDepth 20000 in
theorem mt_X12_guards : xMT[274]? = some M_X12_guards := rfl
set_option maxRecDepth 20000 in
theorem mt_X12_see : xMT[275]? = some M_X12_see := rfl
set_option maxRecDepth 20000 in
theorem mt_X12_goneLaid : xMT[276]? = some M_X12_goneLaid := rfl
set_option maxRecDepth 20000 in
theorem mt_X12_whoNow : xMT[277]? = some M_X12_whoNow := rfl
set_option maxRecDepth 20000 in
theorem mt_X12_who : xMT[278]? = some M_X12_who := rfl
set_option maxRecDepth 20000 in
theorem mt_X12_ask : xMT[279]? = some M_X12_ask := rfl
set_option maxRecDepth 20000 in
theorem mt_X12_around : xMT[280]? = some M_X12_around := rfl
set_option maxRecDepth 20000 in
theorem mt_X12_far : xMT[281]? = some M_X12_far := rfl
set_option maxRecDepth 20000 in
theorem mt_X12_blocks : xMT[282]? = some M_X12_blocks := rfl
set_option maxRecDepth 20000 in
theorem mt_X12_rich : xMT[283]? = some M_X12_rich := rfl
set_option maxRecDepth 20000 in
theorem mt_X12_lone : xMT[284]? = some M_X12_lone := rfl
set_option maxRecDepth 20000 in
theorem mt_X12_row : xMT[285]? = some M_X12_row := rfl
set_option maxRecDepth 20000 in
theorem mt_X12_chance : xMT[286]? = some M_X12_chance := rfl
set_option maxRecDepth 20000 in
theorem mt_X12_getsBy : xMT[287]? = some M_X12_getsBy := rfl
set_option maxRecDepth 20000 in
theorem mt_X12_rests : xMT[288]? = some M_X12_rests := rfl
set_option maxRecDepth 20000 in
theorem mt_X12_draw : xMT[289]? = some M_X12_draw := rfl
set_option maxRecDepth 20000 in
theorem mt_X12_drawsDeed : xMT[290]? = some M_X12_drawsDeed := rfl
set_option maxRecDepth 20000 in
theorem mt_X12_seasons : xMT[291]? = some M_X12_seasons := rfl
set_option maxRecDepth 20000 in
theorem mt_X12_mark : xMT[292]? = some M_X12_mark := rfl
set_option maxRecDepth 20000 in
theorem mt_X12_inPockets : xMT[293]? = some M_X12_inPockets := rfl
set_option maxRecDepth 20000 in
theorem mt_X12_count : xMT[294]? = some M_X12_count := rfl
def xTX : List (List Nat) := [[40, 41, 60, 61, 43, 45, 42, 59], [115, 101, 97, 116], [114, 111, 119], [97, 116], [112, 101, 114, 115, 111, 110], [110, 117, 116, 109, 101, 103, 115], [102, 111, 101], [108, 97, 115, 116, 115], [119, 101, 97, 114, 115], [108, 97, 121], [115, 105, 116], [114, 105, 115, 101], [103, 114, 97, 116, 101], [104, 111, 117, 114], [112, 108, 97, 105, 110], [108, 97, 100, 121], [114, 97, 115, 112], [99, 97, 112, 116, 97, 105, 110], [110, 111, 116], [97, 110, 100], [111, 114], [102, 114, 101, 115, 104], [99, 111, 109, 112, 97, 110, 121], [114, 97, 110, 107], [100, 97, 116, 101], [110, 111, 32, 115, 117, 99, 104, 32, 99, 104, 97, 105, 114], [110, 111, 110, 101, 32, 115, 117, 99, 104, 32, 97, 116, 32, 114, 101, 115, 116]]

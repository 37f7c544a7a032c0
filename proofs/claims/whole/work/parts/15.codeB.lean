/-! ===== code, entry by entry ===== -/
def cd_7_0 : List vi_E := (0, 1, .aload_n 0, [0]) :: (1, 1, .dup, []) :: (2, 3, .getfield 65, [9, 9, 0, 227]) :: (5, 1, .iconst 1, [1]) :: (6, 1, .iadd, []) :: (7, 3, .putfield 65, [9, 9, 0, 227]) :: (10, 1, .aload_n 0, [0]) :: (11, 3, .getfield 30, [9, 3, 2, 221]) :: (14, 1, .aload_n 0, [0]) :: (15, 3, .getfield 65, [9, 9, 0, 227]) :: (18, 3, .new 28, [7, 9, 119, 501, 64]) :: (21, 1, .dup, []) :: (22, 1, .aload_n 0, [0]) :: (23, 3, .getfield 65, [9, 9, 0, 227]) :: (26, 1, .iload_n 1, [1]) :: (27, 1, .iload_n 2, [2]) :: (28, 1, .iload_n 3, [3]) :: (29, 2, .iload 4, [4]) :: (31, 3, .invokespecial 315, [88, 5, 502, 504, 64, 503]) :: (34, 1, .aastore, [8, 7]) :: (35, 1, .aload_n 0, [0]) :: (36, 3, .getfield 30, [9, 3, 2, 221]) :: (39, 1, .aload_n 0, [0]) :: (40, 3, .getfield 65, [9, 9, 0, 227]) :: (43, 1, .aaload, [8]) :: (44, 1, .areturn, []) :: []
def cd_7 : List vi_E := cd_7_0
set_option maxRecDepth 100000 in
theorem ok_7 : vi_okC MT (MT 7) cd_7 = true := by decide +kernel
theorem at_7_0 : vi_at cd_7 0 = cd_7_0 := rfl
def cd_8_67 : List vi_E := (67, 1, .ireturn, []) :: []
def cd_8_48 : List vi_E := (48, 1, .aload_n 0, [0]) :: (49, 3, .getfield 24, [9, 2, 2, 220]) :: (52, 1, .aload_n 0, [0]) :: (53, 3, .getfield 11, [9, 0, 2, 218]) :: (56, 1, .iload_n 1, [1]) :: (57, 1, .aaload, [9]) :: (58, 1, .iload_n 2, [2]) :: (59, 1, .iload_n 3, [3]) :: (60, 1, .iload_n 2, [2]) :: (61, 1, .isub, []) :: (62, 2, .iload 4, [4]) :: (64, 3, .invokevirtual 293, [73, 4, 2, 860, 863, 51, 861, 862]) :: cd_8_67
def cd_8_29 : List vi_E := (29, 3, .invokestatic 91, [45, 1, 273, 275, 50, 274]) :: (32, 1, .aload_n 0, [0]) :: (33, 3, .getfield 75, [9, 12, 3, 230]) :: (36, 3, .invokestatic 95, [46, 1, 338, 340, 50, 339]) :: (39, 2, .iload 4, [4]) :: (41, 3, .ifCond .ge 7, [48]) :: (44, 1, .iconst (-1), []) :: (45, 3, .goto 22, [67]) :: cd_8_48
def cd_8_28 : List vi_E := (28, 1, .iconst 0, [0]) :: cd_8_29
def cd_8_0 : List vi_E := (0, 1, .iload_n 1, [1]) :: (1, 3, .invokestatic 83, [38, 1, 267, 269, 50, 268]) :: (4, 3, .ifCond .eq 24, [28]) :: (7, 1, .iload_n 2, [2]) :: (8, 1, .iload_n 3, [3]) :: (9, 3, .invokestatic 286, [35, 2, 850, 852, 50, 851]) :: (12, 3, .ifCond .eq 16, [28]) :: (15, 1, .iload_n 3, [3]) :: (16, 1, .iload_n 2, [2]) :: (17, 1, .isub, []) :: (18, 3, .sipush 4320, [4320]) :: (21, 3, .if_icmp .gt 7, [28]) :: (24, 1, .iconst 1, [1]) :: (25, 3, .goto 4, [29]) :: cd_8_28
def cd_8 : List vi_E := cd_8_0
set_option maxRecDepth 100000 in
theorem ok_8 : vi_okC MT (MT 8) cd_8 = true := by decide +kernel
theorem at_8_0 : vi_at cd_8 0 = cd_8_0 := rfl
set_option maxRecDepth 100000 in
theorem at_8_28 : vi_at cd_8 28 = cd_8_28 := rfl
set_option maxRecDepth 100000 in
theorem at_8_29 : vi_at cd_8 29 = cd_8_29 := rfl
set_option maxRecDepth 100000 in
theorem at_8_48 : vi_at cd_8 48 = cd_8_48 := rfl
set_option maxRecDepth 100000 in
theorem at_8_67 : vi_at cd_8 67 = cd_8_67 := rfl
def cd_9_22 : List vi_E := (22, 3, .invokestatic 91, [45, 1, 273, 275, 50, 274]) :: (25, 1, .aload_n 0, [0]) :: (26, 3, .getfield 48, [9, 6, 2, 224]) :: (29, 1, .iload_n 1, [1]) :: (30, 1, .aaload, [4]) :: (31, 3, .getfield 244, [3, 0, 2, 186]) :: (34, 1, .iload_n 3, [3]) :: (35, 1, .iaload, []) :: (36, 1, .ireturn, []) :: []
def cd_9_21 : List vi_E := (21, 1, .iconst 0, [0]) :: cd_9_22
def cd_9_0 : List vi_E := (0, 1, .iload_n 2, [2]) :: (1, 3, .invokestatic 241, [40, 1, 742, 744, 50, 743]) :: (4, 1, .istore_n 3, [3]) :: (5, 1, .iload_n 1, [1]) :: (6, 3, .invokestatic 230, [29, 1, 725, 727, 50, 726]) :: (9, 3, .ifCond .eq 12, [21]) :: (12, 1, .iload_n 3, [3]) :: (13, 1, .iconst (-1), []) :: (14, 3, .if_icmp .eq 7, [21]) :: (17, 1, .iconst 1, [1]) :: (18, 3, .goto 4, [22]) :: cd_9_21
def cd_9 : List vi_E := cd_9_0
set_option maxRecDepth 100000 in
theorem ok_9 : vi_okC MT (MT 9) cd_9 = true := by decide +kernel
theorem at_9_0 : vi_at cd_9 0 = cd_9_0 := rfl
set_option maxRecDepth 100000 in
theorem at_9_21 : vi_at cd_9 21 = cd_9_21 := rfl
set_option maxRecDepth 100000 in
theorem at_9_22 : vi_at cd_9 22 = cd_9_22 := rfl
def cd_10_21 : List vi_E := (21, 1, .istore_n 2, [2]) :: (22, 1, .aload_n 0, [0]) :: (23, 3, .getfield 42, [9, 5, 2, 223]) :: (26, 1, .iload_n 1, [1]) :: (27, 1, .aconst_null, []) :: (28, 1, .aastore, [7, 6]) :: (29, 1, .iload_n 2, [2]) :: (30, 1, .ireturn, []) :: []
def cd_10_20 : List vi_E := (20, 1, .iconst 0, [0]) :: cd_10_21
def cd_10_0 : List vi_E := (0, 1, .iload_n 1, [1]) :: (1, 3, .invokestatic 217, [34, 1, 687, 689, 50, 688]) :: (4, 3, .invokestatic 91, [45, 1, 273, 275, 50, 274]) :: (7, 1, .aload_n 0, [0]) :: (8, 3, .getfield 42, [9, 5, 2, 223]) :: (11, 1, .iload_n 1, [1]) :: (12, 1, .aaload, [7]) :: (13, 3, .ifnull 7, [20]) :: (16, 1, .iconst 1, [1]) :: (17, 3, .goto 4, [21]) :: cd_10_20
def cd_10 : List vi_E := cd_10_0
set_option maxRecDepth 100000 in
theorem ok_10 : vi_okC MT (MT 10) cd_10 = true := by decide +kernel
theorem at_10_0 : vi_at cd_10 0 = cd_10_0 := rfl
set_option maxRecDepth 100000 in
theorem at_10_20 : vi_at cd_10 20 = cd_10_20 := rfl
set_option maxRecDepth 100000 in
theorem at_10_21 : vi_at cd_10 21 = cd_10_21 := rfl
def cd_11_22 : List vi_E := (22, 3, .invokestatic 91, [45, 1, 273, 275, 50, 274]) :: (25, 1, .aload_n 0, [0]) :: (26, 3, .getfield 48, [9, 6, 2, 224]) :: (29, 1, .iload_n 1, [1]) :: (30, 1, .aaload, [4]) :: (31, 3, .getfield 280, [3, 2, 2, 190]) :: (34, 1, .iload_n 3, [3]) :: (35, 1, .iaload, []) :: (36, 1, .ireturn, []) :: []
def cd_11_21 : List vi_E := (21, 1, .iconst 0, [0]) :: cd_11_22
def cd_11_0 : List vi_E := (0, 1, .iload_n 2, [2]) :: (1, 3, .invokestatic 241, [40, 1, 742, 744, 50, 743]) :: (4, 1, .istore_n 3, [3]) :: (5, 1, .iload_n 1, [1]) :: (6, 3, .invokestatic 230, [29, 1, 725, 727, 50, 726]) :: (9, 3, .ifCond .eq 12, [21]) :: (12, 1, .iload_n 3, [3]) :: (13, 1, .iconst (-1), []) :: (14, 3, .if_icmp .eq 7, [21]) :: (17, 1, .iconst 1, [1]) :: (18, 3, .goto 4, [22]) :: cd_11_21
def cd_11 : List vi_E := cd_11_0
set_option maxRecDepth 100000 in
theorem ok_11 : vi_okC MT (MT 11) cd_11 = true := by decide +kernel
theorem at_11_0 : vi_at cd_11 0 = cd_11_0 := rfl
set_option maxRecDepth 100000 in
theorem at_11_21 : vi_at cd_11 21 = cd_11_21 := rfl
set_option maxRecDepth 100000 in
theorem at_11_22 : vi_at cd_11 22 = cd_11_22 := rfl
def cd_12_43 : List vi_E := (43, 2, .iload 4, [4]) :: (45, 1, .aload_n 0, [0]) :: (46, 3, .getfield 24, [9, 2, 2, 220]) :: (49, 1, .aload_n 1, [1]) :: (50, 2, .iload 5, [5]) :: (52, 1, .iload_n 3, [3]) :: (53, 2, .iload 5, [5]) :: (55, 1, .isub, []) :: (56, 3, .invokevirtual 289, [72, 3, 2, 567, 570, 51, 568, 569]) :: (59, 1, .iadd, []) :: (60, 1, .ireturn, []) :: []
def cd_12_6 : List vi_E := (6, 2, .iload 5, [5]) :: (8, 3, .sipush 4320, [4320]) :: (11, 1, .iadd, []) :: (12, 1, .iload_n 3, [3]) :: (13, 3, .if_icmp .gt 30, [43]) :: (16, 2, .iload 4, [4]) :: (18, 1, .aload_n 0, [0]) :: (19, 3, .getfield 24, [9, 2, 2, 220]) :: (22, 1, .aload_n 1, [1]) :: (23, 2, .iload 5, [5]) :: (25, 3, .sipush 4320, [4320]) :: (28, 3, .invokevirtual 289, [72, 3, 2, 567, 570, 51, 568, 569]) :: (31, 1, .iadd, []) :: (32, 2, .istore 4, [4]) :: (34, 6, .iinc 5 4320, []) :: (40, 3, .goto (-34), [6]) :: cd_12_43
def cd_12_0 : List vi_E := (0, 1, .iconst 0, [0]) :: (1, 2, .istore 4, [4]) :: (3, 1, .iload_n 2, [2]) :: (4, 2, .istore 5, [5]) :: cd_12_6
def cd_12 : List vi_E := cd_12_0
set_option maxRecDepth 100000 in
theorem ok_12 : vi_okC MT (MT 12) cd_12 = true := by decide +kernel
theorem at_12_0 : vi_at cd_12 0 = cd_12_0 := rfl
set_option maxRecDepth 100000 in
theorem at_12_6 : vi_at cd_12 6 = cd_12_6 := rfl
set_option maxRecDepth 100000 in
theorem at_12_43 : vi_at cd_12 43 = cd_12_43 := rfl
def cd_13_70 : List vi_E := (70, 3, .invokestatic 95, [46, 1, 338, 340, 50, 339]) :: (73, 2, .aload 4, [4]) :: (75, 1, .iload_n 3, [3]) :: (76, 3, .invokevirtual 251, [81, 1, 3, 746, 749, 54, 747, 748]) :: (79, 2, .aload 4, [4]) :: (81, 3, .getfield 254, [3, 7, 0, 200]) :: (84, 1, .ireturn, []) :: []
def cd_13_69 : List vi_E := (69, 1, .iconst 0, [0]) :: cd_13_70
def cd_13_22 : List vi_E := (22, 3, .invokestatic 91, [45, 1, 273, 275, 50, 274]) :: (25, 1, .aload_n 0, [0]) :: (26, 3, .getfield 48, [9, 6, 2, 224]) :: (29, 1, .iload_n 1, [1]) :: (30, 1, .aaload, [4]) :: (31, 2, .astore 4, [4]) :: (33, 2, .aload 4, [4]) :: (35, 3, .getfield 233, [3, 3, 2, 192]) :: (38, 3, .ifnull 31, [69]) :: (41, 2, .aload 4, [4]) :: (43, 3, .getfield 244, [3, 0, 2, 186]) :: (46, 1, .iload_n 3, [3]) :: (47, 1, .iaload, []) :: (48, 3, .sipush 500, [500]) :: (51, 3, .if_icmp .ge 18, [69]) :: (54, 2, .aload 4, [4]) :: (56, 3, .getfield 248, [3, 6, 0, 198]) :: (59, 3, .sipush 200, [200]) :: (62, 3, .if_icmp .ge 7, [69]) :: (65, 1, .iconst 1, [1]) :: (66, 3, .goto 4, [70]) :: cd_13_69
def cd_13_21 : List vi_E := (21, 1, .iconst 0, [0]) :: cd_13_22
def cd_13_0 : List vi_E := (0, 1, .iload_n 2, [2]) :: (1, 3, .invokestatic 241, [40, 1, 742, 744, 50, 743]) :: (4, 1, .istore_n 3, [3]) :: (5, 1, .iload_n 1, [1]) :: (6, 3, .invokestatic 230, [29, 1, 725, 727, 50, 726]) :: (9, 3, .ifCond .eq 12, [21]) :: (12, 1, .iload_n 3, [3]) :: (13, 1, .iconst (-1), []) :: (14, 3, .if_icmp .eq 7, [21]) :: (17, 1, .iconst 1, [1]) :: (18, 3, .goto 4, [22]) :: cd_13_21
def cd_13 : List vi_E := cd_13_0
set_option maxRecDepth 100000 in
theorem ok_13 : vi_okC MT (MT 13) cd_13 = true := by decide +kernel
theorem at_13_0 : vi_at cd_13 0 = cd_13_0 := rfl
set_option maxRecDepth 100000 in
theorem at_13_21 : vi_at cd_13 21 = cd_13_21 := rfl
set_option maxRecDepth 100000 in
theorem at_13_22 : vi_at cd_13 22 = cd_13_22 := rfl
set_option maxRecDepth 100000 in
theorem at_13_69 : vi_at cd_13 69 = cd_13_69 := rfl
set_option maxRecDepth 100000 in
theorem at_13_70 : vi_at cd_13 70 = cd_13_70 := rfl
def cd_14_70 : List vi_E := (70, 1, .aload_n 0, [0]) :: (71, 3, .getfield 36, [9, 4, 2, 222]) :: (74, 1, .iload_n 1, [1]) :: (75, 1, .aaload, [3]) :: (76, 1, .iload_n 2, [2]) :: (77, 3, .putfield 201, [1, 0, 0, 642]) :: (80, 1, .aload_n 0, [0]) :: (81, 3, .getfield 36, [9, 4, 2, 222]) :: (84, 1, .iload_n 1, [1]) :: (85, 1, .aaload, [3]) :: (86, 1, .iload_n 3, [3]) :: (87, 3, .putfield 202, [1, 1, 0, 644]) :: (90, 1, .return_, []) :: []
def cd_14_45 : List vi_E := (45, 3, .invokestatic 95, [46, 1, 338, 340, 50, 339]) :: (48, 1, .aload_n 0, [0]) :: (49, 3, .getfield 36, [9, 4, 2, 222]) :: (52, 1, .iload_n 1, [1]) :: (53, 1, .aaload, [3]) :: (54, 3, .ifnonnull 16, [70]) :: (57, 1, .aload_n 0, [0]) :: (58, 3, .getfield 36, [9, 4, 2, 222]) :: (61, 1, .iload_n 1, [1]) :: (62, 3, .new 34, [1, 4, 121, 636, 66]) :: (65, 1, .dup, []) :: (66, 3, .invokespecial 200, [64, 0, 637, 639, 66, 638, 1]) :: (69, 1, .aastore, [3, 1]) :: cd_14_70
def cd_14_44 : List vi_E := (44, 1, .iconst 0, [0]) :: cd_14_45
def cd_14_29 : List vi_E := (29, 3, .invokestatic 91, [45, 1, 273, 275, 50, 274]) :: (32, 1, .aload_n 0, [0]) :: (33, 1, .iload_n 1, [1]) :: (34, 3, .invokevirtual 196, [26, 1, 9, 493, 496, 50, 495, 9]) :: (37, 3, .ifCond .ne 7, [44]) :: (40, 1, .iconst 1, [1]) :: (41, 3, .goto 4, [45]) :: cd_14_44
def cd_14_28 : List vi_E := (28, 1, .iconst 0, [0]) :: cd_14_29
def cd_14_0 : List vi_E := (0, 1, .iload_n 1, [1]) :: (1, 3, .invokestatic 193, [27, 1, 633, 635, 50, 634]) :: (4, 3, .ifCond .eq 24, [28]) :: (7, 1, .iload_n 2, [2]) :: (8, 3, .invokestatic 83, [38, 1, 267, 269, 50, 268]) :: (11, 3, .ifCond .eq 17, [28]) :: (14, 1, .iload_n 3, [3]) :: (15, 1, .iconst 1, [1]) :: (16, 2, .bipush 9, [9]) :: (18, 3, .invokestatic 87, [61, 3, 270, 272, 50, 271]) :: (21, 3, .ifCond .eq 7, [28]) :: (24, 1, .iconst 1, [1]) :: (25, 3, .goto 4, [29]) :: cd_14_28
def cd_14 : List vi_E := cd_14_0
set_option maxRecDepth 100000 in
theorem ok_14 : vi_okC MT (MT 14) cd_14 = true := by decide +kernel
theorem at_14_0 : vi_at cd_14 0 = cd_14_0 := rfl
set_option maxRecDepth 100000 in
theorem at_14_28 : vi_at cd_14 28 = cd_14_28 := rfl
set_option maxRecDepth 100000 in
theorem at_14_29 : vi_at cd_14 29 = cd_14_29 := rfl
set_option maxRecDepth 100000 in
theorem at_14_44 : vi_at cd_14 44 = cd_14_44 := rfl
set_option maxRecDepth 100000 in
theorem at_14_45 : vi_at cd_14 45 = cd_14_45 := rfl
set_option maxRecDepth 100000 in
theorem at_14_70 : vi_at cd_14 70 = cd_14_70 := rfl
def cd_15_43 : List vi_E := (43, 1, .iload_n 3, [3]) :: (44, 1, .ireturn, []) :: []
def cd_15_41 : List vi_E := (41, 1, .iconst (-1), []) :: (42, 1, .ireturn, []) :: cd_15_43
def cd_15_0 : List vi_E := (0, 1, .aload_n 0, [0]) :: (1, 1, .iload_n 1, [1]) :: (2, 3, .invokevirtual 205, [16, 1, 9, 485, 488, 50, 487, 8]) :: (5, 1, .istore_n 3, [3]) :: (6, 1, .iload_n 3, [3]) :: (7, 1, .iconst (-1), []) :: (8, 3, .if_icmp .eq 33, [41]) :: (11, 1, .aload_n 0, [0]) :: (12, 3, .getfield 36, [9, 4, 2, 222]) :: (15, 1, .iload_n 3, [3]) :: (16, 1, .aaload, [3]) :: (17, 3, .getfield 201, [1, 0, 0, 642]) :: (20, 1, .iload_n 2, [2]) :: (21, 3, .if_icmp .ne 20, [41]) :: (24, 1, .aload_n 0, [0]) :: (25, 1, .iload_n 3, [3]) :: (26, 3, .invokevirtual 196, [26, 1, 9, 493, 496, 50, 495, 9]) :: (29, 1, .aload_n 0, [0]) :: (30, 3, .getfield 36, [9, 4, 2, 222]) :: (33, 1, .iload_n 3, [3]) :: (34, 1, .aaload, [3]) :: (35, 3, .getfield 202, [1, 1, 0, 644]) :: (38, 3, .if_icmp .lt 5, [43]) :: cd_15_41
def cd_15 : List vi_E := cd_15_0
set_option maxRecDepth 100000 in
theorem ok_15 : vi_okC MT (MT 15) cd_15 = true := by decide +kernel
theorem at_15_0 : vi_at cd_15 0 = cd_15_0 := rfl
set_option maxRecDepth 100000 in
theorem at_15_41 : vi_at cd_15 41 = cd_15_41 := rfl
set_option maxRecDepth 100000 in
theorem at_15_43 : vi_at cd_15 43 = cd_15_43 := rfl
def cd_16_39 : List vi_E := (39, 1, .iconst (-1), []) :: (40, 1, .ireturn, []) :: []
def cd_16_33 : List vi_E := (33, 3, .iinc 2 1, []) :: (36, 3, .goto (-34), [2]) :: cd_16_39
def cd_16_2 : List vi_E := (2, 1, .iload_n 2, [2]) :: (3, 2, .bipush 20, [20]) :: (5, 3, .if_icmp .ge 34, [39]) :: (8, 1, .aload_n 0, [0]) :: (9, 3, .getfield 36, [9, 4, 2, 222]) :: (12, 1, .iload_n 2, [2]) :: (13, 1, .aaload, [3]) :: (14, 3, .ifnull 19, [33]) :: (17, 1, .aload_n 0, [0]) :: (18, 3, .getfield 36, [9, 4, 2, 222]) :: (21, 1, .iload_n 2, [2]) :: (22, 1, .aaload, [3]) :: (23, 1, .iload_n 1, [1]) :: (24, 3, .invokevirtual 324, [63, 1, 1, 489, 492, 66, 490, 491]) :: (27, 1, .iconst (-1), []) :: (28, 3, .if_icmp .eq 5, [33]) :: (31, 1, .iload_n 2, [2]) :: (32, 1, .ireturn, []) :: cd_16_33
def cd_16_0 : List vi_E := (0, 1, .iconst 0, [0]) :: (1, 1, .istore_n 2, [2]) :: cd_16_2
def cd_16 : List vi_E := cd_16_0
set_option maxRecDepth 100000 in
theorem ok_16 : vi_okC MT (MT 16) cd_16 = true := by decide +kernel
theorem at_16_0 : vi_at cd_16 0 = cd_16_0 := rfl
set_option maxRecDepth 100000 in
theorem at_16_2 : vi_at cd_16 2 = cd_16_2 := rfl
set_option maxRecDepth 100000 in
theorem at_16_33 : vi_at cd_16 33 = cd_16_33 := rfl
set_option maxRecDepth 100000 in
theorem at_16_39 : vi_at cd_16 39 = cd_16_39 := rfl
def cd_17_20 : List vi_E := (20, 1, .aload_n 0, [0]) :: (21, 3, .getfield 36, [9, 4, 2, 222]) :: (24, 1, .iload_n 2, [2]) :: (25, 1, .aaload, [3]) :: (26, 1, .iload_n 1, [1]) :: (27, 3, .invokevirtual 214, [65, 1, 1, 675, 678, 66, 676, 677]) :: (30, 1, .iconst 1, [1]) :: (31, 1, .ireturn, []) :: []
def cd_17_0 : List vi_E := (0, 1, .iload_n 1, [1]) :: (1, 3, .invokestatic 127, [31, 1, 443, 445, 50, 444]) :: (4, 3, .invokestatic 91, [45, 1, 273, 275, 50, 274]) :: (7, 1, .aload_n 0, [0]) :: (8, 1, .iload_n 1, [1]) :: (9, 3, .invokevirtual 205, [16, 1, 9, 485, 488, 50, 487, 8]) :: (12, 1, .istore_n 2, [2]) :: (13, 1, .iload_n 2, [2]) :: (14, 1, .iconst (-1), []) :: (15, 3, .if_icmp .ne 5, [20]) :: (18, 1, .iconst 0, [0]) :: (19, 1, .ireturn, []) :: cd_17_20
def cd_17 : List vi_E := cd_17_0
set_option maxRecDepth 100000 in
theorem ok_17 : vi_okC MT (MT 17) cd_17 = true := by decide +kernel
theorem at_17_0 : vi_at cd_17 0 = cd_17_0 := rfl
set_option maxRecDepth 100000 in
theorem at_17_20 : vi_at cd_17 20 = cd_17_20 := rfl
def cd_18_88 : List vi_E := (88, 1, .aload_n 0, [0]) :: (89, 1, .iload_n 2, [2]) :: (90, 2, .iload 4, [4]) :: (92, 1, .iload_n 3, [3]) :: (93, 1, .aload_n 0, [0]) :: (94, 1, .iload_n 2, [2]) :: (95, 2, .iload 4, [4]) :: (97, 3, .invokevirtual 141, [15, 2, 9, 481, 484, 50, 483, 7]) :: (100, 3, .invokevirtual 145, [7, 4, 9, 497, 500, 50, 499, 10]) :: (103, 3, .getfield 149, [7, 0, 0, 507]) :: (106, 1, .ireturn, []) :: []
def cd_18_86 : List vi_E := (86, 1, .iconst 0, [0]) :: (87, 1, .ireturn, []) :: cd_18_88
def cd_18_55 : List vi_E := (55, 3, .invokestatic 95, [46, 1, 338, 340, 50, 339]) :: (58, 1, .aload_n 0, [0]) :: (59, 1, .iload_n 3, [3]) :: (60, 3, .putfield 72, [9, 11, 0, 229]) :: (63, 1, .iload_n 1, [1]) :: (64, 1, .iconst 4, [4]) :: (65, 1, .irem, []) :: (66, 2, .istore 4, [4]) :: (68, 1, .aload_n 0, [0]) :: (69, 1, .iload_n 2, [2]) :: (70, 3, .invokevirtual 133, [60, 1, 9, 455, 458, 50, 457, 3]) :: (73, 3, .ifnonnull 13, [86]) :: (76, 1, .aload_n 0, [0]) :: (77, 2, .iload 4, [4]) :: (79, 1, .iload_n 3, [3]) :: (80, 3, .invokevirtual 137, [28, 2, 9, 465, 468, 50, 467, 4]) :: (83, 3, .ifCond .eq 5, [88]) :: cd_18_86
def cd_18_54 : List vi_E := (54, 1, .iconst 0, [0]) :: cd_18_55
def cd_18_30 : List vi_E := (30, 3, .invokestatic 91, [45, 1, 273, 275, 50, 274]) :: (33, 1, .aload_n 0, [0]) :: (34, 3, .getfield 75, [9, 12, 3, 230]) :: (37, 3, .ifCond .eq 17, [54]) :: (40, 1, .aload_n 0, [0]) :: (41, 3, .getfield 65, [9, 9, 0, 227]) :: (44, 3, .sipush 300, [300]) :: (47, 3, .if_icmp .ge 7, [54]) :: (50, 1, .iconst 1, [1]) :: (51, 3, .goto 4, [55]) :: cd_18_54
def cd_18_29 : List vi_E := (29, 1, .iconst 0, [0]) :: cd_18_30
def cd_18_0 : List vi_E := (0, 1, .iload_n 1, [1]) :: (1, 1, .iconst 0, [0]) :: (2, 2, .bipush 7, [7]) :: (4, 3, .invokestatic 87, [61, 3, 270, 272, 50, 271]) :: (7, 3, .ifCond .eq 22, [29]) :: (10, 1, .iload_n 2, [2]) :: (11, 3, .invokestatic 127, [31, 1, 443, 445, 50, 444]) :: (14, 3, .ifCond .eq 15, [29]) :: (17, 1, .aload_n 0, [0]) :: (18, 1, .iload_n 3, [3]) :: (19, 3, .invokevirtual 130, [37, 1, 9, 447, 450, 50, 449, 2]) :: (22, 3, .ifCond .eq 7, [29]) :: (25, 1, .iconst 1, [1]) :: (26, 3, .goto 4, [30]) :: cd_18_29
def cd_18 : List vi_E := cd_18_0
set_option maxRecDepth 100000 in
theorem ok_18 : vi_okC MT (MT 18) cd_18 = true := by decide +kernel
theorem at_18_0 : vi_at cd_18 0 = cd_18_0 := rfl
set_option maxRecDepth 100000 in
theorem at_18_29 : vi_at cd_18 29 = cd_18_29 := rfl
set_option maxRecDepth 100000 in
theorem at_18_30 : vi_at cd_18 30 = cd_18_30 := rfl
set_option maxRecDepth 100000 in
theorem at_18_54 : vi_at cd_18 54 = cd_18_54 := rfl
set_option maxRecDepth 100000 in
theorem at_18_55 : vi_at cd_18 55 = cd_18_55 := rfl
set_option maxRecDepth 100000 in
theorem at_18_86 : vi_at cd_18 86 = cd_18_86 := rfl
set_option maxRecDepth 100000 in
theorem at_18_88 : vi_at cd_18 88 = cd_18_88 := rfl
def cd_19_48 : List vi_E := (48, 3, .invokestatic 95, [46, 1, 338, 340, 50, 339]) :: (51, 1, .aload_n 0, [0]) :: (52, 1, .iload_n 2, [2]) :: (53, 3, .putfield 72, [9, 11, 0, 229]) :: (56, 1, .aload_n 0, [0]) :: (57, 1, .aload_n 0, [0]) :: (58, 3, .getfield 30, [9, 3, 2, 221]) :: (61, 1, .iload_n 1, [1]) :: (62, 1, .aaload, [8]) :: (63, 1, .iload_n 2, [2]) :: (64, 3, .invokevirtual 159, [20, 2, 9, 555, 558, 50, 557, 12]) :: (67, 1, .ireturn, []) :: []
def cd_19_47 : List vi_E := (47, 1, .iconst 0, [0]) :: cd_19_48
def cd_19_21 : List vi_E := (21, 3, .invokestatic 91, [45, 1, 273, 275, 50, 274]) :: (24, 1, .aload_n 0, [0]) :: (25, 3, .getfield 75, [9, 12, 3, 230]) :: (28, 3, .ifCond .eq 19, [47]) :: (31, 1, .aload_n 0, [0]) :: (32, 3, .getfield 30, [9, 3, 2, 221]) :: (35, 1, .iload_n 1, [1]) :: (36, 1, .aaload, [8]) :: (37, 3, .invokevirtual 155, [90, 0, 7, 459, 462, 64, 460, 461]) :: (40, 3, .ifCond .eq 7, [47]) :: (43, 1, .iconst 1, [1]) :: (44, 3, .goto 4, [48]) :: cd_19_47
def cd_19_20 : List vi_E := (20, 1, .iconst 0, [0]) :: cd_19_21
def cd_19_0 : List vi_E := (0, 1, .aload_n 0, [0]) :: (1, 1, .iload_n 1, [1]) :: (2, 3, .invokevirtual 152, [36, 1, 9, 551, 554, 50, 553, 11]) :: (5, 3, .ifCond .eq 15, [20]) :: (8, 1, .aload_n 0, [0]) :: (9, 1, .iload_n 2, [2]) :: (10, 3, .invokevirtual 130, [37, 1, 9, 447, 450, 50, 449, 2]) :: (13, 3, .ifCond .eq 7, [20]) :: (16, 1, .iconst 1, [1]) :: (17, 3, .goto 4, [21]) :: cd_19_20
def cd_19 : List vi_E := cd_19_0
set_option maxRecDepth 100000 in
theorem ok_19 : vi_okC MT (MT 19) cd_19 = true := by decide +kernel
theorem at_19_0 : vi_at cd_19 0 = cd_19_0 := rfl
set_option maxRecDepth 100000 in
theorem at_19_20 : vi_at cd_19 20 = cd_19_20 := rfl
set_option maxRecDepth 100000 in
theorem at_19_21 : vi_at cd_19 21 = cd_19_21 := rfl
set_option maxRecDepth 100000 in
theorem at_19_47 : vi_at cd_19 47 = cd_19_47 := rfl
set_option maxRecDepth 100000 in
theorem at_19_48 : vi_at cd_19 48 = cd_19_48 := rfl
def cd_20_37 : List vi_E := (37, 1, .istore_n 3, [3]) :: (38, 1, .iconst 0, [0]) :: (39, 1, .aload_n 0, [0]) :: (40, 1, .aload_n 0, [0]) :: (41, 3, .getfield 11, [9, 0, 2, 218]) :: (44, 1, .aload_n 1, [1]) :: (45, 3, .getfield 175, [7, 2, 0, 511]) :: (48, 1, .aaload, [9]) :: (49, 1, .aload_n 1, [1]) :: (50, 3, .getfield 178, [7, 3, 0, 513]) :: (53, 1, .iload_n 3, [3]) :: (54, 3, .invokevirtual 342, [12, 3, 9, 563, 566, 50, 565, 13]) :: (57, 1, .aload_n 1, [1]) :: (58, 3, .getfield 184, [7, 7, 0, 522]) :: (61, 1, .isub, []) :: (62, 3, .invokestatic 334, [0, 605, 606, 65, 607]) :: (65, 1, .ireturn, []) :: []
def cd_20_36 : List vi_E := (36, 1, .iload_n 2, [2]) :: cd_20_37
def cd_20_18 : List vi_E := (18, 1, .aload_n 1, [1]) :: (19, 3, .getfield 318, [7, 1, 0, 509]) :: (22, 3, .ifCond .ne 14, [36]) :: (25, 1, .aload_n 1, [1]) :: (26, 3, .getfield 178, [7, 3, 0, 513]) :: (29, 3, .sipush 4320, [4320]) :: (32, 1, .iadd, []) :: (33, 3, .goto 4, [37]) :: cd_20_36
def cd_20_16 : List vi_E := (16, 1, .iconst 0, [0]) :: (17, 1, .ireturn, []) :: cd_20_18
def cd_20_0 : List vi_E := (0, 1, .aload_n 1, [1]) :: (1, 3, .getfield 181, [7, 4, 0, 515]) :: (4, 1, .iconst (-1), []) :: (5, 3, .if_icmp .ne 11, [16]) :: (8, 1, .aload_n 1, [1]) :: (9, 1, .iload_n 2, [2]) :: (10, 3, .invokevirtual 339, [89, 1, 7, 559, 562, 64, 560, 561]) :: (13, 3, .ifCond .eq 5, [18]) :: cd_20_16
def cd_20 : List vi_E := cd_20_0
set_option maxRecDepth 100000 in
theorem ok_20 : vi_okC MT (MT 20) cd_20 = true := by decide +kernel
theorem at_20_0 : vi_at cd_20 0 = cd_20_0 := rfl
set_option maxRecDepth 100000 in
theorem at_20_16 : vi_at cd_20 16 = cd_20_16 := rfl
set_option maxRecDepth 100000 in
theorem at_20_18 : vi_at cd_20 18 = cd_20_18 := rfl
set_option maxRecDepth 100000 in
theorem at_20_36 : vi_at cd_20 36 = cd_20_36 := rfl
set_option maxRecDepth 100000 in
theorem at_20_37 : vi_at cd_20 37 = cd_20_37 := rfl
def cd_21_77 : List vi_E := (77, 3, .invokestatic 95, [46, 1, 338, 340, 50, 339]) :: (80, 2, .aload 5, [5]) :: (82, 3, .getfield 244, [3, 0, 2, 186]) :: (85, 2, .iload 4, [4]) :: (87, 1, .dup2, []) :: (88, 1, .iaload, []) :: (89, 1, .iload_n 3, [3]) :: (90, 1, .iadd, []) :: (91, 1, .iastore, []) :: (92, 2, .aload 5, [5]) :: (94, 3, .getfield 244, [3, 0, 2, 186]) :: (97, 2, .iload 4, [4]) :: (99, 1, .iaload, []) :: (100, 1, .ireturn, []) :: []
def cd_21_76 : List vi_E := (76, 1, .iconst 0, [0]) :: cd_21_77
def cd_21_24 : List vi_E := (24, 3, .invokestatic 91, [45, 1, 273, 275, 50, 274]) :: (27, 1, .aload_n 0, [0]) :: (28, 3, .getfield 48, [9, 6, 2, 224]) :: (31, 1, .iload_n 1, [1]) :: (32, 1, .aaload, [4]) :: (33, 2, .astore 5, [5]) :: (35, 1, .iload_n 3, [3]) :: (36, 3, .sipush 500, [500]) :: (39, 2, .aload 5, [5]) :: (41, 3, .getfield 244, [3, 0, 2, 186]) :: (44, 2, .iload 4, [4]) :: (46, 1, .iaload, []) :: (47, 1, .isub, []) :: (48, 3, .if_icmp .gt 28, [76]) :: (51, 1, .iload_n 3, [3]) :: (52, 2, .aload 5, [5]) :: (54, 3, .getfield 244, [3, 0, 2, 186]) :: (57, 2, .iload 4, [4]) :: (59, 1, .iaload, []) :: (60, 1, .ineg, []) :: (61, 3, .if_icmp .lt 15, [76]) :: (64, 2, .aload 5, [5]) :: (66, 3, .getfield 233, [3, 3, 2, 192]) :: (69, 3, .ifnonnull 7, [76]) :: (72, 1, .iconst 1, [1]) :: (73, 3, .goto 4, [77]) :: cd_21_76
def cd_21_23 : List vi_E := (23, 1, .iconst 0, [0]) :: cd_21_24
def cd_21_0 : List vi_E := (0, 1, .iload_n 2, [2]) :: (1, 3, .invokestatic 241, [40, 1, 742, 744, 50, 743]) :: (4, 2, .istore 4, [4]) :: (6, 1, .iload_n 1, [1]) :: (7, 3, .invokestatic 230, [29, 1, 725, 727, 50, 726]) :: (10, 3, .ifCond .eq 13, [23]) :: (13, 2, .iload 4, [4]) :: (15, 1, .iconst (-1), []) :: (16, 3, .if_icmp .eq 7, [23]) :: (19, 1, .iconst 1, [1]) :: (20, 3, .goto 4, [24]) :: cd_21_23
def cd_21 : List vi_E := cd_21_0
set_option maxRecDepth 100000 in
theorem ok_21 : vi_okC MT (MT 21) cd_21 = true := by decide +kernel
theorem at_21_0 : vi_at cd_21 0 = cd_21_0 := rfl
set_option maxRecDepth 100000 in
theorem at_21_23 : vi_at cd_21 23 = cd_21_23 := rfl
set_option maxRecDepth 100000 in
theorem at_21_24 : vi_at cd_21 24 = cd_21_24 := rfl
set_option maxRecDepth 100000 in
theorem at_21_76 : vi_at cd_21 76 = cd_21_76 := rfl
set_option maxRecDepth 100000 in
theorem at_21_77 : vi_at cd_21 77 = cd_21_77 := rfl
def cd_22_37 : List vi_E := (37, 3, .invokestatic 95, [46, 1, 338, 340, 50, 339]) :: (40, 1, .aload_n 0, [0]) :: (41, 3, .getfield 11, [9, 0, 2, 218]) :: (44, 1, .iload_n 1, [1]) :: (45, 1, .aaload, [9]) :: (46, 1, .iload_n 2, [2]) :: (47, 3, .putfield 116, [8, 4, 0, 166]) :: (50, 1, .return_, []) :: []
def cd_22_36 : List vi_E := (36, 1, .iconst 0, [0]) :: cd_22_37
def cd_22_22 : List vi_E := (22, 3, .invokestatic 91, [45, 1, 273, 275, 50, 274]) :: (25, 1, .aload_n 0, [0]) :: (26, 3, .getfield 75, [9, 12, 3, 230]) :: (29, 3, .ifCond .ne 7, [36]) :: (32, 1, .iconst 1, [1]) :: (33, 3, .goto 4, [37]) :: cd_22_36
def cd_22_21 : List vi_E := (21, 1, .iconst 0, [0]) :: cd_22_22
def cd_22_0 : List vi_E := (0, 1, .iload_n 1, [1]) :: (1, 3, .invokestatic 83, [38, 1, 267, 269, 50, 268]) :: (4, 3, .ifCond .eq 17, [21]) :: (7, 1, .iload_n 2, [2]) :: (8, 1, .iconst 0, [0]) :: (9, 2, .bipush 120, [120]) :: (11, 3, .invokestatic 87, [61, 3, 270, 272, 50, 271]) :: (14, 3, .ifCond .eq 7, [21]) :: (17, 1, .iconst 1, [1]) :: (18, 3, .goto 4, [22]) :: cd_22_21
def cd_22 : List vi_E := cd_22_0
set_option maxRecDepth 100000 in
theorem ok_22 : vi_okC MT (MT 22) cd_22 = true := by decide +kernel
theorem at_22_0 : vi_at cd_22 0 = cd_22_0 := rfl
set_option maxRecDepth 100000 in
theorem at_22_21 : vi_at cd_22 21 = cd_22_21 := rfl
set_option maxRecDepth 100000 in
theorem at_22_22 : vi_at cd_22 22 = cd_22_22 := rfl
set_option maxRecDepth 100000 in
theorem at_22_36 : vi_at cd_22 36 = cd_22_36 := rfl
set_option maxRecDepth 100000 in
theorem at_22_37 : vi_at cd_22 37 = cd_22_37 := rfl
def cd_23_58 : List vi_E := (58, 3, .invokestatic 95, [46, 1, 338, 340, 50, 339]) :: (61, 1, .aload_n 0, [0]) :: (62, 3, .getfield 17, [9, 1, 2, 219]) :: (65, 1, .iload_n 1, [1]) :: (66, 1, .aaload, [6]) :: (67, 1, .iload_n 2, [2]) :: (68, 3, .putfield 110, [5, 4, 0, 383]) :: (71, 1, .aload_n 0, [0]) :: (72, 3, .getfield 17, [9, 1, 2, 219]) :: (75, 1, .iload_n 1, [1]) :: (76, 1, .aaload, [6]) :: (77, 1, .iload_n 3, [3]) :: (78, 3, .putfield 113, [5, 5, 0, 385]) :: (81, 1, .return_, []) :: []
def cd_23_57 : List vi_E := (57, 1, .iconst 0, [0]) :: cd_23_58
def cd_23_34 : List vi_E := (34, 3, .invokestatic 91, [45, 1, 273, 275, 50, 274]) :: (37, 1, .aload_n 0, [0]) :: (38, 3, .getfield 75, [9, 12, 3, 230]) :: (41, 3, .ifCond .ne 16, [57]) :: (44, 1, .aload_n 0, [0]) :: (45, 3, .getfield 17, [9, 1, 2, 219]) :: (48, 1, .iload_n 1, [1]) :: (49, 1, .aaload, [6]) :: (50, 3, .ifnull 7, [57]) :: (53, 1, .iconst 1, [1]) :: (54, 3, .goto 4, [58]) :: cd_23_57
def cd_23_33 : List vi_E := (33, 1, .iconst 0, [0]) :: cd_23_34
def cd_23_0 : List vi_E := (0, 1, .iload_n 1, [1]) :: (1, 3, .invokestatic 101, [33, 1, 363, 365, 50, 364]) :: (4, 3, .ifCond .eq 29, [33]) :: (7, 1, .iload_n 2, [2]) :: (8, 1, .iconst 0, [0]) :: (9, 3, .sipush 168, [168]) :: (12, 3, .invokestatic 87, [61, 3, 270, 272, 50, 271]) :: (15, 3, .ifCond .eq 18, [33]) :: (18, 1, .iload_n 3, [3]) :: (19, 1, .iconst 0, [0]) :: (20, 3, .sipush 168, [168]) :: (23, 3, .invokestatic 87, [61, 3, 270, 272, 50, 271]) :: (26, 3, .ifCond .eq 7, [33]) :: (29, 1, .iconst 1, [1]) :: (30, 3, .goto 4, [34]) :: cd_23_33
def cd_23 : List vi_E := cd_23_0
set_option maxRecDepth 100000 in
theorem ok_23 : vi_okC MT (MT 23) cd_23 = true := by decide +kernel
theorem at_23_0 : vi_at cd_23 0 = cd_23_0 := rfl
set_option maxRecDepth 100000 in
theorem at_23_33 : vi_at cd_23 33 = cd_23_33 := rfl
set_option maxRecDepth 100000 in
theorem at_23_34 : vi_at cd_23 34 = cd_23_34 := rfl
set_option maxRecDepth 100000 in
theorem at_23_57 : vi_at cd_23 57 = cd_23_57 := rfl
set_option maxRecDepth 100000 in
theorem at_23_58 : vi_at cd_23 58 = cd_23_58 := rfl
def cd_24_162 : List vi_E := (162, 1, .return_, []) :: []
def cd_24_138 : List vi_E := (138, 1, .iload_n 1, [1]) :: (139, 1, .iconst 3, [3]) :: (140, 3, .if_icmp .ge 22, [162]) :: (143, 1, .aload_n 0, [0]) :: (144, 3, .getfield 48, [9, 6, 2, 224]) :: (147, 1, .iload_n 1, [1]) :: (148, 3, .new 46, [3, 8, 125, 179, 54]) :: (151, 1, .dup, []) :: (152, 3, .invokespecial 82, [80, 0, 180, 182, 54, 181, 1]) :: (155, 1, .aastore, [4, 3]) :: (156, 3, .iinc 1 1, []) :: (159, 3, .goto (-21), [138]) :: cd_24_162
def cd_24_136 : List vi_E := (136, 1, .iconst 0, [0]) :: (137, 1, .istore_n 1, [1]) :: cd_24_138
def cd_24_111 : List vi_E := (111, 1, .iload_n 1, [1]) :: (112, 1, .iconst 4, [4]) :: (113, 3, .if_icmp .ge 23, [136]) :: (116, 1, .aload_n 0, [0]) :: (117, 3, .getfield 11, [9, 0, 2, 218]) :: (120, 1, .iload_n 1, [1]) :: (121, 3, .new 9, [8, 5, 79, 151, 53]) :: (124, 1, .dup, []) :: (125, 1, .iload_n 1, [1]) :: (126, 3, .invokespecial 79, [94, 1, 152, 154, 53, 153]) :: (129, 1, .aastore, [9, 8]) :: (130, 3, .iinc 1 1, []) :: (133, 3, .goto (-22), [111]) :: cd_24_136
def cd_24_0 : List vi_E := (0, 1, .aload_n 0, [0]) :: (1, 3, .invokespecial 3, [76, 77, 78]) :: (4, 1, .aload_n 0, [0]) :: (5, 1, .iconst 4, [4]) :: (6, 3, .anewarray 9, [9, 79, 80]) :: (9, 3, .putfield 11, [9, 0, 2, 218]) :: (12, 1, .aload_n 0, [0]) :: (13, 2, .bipush 24, [24]) :: (15, 3, .anewarray 15, [6, 81, 82]) :: (18, 3, .putfield 17, [9, 1, 2, 219]) :: (21, 1, .aload_n 0, [0]) :: (22, 3, .new 21, [2, 9, 83, 84, 51]) :: (25, 1, .dup, []) :: (26, 3, .invokespecial 23, [68, 0, 85, 87, 51, 86, 1]) :: (29, 3, .putfield 24, [9, 2, 2, 220]) :: (32, 1, .aload_n 0, [0]) :: (33, 3, .sipush 301, [301]) :: (36, 3, .anewarray 28, [8, 119, 120]) :: (39, 3, .putfield 30, [9, 3, 2, 221]) :: (42, 1, .aload_n 0, [0]) :: (43, 2, .bipush 20, [20]) :: (45, 3, .anewarray 34, [3, 121, 122]) :: (48, 3, .putfield 36, [9, 4, 2, 222]) :: (51, 1, .aload_n 0, [0]) :: (52, 2, .bipush 30, [30]) :: (54, 3, .anewarray 40, [7, 123, 124]) :: (57, 3, .putfield 42, [9, 5, 2, 223]) :: (60, 1, .aload_n 0, [0]) :: (61, 1, .iconst 3, [3]) :: (62, 3, .anewarray 46, [4, 125, 126]) :: (65, 3, .putfield 48, [9, 6, 2, 224]) :: (68, 1, .aload_n 0, [0]) :: (69, 3, .new 52, [0, 4, 127, 128, 52]) :: (72, 1, .dup, []) :: (73, 3, .invokespecial 54, [4, 0, 129, 131, 52, 130, 1]) :: (76, 3, .putfield 55, [9, 7, 2, 225]) :: (79, 1, .aload_n 0, [0]) :: (80, 3, .sipush 170, [170]) :: (83, 3, .anewarray 59, [5, 149, 150]) :: (86, 3, .putfield 61, [9, 8, 2, 226]) :: (89, 1, .aload_n 0, [0]) :: (90, 1, .iconst 0, [0]) :: (91, 3, .putfield 65, [9, 9, 0, 227]) :: (94, 1, .aload_n 0, [0]) :: (95, 1, .iconst 0, [0]) :: (96, 3, .putfield 69, [9, 10, 0, 228]) :: (99, 1, .aload_n 0, [0]) :: (100, 1, .iconst 0, [0]) :: (101, 3, .putfield 72, [9, 11, 0, 229]) :: (104, 1, .aload_n 0, [0]) :: (105, 1, .iconst 0, [0]) :: (106, 3, .putfield 75, [9, 12, 3, 230]) :: (109, 1, .iconst 0, [0]) :: (110, 1, .istore_n 1, [1]) :: cd_24_111
def cd_24 : List vi_E := cd_24_0
set_option maxRecDepth 100000 in
theorem ok_24 : vi_okC MT (MT 24) cd_24 = true := by decide +kernel
theorem at_24_0 : vi_at cd_24 0 = cd_24_0 := rfl
set_option maxRecDepth 100000 in
theorem at_24_111 : vi_at cd_24 111 = cd_24_111 := rfl
set_option maxRecDepth 100000 in
theorem at_24_136 : vi_at cd_24 136 = cd_24_136 := rfl
set_option maxRecDepth 100000 in
theorem at_24_138 : vi_at cd_24 138 = cd_24_138 := rfl
set_option maxRecDepth 100000 in
theorem at_24_162 : vi_at cd_24 162 = cd_24_162 := rfl
def cd_25_25 : List vi_E := (25, 1, .ireturn, []) :: []
def cd_25_21 : List vi_E := (21, 1, .aload_n 2, [2]) :: (22, 3, .getfield 149, [7, 0, 0, 507]) :: cd_25_25
def cd_25_0 : List vi_E := (0, 1, .iload_n 1, [1]) :: (1, 3, .invokestatic 127, [31, 1, 443, 445, 50, 444]) :: (4, 3, .invokestatic 91, [45, 1, 273, 275, 50, 274]) :: (7, 1, .aload_n 0, [0]) :: (8, 1, .iload_n 1, [1]) :: (9, 3, .invokevirtual 133, [60, 1, 9, 455, 458, 50, 457, 3]) :: (12, 1, .astore_n 2, [2]) :: (13, 1, .aload_n 2, [2]) :: (14, 3, .ifnonnull 7, [21]) :: (17, 1, .iconst 0, [0]) :: (18, 3, .goto 7, [25]) :: cd_25_21
def cd_25 : List vi_E := cd_25_0
set_option maxRecDepth 100000 in
theorem ok_25 : vi_okC MT (MT 25) cd_25 = true := by decide +kernel
theorem at_25_0 : vi_at cd_25 0 = cd_25_0 := rfl
set_option maxRecDepth 100000 in
theorem at_25_21 : vi_at cd_25 21 = cd_25_21 := rfl
set_option maxRecDepth 100000 in
theorem at_25_25 : vi_at cd_25 25 = cd_25_25 := rfl
def cd_26_46 : List vi_E := (46, 1, .iload_n 2, [2]) :: (47, 1, .ireturn, []) :: []
def cd_26_40 : List vi_E := (40, 3, .iinc 3 1, []) :: (43, 3, .goto (-39), [4]) :: cd_26_46
def cd_26_4 : List vi_E := (4, 1, .iload_n 3, [3]) :: (5, 1, .aload_n 0, [0]) :: (6, 3, .getfield 65, [9, 9, 0, 227]) :: (9, 3, .if_icmp .gt 37, [46]) :: (12, 1, .aload_n 0, [0]) :: (13, 3, .getfield 30, [9, 3, 2, 221]) :: (16, 1, .iload_n 3, [3]) :: (17, 1, .aaload, [8]) :: (18, 3, .getfield 181, [7, 4, 0, 515]) :: (21, 1, .iload_n 1, [1]) :: (22, 3, .if_icmp .ne 18, [40]) :: (25, 1, .aload_n 0, [0]) :: (26, 3, .getfield 30, [9, 3, 2, 221]) :: (29, 1, .iload_n 3, [3]) :: (30, 1, .aaload, [8]) :: (31, 3, .invokevirtual 155, [90, 0, 7, 459, 462, 64, 460, 461]) :: (34, 3, .ifCond .eq 6, [40]) :: (37, 3, .iinc 2 1, []) :: cd_26_40
def cd_26_0 : List vi_E := (0, 1, .iconst 0, [0]) :: (1, 1, .istore_n 2, [2]) :: (2, 1, .iconst 1, [1]) :: (3, 1, .istore_n 3, [3]) :: cd_26_4
def cd_26 : List vi_E := cd_26_0
set_option maxRecDepth 100000 in
theorem ok_26 : vi_okC MT (MT 26) cd_26 = true := by decide +kernel
theorem at_26_0 : vi_at cd_26 0 = cd_26_0 := rfl
set_option maxRecDepth 100000 in
theorem at_26_4 : vi_at cd_26 4 = cd_26_4 := rfl
set_option maxRecDepth 100000 in
theorem at_26_40 : vi_at cd_26 40 = cd_26_40 := rfl
set_option maxRecDepth 100000 in
theorem at_26_46 : vi_at cd_26 46 = cd_26_46 := rfl
def cd_27_0 : List vi_E := (0, 1, .iload_n 0, [0]) :: (1, 1, .iconst 0, [0]) :: (2, 2, .bipush 19, [19]) :: (4, 3, .invokestatic 87, [61, 3, 270, 272, 50, 271]) :: (7, 1, .ireturn, []) :: []
def cd_27 : List vi_E := cd_27_0
set_option maxRecDepth 100000 in
theorem ok_27 : vi_okC MT (MT 27) cd_27 = true := by decide +kernel
theorem at_27_0 : vi_at cd_27 0 = cd_27_0 := rfl
def cd_28_29 : List vi_E := (29, 1, .ireturn, []) :: []
def cd_28_28 : List vi_E := (28, 1, .iconst 0, [0]) :: cd_28_29
def cd_28_0 : List vi_E := (0, 1, .aload_n 0, [0]) :: (1, 1, .iload_n 1, [1]) :: (2, 3, .invokevirtual 283, [54, 1, 9, 469, 472, 50, 471, 5]) :: (5, 1, .aload_n 0, [0]) :: (6, 3, .getfield 11, [9, 0, 2, 218]) :: (9, 1, .iload_n 1, [1]) :: (10, 1, .aaload, [9]) :: (11, 3, .getfield 98, [8, 3, 0, 164]) :: (14, 1, .aload_n 0, [0]) :: (15, 1, .iload_n 1, [1]) :: (16, 1, .iload_n 2, [2]) :: (17, 3, .invokevirtual 321, [58, 2, 9, 473, 476, 50, 475, 6]) :: (20, 1, .isub, []) :: (21, 3, .if_icmp .lt 7, [28]) :: (24, 1, .iconst 1, [1]) :: (25, 3, .goto 4, [29]) :: cd_28_28
def cd_28 : List vi_E := cd_28_0
set_option maxRecDepth 100000 in
theorem ok_28 : vi_okC MT (MT 28) cd_28 = true := by decide +kernel
theorem at_28_0 : vi_at cd_28 0 = cd_28_0 := rfl
set_option maxRecDepth 100000 in
theorem at_28_28 : vi_at cd_28 28 = cd_28_28 := rfl
set_option maxRecDepth 100000 in
theorem at_28_29 : vi_at cd_28 29 = cd_28_29 := rfl
def cd_29_0 : List vi_E := (0, 1, .iload_n 0, [0]) :: (1, 1, .iconst 0, [0]) :: (2, 1, .iconst 2, [2]) :: (3, 3, .invokestatic 87, [61, 3, 270, 272, 50, 271]) :: (6, 1, .ireturn, []) :: []
def cd_29 : List vi_E := cd_29_0
set_option maxRecDepth 100000 in
theorem ok_29 : vi_okC MT (MT 29) cd_29 = true := by decide +kernel
theorem at_29_0 : vi_at cd_29 0 = cd_29_0 := rfl
def cd_30_0 : List vi_E := (0, 1, .iload_n 0, [0]) :: (1, 1, .iconst 0, [0]) :: (2, 3, .ldc_w 311, [200000, 454]) :: (5, 3, .invokestatic 87, [61, 3, 270, 272, 50, 271]) :: (8, 1, .ireturn, []) :: []
def cd_30 : List vi_E := cd_30_0
set_option maxRecDepth 100000 in
theorem ok_30 : vi_okC MT (MT 30) cd_30 = true := by decide +kernel
theorem at_30_0 : vi_at cd_30 0 = cd_30_0 := rfl
def cd_31_0 : List vi_E := (0, 1, .iload_n 0, [0]) :: (1, 1, .iconst 1, [1]) :: (2, 3, .ldc_w 310, [1000000, 446]) :: (5, 3, .invokestatic 87, [61, 3, 270, 272, 50, 271]) :: (8, 1, .ireturn, []) :: []
def cd_31 : List vi_E := cd_31_0
set_option maxRecDepth 100000 in
theorem ok_31 : vi_okC MT (MT 31) cd_31 = true := by decide +kernel
theorem at_31_0 : vi_at cd_31 0 = cd_31_0 := rfl
def cd_32_22 : List vi_E := (22, 1, .ireturn, []) :: []
def cd_32_21 : List vi_E := (21, 1, .iconst 0, [0]) :: cd_32_22
def cd_32_0 : List vi_E := (0, 1, .iload_n 0, [0]) :: (1, 1, .iconst 0, [0]) :: (2, 3, .sipush 20000, [20000]) :: (5, 3, .invokestatic 87, [61, 3, 270, 272, 50, 271]) :: (8, 3, .ifCond .eq 13, [21]) :: (11, 1, .iload_n 0, [0]) :: (12, 1, .iconst 5, [5]) :: (13, 1, .irem, []) :: (14, 3, .ifCond .ne 7, [21]) :: (17, 1, .iconst 1, [1]) :: (18, 3, .goto 4, [22]) :: cd_32_21
def cd_32 : List vi_E := cd_32_0
set_option maxRecDepth 100000 in
theorem ok_32 : vi_okC MT (MT 32) cd_32 = true := by decide +kernel
theorem at_32_0 : vi_at cd_32 0 = cd_32_0 := rfl
set_option maxRecDepth 100000 in
theorem at_32_21 : vi_at cd_32 21 = cd_32_21 := rfl
set_option maxRecDepth 100000 in
theorem at_32_22 : vi_at cd_32 22 = cd_32_22 := rfl
def cd_33_0 : List vi_E := (0, 1, .iload_n 0, [0]) :: (1, 1, .iconst 0, [0]) :: (2, 2, .bipush 23, [23]) :: (4, 3, .invokestatic 87, [61, 3, 270, 272, 50, 271]) :: (7, 1, .ireturn, []) :: []
def cd_33 : List vi_E := cd_33_0
set_option maxRecDepth 100000 in
theorem ok_33 : vi_okC MT (MT 33) cd_33 = true := by decide +kernel
theorem at_33_0 : vi_at cd_33 0 = cd_33_0 := rfl
def cd_34_0 : List vi_E := (0, 1, .iload_n 0, [0]) :: (1, 1, .iconst 0, [0]) :: (2, 2, .bipush 29, [29]) :: (4, 3, .invokestatic 87, [61, 3, 270, 272, 50, 271]) :: (7, 1, .ireturn, []) :: []
def cd_34 : List vi_E := cd_34_0
set_option maxRecDepth 100000 in
theorem ok_34 : vi_okC MT (MT 34) cd_34 = true := by decide +kernel
theorem at_34_0 : vi_at cd_34 0 = cd_34_0 := rfl
def cd_35_24 : List vi_E := (24, 1, .ireturn, []) :: []
def cd_35_23 : List vi_E := (23, 1, .iconst 0, [0]) :: cd_35_24
def cd_35_0 : List vi_E := (0, 1, .iload_n 0, [0]) :: (1, 3, .invokestatic 220, [30, 1, 451, 453, 50, 452]) :: (4, 3, .ifCond .eq 19, [23]) :: (7, 1, .iload_n 1, [1]) :: (8, 3, .invokestatic 220, [30, 1, 451, 453, 50, 452]) :: (11, 3, .ifCond .eq 12, [23]) :: (14, 1, .iload_n 0, [0]) :: (15, 1, .iload_n 1, [1]) :: (16, 3, .if_icmp .gt 7, [23]) :: (19, 1, .iconst 1, [1]) :: (20, 3, .goto 4, [24]) :: cd_35_23
def cd_35 : List vi_E := cd_35_0
set_option maxRecDepth 100000 in
theorem ok_35 : vi_okC MT (MT 35) cd_35 = true := by decide +kernel
theorem at_35_0 : vi_at cd_35 0 = cd_35_0 := rfl
set_option maxRecDepth 100000 in
theorem at_35_23 : vi_at cd_35 23 = cd_35_23 := rfl
set_option maxRecDepth 100000 in
theorem at_35_24 : vi_at cd_35 24 = cd_35_24 := rfl
def cd_36_0 : List vi_E := (0, 1, .iload_n 1, [1]) :: (1, 1, .iconst 1, [1]) :: (2, 1, .aload_n 0, [0]) :: (3, 3, .getfield 65, [9, 9, 0, 227]) :: (6, 3, .invokestatic 87, [61, 3, 270, 272, 50, 271]) :: (9, 1, .ireturn, []) :: []
def cd_36 : List vi_E := cd_36_0
set_option maxRecDepth 100000 in
theorem ok_36 : vi_okC MT (MT 36) cd_36 = true := by decide +kernel
theorem at_36_0 : vi_at cd_36 0 = cd_36_0 := rfl
def cd_37_20 : List vi_E := (20, 1, .ireturn, []) :: []
def cd_37_19 : List vi_E := (19, 1, .iconst 0, [0]) :: cd_37_20
def cd_37_0 : List vi_E := (0, 1, .iload_n 1, [1]) :: (1, 3, .invokestatic 220, [30, 1, 451, 453, 50, 452]) :: (4, 3, .ifCond .eq 15, [19]) :: (7, 1, .iload_n 1, [1]) :: (8, 1, .aload_n 0, [0]) :: (9, 3, .getfield 72, [9, 11, 0, 229]) :: (12, 3, .if_icmp .lt 7, [19]) :: (15, 1, .iconst 1, [1]) :: (16, 3, .goto 4, [20]) :: cd_37_19
def cd_37 : List vi_E := cd_37_0
set_option maxRecDepth 100000 in
theorem ok_37 : vi_okC MT (MT 37) cd_37 = true := by decide +kernel
theorem at_37_0 : vi_at cd_37 0 = cd_37_0 := rfl
set_option maxRecDepth 100000 in
theorem at_37_19 : vi_at cd_37 19 = cd_37_19 := rfl
set_option maxRecDepth 100000 in
theorem at_37_20 : vi_at cd_37 20 = cd_37_20 := rfl
def cd_38_0 : List vi_E := (0, 1, .iload_n 0, [0]) :: (1, 1, .iconst 0, [0]) :: (2, 1, .iconst 3, [3]) :: (3, 3, .invokestatic 87, [61, 3, 270, 272, 50, 271]) :: (6, 1, .ireturn, []) :: []
def cd_38 : List vi_E := cd_38_0
set_option maxRecDepth 100000 in
theorem ok_38 : vi_okC MT (MT 38) cd_38 = true := by decide +kernel
theorem at_38_0 : vi_at cd_38 0 = cd_38_0 := rfl
def cd_39_59 : List vi_E := (59, 1, .ireturn, []) :: []
def cd_39_55 : List vi_E := (55, 1, .aload_n 3, [3]) :: (56, 3, .getfield 301, [4, 2, 0, 793]) :: cd_39_59
def cd_39_43 : List vi_E := (43, 1, .iload_n 2, [2]) :: (44, 1, .iconst 1, [1]) :: (45, 3, .if_icmp .ne 10, [55]) :: (48, 1, .aload_n 3, [3]) :: (49, 3, .getfield 300, [4, 1, 0, 791]) :: (52, 3, .goto 7, [59]) :: cd_39_55
def cd_39_25 : List vi_E := (25, 1, .aload_n 0, [0]) :: (26, 3, .getfield 61, [9, 8, 2, 226]) :: (29, 1, .iload_n 1, [1]) :: (30, 1, .aaload, [5]) :: (31, 1, .astore_n 3, [3]) :: (32, 1, .iload_n 2, [2]) :: (33, 3, .ifCond .ne 10, [43]) :: (36, 1, .aload_n 3, [3]) :: (37, 3, .getfield 297, [4, 0, 0, 789]) :: (40, 3, .goto 19, [59]) :: cd_39_43
def cd_39_0 : List vi_E := (0, 1, .iload_n 2, [2]) :: (1, 1, .iconst 0, [0]) :: (2, 1, .iconst 2, [2]) :: (3, 3, .invokestatic 87, [61, 3, 270, 272, 50, 271]) :: (6, 3, .invokestatic 91, [45, 1, 273, 275, 50, 274]) :: (9, 1, .iload_n 1, [1]) :: (10, 1, .iconst 0, [0]) :: (11, 1, .aload_n 0, [0]) :: (12, 3, .getfield 69, [9, 10, 0, 228]) :: (15, 1, .iconst 1, [1]) :: (16, 1, .isub, []) :: (17, 3, .invokestatic 87, [61, 3, 270, 272, 50, 271]) :: (20, 3, .ifCond .ne 5, [25]) :: (23, 1, .iconst (-1), []) :: (24, 1, .ireturn, []) :: cd_39_25
def cd_39 : List vi_E := cd_39_0
set_option maxRecDepth 100000 in
theorem ok_39 : vi_okC MT (MT 39) cd_39 = true := by decide +kernel
theorem at_39_0 : vi_at cd_39 0 = cd_39_0 := rfl
set_option maxRecDepth 100000 in
theorem at_39_25 : vi_at cd_39 25 = cd_39_25 := rfl
set_option maxRecDepth 100000 in
theorem at_39_43 : vi_at cd_39 43 = cd_39_43 := rfl
set_option maxRecDepth 100000 in
theorem at_39_55 : vi_at cd_39 55 = cd_39_55 := rfl
set_option maxRecDepth 100000 in
theorem at_39_59 : vi_at cd_39 59 = cd_39_59 := rfl
def cd_40_27 : List vi_E := (27, 1, .iconst (-1), []) :: (28, 1, .ireturn, []) :: []
def cd_40_21 : List vi_E := (21, 3, .iinc 1 1, []) :: (24, 3, .goto (-22), [2]) :: cd_40_27
def cd_40_2 : List vi_E := (2, 1, .iload_n 1, [1]) :: (3, 3, .getstatic 312, [0, 745, 0]) :: (6, 1, .arraylength, []) :: (7, 3, .if_icmp .ge 20, [27]) :: (10, 3, .getstatic 312, [0, 745, 0]) :: (13, 1, .iload_n 1, [1]) :: (14, 1, .iaload, []) :: (15, 1, .iload_n 0, [0]) :: (16, 3, .if_icmp .ne 5, [21]) :: (19, 1, .iload_n 1, [1]) :: (20, 1, .ireturn, []) :: cd_40_21
def cd_40_0 : List vi_E := (0, 1, .iconst 0, [0]) :: (1, 1, .istore_n 1, [1]) :: cd_40_2
def cd_40 : List vi_E := cd_40_0
set_option maxRecDepth 100000 in
theorem ok_40 : vi_okC MT (MT 40) cd_40 = true := by decide +kernel
theorem at_40_0 : vi_at cd_40 0 = cd_40_0 := rfl
set_option maxRecDepth 100000 in
theorem at_40_2 : vi_at cd_40 2 = cd_40_2 := rfl
set_option maxRecDepth 100000 in
theorem at_40_21 : vi_at cd_40 21 = cd_40_21 := rfl
set_option maxRecDepth 100000 in
theorem at_40_27 : vi_at cd_40 27 = cd_40_27 := rfl
def cd_41_29 : List vi_E := (29, 3, .invokestatic 91, [45, 1, 273, 275, 50, 274]) :: (32, 1, .aload_n 0, [0]) :: (33, 3, .getfield 75, [9, 12, 3, 230]) :: (36, 3, .invokestatic 95, [46, 1, 338, 340, 50, 339]) :: (39, 1, .aload_n 0, [0]) :: (40, 3, .getfield 24, [9, 2, 2, 220]) :: (43, 1, .aload_n 0, [0]) :: (44, 3, .getfield 11, [9, 0, 2, 218]) :: (47, 1, .iload_n 1, [1]) :: (48, 1, .aaload, [9]) :: (49, 1, .iload_n 2, [2]) :: (50, 1, .iload_n 3, [3]) :: (51, 1, .iload_n 2, [2]) :: (52, 1, .isub, []) :: (53, 3, .invokevirtual 289, [72, 3, 2, 567, 570, 51, 568, 569]) :: (56, 1, .ireturn, []) :: []
def cd_41_28 : List vi_E := (28, 1, .iconst 0, [0]) :: cd_41_29
def cd_41_0 : List vi_E := (0, 1, .iload_n 1, [1]) :: (1, 3, .invokestatic 83, [38, 1, 267, 269, 50, 268]) :: (4, 3, .ifCond .eq 24, [28]) :: (7, 1, .iload_n 2, [2]) :: (8, 1, .iload_n 3, [3]) :: (9, 3, .invokestatic 286, [35, 2, 850, 852, 50, 851]) :: (12, 3, .ifCond .eq 16, [28]) :: (15, 1, .iload_n 3, [3]) :: (16, 1, .iload_n 2, [2]) :: (17, 1, .isub, []) :: (18, 3, .sipush 4320, [4320]) :: (21, 3, .if_icmp .gt 7, [28]) :: (24, 1, .iconst 1, [1]) :: (25, 3, .goto 4, [29]) :: cd_41_28
def cd_41 : List vi_E := cd_41_0
set_option maxRecDepth 100000 in
theorem ok_41 : vi_okC MT (MT 41) cd_41 = true := by decide +kernel
theorem at_41_0 : vi_at cd_41 0 = cd_41_0 := rfl
set_option maxRecDepth 100000 in
theorem at_41_28 : vi_at cd_41 28 = cd_41_28 := rfl
set_option maxRecDepth 100000 in
theorem at_41_29 : vi_at cd_41 29 = cd_41_29 := rfl
def cd_42_84 : List vi_E := (84, 1, .aload_n 0, [0]) :: (85, 3, .getfield 30, [9, 3, 2, 221]) :: (88, 1, .iload_n 1, [1]) :: (89, 1, .aaload, [8]) :: (90, 3, .getstatic 166, [2, 615, 0]) :: (93, 3, .putfield 172, [7, 5, 2, 517]) :: (96, 1, .iconst 1, [1]) :: (97, 1, .ireturn, []) :: []
def cd_42_60 : List vi_E := (60, 3, .invokestatic 95, [46, 1, 338, 340, 50, 339]) :: (63, 1, .aload_n 0, [0]) :: (64, 1, .iload_n 2, [2]) :: (65, 3, .putfield 72, [9, 11, 0, 229]) :: (68, 1, .aload_n 0, [0]) :: (69, 1, .aload_n 0, [0]) :: (70, 3, .getfield 30, [9, 3, 2, 221]) :: (73, 1, .iload_n 1, [1]) :: (74, 1, .aaload, [8]) :: (75, 1, .iload_n 2, [2]) :: (76, 3, .invokevirtual 159, [20, 2, 9, 555, 558, 50, 557, 12]) :: (79, 3, .ifCond .eq 5, [84]) :: (82, 1, .iconst 0, [0]) :: (83, 1, .ireturn, []) :: cd_42_84
def cd_42_59 : List vi_E := (59, 1, .iconst 0, [0]) :: cd_42_60
def cd_42_21 : List vi_E := (21, 3, .invokestatic 91, [45, 1, 273, 275, 50, 274]) :: (24, 1, .aload_n 0, [0]) :: (25, 3, .getfield 75, [9, 12, 3, 230]) :: (28, 3, .ifCond .eq 31, [59]) :: (31, 1, .aload_n 0, [0]) :: (32, 3, .getfield 30, [9, 3, 2, 221]) :: (35, 1, .iload_n 1, [1]) :: (36, 1, .aaload, [8]) :: (37, 3, .invokevirtual 155, [90, 0, 7, 459, 462, 64, 460, 461]) :: (40, 3, .ifCond .eq 19, [59]) :: (43, 1, .aload_n 0, [0]) :: (44, 3, .getfield 30, [9, 3, 2, 221]) :: (47, 1, .iload_n 1, [1]) :: (48, 1, .aaload, [8]) :: (49, 3, .getfield 163, [7, 6, 3, 520]) :: (52, 3, .ifCond .ne 7, [59]) :: (55, 1, .iconst 1, [1]) :: (56, 3, .goto 4, [60]) :: cd_42_59
def cd_42_20 : List vi_E := (20, 1, .iconst 0, [0]) :: cd_42_21
def cd_42_0 : List vi_E := (0, 1, .aload_n 0, [0]) :: (1, 1, .iload_n 1, [1]) :: (2, 3, .invokevirtual 152, [36, 1, 9, 551, 554, 50, 553, 11]) :: (5, 3, .ifCond .eq 15, [20]) :: (8, 1, .aload_n 0, [0]) :: (9, 1, .iload_n 2, [2]) :: (10, 3, .invokevirtual 130, [37, 1, 9, 447, 450, 50, 449, 2]) :: (13, 3, .ifCond .eq 7, [20]) :: (16, 1, .iconst 1, [1]) :: (17, 3, .goto 4, [21]) :: cd_42_20
def cd_42 : List vi_E := cd_42_0
set_option maxRecDepth 100000 in
theorem ok_42 : vi_okC MT (MT 42) cd_42 = true := by decide +kernel
theorem at_42_0 : vi_at cd_42 0 = cd_42_0 := rfl
set_option maxRecDepth 100000 in
theorem at_42_20 : vi_at cd_42 20 = cd_42_20 := rfl
set_option maxRecDepth 100000 in
theorem at_42_21 : vi_at cd_42 21 = cd_42_21 := rfl
set_option maxRecDepth 100000 in
theorem at_42_59 : vi_at cd_42 59 = cd_42_59 := rfl
set_option maxRecDepth 100000 in
theorem at_42_60 : vi_at cd_42 60 = cd_42_60 := rfl
set_option maxRecDepth 100000 in
theorem at_42_84 : vi_at cd_42 84 = cd_42_84 := rfl
def cd_43_117 : List vi_E := (117, 1, .aload_n 0, [0]) :: (118, 1, .iload_n 1, [1]) :: (119, 2, .aload 4, [4]) :: (121, 3, .getfield 175, [7, 2, 0, 511]) :: (124, 2, .aload 4, [4]) :: (126, 3, .getfield 178, [7, 3, 0, 513]) :: (129, 2, .aload 4, [4]) :: (131, 3, .getfield 181, [7, 4, 0, 515]) :: (134, 3, .invokevirtual 145, [7, 4, 9, 497, 500, 50, 499, 10]) :: (137, 2, .astore 5, [5]) :: (139, 2, .aload 5, [5]) :: (141, 2, .aload 4, [4]) :: (143, 3, .getfield 184, [7, 7, 0, 522]) :: (146, 3, .putfield 184, [7, 7, 0, 522]) :: (149, 2, .aload 5, [5]) :: (151, 2, .aload 4, [4]) :: (153, 3, .getfield 187, [7, 8, 0, 524]) :: (156, 3, .putfield 187, [7, 8, 0, 524]) :: (159, 2, .aload 4, [4]) :: (161, 3, .getstatic 190, [3, 624, 0]) :: (164, 3, .putfield 172, [7, 5, 2, 517]) :: (167, 2, .aload 5, [5]) :: (169, 3, .getfield 149, [7, 0, 0, 507]) :: (172, 1, .ireturn, []) :: []
def cd_43_92 : List vi_E := (92, 3, .invokestatic 95, [46, 1, 338, 340, 50, 339]) :: (95, 1, .aload_n 0, [0]) :: (96, 1, .iload_n 3, [3]) :: (97, 3, .putfield 72, [9, 11, 0, 229]) :: (100, 2, .aload 4, [4]) :: (102, 3, .ifnonnull 15, [117]) :: (105, 1, .aload_n 0, [0]) :: (106, 1, .iconst 0, [0]) :: (107, 1, .iload_n 2, [2]) :: (108, 1, .iload_n 3, [3]) :: (109, 1, .iconst (-1), []) :: (110, 3, .invokevirtual 145, [7, 4, 9, 497, 500, 50, 499, 10]) :: (113, 3, .getfield 149, [7, 0, 0, 507]) :: (116, 1, .ireturn, []) :: cd_43_117
def cd_43_91 : List vi_E := (91, 1, .iconst 0, [0]) :: cd_43_92
def cd_43_87 : List vi_E := (87, 1, .iconst 1, [1]) :: (88, 3, .goto 4, [92]) :: cd_43_91
def cd_43_72 : List vi_E := (72, 2, .astore 4, [4]) :: (74, 2, .aload 4, [4]) :: (76, 3, .ifnull 11, [87]) :: (79, 2, .aload 4, [4]) :: (81, 3, .getfield 163, [7, 6, 3, 520]) :: (84, 3, .ifCond .ne 7, [91]) :: cd_43_87
def cd_43_67 : List vi_E := (67, 1, .aload_n 0, [0]) :: (68, 1, .iload_n 1, [1]) :: (69, 3, .invokevirtual 133, [60, 1, 9, 455, 458, 50, 457, 3]) :: cd_43_72
def cd_43_56 : List vi_E := (56, 3, .invokestatic 95, [46, 1, 338, 340, 50, 339]) :: (59, 1, .iload_n 1, [1]) :: (60, 3, .ifCond .ne 7, [67]) :: (63, 1, .aconst_null, []) :: (64, 3, .goto 8, [72]) :: cd_43_67
def cd_43_55 : List vi_E := (55, 1, .iconst 0, [0]) :: cd_43_56
def cd_43_31 : List vi_E := (31, 3, .invokestatic 91, [45, 1, 273, 275, 50, 274]) :: (34, 1, .aload_n 0, [0]) :: (35, 3, .getfield 75, [9, 12, 3, 230]) :: (38, 3, .ifCond .eq 17, [55]) :: (41, 1, .aload_n 0, [0]) :: (42, 3, .getfield 65, [9, 9, 0, 227]) :: (45, 3, .sipush 300, [300]) :: (48, 3, .if_icmp .ge 7, [55]) :: (51, 1, .iconst 1, [1]) :: (52, 3, .goto 4, [56]) :: cd_43_55
def cd_43_30 : List vi_E := (30, 1, .iconst 0, [0]) :: cd_43_31
def cd_43_11 : List vi_E := (11, 1, .iload_n 2, [2]) :: (12, 3, .invokestatic 83, [38, 1, 267, 269, 50, 268]) :: (15, 3, .ifCond .eq 15, [30]) :: (18, 1, .aload_n 0, [0]) :: (19, 1, .iload_n 3, [3]) :: (20, 3, .invokevirtual 130, [37, 1, 9, 447, 450, 50, 449, 2]) :: (23, 3, .ifCond .eq 7, [30]) :: (26, 1, .iconst 1, [1]) :: (27, 3, .goto 4, [31]) :: cd_43_30
def cd_43_0 : List vi_E := (0, 1, .iload_n 1, [1]) :: (1, 3, .ifCond .eq 10, [11]) :: (4, 1, .iload_n 1, [1]) :: (5, 3, .invokestatic 127, [31, 1, 443, 445, 50, 444]) :: (8, 3, .ifCond .eq 22, [30]) :: cd_43_11
def cd_43 : List vi_E := cd_43_0
set_option maxRecDepth 100000 in
theorem ok_43 : vi_okC MT (MT 43) cd_43 = true := by decide +kernel
theorem at_43_0 : vi_at cd_43 0 = cd_43_0 := rfl
set_option maxRecDepth 100000 in
theorem at_43_11 : vi_at cd_43 11 = cd_43_11 := rfl
set_option maxRecDepth 100000 in
theorem at_43_30 : vi_at cd_43 30 = cd_43_30 := rfl
set_option maxRecDepth 100000 in
theorem at_43_31 : vi_at cd_43 31 = cd_43_31 := rfl
set_option maxRecDepth 100000 in
theorem at_43_55 : vi_at cd_43 55 = cd_43_55 := rfl
set_option maxRecDepth 100000 in
theorem at_43_56 : vi_at cd_43 56 = cd_43_56 := rfl
set_option maxRecDepth 100000 in
theorem at_43_67 : vi_at cd_43 67 = cd_43_67 := rfl
set_option maxRecDepth 100000 in
theorem at_43_72 : vi_at cd_43 72 = cd_43_72 := rfl
set_option maxRecDepth 100000 in
theorem at_43_87 : vi_at cd_43 87 = cd_43_87 := rfl
set_option maxRecDepth 100000 in
theorem at_43_91 : vi_at cd_43 91 = cd_43_91 := rfl
set_option maxRecDepth 100000 in
theorem at_43_92 : vi_at cd_43 92 = cd_43_92 := rfl
set_option maxRecDepth 100000 in
theorem at_43_117 : vi_at cd_43 117 = cd_43_117 := rfl
def cd_44_82 : List vi_E := (82, 2, .iload 4, [4]) :: (84, 1, .ireturn, []) :: []
def cd_44_76 : List vi_E := (76, 3, .iinc 5 1, []) :: (79, 3, .goto (-68), [11]) :: cd_44_82
def cd_44_11 : List vi_E := (11, 2, .iload 5, [5]) :: (13, 2, .bipush 30, [30]) :: (15, 3, .if_icmp .ge 67, [82]) :: (18, 1, .aload_n 0, [0]) :: (19, 3, .getfield 42, [9, 5, 2, 223]) :: (22, 2, .iload 5, [5]) :: (24, 1, .aaload, [7]) :: (25, 2, .astore 6, [6]) :: (27, 2, .aload 6, [6]) :: (29, 3, .ifnull 47, [76]) :: (32, 2, .aload 6, [6]) :: (34, 3, .getfield 327, [6, 0, 0, 700]) :: (37, 1, .iload_n 1, [1]) :: (38, 3, .if_icmp .ne 38, [76]) :: (41, 1, .iload_n 2, [2]) :: (42, 2, .aload 6, [6]) :: (44, 3, .getfield 331, [6, 1, 0, 702]) :: (47, 3, .if_icmp .ge 29, [76]) :: (50, 2, .aload 6, [6]) :: (52, 3, .getfield 331, [6, 1, 0, 702]) :: (55, 1, .iload_n 3, [3]) :: (56, 3, .if_icmp .ge 20, [76]) :: (59, 2, .iload 4, [4]) :: (61, 1, .aload_n 0, [0]) :: (62, 1, .iload_n 1, [1]) :: (63, 2, .aload 6, [6]) :: (65, 3, .getfield 331, [6, 1, 0, 702]) :: (68, 3, .invokevirtual 321, [58, 2, 9, 473, 476, 50, 475, 6]) :: (71, 3, .invokestatic 334, [0, 605, 606, 65, 607]) :: (74, 2, .istore 4, [4]) :: cd_44_76
def cd_44_0 : List vi_E := (0, 1, .aload_n 0, [0]) :: (1, 1, .iload_n 1, [1]) :: (2, 1, .iload_n 2, [2]) :: (3, 3, .invokevirtual 321, [58, 2, 9, 473, 476, 50, 475, 6]) :: (6, 2, .istore 4, [4]) :: (8, 1, .iconst 0, [0]) :: (9, 2, .istore 5, [5]) :: cd_44_11
def cd_44 : List vi_E := cd_44_0
set_option maxRecDepth 100000 in
theorem ok_44 : vi_okC MT (MT 44) cd_44 = true := by decide +kernel
theorem at_44_0 : vi_at cd_44 0 = cd_44_0 := rfl
set_option maxRecDepth 100000 in
theorem at_44_11 : vi_at cd_44 11 = cd_44_11 := rfl
set_option maxRecDepth 100000 in
theorem at_44_76 : vi_at cd_44 76 = cd_44_76 := rfl
set_option maxRecDepth 100000 in
theorem at_44_82 : vi_at cd_44 82 = cd_44_82 := rfl
def cd_47_0 : List vi_E := (0, 1, .iload_n 1, [1]) :: (1, 3, .invokestatic 83, [38, 1, 267, 269, 50, 268]) :: (4, 3, .invokestatic 91, [45, 1, 273, 275, 50, 274]) :: (7, 1, .aload_n 0, [0]) :: (8, 1, .iload_n 1, [1]) :: (9, 3, .invokevirtual 283, [54, 1, 9, 469, 472, 50, 471, 5]) :: (12, 1, .ireturn, []) :: []
def cd_47 : List vi_E := cd_47_0
set_option maxRecDepth 100000 in
theorem ok_47 : vi_okC MT (MT 47) cd_47 = true := by decide +kernel
theorem at_47_0 : vi_at cd_47 0 = cd_47_0 := rfl
def cd_48_64 : List vi_E := (64, 1, .aload_n 0, [0]) :: (65, 1, .iconst 1, [1]) :: (66, 3, .putfield 75, [9, 12, 3, 230]) :: (69, 1, .iconst (-1), []) :: (70, 1, .ireturn, []) :: []
def cd_48_58 : List vi_E := (58, 3, .iinc 1 1, []) :: (61, 3, .goto (-44), [17]) :: cd_48_64
def cd_48_17 : List vi_E := (17, 1, .iload_n 1, [1]) :: (18, 1, .iconst 4, [4]) :: (19, 3, .if_icmp .ge 45, [64]) :: (22, 1, .aload_n 0, [0]) :: (23, 3, .getfield 11, [9, 0, 2, 218]) :: (26, 1, .iload_n 1, [1]) :: (27, 1, .aaload, [9]) :: (28, 1, .aload_n 0, [0]) :: (29, 3, .getfield 17, [9, 1, 2, 219]) :: (32, 3, .invokevirtual 119, [92, 1, 8, 420, 423, 53, 421, 422]) :: (35, 1, .aload_n 0, [0]) :: (36, 3, .getfield 11, [9, 0, 2, 218]) :: (39, 1, .iload_n 1, [1]) :: (40, 1, .aaload, [9]) :: (41, 3, .invokevirtual 123, [91, 0, 8, 424, 427, 53, 425, 426]) :: (44, 1, .istore_n 2, [2]) :: (45, 1, .iload_n 2, [2]) :: (46, 1, .iconst (-1), []) :: (47, 3, .if_icmp .eq 11, [58]) :: (50, 3, .sipush 168, [168]) :: (53, 1, .iload_n 1, [1]) :: (54, 1, .imul, []) :: (55, 1, .iload_n 2, [2]) :: (56, 1, .iadd, []) :: (57, 1, .ireturn, []) :: cd_48_58
def cd_48_12 : List vi_E := (12, 3, .invokestatic 95, [46, 1, 338, 340, 50, 339]) :: (15, 1, .iconst 0, [0]) :: (16, 1, .istore_n 1, [1]) :: cd_48_17
def cd_48_11 : List vi_E := (11, 1, .iconst 0, [0]) :: cd_48_12
def cd_48_0 : List vi_E := (0, 1, .aload_n 0, [0]) :: (1, 3, .getfield 75, [9, 12, 3, 230]) :: (4, 3, .ifCond .ne 7, [11]) :: (7, 1, .iconst 1, [1]) :: (8, 3, .goto 4, [12]) :: cd_48_11
def cd_48 : List vi_E := cd_48_0
set_option maxRecDepth 100000 in
theorem ok_48 : vi_okC MT (MT 48) cd_48 = true := by decide +kernel
theorem at_48_0 : vi_at cd_48 0 = cd_48_0 := rfl
set_option maxRecDepth 100000 in
theorem at_48_11 : vi_at cd_48 11 = cd_48_11 := rfl
set_option maxRecDepth 100000 in
theorem at_48_12 : vi_at cd_48 12 = cd_48_12 := rfl
set_option maxRecDepth 100000 in
theorem at_48_17 : vi_at cd_48 17 = cd_48_17 := rfl
set_option maxRecDepth 100000 in
theorem at_48_58 : vi_at cd_48 58 = cd_48_58 := rfl
set_option maxRecDepth 100000 in
theorem at_48_64 : vi_at cd_48 64 = cd_48_64 := rfl
def cd_49_26 : List vi_E := (26, 3, .invokestatic 95, [46, 1, 338, 340, 50, 339]) :: (29, 1, .aload_n 2, [2]) :: (30, 3, .getfield 254, [3, 7, 0, 200]) :: (33, 1, .istore_n 3, [3]) :: (34, 1, .aload_n 2, [2]) :: (35, 1, .aload_n 2, [2]) :: (36, 3, .getfield 264, [3, 1, 2, 188]) :: (39, 3, .invokevirtual 267, [79, 1, 3, 775, 778, 54, 776, 777]) :: (42, 1, .iload_n 3, [3]) :: (43, 1, .ireturn, []) :: []
def cd_49_25 : List vi_E := (25, 1, .iconst 0, [0]) :: cd_49_26
def cd_49_0 : List vi_E := (0, 1, .iload_n 1, [1]) :: (1, 3, .invokestatic 230, [29, 1, 725, 727, 50, 726]) :: (4, 3, .invokestatic 91, [45, 1, 273, 275, 50, 274]) :: (7, 1, .aload_n 0, [0]) :: (8, 3, .getfield 48, [9, 6, 2, 224]) :: (11, 1, .iload_n 1, [1]) :: (12, 1, .aaload, [4]) :: (13, 1, .astore_n 2, [2]) :: (14, 1, .aload_n 2, [2]) :: (15, 3, .getfield 233, [3, 3, 2, 192]) :: (18, 3, .ifnull 7, [25]) :: (21, 1, .iconst 1, [1]) :: (22, 3, .goto 4, [26]) :: cd_49_25
def cd_49 : List vi_E := cd_49_0
set_option maxRecDepth 100000 in
theorem ok_49 : vi_okC MT (MT 49) cd_49 = true := by decide +kernel
theorem at_49_0 : vi_at cd_49 0 = cd_49_0 := rfl
set_option maxRecDepth 100000 in
theorem at_49_25 : vi_at cd_49 25 = cd_49_25 := rfl
set_option maxRecDepth 100000 in
theorem at_49_26 : vi_at cd_49 26 = cd_49_26 := rfl
def cd_50_79 : List vi_E := (79, 3, .invokestatic 95, [46, 1, 338, 340, 50, 339]) :: (82, 1, .aload_n 0, [0]) :: (83, 1, .iload_n 3, [3]) :: (84, 3, .putfield 72, [9, 11, 0, 229]) :: (87, 1, .aload_n 0, [0]) :: (88, 2, .aload 4, [4]) :: (90, 1, .iload_n 3, [3]) :: (91, 3, .invokevirtual 159, [20, 2, 9, 555, 558, 50, 557, 12]) :: (94, 2, .istore 5, [5]) :: (96, 1, .aload_n 0, [0]) :: (97, 3, .getfield 48, [9, 6, 2, 224]) :: (100, 1, .iload_n 2, [2]) :: (101, 1, .aaload, [4]) :: (102, 2, .aload 4, [4]) :: (104, 2, .iload 5, [5]) :: (106, 1, .iload_n 3, [3]) :: (107, 3, .invokevirtual 237, [78, 3, 3, 728, 731, 54, 729, 730]) :: (110, 2, .iload 5, [5]) :: (112, 1, .ireturn, []) :: []
def cd_50_78 : List vi_E := (78, 1, .iconst 0, [0]) :: cd_50_79
def cd_50_28 : List vi_E := (28, 3, .invokestatic 91, [45, 1, 273, 275, 50, 274]) :: (31, 1, .aload_n 0, [0]) :: (32, 3, .getfield 30, [9, 3, 2, 221]) :: (35, 1, .iload_n 1, [1]) :: (36, 1, .aaload, [8]) :: (37, 2, .astore 4, [4]) :: (39, 1, .aload_n 0, [0]) :: (40, 3, .getfield 75, [9, 12, 3, 230]) :: (43, 3, .ifCond .eq 35, [78]) :: (46, 1, .aload_n 0, [0]) :: (47, 3, .getfield 48, [9, 6, 2, 224]) :: (50, 1, .iload_n 2, [2]) :: (51, 1, .aaload, [4]) :: (52, 3, .getfield 233, [3, 3, 2, 192]) :: (55, 3, .ifnonnull 23, [78]) :: (58, 2, .aload 4, [4]) :: (60, 3, .invokevirtual 155, [90, 0, 7, 459, 462, 64, 460, 461]) :: (63, 3, .ifCond .eq 15, [78]) :: (66, 2, .aload 4, [4]) :: (68, 3, .getfield 163, [7, 6, 3, 520]) :: (71, 3, .ifCond .ne 7, [78]) :: (74, 1, .iconst 1, [1]) :: (75, 3, .goto 4, [79]) :: cd_50_78
def cd_50_27 : List vi_E := (27, 1, .iconst 0, [0]) :: cd_50_28
def cd_50_0 : List vi_E := (0, 1, .aload_n 0, [0]) :: (1, 1, .iload_n 1, [1]) :: (2, 3, .invokevirtual 152, [36, 1, 9, 551, 554, 50, 553, 11]) :: (5, 3, .ifCond .eq 22, [27]) :: (8, 1, .iload_n 2, [2]) :: (9, 3, .invokestatic 230, [29, 1, 725, 727, 50, 726]) :: (12, 3, .ifCond .eq 15, [27]) :: (15, 1, .aload_n 0, [0]) :: (16, 1, .iload_n 3, [3]) :: (17, 3, .invokevirtual 130, [37, 1, 9, 447, 450, 50, 449, 2]) :: (20, 3, .ifCond .eq 7, [27]) :: (23, 1, .iconst 1, [1]) :: (24, 3, .goto 4, [28]) :: cd_50_27
def cd_50 : List vi_E := cd_50_0
set_option maxRecDepth 100000 in
theorem ok_50 : vi_okC MT (MT 50) cd_50 = true := by decide +kernel
theorem at_50_0 : vi_at cd_50 0 = cd_50_0 := rfl
set_option maxRecDepth 100000 in
theorem at_50_27 : vi_at cd_50 27 = cd_50_27 := rfl
set_option maxRecDepth 100000 in
theorem at_50_28 : vi_at cd_50 28 = cd_50_28 := rfl
set_option maxRecDepth 100000 in
theorem at_50_78 : vi_at cd_50 78 = cd_50_78 := rfl
set_option maxRecDepth 100000 in
theorem at_50_79 : vi_at cd_50 79 = cd_50_79 := rfl
def cd_51_68 : List vi_E := (68, 1, .aload_n 0, [0]) :: (69, 1, .aload_n 2, [2]) :: (70, 3, .getfield 233, [3, 3, 2, 192]) :: (73, 1, .aload_n 2, [2]) :: (74, 3, .getfield 271, [3, 5, 0, 196]) :: (77, 1, .aload_n 2, [2]) :: (78, 3, .getfield 257, [3, 4, 0, 194]) :: (81, 3, .invokevirtual 274, [56, 3, 9, 779, 782, 50, 781, 22]) :: (84, 1, .aload_n 2, [2]) :: (85, 1, .aload_n 0, [0]) :: (86, 3, .getfield 55, [9, 7, 2, 225]) :: (89, 3, .getfield 277, [0, 0, 2, 136]) :: (92, 3, .invokevirtual 267, [79, 1, 3, 775, 778, 54, 776, 777]) :: (95, 1, .iload_n 3, [3]) :: (96, 1, .ireturn, []) :: []
def cd_51_58 : List vi_E := (58, 1, .aload_n 2, [2]) :: (59, 1, .aload_n 2, [2]) :: (60, 3, .getfield 264, [3, 1, 2, 188]) :: (63, 3, .invokevirtual 267, [79, 1, 3, 775, 778, 54, 776, 777]) :: (66, 1, .iconst (-1), []) :: (67, 1, .ireturn, []) :: cd_51_68
def cd_51_26 : List vi_E := (26, 3, .invokestatic 95, [46, 1, 338, 340, 50, 339]) :: (29, 1, .aload_n 2, [2]) :: (30, 3, .getfield 254, [3, 7, 0, 200]) :: (33, 1, .aload_n 2, [2]) :: (34, 3, .getfield 257, [3, 4, 0, 194]) :: (37, 1, .isub, []) :: (38, 1, .istore_n 3, [3]) :: (39, 1, .iload_n 3, [3]) :: (40, 3, .ifCond .lt 18, [58]) :: (43, 1, .aload_n 0, [0]) :: (44, 3, .getfield 55, [9, 7, 2, 225]) :: (47, 1, .iload_n 3, [3]) :: (48, 1, .aload_n 2, [2]) :: (49, 3, .getfield 244, [3, 0, 2, 186]) :: (52, 3, .invokevirtual 260, [3, 2, 0, 757, 760, 52, 758, 759]) :: (55, 3, .ifCond .ne 13, [68]) :: cd_51_58
def cd_51_25 : List vi_E := (25, 1, .iconst 0, [0]) :: cd_51_26
def cd_51_0 : List vi_E := (0, 1, .iload_n 1, [1]) :: (1, 3, .invokestatic 230, [29, 1, 725, 727, 50, 726]) :: (4, 3, .invokestatic 91, [45, 1, 273, 275, 50, 274]) :: (7, 1, .aload_n 0, [0]) :: (8, 3, .getfield 48, [9, 6, 2, 224]) :: (11, 1, .iload_n 1, [1]) :: (12, 1, .aaload, [4]) :: (13, 1, .astore_n 2, [2]) :: (14, 1, .aload_n 2, [2]) :: (15, 3, .getfield 233, [3, 3, 2, 192]) :: (18, 3, .ifnull 7, [25]) :: (21, 1, .iconst 1, [1]) :: (22, 3, .goto 4, [26]) :: cd_51_25
def cd_51 : List vi_E := cd_51_0
set_option maxRecDepth 100000 in
theorem ok_51 : vi_okC MT (MT 51) cd_51 = true := by decide +kernel
theorem at_51_0 : vi_at cd_51 0 = cd_51_0 := rfl
set_option maxRecDepth 100000 in
theorem at_51_25 : vi_at cd_51 25 = cd_51_25 := rfl
set_option maxRecDepth 100000 in
theorem at_51_26 : vi_at cd_51 26 = cd_51_26 := rfl
set_option maxRecDepth 100000 in
theorem at_51_58 : vi_at cd_51 58 = cd_51_58 := rfl
set_option maxRecDepth 100000 in
theorem at_51_68 : vi_at cd_51 68 = cd_51_68 := rfl
def cd_52_37 : List vi_E := (37, 3, .invokestatic 95, [46, 1, 338, 340, 50, 339]) :: (40, 1, .aload_n 0, [0]) :: (41, 3, .getfield 11, [9, 0, 2, 218]) :: (44, 1, .iload_n 1, [1]) :: (45, 1, .aaload, [9]) :: (46, 1, .iload_n 2, [2]) :: (47, 3, .putfield 98, [8, 3, 0, 164]) :: (50, 1, .return_, []) :: []
def cd_52_36 : List vi_E := (36, 1, .iconst 0, [0]) :: cd_52_37
def cd_52_22 : List vi_E := (22, 3, .invokestatic 91, [45, 1, 273, 275, 50, 274]) :: (25, 1, .aload_n 0, [0]) :: (26, 3, .getfield 75, [9, 12, 3, 230]) :: (29, 3, .ifCond .ne 7, [36]) :: (32, 1, .iconst 1, [1]) :: (33, 3, .goto 4, [37]) :: cd_52_36
def cd_52_21 : List vi_E := (21, 1, .iconst 0, [0]) :: cd_52_22
def cd_52_0 : List vi_E := (0, 1, .iload_n 1, [1]) :: (1, 3, .invokestatic 83, [38, 1, 267, 269, 50, 268]) :: (4, 3, .ifCond .eq 17, [21]) :: (7, 1, .iload_n 2, [2]) :: (8, 1, .iconst 1, [1]) :: (9, 2, .bipush 40, [40]) :: (11, 3, .invokestatic 87, [61, 3, 270, 272, 50, 271]) :: (14, 3, .ifCond .eq 7, [21]) :: (17, 1, .iconst 1, [1]) :: (18, 3, .goto 4, [22]) :: cd_52_21
def cd_52 : List vi_E := cd_52_0
set_option maxRecDepth 100000 in
theorem ok_52 : vi_okC MT (MT 52) cd_52 = true := by decide +kernel
theorem at_52_0 : vi_at cd_52 0 = cd_52_0 := rfl
set_option maxRecDepth 100000 in
theorem at_52_21 : vi_at cd_52 21 = cd_52_21 := rfl
set_option maxRecDepth 100000 in
theorem at_52_22 : vi_at cd_52 22 = cd_52_22 := rfl
set_option maxRecDepth 100000 in
theorem at_52_36 : vi_at cd_52 36 = cd_52_36 := rfl
set_option maxRecDepth 100000 in
theorem at_52_37 : vi_at cd_52 37 = cd_52_37 := rfl
def cd_53_75 : List vi_E := (75, 3, .invokestatic 95, [46, 1, 338, 340, 50, 339]) :: (78, 1, .aload_n 0, [0]) :: (79, 3, .getfield 36, [9, 4, 2, 222]) :: (82, 1, .iload_n 1, [1]) :: (83, 1, .aaload, [3]) :: (84, 1, .iload_n 2, [2]) :: (85, 3, .invokevirtual 211, [62, 1, 1, 664, 667, 66, 665, 666]) :: (88, 1, .return_, []) :: []
def cd_53_74 : List vi_E := (74, 1, .iconst 0, [0]) :: cd_53_75
def cd_53_51 : List vi_E := (51, 1, .iload_n 3, [3]) :: (52, 1, .iconst (-1), []) :: (53, 3, .if_icmp .ne 21, [74]) :: (56, 1, .aload_n 0, [0]) :: (57, 3, .getfield 36, [9, 4, 2, 222]) :: (60, 1, .iload_n 1, [1]) :: (61, 1, .aaload, [3]) :: (62, 3, .getfield 208, [1, 3, 0, 647]) :: (65, 2, .bipush 12, [12]) :: (67, 3, .if_icmp .ge 7, [74]) :: (70, 1, .iconst 1, [1]) :: (71, 3, .goto 4, [75]) :: cd_53_74
def cd_53_36 : List vi_E := (36, 3, .invokestatic 95, [46, 1, 338, 340, 50, 339]) :: (39, 1, .aload_n 0, [0]) :: (40, 1, .iload_n 2, [2]) :: (41, 3, .invokevirtual 205, [16, 1, 9, 485, 488, 50, 487, 8]) :: (44, 1, .istore_n 3, [3]) :: (45, 1, .iload_n 3, [3]) :: (46, 1, .iload_n 1, [1]) :: (47, 3, .if_icmp .ne 4, [51]) :: (50, 1, .return_, []) :: cd_53_51
def cd_53_35 : List vi_E := (35, 1, .iconst 0, [0]) :: cd_53_36
def cd_53_19 : List vi_E := (19, 3, .invokestatic 91, [45, 1, 273, 275, 50, 274]) :: (22, 1, .aload_n 0, [0]) :: (23, 3, .getfield 36, [9, 4, 2, 222]) :: (26, 1, .iload_n 1, [1]) :: (27, 1, .aaload, [3]) :: (28, 3, .ifnull 7, [35]) :: (31, 1, .iconst 1, [1]) :: (32, 3, .goto 4, [36]) :: cd_53_35
def cd_53_18 : List vi_E := (18, 1, .iconst 0, [0]) :: cd_53_19
def cd_53_0 : List vi_E := (0, 1, .iload_n 1, [1]) :: (1, 3, .invokestatic 193, [27, 1, 633, 635, 50, 634]) :: (4, 3, .ifCond .eq 14, [18]) :: (7, 1, .iload_n 2, [2]) :: (8, 3, .invokestatic 127, [31, 1, 443, 445, 50, 444]) :: (11, 3, .ifCond .eq 7, [18]) :: (14, 1, .iconst 1, [1]) :: (15, 3, .goto 4, [19]) :: cd_53_18
def cd_53 : List vi_E := cd_53_0
set_option maxRecDepth 100000 in
theorem ok_53 : vi_okC MT (MT 53) cd_53 = true := by decide +kernel
theorem at_53_0 : vi_at cd_53 0 = cd_53_0 := rfl
set_option maxRecDepth 100000 in
theorem at_53_18 : vi_at cd_53 18 = cd_53_18 := rfl
set_option maxRecDepth 100000 in
theorem at_53_19 : vi_at cd_53 19 = cd_53_19 := rfl
set_option maxRecDepth 100000 in
theorem at_53_35 : vi_at cd_53 35 = cd_53_35 := rfl
set_option maxRecDepth 100000 in
theorem at_53_36 : vi_at cd_53 36 = cd_53_36 := rfl
set_option maxRecDepth 100000 in
theorem at_53_51 : vi_at cd_53 51 = cd_53_51 := rfl
set_option maxRecDepth 100000 in
theorem at_53_74 : vi_at cd_53 74 = cd_53_74 := rfl
set_option maxRecDepth 100000 in
theorem at_53_75 : vi_at cd_53 75 = cd_53_75 := rfl
def cd_54_54 : List vi_E := (54, 1, .iload_n 2, [2]) :: (55, 1, .ireturn, []) :: []
def cd_54_48 : List vi_E := (48, 3, .iinc 3 1, []) :: (51, 3, .goto (-47), [4]) :: cd_54_54
def cd_54_4 : List vi_E := (4, 1, .iload_n 3, [3]) :: (5, 1, .aload_n 0, [0]) :: (6, 3, .getfield 65, [9, 9, 0, 227]) :: (9, 3, .if_icmp .gt 45, [54]) :: (12, 1, .aload_n 0, [0]) :: (13, 3, .getfield 30, [9, 3, 2, 221]) :: (16, 1, .iload_n 3, [3]) :: (17, 1, .aaload, [8]) :: (18, 2, .astore 4, [4]) :: (20, 2, .aload 4, [4]) :: (22, 3, .getfield 175, [7, 2, 0, 511]) :: (25, 1, .iload_n 1, [1]) :: (26, 3, .if_icmp .ne 22, [48]) :: (29, 2, .aload 4, [4]) :: (31, 3, .getfield 318, [7, 1, 0, 509]) :: (34, 3, .ifCond .eq 14, [48]) :: (37, 2, .aload 4, [4]) :: (39, 3, .invokevirtual 155, [90, 0, 7, 459, 462, 64, 460, 461]) :: (42, 3, .ifCond .eq 6, [48]) :: (45, 3, .iinc 2 1, []) :: cd_54_48
def cd_54_0 : List vi_E := (0, 1, .iconst 0, [0]) :: (1, 1, .istore_n 2, [2]) :: (2, 1, .iconst 1, [1]) :: (3, 1, .istore_n 3, [3]) :: cd_54_4
def cd_54 : List vi_E := cd_54_0
set_option maxRecDepth 100000 in
theorem ok_54 : vi_okC MT (MT 54) cd_54 = true := by decide +kernel
theorem at_54_0 : vi_at cd_54 0 = cd_54_0 := rfl
set_option maxRecDepth 100000 in
theorem at_54_4 : vi_at cd_54 4 = cd_54_4 := rfl
set_option maxRecDepth 100000 in
theorem at_54_48 : vi_at cd_54 48 = cd_54_48 := rfl
set_option maxRecDepth 100000 in
theorem at_54_54 : vi_at cd_54 54 = cd_54_54 := rfl
def cd_55_54 : List vi_E := (54, 3, .invokestatic 95, [46, 1, 338, 340, 50, 339]) :: (57, 1, .aload_n 0, [0]) :: (58, 3, .getfield 17, [9, 1, 2, 219]) :: (61, 1, .iload_n 1, [1]) :: (62, 3, .new 15, [5, 6, 81, 369, 61]) :: (65, 1, .dup, []) :: (66, 1, .iload_n 1, [1]) :: (67, 1, .iload_n 2, [2]) :: (68, 1, .iload_n 3, [3]) :: (69, 2, .iload 4, [4]) :: (71, 3, .invokespecial 107, [84, 4, 370, 372, 61, 371]) :: (74, 1, .aastore, [6, 5]) :: (75, 1, .return_, []) :: []
def cd_55_53 : List vi_E := (53, 1, .iconst 0, [0]) :: cd_55_54
def cd_55_39 : List vi_E := (39, 3, .invokestatic 91, [45, 1, 273, 275, 50, 274]) :: (42, 1, .aload_n 0, [0]) :: (43, 3, .getfield 75, [9, 12, 3, 230]) :: (46, 3, .ifCond .ne 7, [53]) :: (49, 1, .iconst 1, [1]) :: (50, 3, .goto 4, [54]) :: cd_55_53
def cd_55_38 : List vi_E := (38, 1, .iconst 0, [0]) :: cd_55_39
def cd_55_0 : List vi_E := (0, 1, .iload_n 1, [1]) :: (1, 3, .invokestatic 101, [33, 1, 363, 365, 50, 364]) :: (4, 3, .ifCond .eq 34, [38]) :: (7, 1, .iload_n 2, [2]) :: (8, 3, .invokestatic 104, [32, 1, 366, 368, 50, 367]) :: (11, 3, .ifCond .eq 27, [38]) :: (14, 1, .iload_n 3, [3]) :: (15, 2, .bipush 15, [15]) :: (17, 3, .sipush 4320, [4320]) :: (20, 3, .invokestatic 87, [61, 3, 270, 272, 50, 271]) :: (23, 3, .ifCond .eq 15, [38]) :: (26, 2, .iload 4, [4]) :: (28, 3, .invokestatic 83, [38, 1, 267, 269, 50, 268]) :: (31, 3, .ifCond .eq 7, [38]) :: (34, 1, .iconst 1, [1]) :: (35, 3, .goto 4, [39]) :: cd_55_38
def cd_55 : List vi_E := cd_55_0
set_option maxRecDepth 100000 in
theorem ok_55 : vi_okC MT (MT 55) cd_55 = true := by decide +kernel
theorem at_55_0 : vi_at cd_55 0 = cd_55_0 := rfl
set_option maxRecDepth 100000 in
theorem at_55_38 : vi_at cd_55 38 = cd_55_38 := rfl
set_option maxRecDepth 100000 in
theorem at_55_39 : vi_at cd_55 39 = cd_55_39 := rfl
set_option maxRecDepth 100000 in
theorem at_55_53 : vi_at cd_55 53 = cd_55_53 := rfl
set_option maxRecDepth 100000 in
theorem at_55_54 : vi_at cd_55 54 = cd_55_54 := rfl
def cd_56_62 : List vi_E := (62, 1, .return_, []) :: []
def cd_56_5 : List vi_E := (5, 1, .aload_n 1, [1]) :: (6, 1, .dup, []) :: (7, 3, .getfield 184, [7, 7, 0, 522]) :: (10, 1, .iload_n 3, [3]) :: (11, 1, .iadd, []) :: (12, 3, .putfield 184, [7, 7, 0, 522]) :: (15, 1, .aload_n 1, [1]) :: (16, 1, .iload_n 2, [2]) :: (17, 3, .putfield 187, [7, 8, 0, 524]) :: (20, 1, .aload_n 0, [0]) :: (21, 3, .getfield 69, [9, 10, 0, 228]) :: (24, 3, .sipush 170, [170]) :: (27, 3, .if_icmp .ge 35, [62]) :: (30, 1, .aload_n 0, [0]) :: (31, 3, .getfield 61, [9, 8, 2, 226]) :: (34, 1, .aload_n 0, [0]) :: (35, 3, .getfield 69, [9, 10, 0, 228]) :: (38, 3, .new 59, [4, 3, 149, 783, 70]) :: (41, 1, .dup, []) :: (42, 1, .aload_n 1, [1]) :: (43, 3, .getfield 149, [7, 0, 0, 507]) :: (46, 1, .iload_n 2, [2]) :: (47, 1, .iload_n 3, [3]) :: (48, 3, .invokespecial 345, [82, 3, 784, 786, 70, 785]) :: (51, 1, .aastore, [5, 4]) :: (52, 1, .aload_n 0, [0]) :: (53, 1, .dup, []) :: (54, 3, .getfield 69, [9, 10, 0, 228]) :: (57, 1, .iconst 1, [1]) :: (58, 1, .iadd, []) :: (59, 3, .putfield 69, [9, 10, 0, 228]) :: cd_56_62
def cd_56_0 : List vi_E := (0, 1, .iload_n 3, [3]) :: (1, 3, .ifCond .ne 4, [5]) :: (4, 1, .return_, []) :: cd_56_5
def cd_56 : List vi_E := cd_56_0
set_option maxRecDepth 100000 in
theorem ok_56 : vi_okC MT (MT 56) cd_56 = true := by decide +kernel
theorem at_56_0 : vi_at cd_56 0 = cd_56_0 := rfl
set_option maxRecDepth 100000 in
theorem at_56_5 : vi_at cd_56 5 = cd_56_5 := rfl
set_option maxRecDepth 100000 in
theorem at_56_62 : vi_at cd_56 62 = cd_56_62 := rfl
def cd_57_90 : List vi_E := (90, 1, .aload_n 0, [0]) :: (91, 3, .getfield 42, [9, 5, 2, 223]) :: (94, 1, .iload_n 1, [1]) :: (95, 3, .new 40, [6, 3, 123, 694, 67]) :: (98, 1, .dup, []) :: (99, 1, .iload_n 2, [2]) :: (100, 1, .iload_n 3, [3]) :: (101, 2, .iload 4, [4]) :: (103, 3, .invokespecial 227, [86, 3, 695, 697, 67, 696]) :: (106, 1, .aastore, [7, 6]) :: (107, 1, .iconst 1, [1]) :: (108, 1, .ireturn, []) :: []
def cd_57_65 : List vi_E := (65, 3, .invokestatic 95, [46, 1, 338, 340, 50, 339]) :: (68, 1, .aload_n 0, [0]) :: (69, 1, .iload_n 2, [2]) :: (70, 1, .iload_n 3, [3]) :: (71, 2, .iload 4, [4]) :: (73, 3, .invokevirtual 223, [44, 3, 9, 690, 693, 50, 692, 19]) :: (76, 1, .aload_n 0, [0]) :: (77, 3, .getfield 11, [9, 0, 2, 218]) :: (80, 1, .iload_n 2, [2]) :: (81, 1, .aaload, [9]) :: (82, 3, .getfield 98, [8, 3, 0, 164]) :: (85, 3, .if_icmp .lt 5, [90]) :: (88, 1, .iconst 0, [0]) :: (89, 1, .ireturn, []) :: cd_57_90
def cd_57_64 : List vi_E := (64, 1, .iconst 0, [0]) :: cd_57_65
def cd_57_41 : List vi_E := (41, 3, .invokestatic 91, [45, 1, 273, 275, 50, 274]) :: (44, 1, .aload_n 0, [0]) :: (45, 3, .getfield 75, [9, 12, 3, 230]) :: (48, 3, .ifCond .eq 16, [64]) :: (51, 1, .aload_n 0, [0]) :: (52, 3, .getfield 42, [9, 5, 2, 223]) :: (55, 1, .iload_n 1, [1]) :: (56, 1, .aaload, [7]) :: (57, 3, .ifnonnull 7, [64]) :: (60, 1, .iconst 1, [1]) :: (61, 3, .goto 4, [65]) :: cd_57_64
def cd_57_40 : List vi_E := (40, 1, .iconst 0, [0]) :: cd_57_41
def cd_57_0 : List vi_E := (0, 1, .iload_n 1, [1]) :: (1, 3, .invokestatic 217, [34, 1, 687, 689, 50, 688]) :: (4, 3, .ifCond .eq 36, [40]) :: (7, 1, .iload_n 2, [2]) :: (8, 3, .invokestatic 83, [38, 1, 267, 269, 50, 268]) :: (11, 3, .ifCond .eq 29, [40]) :: (14, 1, .aload_n 0, [0]) :: (15, 1, .iload_n 3, [3]) :: (16, 3, .invokevirtual 130, [37, 1, 9, 447, 450, 50, 449, 2]) :: (19, 3, .ifCond .eq 21, [40]) :: (22, 2, .iload 4, [4]) :: (24, 3, .invokestatic 220, [30, 1, 451, 453, 50, 452]) :: (27, 3, .ifCond .eq 13, [40]) :: (30, 2, .iload 4, [4]) :: (32, 1, .iload_n 3, [3]) :: (33, 3, .if_icmp .le 7, [40]) :: (36, 1, .iconst 1, [1]) :: (37, 3, .goto 4, [41]) :: cd_57_40
def cd_57 : List vi_E := cd_57_0
set_option maxRecDepth 100000 in
theorem ok_57 : vi_okC MT (MT 57) cd_57 = true := by decide +kernel
theorem at_57_0 : vi_at cd_57 0 = cd_57_0 := rfl
set_option maxRecDepth 100000 in
theorem at_57_40 : vi_at cd_57 40 = cd_57_40 := rfl
set_option maxRecDepth 100000 in
theorem at_57_41 : vi_at cd_57 41 = cd_57_41 := rfl
set_option maxRecDepth 100000 in
theorem at_57_64 : vi_at cd_57 64 = cd_57_64 := rfl
set_option maxRecDepth 100000 in
theorem at_57_65 : vi_at cd_57 65 = cd_57_65 := rfl
set_option maxRecDepth 100000 in
theorem at_57_90 : vi_at cd_57 90 = cd_57_90 := rfl
def cd_58_53 : List vi_E := (53, 1, .iload_n 3, [3]) :: (54, 1, .ireturn, []) :: []
def cd_58_47 : List vi_E := (47, 3, .iinc 4 1, []) :: (50, 3, .goto (-45), [5]) :: cd_58_53
def cd_58_5 : List vi_E := (5, 2, .iload 4, [4]) :: (7, 2, .bipush 30, [30]) :: (9, 3, .if_icmp .ge 44, [53]) :: (12, 1, .aload_n 0, [0]) :: (13, 3, .getfield 42, [9, 5, 2, 223]) :: (16, 2, .iload 4, [4]) :: (18, 1, .aaload, [7]) :: (19, 2, .astore 5, [5]) :: (21, 2, .aload 5, [5]) :: (23, 3, .ifnull 24, [47]) :: (26, 2, .aload 5, [5]) :: (28, 3, .getfield 327, [6, 0, 0, 700]) :: (31, 1, .iload_n 1, [1]) :: (32, 3, .if_icmp .ne 15, [47]) :: (35, 2, .aload 5, [5]) :: (37, 1, .iload_n 2, [2]) :: (38, 3, .invokevirtual 328, [87, 1, 6, 477, 480, 67, 478, 479]) :: (41, 3, .ifCond .eq 6, [47]) :: (44, 3, .iinc 3 1, []) :: cd_58_47
def cd_58_0 : List vi_E := (0, 1, .iconst 0, [0]) :: (1, 1, .istore_n 3, [3]) :: (2, 1, .iconst 0, [0]) :: (3, 2, .istore 4, [4]) :: cd_58_5
def cd_58 : List vi_E := cd_58_0
set_option maxRecDepth 100000 in
theorem ok_58 : vi_okC MT (MT 58) cd_58 = true := by decide +kernel
theorem at_58_0 : vi_at cd_58 0 = cd_58_0 := rfl
set_option maxRecDepth 100000 in
theorem at_58_5 : vi_at cd_58 5 = cd_58_5 := rfl
set_option maxRecDepth 100000 in
theorem at_58_47 : vi_at cd_58 47 = cd_58_47 := rfl
set_option maxRecDepth 100000 in
theorem at_58_53 : vi_at cd_58 53 = cd_58_53 := rfl
def cd_59_59 : List vi_E := (59, 1, .iload_n 3, [3]) :: (60, 1, .ireturn, []) :: []
def cd_59_53 : List vi_E := (53, 3, .iinc 4 1, []) :: (56, 3, .goto (-43), [13]) :: cd_59_59
def cd_59_13 : List vi_E := (13, 2, .iload 4, [4]) :: (15, 1, .aload_n 0, [0]) :: (16, 3, .getfield 69, [9, 10, 0, 228]) :: (19, 3, .if_icmp .ge 40, [59]) :: (22, 1, .aload_n 0, [0]) :: (23, 3, .getfield 61, [9, 8, 2, 226]) :: (26, 2, .iload 4, [4]) :: (28, 1, .aaload, [5]) :: (29, 3, .getfield 300, [4, 1, 0, 791]) :: (32, 1, .iload_n 1, [1]) :: (33, 1, .iload_n 2, [2]) :: (34, 3, .invokestatic 87, [61, 3, 270, 272, 50, 271]) :: (37, 3, .ifCond .eq 16, [53]) :: (40, 1, .iload_n 3, [3]) :: (41, 1, .aload_n 0, [0]) :: (42, 3, .getfield 61, [9, 8, 2, 226]) :: (45, 2, .iload 4, [4]) :: (47, 1, .aaload, [5]) :: (48, 3, .getfield 301, [4, 2, 0, 793]) :: (51, 1, .iadd, []) :: (52, 1, .istore_n 3, [3]) :: cd_59_53
def cd_59_0 : List vi_E := (0, 1, .iload_n 1, [1]) :: (1, 1, .iload_n 2, [2]) :: (2, 3, .invokestatic 286, [35, 2, 850, 852, 50, 851]) :: (5, 3, .invokestatic 91, [45, 1, 273, 275, 50, 274]) :: (8, 1, .iconst 0, [0]) :: (9, 1, .istore_n 3, [3]) :: (10, 1, .iconst 0, [0]) :: (11, 2, .istore 4, [4]) :: cd_59_13
def cd_59 : List vi_E := cd_59_0
set_option maxRecDepth 100000 in
theorem ok_59 : vi_okC MT (MT 59) cd_59 = true := by decide +kernel
theorem at_59_0 : vi_at cd_59 0 = cd_59_0 := rfl
set_option maxRecDepth 100000 in
theorem at_59_13 : vi_at cd_59 13 = cd_59_13 := rfl
set_option maxRecDepth 100000 in
theorem at_59_53 : vi_at cd_59 53 = cd_59_53 := rfl
set_option maxRecDepth 100000 in
theorem at_59_59 : vi_at cd_59 59 = cd_59_59 := rfl
def cd_60_48 : List vi_E := (48, 1, .aconst_null, []) :: (49, 1, .areturn, []) :: []
def cd_60_42 : List vi_E := (42, 3, .iinc 2 1, []) :: (45, 3, .goto (-43), [2]) :: cd_60_48
def cd_60_2 : List vi_E := (2, 1, .iload_n 2, [2]) :: (3, 1, .aload_n 0, [0]) :: (4, 3, .getfield 65, [9, 9, 0, 227]) :: (7, 3, .if_icmp .gt 41, [48]) :: (10, 1, .aload_n 0, [0]) :: (11, 3, .getfield 30, [9, 3, 2, 221]) :: (14, 1, .iload_n 2, [2]) :: (15, 1, .aaload, [8]) :: (16, 3, .getfield 318, [7, 1, 0, 509]) :: (19, 1, .iload_n 1, [1]) :: (20, 3, .if_icmp .ne 22, [42]) :: (23, 1, .aload_n 0, [0]) :: (24, 3, .getfield 30, [9, 3, 2, 221]) :: (27, 1, .iload_n 2, [2]) :: (28, 1, .aaload, [8]) :: (29, 3, .invokevirtual 155, [90, 0, 7, 459, 462, 64, 460, 461]) :: (32, 3, .ifCond .eq 10, [42]) :: (35, 1, .aload_n 0, [0]) :: (36, 3, .getfield 30, [9, 3, 2, 221]) :: (39, 1, .iload_n 2, [2]) :: (40, 1, .aaload, [8]) :: (41, 1, .areturn, []) :: cd_60_42
def cd_60_0 : List vi_E := (0, 1, .iconst 1, [1]) :: (1, 1, .istore_n 2, [2]) :: cd_60_2
def cd_60 : List vi_E := cd_60_0
set_option maxRecDepth 100000 in
theorem ok_60 : vi_okC MT (MT 60) cd_60 = true := by decide +kernel
theorem at_60_0 : vi_at cd_60 0 = cd_60_0 := rfl
set_option maxRecDepth 100000 in
theorem at_60_2 : vi_at cd_60 2 = cd_60_2 := rfl
set_option maxRecDepth 100000 in
theorem at_60_42 : vi_at cd_60 42 = cd_60_42 := rfl
set_option maxRecDepth 100000 in
theorem at_60_48 : vi_at cd_60 48 = cd_60_48 := rfl
def cd_61_15 : List vi_E := (15, 1, .ireturn, []) :: []
def cd_61_14 : List vi_E := (14, 1, .iconst 0, [0]) :: cd_61_15
def cd_61_0 : List vi_E := (0, 1, .iload_n 1, [1]) :: (1, 1, .iload_n 0, [0]) :: (2, 3, .if_icmp .gt 12, [14]) :: (5, 1, .iload_n 0, [0]) :: (6, 1, .iload_n 2, [2]) :: (7, 3, .if_icmp .gt 7, [14]) :: (10, 1, .iconst 1, [1]) :: (11, 3, .goto 4, [15]) :: cd_61_14
def cd_61 : List vi_E := cd_61_0
set_option maxRecDepth 100000 in
theorem ok_61 : vi_okC MT (MT 61) cd_61 = true := by decide +kernel
theorem at_61_0 : vi_at cd_61 0 = cd_61_0 := rfl
set_option maxRecDepth 100000 in
theorem at_61_14 : vi_at cd_61 14 = cd_61_14 := rfl
set_option maxRecDepth 100000 in
theorem at_61_15 : vi_at cd_61 15 = cd_61_15 := rfl

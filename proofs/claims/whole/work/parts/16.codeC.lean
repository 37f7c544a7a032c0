/-! ===== code, entry by entry ===== -/
def cd_95_0 : List vi_E := (0, 1, .aload_n 0, [0]) :: (1, 1, .dup, []) :: (2, 3, .getfield 201, [10, 13, 0, 909]) :: (5, 1, .iconst 1, [1]) :: (6, 1, .iadd, []) :: (7, 3, .putfield 201, [10, 13, 0, 909]) :: (10, 1, .aload_n 0, [0]) :: (11, 3, .getfield 201, [10, 13, 0, 909]) :: (14, 2, .istore 5, [5]) :: (16, 1, .aload_n 0, [0]) :: (17, 3, .getfield 43, [10, 14, 2, 910]) :: (20, 2, .iload 5, [5]) :: (22, 1, .iconst 0, [0]) :: (23, 1, .iastore, []) :: (24, 1, .aload_n 0, [0]) :: (25, 3, .getfield 46, [10, 15, 2, 911]) :: (28, 2, .iload 5, [5]) :: (30, 1, .iload_n 1, [1]) :: (31, 1, .iastore, []) :: (32, 1, .aload_n 0, [0]) :: (33, 3, .getfield 49, [10, 16, 2, 912]) :: (36, 2, .iload 5, [5]) :: (38, 1, .iload_n 2, [2]) :: (39, 1, .iastore, []) :: (40, 1, .aload_n 0, [0]) :: (41, 3, .getfield 52, [10, 17, 2, 913]) :: (44, 2, .iload 5, [5]) :: (46, 1, .iload_n 3, [3]) :: (47, 1, .iastore, []) :: (48, 1, .aload_n 0, [0]) :: (49, 3, .getfield 55, [10, 18, 2, 914]) :: (52, 2, .iload 5, [5]) :: (54, 2, .iload 4, [4]) :: (56, 1, .iastore, []) :: (57, 1, .aload_n 0, [0]) :: (58, 3, .getfield 58, [10, 19, 2, 915]) :: (61, 2, .iload 5, [5]) :: (63, 1, .iconst 0, [0]) :: (64, 1, .bastore, []) :: (65, 1, .aload_n 0, [0]) :: (66, 3, .getfield 61, [10, 20, 2, 916]) :: (69, 2, .iload 5, [5]) :: (71, 1, .iconst 0, [0]) :: (72, 1, .iastore, []) :: (73, 1, .aload_n 0, [0]) :: (74, 3, .getfield 64, [10, 21, 2, 917]) :: (77, 2, .iload 5, [5]) :: (79, 1, .iconst (-1), []) :: (80, 1, .iastore, []) :: (81, 1, .aload_n 0, [0]) :: (82, 3, .getfield 67, [10, 22, 2, 918]) :: (85, 2, .iload 5, [5]) :: (87, 1, .iconst (-1), []) :: (88, 1, .iastore, []) :: (89, 2, .iload 5, [5]) :: (91, 1, .ireturn, []) :: []
def cd_95 : List vi_E := cd_95_0
set_option maxRecDepth 100000 in
theorem ok_95 : vi_okC MT (MT 95) cd_95 = true := by decide +kernel
theorem at_95_0 : vi_at cd_95 0 = cd_95_0 := rfl
def cd_96_0 : List vi_E := (0, 1, .aload_n 0, [0]) :: (1, 1, .iconst (-1), []) :: (2, 3, .putfield 175, [10, 46, 0, 942]) :: (5, 1, .aload_n 0, [0]) :: (6, 1, .iconst 0, [0]) :: (7, 3, .putfield 178, [10, 47, 0, 943]) :: (10, 1, .aload_n 0, [0]) :: (11, 1, .iconst (-1), []) :: (12, 3, .putfield 181, [10, 48, 0, 944]) :: (15, 1, .aload_n 0, [0]) :: (16, 1, .iconst 0, [0]) :: (17, 3, .putfield 184, [10, 49, 0, 945]) :: (20, 1, .return_, []) :: []
def cd_96 : List vi_E := cd_96_0
set_option maxRecDepth 100000 in
theorem ok_96 : vi_okC MT (MT 96) cd_96 = true := by decide +kernel
theorem at_96_0 : vi_at cd_96 0 = cd_96_0 := rfl
def cd_97_106 : List vi_E := (106, 2, .iload 5, [5]) :: (108, 1, .ireturn, []) :: []
def cd_97_75 : List vi_E := (75, 2, .iload 7, [7]) :: (77, 2, .iload 4, [4]) :: (79, 3, .if_icmp .ge 27, [106]) :: (82, 1, .aload_n 0, [0]) :: (83, 3, .getfield 130, [10, 44, 2, 940]) :: (86, 2, .iload 6, [6]) :: (88, 1, .iaload, []) :: (89, 2, .istore 5, [5]) :: (91, 1, .aload_n 0, [0]) :: (92, 3, .getfield 133, [10, 45, 2, 941]) :: (95, 2, .iload 6, [6]) :: (97, 1, .iaload, []) :: (98, 2, .istore 6, [6]) :: (100, 3, .iinc 7 1, []) :: (103, 3, .goto (-28), [75]) :: cd_97_106
def cd_97_60 : List vi_E := (60, 1, .aload_n 0, [0]) :: (61, 3, .getfield 181, [10, 48, 0, 944]) :: (64, 2, .istore 5, [5]) :: (66, 1, .aload_n 0, [0]) :: (67, 3, .getfield 184, [10, 49, 0, 945]) :: (70, 2, .istore 6, [6]) :: (72, 1, .iconst 0, [0]) :: (73, 2, .istore 7, [7]) :: cd_97_75
def cd_97_58 : List vi_E := (58, 1, .iconst (-1), []) :: (59, 1, .ireturn, []) :: cd_97_60
def cd_97_35 : List vi_E := (35, 1, .aload_n 0, [0]) :: (36, 1, .iload_n 1, [1]) :: (37, 1, .iload_n 2, [2]) :: (38, 1, .iload_n 3, [3]) :: (39, 1, .iload_n 2, [2]) :: (40, 1, .isub, []) :: (41, 3, .invokevirtual 194, [108, 3, 10, 1102, 1105, 55, 1104, 29]) :: (44, 2, .iload 4, [4]) :: (46, 3, .ifCond .lt 12, [58]) :: (49, 2, .iload 4, [4]) :: (51, 1, .aload_n 0, [0]) :: (52, 3, .getfield 178, [10, 47, 0, 943]) :: (55, 3, .if_icmp .lt 5, [60]) :: cd_97_58
def cd_97_27 : List vi_E := (27, 3, .invokevirtual 164, [149, 1, 10, 1065, 1068, 55, 1067, 25]) :: (30, 3, .ifCond .eq 5, [35]) :: (33, 1, .iconst 0, [0]) :: (34, 1, .ireturn, []) :: cd_97_35
def cd_97_26 : List vi_E := (26, 1, .iconst 0, [0]) :: cd_97_27
def cd_97_15 : List vi_E := (15, 1, .aload_n 0, [0]) :: (16, 3, .getfield 160, [10, 1, 3, 897]) :: (19, 3, .ifCond .ne 7, [26]) :: (22, 1, .iconst 2, [2]) :: (23, 3, .goto 4, [27]) :: cd_97_26
def cd_97_0 : List vi_E := (0, 1, .aload_n 0, [0]) :: (1, 1, .aload_n 0, [0]) :: (2, 1, .iload_n 1, [1]) :: (3, 1, .iload_n 2, [2]) :: (4, 1, .iload_n 3, [3]) :: (5, 3, .invokevirtual 198, [129, 3, 10, 1097, 1100, 55, 1099, 28]) :: (8, 3, .ifCond .ne 7, [15]) :: (11, 1, .iconst 1, [1]) :: (12, 3, .goto 15, [27]) :: cd_97_15
def cd_97 : List vi_E := cd_97_0
set_option maxRecDepth 100000 in
theorem ok_97 : vi_okC MT (MT 97) cd_97 = true := by decide +kernel
theorem at_97_0 : vi_at cd_97 0 = cd_97_0 := rfl
set_option maxRecDepth 100000 in
theorem at_97_15 : vi_at cd_97 15 = cd_97_15 := rfl
set_option maxRecDepth 100000 in
theorem at_97_26 : vi_at cd_97 26 = cd_97_26 := rfl
set_option maxRecDepth 100000 in
theorem at_97_27 : vi_at cd_97 27 = cd_97_27 := rfl
set_option maxRecDepth 100000 in
theorem at_97_35 : vi_at cd_97 35 = cd_97_35 := rfl
set_option maxRecDepth 100000 in
theorem at_97_58 : vi_at cd_97 58 = cd_97_58 := rfl
set_option maxRecDepth 100000 in
theorem at_97_60 : vi_at cd_97 60 = cd_97_60 := rfl
set_option maxRecDepth 100000 in
theorem at_97_75 : vi_at cd_97 75 = cd_97_75 := rfl
set_option maxRecDepth 100000 in
theorem at_97_106 : vi_at cd_97 106 = cd_97_106 := rfl
def cd_98_43 : List vi_E := (43, 1, .ireturn, []) :: []
def cd_98_32 : List vi_E := (32, 1, .aload_n 0, [0]) :: (33, 3, .getfield 106, [10, 35, 2, 931]) :: (36, 2, .bipush 6, [6]) :: (38, 1, .iload_n 1, [1]) :: (39, 1, .imul, []) :: (40, 1, .iload_n 3, [3]) :: (41, 1, .iadd, []) :: (42, 1, .iaload, []) :: cd_98_43
def cd_98_22 : List vi_E := (22, 3, .invokevirtual 164, [149, 1, 10, 1065, 1068, 55, 1067, 25]) :: (25, 3, .ifCond .eq 7, [32]) :: (28, 1, .iconst 0, [0]) :: (29, 3, .goto 14, [43]) :: cd_98_32
def cd_98_21 : List vi_E := (21, 1, .iconst 1, [1]) :: cd_98_22
def cd_98_0 : List vi_E := (0, 1, .iload_n 2, [2]) :: (1, 3, .invokestatic 250, [134, 1, 1216, 1218, 55, 1217]) :: (4, 1, .istore_n 3, [3]) :: (5, 1, .aload_n 0, [0]) :: (6, 1, .iload_n 1, [1]) :: (7, 3, .invokestatic 247, [126, 1, 1209, 1211, 55, 1210]) :: (10, 3, .ifCond .eq 11, [21]) :: (13, 1, .iload_n 3, [3]) :: (14, 3, .ifCond .lt 7, [21]) :: (17, 1, .iconst 0, [0]) :: (18, 3, .goto 4, [22]) :: cd_98_21
def cd_98 : List vi_E := cd_98_0
set_option maxRecDepth 100000 in
theorem ok_98 : vi_okC MT (MT 98) cd_98 = true := by decide +kernel
theorem at_98_0 : vi_at cd_98 0 = cd_98_0 := rfl
set_option maxRecDepth 100000 in
theorem at_98_21 : vi_at cd_98 21 = cd_98_21 := rfl
set_option maxRecDepth 100000 in
theorem at_98_22 : vi_at cd_98 22 = cd_98_22 := rfl
set_option maxRecDepth 100000 in
theorem at_98_32 : vi_at cd_98 32 = cd_98_32 := rfl
set_option maxRecDepth 100000 in
theorem at_98_43 : vi_at cd_98 43 = cd_98_43 := rfl
def cd_99_24 : List vi_E := (24, 1, .aload_n 0, [0]) :: (25, 3, .getfield 85, [10, 28, 2, 924]) :: (28, 1, .iload_n 1, [1]) :: (29, 1, .baload, []) :: (30, 1, .istore_n 2, [2]) :: (31, 1, .aload_n 0, [0]) :: (32, 3, .getfield 85, [10, 28, 2, 924]) :: (35, 1, .iload_n 1, [1]) :: (36, 1, .iconst 0, [0]) :: (37, 1, .bastore, []) :: (38, 1, .iload_n 2, [2]) :: (39, 1, .ireturn, []) :: []
def cd_99_16 : List vi_E := (16, 3, .invokevirtual 164, [149, 1, 10, 1065, 1068, 55, 1067, 25]) :: (19, 3, .ifCond .eq 5, [24]) :: (22, 1, .iconst 0, [0]) :: (23, 1, .ireturn, []) :: cd_99_24
def cd_99_15 : List vi_E := (15, 1, .iconst 1, [1]) :: cd_99_16
def cd_99_0 : List vi_E := (0, 1, .aload_n 0, [0]) :: (1, 1, .iload_n 1, [1]) :: (2, 1, .iconst 0, [0]) :: (3, 2, .bipush 29, [29]) :: (5, 3, .invokestatic 144, [125, 3, 1062, 1064, 55, 1063]) :: (8, 3, .ifCond .eq 7, [15]) :: (11, 1, .iconst 0, [0]) :: (12, 3, .goto 4, [16]) :: cd_99_15
def cd_99 : List vi_E := cd_99_0
set_option maxRecDepth 100000 in
theorem ok_99 : vi_okC MT (MT 99) cd_99 = true := by decide +kernel
theorem at_99_0 : vi_at cd_99 0 = cd_99_0 := rfl
set_option maxRecDepth 100000 in
theorem at_99_15 : vi_at cd_99 15 = cd_99_15 := rfl
set_option maxRecDepth 100000 in
theorem at_99_16 : vi_at cd_99 16 = cd_99_16 := rfl
set_option maxRecDepth 100000 in
theorem at_99_24 : vi_at cd_99 24 = cd_99_24 := rfl
def cd_100_54 : List vi_E := (54, 1, .iload_n 2, [2]) :: (55, 1, .ireturn, []) :: []
def cd_100_47 : List vi_E := (47, 1, .istore_n 2, [2]) :: (48, 3, .iinc 3 1, []) :: (51, 3, .goto (-47), [4]) :: cd_100_54
def cd_100_46 : List vi_E := (46, 1, .iload_n 2, [2]) :: cd_100_47
def cd_100_4 : List vi_E := (4, 1, .iload_n 3, [3]) :: (5, 1, .aload_n 0, [0]) :: (6, 3, .getfield 201, [10, 13, 0, 909]) :: (9, 3, .if_icmp .gt 45, [54]) :: (12, 1, .aload_n 0, [0]) :: (13, 3, .getfield 43, [10, 14, 2, 910]) :: (16, 1, .iload_n 3, [3]) :: (17, 1, .iaload, []) :: (18, 3, .ifCond .ne 28, [46]) :: (21, 1, .aload_n 0, [0]) :: (22, 3, .getfield 52, [10, 17, 2, 913]) :: (25, 1, .iload_n 3, [3]) :: (26, 1, .iaload, []) :: (27, 3, .ifCond .le 19, [46]) :: (30, 1, .aload_n 0, [0]) :: (31, 3, .getfield 46, [10, 15, 2, 911]) :: (34, 1, .iload_n 3, [3]) :: (35, 1, .iaload, []) :: (36, 1, .iload_n 1, [1]) :: (37, 3, .if_icmp .ne 9, [46]) :: (40, 1, .iload_n 2, [2]) :: (41, 1, .iconst 1, [1]) :: (42, 1, .iadd, []) :: (43, 3, .goto 4, [47]) :: cd_100_46
def cd_100_0 : List vi_E := (0, 1, .iconst 0, [0]) :: (1, 1, .istore_n 2, [2]) :: (2, 1, .iconst 1, [1]) :: (3, 1, .istore_n 3, [3]) :: cd_100_4
def cd_100 : List vi_E := cd_100_0
set_option maxRecDepth 100000 in
theorem ok_100 : vi_okC MT (MT 100) cd_100 = true := by decide +kernel
theorem at_100_0 : vi_at cd_100 0 = cd_100_0 := rfl
set_option maxRecDepth 100000 in
theorem at_100_4 : vi_at cd_100 4 = cd_100_4 := rfl
set_option maxRecDepth 100000 in
theorem at_100_46 : vi_at cd_100 46 = cd_100_46 := rfl
set_option maxRecDepth 100000 in
theorem at_100_47 : vi_at cd_100 47 = cd_100_47 := rfl
set_option maxRecDepth 100000 in
theorem at_100_54 : vi_at cd_100 54 = cd_100_54 := rfl
def cd_101_43 : List vi_E := (43, 1, .ireturn, []) :: []
def cd_101_32 : List vi_E := (32, 1, .aload_n 0, [0]) :: (33, 3, .getfield 112, [10, 37, 2, 933]) :: (36, 2, .bipush 6, [6]) :: (38, 1, .iload_n 1, [1]) :: (39, 1, .imul, []) :: (40, 1, .iload_n 3, [3]) :: (41, 1, .iadd, []) :: (42, 1, .iaload, []) :: cd_101_43
def cd_101_22 : List vi_E := (22, 3, .invokevirtual 164, [149, 1, 10, 1065, 1068, 55, 1067, 25]) :: (25, 3, .ifCond .eq 7, [32]) :: (28, 1, .iconst 0, [0]) :: (29, 3, .goto 14, [43]) :: cd_101_32
def cd_101_21 : List vi_E := (21, 1, .iconst 1, [1]) :: cd_101_22
def cd_101_0 : List vi_E := (0, 1, .iload_n 2, [2]) :: (1, 3, .invokestatic 250, [134, 1, 1216, 1218, 55, 1217]) :: (4, 1, .istore_n 3, [3]) :: (5, 1, .aload_n 0, [0]) :: (6, 1, .iload_n 1, [1]) :: (7, 3, .invokestatic 247, [126, 1, 1209, 1211, 55, 1210]) :: (10, 3, .ifCond .eq 11, [21]) :: (13, 1, .iload_n 3, [3]) :: (14, 3, .ifCond .lt 7, [21]) :: (17, 1, .iconst 0, [0]) :: (18, 3, .goto 4, [22]) :: cd_101_21
def cd_101 : List vi_E := cd_101_0
set_option maxRecDepth 100000 in
theorem ok_101 : vi_okC MT (MT 101) cd_101 = true := by decide +kernel
theorem at_101_0 : vi_at cd_101 0 = cd_101_0 := rfl
set_option maxRecDepth 100000 in
theorem at_101_21 : vi_at cd_101 21 = cd_101_21 := rfl
set_option maxRecDepth 100000 in
theorem at_101_22 : vi_at cd_101 22 = cd_101_22 := rfl
set_option maxRecDepth 100000 in
theorem at_101_32 : vi_at cd_101 32 = cd_101_32 := rfl
set_option maxRecDepth 100000 in
theorem at_101_43 : vi_at cd_101 43 = cd_101_43 := rfl
def cd_102_112 : List vi_E := (112, 2, .lload 4, [4]) :: (114, 1, .lreturn, []) :: []
def cd_102_85 : List vi_E := (85, 1, .iload_n 3, [3]) :: (86, 2, .iload 6, [6]) :: (88, 3, .if_icmp .le 24, [112]) :: (91, 1, .aload_n 0, [0]) :: (92, 1, .iload_n 1, [1]) :: (93, 2, .iload 6, [6]) :: (95, 1, .iload_n 3, [3]) :: (96, 2, .iload 6, [6]) :: (98, 1, .isub, []) :: (99, 3, .invokevirtual 194, [108, 3, 10, 1102, 1105, 55, 1104, 29]) :: (102, 2, .lload 4, [4]) :: (104, 1, .aload_n 0, [0]) :: (105, 3, .getfield 175, [10, 46, 0, 942]) :: (108, 1, .i2l, []) :: (109, 1, .ladd, []) :: (110, 2, .lstore 4, [4]) :: cd_102_112
def cd_102_61 : List vi_E := (61, 2, .lload 4, [4]) :: (63, 1, .aload_n 0, [0]) :: (64, 3, .getfield 40, [10, 12, 2, 908]) :: (67, 2, .iload 7, [7]) :: (69, 1, .iaload, []) :: (70, 1, .i2l, []) :: (71, 1, .ladd, []) :: (72, 2, .lstore 4, [4]) :: (74, 2, .iload 6, [6]) :: (76, 3, .sipush 4320, [4320]) :: (79, 1, .iadd, []) :: (80, 2, .istore 6, [6]) :: (82, 3, .goto (-76), [6]) :: cd_102_85
def cd_102_6 : List vi_E := (6, 1, .iload_n 3, [3]) :: (7, 2, .iload 6, [6]) :: (9, 1, .isub, []) :: (10, 3, .sipush 4320, [4320]) :: (13, 3, .if_icmp .lt 72, [85]) :: (16, 3, .sipush 10080, [10080]) :: (19, 1, .iload_n 1, [1]) :: (20, 1, .imul, []) :: (21, 2, .iload 6, [6]) :: (23, 3, .sipush 10080, [10080]) :: (26, 1, .irem, []) :: (27, 1, .iadd, []) :: (28, 2, .istore 7, [7]) :: (30, 1, .aload_n 0, [0]) :: (31, 3, .getfield 40, [10, 12, 2, 908]) :: (34, 2, .iload 7, [7]) :: (36, 1, .iaload, []) :: (37, 3, .ifCond .ge 24, [61]) :: (40, 1, .aload_n 0, [0]) :: (41, 1, .iload_n 1, [1]) :: (42, 2, .iload 6, [6]) :: (44, 3, .sipush 4320, [4320]) :: (47, 3, .invokevirtual 194, [108, 3, 10, 1102, 1105, 55, 1104, 29]) :: (50, 1, .aload_n 0, [0]) :: (51, 3, .getfield 40, [10, 12, 2, 908]) :: (54, 2, .iload 7, [7]) :: (56, 1, .aload_n 0, [0]) :: (57, 3, .getfield 175, [10, 46, 0, 942]) :: (60, 1, .iastore, []) :: cd_102_61
def cd_102_0 : List vi_E := (0, 1, .lconst 0, [0]) :: (1, 2, .lstore 4, [4]) :: (3, 1, .iload_n 2, [2]) :: (4, 2, .istore 6, [6]) :: cd_102_6
def cd_102 : List vi_E := cd_102_0
set_option maxRecDepth 100000 in
theorem ok_102 : vi_okC MT (MT 102) cd_102 = true := by decide +kernel
theorem at_102_0 : vi_at cd_102 0 = cd_102_0 := rfl
set_option maxRecDepth 100000 in
theorem at_102_6 : vi_at cd_102 6 = cd_102_6 := rfl
set_option maxRecDepth 100000 in
theorem at_102_61 : vi_at cd_102 61 = cd_102_61 := rfl
set_option maxRecDepth 100000 in
theorem at_102_85 : vi_at cd_102 85 = cd_102_85 := rfl
set_option maxRecDepth 100000 in
theorem at_102_112 : vi_at cd_102 112 = cd_102_112 := rfl
def cd_103_83 : List vi_E := (83, 1, .aload_n 0, [0]) :: (84, 3, .getfield 106, [10, 35, 2, 931]) :: (87, 2, .bipush 6, [6]) :: (89, 1, .iload_n 1, [1]) :: (90, 1, .imul, []) :: (91, 1, .iload_n 3, [3]) :: (92, 1, .iadd, []) :: (93, 1, .dup2, []) :: (94, 1, .iaload, []) :: (95, 1, .iconst 1, [1]) :: (96, 1, .iadd, []) :: (97, 1, .iastore, []) :: (98, 1, .aload_n 0, [0]) :: (99, 3, .getfield 109, [10, 36, 2, 932]) :: (102, 2, .bipush 6, [6]) :: (104, 1, .iload_n 1, [1]) :: (105, 1, .imul, []) :: (106, 1, .iload_n 3, [3]) :: (107, 1, .iadd, []) :: (108, 1, .dup2, []) :: (109, 1, .iaload, []) :: (110, 1, .iconst 1, [1]) :: (111, 1, .iadd, []) :: (112, 1, .iastore, []) :: (113, 1, .aload_n 0, [0]) :: (114, 1, .iload_n 1, [1]) :: (115, 3, .invokevirtual 256, [152, 1, 10, 1226, 1229, 55, 1228, 44]) :: (118, 1, .ireturn, []) :: []
def cd_103_75 : List vi_E := (75, 3, .invokevirtual 164, [149, 1, 10, 1065, 1068, 55, 1067, 25]) :: (78, 3, .ifCond .eq 5, [83]) :: (81, 1, .iconst 0, [0]) :: (82, 1, .ireturn, []) :: cd_103_83
def cd_103_74 : List vi_E := (74, 1, .iconst 0, [0]) :: cd_103_75
def cd_103_70 : List vi_E := (70, 1, .iconst 2, [2]) :: (71, 3, .goto 4, [75]) :: cd_103_74
def cd_103_33 : List vi_E := (33, 1, .aload_n 0, [0]) :: (34, 3, .getfield 97, [10, 32, 2, 928]) :: (37, 1, .iload_n 1, [1]) :: (38, 1, .iaload, []) :: (39, 3, .ifCond .eq 31, [70]) :: (42, 1, .aload_n 0, [0]) :: (43, 3, .getfield 106, [10, 35, 2, 931]) :: (46, 2, .bipush 6, [6]) :: (48, 1, .iload_n 1, [1]) :: (49, 1, .imul, []) :: (50, 1, .iload_n 3, [3]) :: (51, 1, .iadd, []) :: (52, 1, .iaload, []) :: (53, 3, .sipush 500, [500]) :: (56, 3, .if_icmp .eq 14, [70]) :: (59, 1, .aload_n 0, [0]) :: (60, 1, .iload_n 1, [1]) :: (61, 3, .invokevirtual 253, [105, 1, 10, 1222, 1225, 55, 1224, 43]) :: (64, 3, .sipush 200, [200]) :: (67, 3, .if_icmp .ne 7, [74]) :: cd_103_70
def cd_103_21 : List vi_E := (21, 2, .istore 4, [4]) :: (23, 1, .aload_n 0, [0]) :: (24, 2, .iload 4, [4]) :: (26, 3, .ifCond .ne 7, [33]) :: (29, 1, .iconst 1, [1]) :: (30, 3, .goto 45, [75]) :: cd_103_33
def cd_103_20 : List vi_E := (20, 1, .iconst 0, [0]) :: cd_103_21
def cd_103_0 : List vi_E := (0, 1, .iload_n 2, [2]) :: (1, 3, .invokestatic 250, [134, 1, 1216, 1218, 55, 1217]) :: (4, 1, .istore_n 3, [3]) :: (5, 1, .iload_n 1, [1]) :: (6, 3, .invokestatic 247, [126, 1, 1209, 1211, 55, 1210]) :: (9, 3, .ifCond .eq 11, [20]) :: (12, 1, .iload_n 3, [3]) :: (13, 3, .ifCond .lt 7, [20]) :: (16, 1, .iconst 1, [1]) :: (17, 3, .goto 4, [21]) :: cd_103_20
def cd_103 : List vi_E := cd_103_0
set_option maxRecDepth 100000 in
theorem ok_103 : vi_okC MT (MT 103) cd_103 = true := by decide +kernel
theorem at_103_0 : vi_at cd_103 0 = cd_103_0 := rfl
set_option maxRecDepth 100000 in
theorem at_103_20 : vi_at cd_103 20 = cd_103_20 := rfl
set_option maxRecDepth 100000 in
theorem at_103_21 : vi_at cd_103 21 = cd_103_21 := rfl
set_option maxRecDepth 100000 in
theorem at_103_33 : vi_at cd_103 33 = cd_103_33 := rfl
set_option maxRecDepth 100000 in
theorem at_103_70 : vi_at cd_103 70 = cd_103_70 := rfl
set_option maxRecDepth 100000 in
theorem at_103_74 : vi_at cd_103 74 = cd_103_74 := rfl
set_option maxRecDepth 100000 in
theorem at_103_75 : vi_at cd_103 75 = cd_103_75 := rfl
set_option maxRecDepth 100000 in
theorem at_103_83 : vi_at cd_103 83 = cd_103_83 := rfl
def cd_104_50 : List vi_E := (50, 3, .sipush 200, [200]) :: (53, 1, .ireturn, []) :: []
def cd_104_47 : List vi_E := (47, 2, .bipush 100, [100]) :: (49, 1, .ireturn, []) :: cd_104_50
def cd_104_44 : List vi_E := (44, 2, .bipush 50, [50]) :: (46, 1, .ireturn, []) :: cd_104_47
def cd_104_41 : List vi_E := (41, 2, .bipush 20, [20]) :: (43, 1, .ireturn, []) :: cd_104_44
def cd_104_38 : List vi_E := (38, 2, .bipush 10, [10]) :: (40, 1, .ireturn, []) :: cd_104_41
def cd_104_36 : List vi_E := (36, 1, .iconst 5, [5]) :: (37, 1, .ireturn, []) :: cd_104_38
def cd_104_0 : List vi_E := (0, 1, .iload_n 0, [0]) :: (1, 35, .tableswitch 49 0 4 #[35, 37, 40, 43, 46], [50, 36, 38, 41, 44, 47]) :: cd_104_36
def cd_104 : List vi_E := cd_104_0
set_option maxRecDepth 100000 in
theorem ok_104 : vi_okC MT (MT 104) cd_104 = true := by decide +kernel
theorem at_104_0 : vi_at cd_104 0 = cd_104_0 := rfl
set_option maxRecDepth 100000 in
theorem at_104_36 : vi_at cd_104 36 = cd_104_36 := rfl
set_option maxRecDepth 100000 in
theorem at_104_38 : vi_at cd_104 38 = cd_104_38 := rfl
set_option maxRecDepth 100000 in
theorem at_104_41 : vi_at cd_104 41 = cd_104_41 := rfl
set_option maxRecDepth 100000 in
theorem at_104_44 : vi_at cd_104 44 = cd_104_44 := rfl
set_option maxRecDepth 100000 in
theorem at_104_47 : vi_at cd_104 47 = cd_104_47 := rfl
set_option maxRecDepth 100000 in
theorem at_104_50 : vi_at cd_104 50 = cd_104_50 := rfl
def cd_105_30 : List vi_E := (30, 1, .iload_n 2, [2]) :: (31, 1, .ireturn, []) :: []
def cd_105_4 : List vi_E := (4, 1, .iload_n 3, [3]) :: (5, 2, .bipush 6, [6]) :: (7, 3, .if_icmp .ge 23, [30]) :: (10, 1, .iload_n 2, [2]) :: (11, 1, .aload_n 0, [0]) :: (12, 3, .getfield 109, [10, 36, 2, 932]) :: (15, 2, .bipush 6, [6]) :: (17, 1, .iload_n 1, [1]) :: (18, 1, .imul, []) :: (19, 1, .iload_n 3, [3]) :: (20, 1, .iadd, []) :: (21, 1, .iaload, []) :: (22, 1, .iadd, []) :: (23, 1, .istore_n 2, [2]) :: (24, 3, .iinc 3 1, []) :: (27, 3, .goto (-23), [4]) :: cd_105_30
def cd_105_0 : List vi_E := (0, 1, .iconst 0, [0]) :: (1, 1, .istore_n 2, [2]) :: (2, 1, .iconst 0, [0]) :: (3, 1, .istore_n 3, [3]) :: cd_105_4
def cd_105 : List vi_E := cd_105_0
set_option maxRecDepth 100000 in
theorem ok_105 : vi_okC MT (MT 105) cd_105 = true := by decide +kernel
theorem at_105_0 : vi_at cd_105 0 = cd_105_0 := rfl
set_option maxRecDepth 100000 in
theorem at_105_4 : vi_at cd_105 4 = cd_105_4 := rfl
set_option maxRecDepth 100000 in
theorem at_105_30 : vi_at cd_105 30 = cd_105_30 := rfl
def cd_106_61 : List vi_E := (61, 1, .aload_n 0, [0]) :: (62, 3, .getfield 70, [10, 23, 2, 919]) :: (65, 1, .iload_n 1, [1]) :: (66, 1, .iconst 1, [1]) :: (67, 1, .bastore, []) :: (68, 1, .aload_n 0, [0]) :: (69, 3, .getfield 73, [10, 24, 2, 920]) :: (72, 1, .iload_n 1, [1]) :: (73, 1, .iload_n 2, [2]) :: (74, 1, .iastore, []) :: (75, 1, .aload_n 0, [0]) :: (76, 3, .getfield 76, [10, 25, 2, 921]) :: (79, 1, .iload_n 1, [1]) :: (80, 1, .iload_n 3, [3]) :: (81, 1, .iastore, []) :: (82, 1, .return_, []) :: []
def cd_106_54 : List vi_E := (54, 3, .invokevirtual 164, [149, 1, 10, 1065, 1068, 55, 1067, 25]) :: (57, 3, .ifCond .eq 4, [61]) :: (60, 1, .return_, []) :: cd_106_61
def cd_106_53 : List vi_E := (53, 1, .iconst 0, [0]) :: cd_106_54
def cd_106_41 : List vi_E := (41, 1, .aload_n 0, [0]) :: (42, 1, .iload_n 1, [1]) :: (43, 3, .invokevirtual 224, [123, 1, 10, 1146, 1149, 55, 1148, 37]) :: (46, 3, .ifCond .le 7, [53]) :: (49, 1, .iconst 2, [2]) :: (50, 3, .goto 4, [54]) :: cd_106_53
def cd_106_29 : List vi_E := (29, 2, .istore 4, [4]) :: (31, 1, .aload_n 0, [0]) :: (32, 2, .iload 4, [4]) :: (34, 3, .ifCond .ne 7, [41]) :: (37, 1, .iconst 1, [1]) :: (38, 3, .goto 16, [54]) :: cd_106_41
def cd_106_28 : List vi_E := (28, 1, .iconst 0, [0]) :: cd_106_29
def cd_106_0 : List vi_E := (0, 1, .iload_n 1, [1]) :: (1, 3, .invokestatic 241, [124, 1, 1182, 1184, 55, 1183]) :: (4, 3, .ifCond .eq 24, [28]) :: (7, 1, .iload_n 2, [2]) :: (8, 3, .invokestatic 156, [132, 1, 1059, 1061, 55, 1060]) :: (11, 3, .ifCond .eq 17, [28]) :: (14, 1, .iload_n 3, [3]) :: (15, 1, .iconst 1, [1]) :: (16, 2, .bipush 9, [9]) :: (18, 3, .invokestatic 144, [125, 3, 1062, 1064, 55, 1063]) :: (21, 3, .ifCond .eq 7, [28]) :: (24, 1, .iconst 1, [1]) :: (25, 3, .goto 4, [29]) :: cd_106_28
def cd_106 : List vi_E := cd_106_0
set_option maxRecDepth 100000 in
theorem ok_106 : vi_okC MT (MT 106) cd_106 = true := by decide +kernel
theorem at_106_0 : vi_at cd_106 0 = cd_106_0 := rfl
set_option maxRecDepth 100000 in
theorem at_106_28 : vi_at cd_106 28 = cd_106_28 := rfl
set_option maxRecDepth 100000 in
theorem at_106_29 : vi_at cd_106 29 = cd_106_29 := rfl
set_option maxRecDepth 100000 in
theorem at_106_41 : vi_at cd_106 41 = cd_106_41 := rfl
set_option maxRecDepth 100000 in
theorem at_106_53 : vi_at cd_106 53 = cd_106_53 := rfl
set_option maxRecDepth 100000 in
theorem at_106_54 : vi_at cd_106 54 = cd_106_54 := rfl
set_option maxRecDepth 100000 in
theorem at_106_61 : vi_at cd_106 61 = cd_106_61 := rfl
def cd_107_58 : List vi_E := (58, 1, .iload_n 2, [2]) :: (59, 1, .ireturn, []) :: []
def cd_107_52 : List vi_E := (52, 3, .iinc 3 1, []) :: (55, 3, .goto (-51), [4]) :: cd_107_58
def cd_107_45 : List vi_E := (45, 1, .istore_n 2, [2]) :: (46, 3, .iinc 4 1, []) :: (49, 3, .goto (-36), [13]) :: cd_107_52
def cd_107_44 : List vi_E := (44, 1, .iload_n 2, [2]) :: cd_107_45
def cd_107_13 : List vi_E := (13, 2, .iload 4, [4]) :: (15, 1, .aload_n 0, [0]) :: (16, 3, .getfield 79, [10, 26, 2, 922]) :: (19, 1, .iload_n 3, [3]) :: (20, 1, .iaload, []) :: (21, 3, .if_icmp .ge 31, [52]) :: (24, 1, .aload_n 0, [0]) :: (25, 3, .getfield 82, [10, 27, 2, 923]) :: (28, 2, .bipush 12, [12]) :: (30, 1, .iload_n 3, [3]) :: (31, 1, .imul, []) :: (32, 2, .iload 4, [4]) :: (34, 1, .iadd, []) :: (35, 1, .iaload, []) :: (36, 1, .iload_n 1, [1]) :: (37, 3, .if_icmp .ne 7, [44]) :: (40, 1, .iload_n 3, [3]) :: (41, 3, .goto 4, [45]) :: cd_107_44
def cd_107_4 : List vi_E := (4, 1, .iload_n 3, [3]) :: (5, 2, .bipush 20, [20]) :: (7, 3, .if_icmp .ge 51, [58]) :: (10, 1, .iconst 0, [0]) :: (11, 2, .istore 4, [4]) :: cd_107_13
def cd_107_0 : List vi_E := (0, 1, .iconst (-1), []) :: (1, 1, .istore_n 2, [2]) :: (2, 1, .iconst 0, [0]) :: (3, 1, .istore_n 3, [3]) :: cd_107_4
def cd_107 : List vi_E := cd_107_0
set_option maxRecDepth 100000 in
theorem ok_107 : vi_okC MT (MT 107) cd_107 = true := by decide +kernel
theorem at_107_0 : vi_at cd_107 0 = cd_107_0 := rfl
set_option maxRecDepth 100000 in
theorem at_107_4 : vi_at cd_107 4 = cd_107_4 := rfl
set_option maxRecDepth 100000 in
theorem at_107_13 : vi_at cd_107 13 = cd_107_13 := rfl
set_option maxRecDepth 100000 in
theorem at_107_44 : vi_at cd_107 44 = cd_107_44 := rfl
set_option maxRecDepth 100000 in
theorem at_107_45 : vi_at cd_107 45 = cd_107_45 := rfl
set_option maxRecDepth 100000 in
theorem at_107_52 : vi_at cd_107 52 = cd_107_52 := rfl
set_option maxRecDepth 100000 in
theorem at_107_58 : vi_at cd_107 58 = cd_107_58 := rfl
def cd_108_291 : List vi_E := (291, 1, .return_, []) :: []
def cd_108_268 : List vi_E := (268, 1, .aload_n 0, [0]) :: (269, 3, .getfield 13, [10, 4, 2, 900]) :: (272, 1, .iload_n 1, [1]) :: (273, 1, .iaload, []) :: (274, 3, .ifCond .le 17, [291]) :: (277, 1, .aload_n 0, [0]) :: (278, 2, .bipush 24, [24]) :: (280, 1, .iconst 0, [0]) :: (281, 1, .aload_n 0, [0]) :: (282, 3, .getfield 13, [10, 4, 2, 900]) :: (285, 1, .iload_n 1, [1]) :: (286, 1, .iaload, []) :: (287, 1, .iload_n 3, [3]) :: (288, 3, .invokevirtual 190, [141, 4, 10, 1110, 1113, 55, 1112, 31]) :: cd_108_291
def cd_108_262 : List vi_E := (262, 3, .iinc 4 1, []) :: (265, 3, .goto (-69), [196]) :: cd_108_268
def cd_108_196 : List vi_E := (196, 2, .iload 4, [4]) :: (198, 2, .bipush 24, [24]) :: (200, 3, .if_icmp .ge 68, [268]) :: (203, 1, .aload_n 0, [0]) :: (204, 3, .getfield 16, [10, 5, 2, 901]) :: (207, 2, .iload 4, [4]) :: (209, 1, .baload, []) :: (210, 3, .ifCond .eq 52, [262]) :: (213, 1, .aload_n 0, [0]) :: (214, 3, .getfield 26, [10, 8, 2, 904]) :: (217, 2, .iload 4, [4]) :: (219, 1, .iaload, []) :: (220, 1, .iload_n 1, [1]) :: (221, 3, .if_icmp .ne 41, [262]) :: (224, 1, .aload_n 0, [0]) :: (225, 2, .iload 4, [4]) :: (227, 1, .iload_n 2, [2]) :: (228, 3, .sipush 10080, [10080]) :: (231, 1, .irem, []) :: (232, 2, .bipush 60, [60]) :: (234, 1, .idiv, []) :: (235, 3, .invokevirtual 167, [139, 2, 10, 1085, 1088, 55, 1087, 26]) :: (238, 3, .ifCond .eq 24, [262]) :: (241, 1, .aload_n 0, [0]) :: (242, 2, .iload 4, [4]) :: (244, 1, .aload_n 0, [0]) :: (245, 3, .getfield 20, [10, 6, 2, 902]) :: (248, 2, .iload 4, [4]) :: (250, 1, .iaload, []) :: (251, 1, .aload_n 0, [0]) :: (252, 3, .getfield 23, [10, 7, 2, 903]) :: (255, 2, .iload 4, [4]) :: (257, 1, .iaload, []) :: (258, 1, .iload_n 3, [3]) :: (259, 3, .invokevirtual 190, [141, 4, 10, 1110, 1113, 55, 1112, 31]) :: cd_108_262
def cd_108_193 : List vi_E := (193, 1, .iconst 0, [0]) :: (194, 2, .istore 4, [4]) :: cd_108_196
def cd_108_179 : List vi_E := (179, 1, .aload_n 0, [0]) :: (180, 3, .invokevirtual 187, [96, 0, 10, 1106, 1109, 55, 1108, 30]) :: (183, 1, .iload_n 3, [3]) :: (184, 3, .ifCond .ne 9, [193]) :: (187, 1, .aload_n 0, [0]) :: (188, 1, .iconst 0, [0]) :: (189, 3, .putfield 175, [10, 46, 0, 942]) :: (192, 1, .return_, []) :: cd_108_193
def cd_108_129 : List vi_E := (129, 1, .aload_n 0, [0]) :: (130, 3, .getfield 124, [10, 42, 2, 938]) :: (133, 2, .iload 4, [4]) :: (135, 1, .aload_n 0, [0]) :: (136, 3, .getfield 175, [10, 46, 0, 942]) :: (139, 1, .iastore, []) :: (140, 1, .aload_n 0, [0]) :: (141, 3, .getfield 127, [10, 43, 2, 939]) :: (144, 2, .iload 4, [4]) :: (146, 1, .aload_n 0, [0]) :: (147, 3, .getfield 178, [10, 47, 0, 943]) :: (150, 1, .iastore, []) :: (151, 1, .aload_n 0, [0]) :: (152, 3, .getfield 130, [10, 44, 2, 940]) :: (155, 2, .iload 4, [4]) :: (157, 1, .aload_n 0, [0]) :: (158, 3, .getfield 181, [10, 48, 0, 944]) :: (161, 1, .iastore, []) :: (162, 1, .aload_n 0, [0]) :: (163, 3, .getfield 133, [10, 45, 2, 941]) :: (166, 2, .iload 4, [4]) :: (168, 1, .aload_n 0, [0]) :: (169, 3, .getfield 184, [10, 49, 0, 945]) :: (172, 1, .iastore, []) :: (173, 3, .iinc 4 (-1), []) :: (176, 3, .goto (-171), [5]) :: cd_108_179
def cd_108_123 : List vi_E := (123, 3, .iinc 5 1, []) :: (126, 3, .goto (-109), [17]) :: cd_108_129
def cd_108_17 : List vi_E := (17, 2, .iload 5, [5]) :: (19, 2, .bipush 24, [24]) :: (21, 3, .if_icmp .ge 108, [129]) :: (24, 1, .aload_n 0, [0]) :: (25, 3, .getfield 16, [10, 5, 2, 901]) :: (28, 2, .iload 5, [5]) :: (30, 1, .baload, []) :: (31, 3, .ifCond .eq 92, [123]) :: (34, 1, .aload_n 0, [0]) :: (35, 3, .getfield 26, [10, 8, 2, 904]) :: (38, 2, .iload 5, [5]) :: (40, 1, .iaload, []) :: (41, 1, .iload_n 1, [1]) :: (42, 3, .if_icmp .ne 81, [123]) :: (45, 1, .aload_n 0, [0]) :: (46, 3, .getfield 36, [10, 11, 2, 907]) :: (49, 3, .sipush 10080, [10080]) :: (52, 2, .iload 5, [5]) :: (54, 1, .imul, []) :: (55, 1, .iload_n 2, [2]) :: (56, 2, .iload 4, [4]) :: (58, 1, .iadd, []) :: (59, 3, .sipush 10080, [10080]) :: (62, 1, .irem, []) :: (63, 1, .iadd, []) :: (64, 1, .iaload, []) :: (65, 2, .istore 6, [6]) :: (67, 2, .iload 4, [4]) :: (69, 2, .iload 6, [6]) :: (71, 1, .isub, []) :: (72, 2, .istore 7, [7]) :: (74, 2, .iload 6, [6]) :: (76, 3, .ifCond .lt 47, [123]) :: (79, 2, .iload 7, [7]) :: (81, 3, .ifCond .lt 42, [123]) :: (84, 2, .iload 7, [7]) :: (86, 1, .aload_n 0, [0]) :: (87, 3, .getfield 23, [10, 7, 2, 903]) :: (90, 2, .iload 5, [5]) :: (92, 1, .iaload, []) :: (93, 1, .iadd, []) :: (94, 2, .iload 4, [4]) :: (96, 3, .if_icmp .le 27, [123]) :: (99, 1, .aload_n 0, [0]) :: (100, 2, .iload 5, [5]) :: (102, 1, .aload_n 0, [0]) :: (103, 3, .getfield 20, [10, 6, 2, 902]) :: (106, 2, .iload 5, [5]) :: (108, 1, .iaload, []) :: (109, 2, .iload 7, [7]) :: (111, 1, .aload_n 0, [0]) :: (112, 3, .getfield 23, [10, 7, 2, 903]) :: (115, 2, .iload 5, [5]) :: (117, 1, .iaload, []) :: (118, 1, .iadd, []) :: (119, 1, .iload_n 3, [3]) :: (120, 3, .invokevirtual 190, [141, 4, 10, 1110, 1113, 55, 1112, 31]) :: cd_108_123
def cd_108_5 : List vi_E := (5, 2, .iload 4, [4]) :: (7, 3, .ifCond .le 172, [179]) :: (10, 1, .aload_n 0, [0]) :: (11, 3, .invokevirtual 187, [96, 0, 10, 1106, 1109, 55, 1108, 30]) :: (14, 1, .iconst 0, [0]) :: (15, 2, .istore 5, [5]) :: cd_108_17
def cd_108_0 : List vi_E := (0, 1, .iload_n 3, [3]) :: (1, 1, .iconst 1, [1]) :: (2, 1, .isub, []) :: (3, 2, .istore 4, [4]) :: cd_108_5
def cd_108 : List vi_E := cd_108_0
set_option maxRecDepth 100000 in
theorem ok_108 : vi_okC MT (MT 108) cd_108 = true := by decide +kernel
theorem at_108_0 : vi_at cd_108 0 = cd_108_0 := rfl
set_option maxRecDepth 100000 in
theorem at_108_5 : vi_at cd_108 5 = cd_108_5 := rfl
set_option maxRecDepth 100000 in
theorem at_108_17 : vi_at cd_108 17 = cd_108_17 := rfl
set_option maxRecDepth 100000 in
theorem at_108_123 : vi_at cd_108 123 = cd_108_123 := rfl
set_option maxRecDepth 100000 in
theorem at_108_129 : vi_at cd_108 129 = cd_108_129 := rfl
set_option maxRecDepth 100000 in
theorem at_108_179 : vi_at cd_108 179 = cd_108_179 := rfl
set_option maxRecDepth 100000 in
theorem at_108_193 : vi_at cd_108 193 = cd_108_193 := rfl
set_option maxRecDepth 100000 in
theorem at_108_196 : vi_at cd_108 196 = cd_108_196 := rfl
set_option maxRecDepth 100000 in
theorem at_108_262 : vi_at cd_108 262 = cd_108_262 := rfl
set_option maxRecDepth 100000 in
theorem at_108_268 : vi_at cd_108 268 = cd_108_268 := rfl
set_option maxRecDepth 100000 in
theorem at_108_291 : vi_at cd_108 291 = cd_108_291 := rfl
def cd_109_91 : List vi_E := (91, 1, .aload_n 0, [0]) :: (92, 3, .getfield 79, [10, 26, 2, 922]) :: (95, 1, .iload_n 2, [2]) :: (96, 1, .iload_n 3, [3]) :: (97, 1, .iastore, []) :: (98, 1, .iconst 1, [1]) :: (99, 1, .ireturn, []) :: []
def cd_109_85 : List vi_E := (85, 3, .iinc 4 1, []) :: (88, 3, .goto (-50), [38]) :: cd_109_91
def cd_109_38 : List vi_E := (38, 2, .iload 4, [4]) :: (40, 1, .aload_n 0, [0]) :: (41, 3, .getfield 79, [10, 26, 2, 922]) :: (44, 1, .iload_n 2, [2]) :: (45, 1, .iaload, []) :: (46, 3, .if_icmp .ge 45, [91]) :: (49, 1, .aload_n 0, [0]) :: (50, 3, .getfield 82, [10, 27, 2, 923]) :: (53, 2, .bipush 12, [12]) :: (55, 1, .iload_n 2, [2]) :: (56, 1, .imul, []) :: (57, 2, .iload 4, [4]) :: (59, 1, .iadd, []) :: (60, 1, .iaload, []) :: (61, 2, .istore 5, [5]) :: (63, 2, .iload 5, [5]) :: (65, 1, .iload_n 1, [1]) :: (66, 3, .if_icmp .eq 19, [85]) :: (69, 1, .aload_n 0, [0]) :: (70, 3, .getfield 82, [10, 27, 2, 923]) :: (73, 2, .bipush 12, [12]) :: (75, 1, .iload_n 2, [2]) :: (76, 1, .imul, []) :: (77, 1, .iload_n 3, [3]) :: (78, 1, .iadd, []) :: (79, 2, .iload 5, [5]) :: (81, 1, .iastore, []) :: (82, 3, .iinc 3 1, []) :: cd_109_85
def cd_109_33 : List vi_E := (33, 1, .iconst 0, [0]) :: (34, 1, .istore_n 3, [3]) :: (35, 1, .iconst 0, [0]) :: (36, 2, .istore 4, [4]) :: cd_109_38
def cd_109_21 : List vi_E := (21, 1, .aload_n 0, [0]) :: (22, 1, .iload_n 1, [1]) :: (23, 3, .invokevirtual 221, [107, 1, 10, 1142, 1145, 55, 1144, 36]) :: (26, 1, .istore_n 2, [2]) :: (27, 1, .iload_n 2, [2]) :: (28, 3, .ifCond .ge 5, [33]) :: (31, 1, .iconst 0, [0]) :: (32, 1, .ireturn, []) :: cd_109_33
def cd_109_13 : List vi_E := (13, 3, .invokevirtual 164, [149, 1, 10, 1065, 1068, 55, 1067, 25]) :: (16, 3, .ifCond .eq 5, [21]) :: (19, 1, .iconst 0, [0]) :: (20, 1, .ireturn, []) :: cd_109_21
def cd_109_12 : List vi_E := (12, 1, .iconst 1, [1]) :: cd_109_13
def cd_109_0 : List vi_E := (0, 1, .aload_n 0, [0]) :: (1, 1, .iload_n 1, [1]) :: (2, 3, .invokestatic 205, [128, 1, 1122, 1124, 55, 1123]) :: (5, 3, .ifCond .eq 7, [12]) :: (8, 1, .iconst 0, [0]) :: (9, 3, .goto 4, [13]) :: cd_109_12
def cd_109 : List vi_E := cd_109_0
set_option maxRecDepth 100000 in
theorem ok_109 : vi_okC MT (MT 109) cd_109 = true := by decide +kernel
theorem at_109_0 : vi_at cd_109 0 = cd_109_0 := rfl
set_option maxRecDepth 100000 in
theorem at_109_12 : vi_at cd_109 12 = cd_109_12 := rfl
set_option maxRecDepth 100000 in
theorem at_109_13 : vi_at cd_109 13 = cd_109_13 := rfl
set_option maxRecDepth 100000 in
theorem at_109_21 : vi_at cd_109 21 = cd_109_21 := rfl
set_option maxRecDepth 100000 in
theorem at_109_33 : vi_at cd_109 33 = cd_109_33 := rfl
set_option maxRecDepth 100000 in
theorem at_109_38 : vi_at cd_109 38 = cd_109_38 := rfl
set_option maxRecDepth 100000 in
theorem at_109_85 : vi_at cd_109 85 = cd_109_85 := rfl
set_option maxRecDepth 100000 in
theorem at_109_91 : vi_at cd_109 91 = cd_109_91 := rfl
def cd_110_179 : List vi_E := (179, 3, .invokevirtual 227, [95, 4, 10, 1150, 1153, 55, 1152, 38]) :: (182, 1, .ireturn, []) :: []
def cd_110_178 : List vi_E := (178, 1, .iconst (-1), []) :: cd_110_179
def cd_110_161 : List vi_E := (161, 2, .istore 7, [7]) :: (163, 1, .aload_n 0, [0]) :: (164, 2, .iload 5, [5]) :: (166, 1, .iload_n 3, [3]) :: (167, 1, .iload_n 2, [2]) :: (168, 2, .iload 7, [7]) :: (170, 3, .ifCond .eq 8, [178]) :: (173, 2, .iload 6, [6]) :: (175, 3, .goto 4, [179]) :: cd_110_178
def cd_110_160 : List vi_E := (160, 1, .iconst 0, [0]) :: cd_110_161
def cd_110_116 : List vi_E := (116, 1, .aload_n 0, [0]) :: (117, 1, .iload_n 2, [2]) :: (118, 3, .invokevirtual 221, [107, 1, 10, 1142, 1145, 55, 1144, 36]) :: (121, 2, .istore 6, [6]) :: (123, 2, .iload 6, [6]) :: (125, 3, .ifCond .lt 35, [160]) :: (128, 1, .aload_n 0, [0]) :: (129, 3, .getfield 73, [10, 24, 2, 920]) :: (132, 2, .iload 6, [6]) :: (134, 1, .iaload, []) :: (135, 2, .iload 5, [5]) :: (137, 3, .if_icmp .ne 23, [160]) :: (140, 1, .aload_n 0, [0]) :: (141, 2, .iload 6, [6]) :: (143, 3, .invokevirtual 224, [123, 1, 10, 1146, 1149, 55, 1148, 37]) :: (146, 1, .aload_n 0, [0]) :: (147, 3, .getfield 76, [10, 25, 2, 921]) :: (150, 2, .iload 6, [6]) :: (152, 1, .iaload, []) :: (153, 3, .if_icmp .ge 7, [160]) :: (156, 1, .iconst 1, [1]) :: (157, 3, .goto 4, [161]) :: cd_110_160
def cd_110_114 : List vi_E := (114, 1, .iconst 0, [0]) :: (115, 1, .ireturn, []) :: cd_110_116
def cd_110_72 : List vi_E := (72, 1, .aload_n 0, [0]) :: (73, 1, .iload_n 3, [3]) :: (74, 3, .putfield 148, [10, 2, 0, 898]) :: (77, 1, .iload_n 1, [1]) :: (78, 1, .iconst 4, [4]) :: (79, 1, .irem, []) :: (80, 2, .istore 5, [5]) :: (82, 1, .aload_n 0, [0]) :: (83, 1, .iload_n 2, [2]) :: (84, 3, .invokevirtual 211, [122, 1, 10, 1130, 1133, 55, 1132, 33]) :: (87, 3, .ifCond .gt 27, [114]) :: (90, 1, .aload_n 0, [0]) :: (91, 2, .iload 5, [5]) :: (93, 3, .invokevirtual 214, [100, 1, 10, 1134, 1137, 55, 1136, 34]) :: (96, 1, .aload_n 0, [0]) :: (97, 3, .getfield 7, [10, 3, 2, 899]) :: (100, 2, .iload 5, [5]) :: (102, 1, .iaload, []) :: (103, 1, .aload_n 0, [0]) :: (104, 2, .iload 5, [5]) :: (106, 1, .iload_n 3, [3]) :: (107, 3, .invokevirtual 217, [151, 2, 10, 1138, 1141, 55, 1140, 35]) :: (110, 1, .isub, []) :: (111, 3, .if_icmp .lt 5, [116]) :: cd_110_114
def cd_110_64 : List vi_E := (64, 3, .invokevirtual 164, [149, 1, 10, 1065, 1068, 55, 1067, 25]) :: (67, 3, .ifCond .eq 5, [72]) :: (70, 1, .iconst 0, [0]) :: (71, 1, .ireturn, []) :: cd_110_72
def cd_110_63 : List vi_E := (63, 1, .iconst 0, [0]) :: cd_110_64
def cd_110_59 : List vi_E := (59, 1, .iconst 2, [2]) :: (60, 3, .goto 4, [64]) :: cd_110_63
def cd_110_42 : List vi_E := (42, 1, .aload_n 0, [0]) :: (43, 3, .getfield 160, [10, 1, 3, 897]) :: (46, 3, .ifCond .eq 13, [59]) :: (49, 1, .aload_n 0, [0]) :: (50, 3, .getfield 201, [10, 13, 0, 909]) :: (53, 3, .sipush 300, [300]) :: (56, 3, .if_icmp .ne 7, [63]) :: cd_110_59
def cd_110_30 : List vi_E := (30, 2, .istore 4, [4]) :: (32, 1, .aload_n 0, [0]) :: (33, 2, .iload 4, [4]) :: (35, 3, .ifCond .ne 7, [42]) :: (38, 1, .iconst 1, [1]) :: (39, 3, .goto 25, [64]) :: cd_110_42
def cd_110_29 : List vi_E := (29, 1, .iconst 0, [0]) :: cd_110_30
def cd_110_0 : List vi_E := (0, 1, .iload_n 1, [1]) :: (1, 1, .iconst 0, [0]) :: (2, 2, .bipush 7, [7]) :: (4, 3, .invokestatic 144, [125, 3, 1062, 1064, 55, 1063]) :: (7, 3, .ifCond .eq 22, [29]) :: (10, 1, .iload_n 2, [2]) :: (11, 3, .invokestatic 205, [128, 1, 1122, 1124, 55, 1123]) :: (14, 3, .ifCond .eq 15, [29]) :: (17, 1, .aload_n 0, [0]) :: (18, 1, .iload_n 3, [3]) :: (19, 3, .invokevirtual 208, [127, 1, 10, 1126, 1129, 55, 1128, 32]) :: (22, 3, .ifCond .eq 7, [29]) :: (25, 1, .iconst 1, [1]) :: (26, 3, .goto 4, [30]) :: cd_110_29
def cd_110 : List vi_E := cd_110_0
set_option maxRecDepth 100000 in
theorem ok_110 : vi_okC MT (MT 110) cd_110 = true := by decide +kernel
theorem at_110_0 : vi_at cd_110 0 = cd_110_0 := rfl
set_option maxRecDepth 100000 in
theorem at_110_29 : vi_at cd_110 29 = cd_110_29 := rfl
set_option maxRecDepth 100000 in
theorem at_110_30 : vi_at cd_110 30 = cd_110_30 := rfl
set_option maxRecDepth 100000 in
theorem at_110_42 : vi_at cd_110 42 = cd_110_42 := rfl
set_option maxRecDepth 100000 in
theorem at_110_59 : vi_at cd_110 59 = cd_110_59 := rfl
set_option maxRecDepth 100000 in
theorem at_110_63 : vi_at cd_110 63 = cd_110_63 := rfl
set_option maxRecDepth 100000 in
theorem at_110_64 : vi_at cd_110 64 = cd_110_64 := rfl
set_option maxRecDepth 100000 in
theorem at_110_72 : vi_at cd_110 72 = cd_110_72 := rfl
set_option maxRecDepth 100000 in
theorem at_110_114 : vi_at cd_110 114 = cd_110_114 := rfl
set_option maxRecDepth 100000 in
theorem at_110_116 : vi_at cd_110 116 = cd_110_116 := rfl
set_option maxRecDepth 100000 in
theorem at_110_160 : vi_at cd_110 160 = cd_110_160 := rfl
set_option maxRecDepth 100000 in
theorem at_110_161 : vi_at cd_110 161 = cd_110_161 := rfl
set_option maxRecDepth 100000 in
theorem at_110_178 : vi_at cd_110 178 = cd_110_178 := rfl
set_option maxRecDepth 100000 in
theorem at_110_179 : vi_at cd_110 179 = cd_110_179 := rfl
def cd_111_60 : List vi_E := (60, 1, .aload_n 0, [0]) :: (61, 1, .iload_n 2, [2]) :: (62, 3, .putfield 148, [10, 2, 0, 898]) :: (65, 1, .aload_n 0, [0]) :: (66, 1, .iload_n 1, [1]) :: (67, 1, .iload_n 2, [2]) :: (68, 3, .invokevirtual 238, [112, 2, 10, 1162, 1165, 55, 1164, 40]) :: (71, 1, .ireturn, []) :: []
def cd_111_52 : List vi_E := (52, 3, .invokevirtual 164, [149, 1, 10, 1065, 1068, 55, 1067, 25]) :: (55, 3, .ifCond .eq 5, [60]) :: (58, 1, .iconst 0, [0]) :: (59, 1, .ireturn, []) :: cd_111_60
def cd_111_51 : List vi_E := (51, 1, .iconst 0, [0]) :: cd_111_52
def cd_111_47 : List vi_E := (47, 1, .iconst 2, [2]) :: (48, 3, .goto 4, [52]) :: cd_111_51
def cd_111_31 : List vi_E := (31, 1, .aload_n 0, [0]) :: (32, 3, .getfield 160, [10, 1, 3, 897]) :: (35, 3, .ifCond .eq 12, [47]) :: (38, 1, .aload_n 0, [0]) :: (39, 3, .getfield 43, [10, 14, 2, 910]) :: (42, 1, .iload_n 1, [1]) :: (43, 1, .iaload, []) :: (44, 3, .ifCond .eq 7, [51]) :: cd_111_47
def cd_111_21 : List vi_E := (21, 1, .istore_n 3, [3]) :: (22, 1, .aload_n 0, [0]) :: (23, 1, .iload_n 3, [3]) :: (24, 3, .ifCond .ne 7, [31]) :: (27, 1, .iconst 1, [1]) :: (28, 3, .goto 24, [52]) :: cd_111_31
def cd_111_20 : List vi_E := (20, 1, .iconst 0, [0]) :: cd_111_21
def cd_111_0 : List vi_E := (0, 1, .aload_n 0, [0]) :: (1, 1, .iload_n 1, [1]) :: (2, 3, .invokevirtual 235, [130, 1, 10, 1158, 1161, 55, 1160, 39]) :: (5, 3, .ifCond .eq 15, [20]) :: (8, 1, .aload_n 0, [0]) :: (9, 1, .iload_n 2, [2]) :: (10, 3, .invokevirtual 208, [127, 1, 10, 1126, 1129, 55, 1128, 32]) :: (13, 3, .ifCond .eq 7, [20]) :: (16, 1, .iconst 1, [1]) :: (17, 3, .goto 4, [21]) :: cd_111_20
def cd_111 : List vi_E := cd_111_0
set_option maxRecDepth 100000 in
theorem ok_111 : vi_okC MT (MT 111) cd_111 = true := by decide +kernel
theorem at_111_0 : vi_at cd_111 0 = cd_111_0 := rfl
set_option maxRecDepth 100000 in
theorem at_111_20 : vi_at cd_111 20 = cd_111_20 := rfl
set_option maxRecDepth 100000 in
theorem at_111_21 : vi_at cd_111 21 = cd_111_21 := rfl
set_option maxRecDepth 100000 in
theorem at_111_31 : vi_at cd_111 31 = cd_111_31 := rfl
set_option maxRecDepth 100000 in
theorem at_111_47 : vi_at cd_111 47 = cd_111_47 := rfl
set_option maxRecDepth 100000 in
theorem at_111_51 : vi_at cd_111 51 = cd_111_51 := rfl
set_option maxRecDepth 100000 in
theorem at_111_52 : vi_at cd_111 52 = cd_111_52 := rfl
set_option maxRecDepth 100000 in
theorem at_111_60 : vi_at cd_111 60 = cd_111_60 := rfl
def cd_112_93 : List vi_E := (93, 1, .ireturn, []) :: []
def cd_112_91 : List vi_E := (91, 1, .lload_n 3, [3]) :: (92, 1, .l2i, []) :: cd_112_93
def cd_112_69 : List vi_E := (69, 3, .invokevirtual 231, [102, 3, 10, 1166, 1169, 55, 1168, 41]) :: (72, 1, .aload_n 0, [0]) :: (73, 3, .getfield 61, [10, 20, 2, 916]) :: (76, 1, .iload_n 1, [1]) :: (77, 1, .iaload, []) :: (78, 1, .i2l, []) :: (79, 1, .lsub, []) :: (80, 1, .lstore_n 3, [3]) :: (81, 1, .lload_n 3, [3]) :: (82, 1, .lconst 0, [0]) :: (83, 1, .lcmp, []) :: (84, 3, .ifCond .ge 7, [91]) :: (87, 1, .iconst 0, [0]) :: (88, 3, .goto 5, [93]) :: cd_112_91
def cd_112_68 : List vi_E := (68, 1, .iload_n 2, [2]) :: cd_112_69
def cd_112_33 : List vi_E := (33, 1, .aload_n 0, [0]) :: (34, 1, .aload_n 0, [0]) :: (35, 3, .getfield 46, [10, 15, 2, 911]) :: (38, 1, .iload_n 1, [1]) :: (39, 1, .iaload, []) :: (40, 1, .aload_n 0, [0]) :: (41, 3, .getfield 49, [10, 16, 2, 912]) :: (44, 1, .iload_n 1, [1]) :: (45, 1, .iaload, []) :: (46, 1, .aload_n 0, [0]) :: (47, 3, .getfield 58, [10, 19, 2, 915]) :: (50, 1, .iload_n 1, [1]) :: (51, 1, .baload, []) :: (52, 3, .ifCond .eq 16, [68]) :: (55, 1, .aload_n 0, [0]) :: (56, 3, .getfield 49, [10, 16, 2, 912]) :: (59, 1, .iload_n 1, [1]) :: (60, 1, .iaload, []) :: (61, 3, .sipush 4320, [4320]) :: (64, 1, .iadd, []) :: (65, 3, .goto 4, [69]) :: cd_112_68
def cd_112_31 : List vi_E := (31, 1, .iconst 0, [0]) :: (32, 1, .ireturn, []) :: cd_112_33
def cd_112_0 : List vi_E := (0, 1, .aload_n 0, [0]) :: (1, 3, .getfield 55, [10, 18, 2, 914]) :: (4, 1, .iload_n 1, [1]) :: (5, 1, .iaload, []) :: (6, 3, .ifCond .ge 25, [31]) :: (9, 1, .aload_n 0, [0]) :: (10, 3, .getfield 64, [10, 21, 2, 917]) :: (13, 1, .iload_n 1, [1]) :: (14, 1, .iaload, []) :: (15, 3, .ifCond .lt 18, [33]) :: (18, 1, .iload_n 2, [2]) :: (19, 1, .aload_n 0, [0]) :: (20, 3, .getfield 64, [10, 21, 2, 917]) :: (23, 1, .iload_n 1, [1]) :: (24, 1, .iaload, []) :: (25, 2, .bipush 15, [15]) :: (27, 1, .iadd, []) :: (28, 3, .if_icmp .gt 5, [33]) :: cd_112_31
def cd_112 : List vi_E := cd_112_0
set_option maxRecDepth 100000 in
theorem ok_112 : vi_okC MT (MT 112) cd_112 = true := by decide +kernel
theorem at_112_0 : vi_at cd_112 0 = cd_112_0 := rfl
set_option maxRecDepth 100000 in
theorem at_112_31 : vi_at cd_112 31 = cd_112_31 := rfl
set_option maxRecDepth 100000 in
theorem at_112_33 : vi_at cd_112 33 = cd_112_33 := rfl
set_option maxRecDepth 100000 in
theorem at_112_68 : vi_at cd_112 68 = cd_112_68 := rfl
set_option maxRecDepth 100000 in
theorem at_112_69 : vi_at cd_112 69 = cd_112_69 := rfl
set_option maxRecDepth 100000 in
theorem at_112_91 : vi_at cd_112 91 = cd_112_91 := rfl
set_option maxRecDepth 100000 in
theorem at_112_93 : vi_at cd_112 93 = cd_112_93 := rfl
def cd_113_100 : List vi_E := (100, 1, .aload_n 0, [0]) :: (101, 3, .getfield 106, [10, 35, 2, 931]) :: (104, 2, .bipush 6, [6]) :: (106, 1, .iload_n 1, [1]) :: (107, 1, .imul, []) :: (108, 2, .iload 4, [4]) :: (110, 1, .iadd, []) :: (111, 2, .lload 6, [6]) :: (113, 1, .l2i, []) :: (114, 1, .iastore, []) :: (115, 2, .lload 6, [6]) :: (117, 1, .l2i, []) :: (118, 1, .ireturn, []) :: []
def cd_113_92 : List vi_E := (92, 3, .invokevirtual 164, [149, 1, 10, 1065, 1068, 55, 1067, 25]) :: (95, 3, .ifCond .eq 5, [100]) :: (98, 1, .iconst 0, [0]) :: (99, 1, .ireturn, []) :: cd_113_100
def cd_113_91 : List vi_E := (91, 1, .iconst 0, [0]) :: cd_113_92
def cd_113_87 : List vi_E := (87, 1, .iconst 2, [2]) :: (88, 3, .goto 4, [92]) :: cd_113_91
def cd_113_62 : List vi_E := (62, 2, .lload 6, [6]) :: (64, 1, .lconst 0, [0]) :: (65, 1, .lcmp, []) :: (66, 3, .ifCond .lt 21, [87]) :: (69, 2, .lload 6, [6]) :: (71, 3, .ldc2_w 276, [500, 1263]) :: (74, 1, .lcmp, []) :: (75, 3, .ifCond .gt 12, [87]) :: (78, 1, .aload_n 0, [0]) :: (79, 3, .getfield 97, [10, 32, 2, 928]) :: (82, 1, .iload_n 1, [1]) :: (83, 1, .iaload, []) :: (84, 3, .ifCond .le 7, [91]) :: cd_113_87
def cd_113_50 : List vi_E := (50, 2, .lstore 6, [6]) :: (52, 1, .aload_n 0, [0]) :: (53, 2, .iload 5, [5]) :: (55, 3, .ifCond .ne 7, [62]) :: (58, 1, .iconst 1, [1]) :: (59, 3, .goto 33, [92]) :: cd_113_62
def cd_113_49 : List vi_E := (49, 1, .lconst 0, [0]) :: cd_113_50
def cd_113_23 : List vi_E := (23, 2, .istore 5, [5]) :: (25, 2, .iload 5, [5]) :: (27, 3, .ifCond .eq 22, [49]) :: (30, 1, .aload_n 0, [0]) :: (31, 3, .getfield 106, [10, 35, 2, 931]) :: (34, 2, .bipush 6, [6]) :: (36, 1, .iload_n 1, [1]) :: (37, 1, .imul, []) :: (38, 2, .iload 4, [4]) :: (40, 1, .iadd, []) :: (41, 1, .iaload, []) :: (42, 1, .i2l, []) :: (43, 1, .iload_n 3, [3]) :: (44, 1, .i2l, []) :: (45, 1, .ladd, []) :: (46, 3, .goto 4, [50]) :: cd_113_49
def cd_113_22 : List vi_E := (22, 1, .iconst 0, [0]) :: cd_113_23
def cd_113_0 : List vi_E := (0, 1, .iload_n 2, [2]) :: (1, 3, .invokestatic 250, [134, 1, 1216, 1218, 55, 1217]) :: (4, 2, .istore 4, [4]) :: (6, 1, .iload_n 1, [1]) :: (7, 3, .invokestatic 247, [126, 1, 1209, 1211, 55, 1210]) :: (10, 3, .ifCond .eq 12, [22]) :: (13, 2, .iload 4, [4]) :: (15, 3, .ifCond .lt 7, [22]) :: (18, 1, .iconst 1, [1]) :: (19, 3, .goto 4, [23]) :: cd_113_22
def cd_113 : List vi_E := cd_113_0
set_option maxRecDepth 100000 in
theorem ok_113 : vi_okC MT (MT 113) cd_113 = true := by decide +kernel
theorem at_113_0 : vi_at cd_113 0 = cd_113_0 := rfl
set_option maxRecDepth 100000 in
theorem at_113_22 : vi_at cd_113 22 = cd_113_22 := rfl
set_option maxRecDepth 100000 in
theorem at_113_23 : vi_at cd_113 23 = cd_113_23 := rfl
set_option maxRecDepth 100000 in
theorem at_113_49 : vi_at cd_113 49 = cd_113_49 := rfl
set_option maxRecDepth 100000 in
theorem at_113_50 : vi_at cd_113 50 = cd_113_50 := rfl
set_option maxRecDepth 100000 in
theorem at_113_62 : vi_at cd_113 62 = cd_113_62 := rfl
set_option maxRecDepth 100000 in
theorem at_113_87 : vi_at cd_113 87 = cd_113_87 := rfl
set_option maxRecDepth 100000 in
theorem at_113_91 : vi_at cd_113 91 = cd_113_91 := rfl
set_option maxRecDepth 100000 in
theorem at_113_92 : vi_at cd_113 92 = cd_113_92 := rfl
set_option maxRecDepth 100000 in
theorem at_113_100 : vi_at cd_113 100 = cd_113_100 := rfl
def cd_114_173 : List vi_E := (173, 1, .return_, []) :: []
def cd_114_167 : List vi_E := (167, 3, .iinc 3 1, []) :: (170, 3, .goto (-140), [30]) :: cd_114_173
def cd_114_144 : List vi_E := (144, 1, .aload_n 0, [0]) :: (145, 3, .getfield 137, [10, 50, 2, 946]) :: (148, 3, .sipush 8001, [8001]) :: (151, 1, .iload_n 3, [3]) :: (152, 1, .iconst 1, [1]) :: (153, 1, .iadd, []) :: (154, 1, .imul, []) :: (155, 2, .iload 5, [5]) :: (157, 1, .iadd, []) :: (158, 2, .iload 6, [6]) :: (160, 1, .iastore, []) :: (161, 3, .iinc 5 1, []) :: (164, 3, .goto (-117), [47]) :: cd_114_167
def cd_114_136 : List vi_E := (136, 2, .istore 6, [6]) :: (138, 3, .iinc 7 1, []) :: (141, 3, .goto (-82), [59]) :: cd_114_144
def cd_114_134 : List vi_E := (134, 2, .iload 6, [6]) :: cd_114_136
def cd_114_126 : List vi_E := (126, 2, .iload 8, [8]) :: (128, 2, .iload 7, [7]) :: (130, 1, .iadd, []) :: (131, 3, .goto 5, [136]) :: cd_114_134
def cd_114_59 : List vi_E := (59, 2, .iload 7, [7]) :: (61, 1, .aload_n 0, [0]) :: (62, 3, .getfield 106, [10, 35, 2, 931]) :: (65, 2, .bipush 6, [6]) :: (67, 1, .iload_n 1, [1]) :: (68, 1, .imul, []) :: (69, 1, .iload_n 3, [3]) :: (70, 1, .iadd, []) :: (71, 1, .iaload, []) :: (72, 3, .if_icmp .gt 72, [144]) :: (75, 2, .iload 7, [7]) :: (77, 2, .iload 4, [4]) :: (79, 1, .imul, []) :: (80, 2, .iload 5, [5]) :: (82, 3, .if_icmp .gt 62, [144]) :: (85, 1, .aload_n 0, [0]) :: (86, 3, .getfield 137, [10, 50, 2, 946]) :: (89, 3, .sipush 8001, [8001]) :: (92, 1, .iload_n 3, [3]) :: (93, 1, .imul, []) :: (94, 2, .iload 5, [5]) :: (96, 1, .iadd, []) :: (97, 2, .iload 7, [7]) :: (99, 2, .iload 4, [4]) :: (101, 1, .imul, []) :: (102, 1, .isub, []) :: (103, 1, .iaload, []) :: (104, 2, .istore 8, [8]) :: (106, 2, .iload 8, [8]) :: (108, 3, .ifCond .lt 26, [134]) :: (111, 2, .iload 6, [6]) :: (113, 3, .ifCond .lt 13, [126]) :: (116, 2, .iload 8, [8]) :: (118, 2, .iload 7, [7]) :: (120, 1, .iadd, []) :: (121, 2, .iload 6, [6]) :: (123, 3, .if_icmp .ge 11, [134]) :: cd_114_126
def cd_114_47 : List vi_E := (47, 2, .iload 5, [5]) :: (49, 1, .iload_n 2, [2]) :: (50, 3, .if_icmp .gt 117, [167]) :: (53, 1, .iconst (-1), []) :: (54, 2, .istore 6, [6]) :: (56, 1, .iconst 0, [0]) :: (57, 2, .istore 7, [7]) :: cd_114_59
def cd_114_30 : List vi_E := (30, 1, .iload_n 3, [3]) :: (31, 2, .bipush 6, [6]) :: (33, 3, .if_icmp .ge 140, [173]) :: (36, 1, .iload_n 3, [3]) :: (37, 3, .invokestatic 152, [104, 1, 1219, 1221, 55, 1220]) :: (40, 1, .iconst 5, [5]) :: (41, 1, .idiv, []) :: (42, 2, .istore 4, [4]) :: (44, 1, .iconst 0, [0]) :: (45, 2, .istore 5, [5]) :: cd_114_47
def cd_114_28 : List vi_E := (28, 1, .iconst 0, [0]) :: (29, 1, .istore_n 3, [3]) :: cd_114_30
def cd_114_21 : List vi_E := (21, 1, .iastore, []) :: (22, 3, .iinc 3 1, []) :: (25, 3, .goto (-23), [2]) :: cd_114_28
def cd_114_20 : List vi_E := (20, 1, .iconst (-1), []) :: cd_114_21
def cd_114_2 : List vi_E := (2, 1, .iload_n 3, [3]) :: (3, 1, .iload_n 2, [2]) :: (4, 3, .if_icmp .gt 24, [28]) :: (7, 1, .aload_n 0, [0]) :: (8, 3, .getfield 137, [10, 50, 2, 946]) :: (11, 1, .iload_n 3, [3]) :: (12, 1, .iload_n 3, [3]) :: (13, 3, .ifCond .ne 7, [20]) :: (16, 1, .iconst 0, [0]) :: (17, 3, .goto 4, [21]) :: cd_114_20
def cd_114_0 : List vi_E := (0, 1, .iconst 0, [0]) :: (1, 1, .istore_n 3, [3]) :: cd_114_2
def cd_114 : List vi_E := cd_114_0
set_option maxRecDepth 100000 in
theorem ok_114 : vi_okC MT (MT 114) cd_114 = true := by decide +kernel
theorem at_114_0 : vi_at cd_114 0 = cd_114_0 := rfl
set_option maxRecDepth 100000 in
theorem at_114_2 : vi_at cd_114 2 = cd_114_2 := rfl
set_option maxRecDepth 100000 in
theorem at_114_20 : vi_at cd_114 20 = cd_114_20 := rfl
set_option maxRecDepth 100000 in
theorem at_114_21 : vi_at cd_114 21 = cd_114_21 := rfl
set_option maxRecDepth 100000 in
theorem at_114_28 : vi_at cd_114 28 = cd_114_28 := rfl
set_option maxRecDepth 100000 in
theorem at_114_30 : vi_at cd_114 30 = cd_114_30 := rfl
set_option maxRecDepth 100000 in
theorem at_114_47 : vi_at cd_114 47 = cd_114_47 := rfl
set_option maxRecDepth 100000 in
theorem at_114_59 : vi_at cd_114 59 = cd_114_59 := rfl
set_option maxRecDepth 100000 in
theorem at_114_126 : vi_at cd_114 126 = cd_114_126 := rfl
set_option maxRecDepth 100000 in
theorem at_114_134 : vi_at cd_114 134 = cd_114_134 := rfl
set_option maxRecDepth 100000 in
theorem at_114_136 : vi_at cd_114 136 = cd_114_136 := rfl
set_option maxRecDepth 100000 in
theorem at_114_144 : vi_at cd_114 144 = cd_114_144 := rfl
set_option maxRecDepth 100000 in
theorem at_114_167 : vi_at cd_114 167 = cd_114_167 := rfl
set_option maxRecDepth 100000 in
theorem at_114_173 : vi_at cd_114 173 = cd_114_173 := rfl
def cd_115_47 : List vi_E := (47, 1, .return_, []) :: []
def cd_115_34 : List vi_E := (34, 3, .invokevirtual 164, [149, 1, 10, 1065, 1068, 55, 1067, 25]) :: (37, 3, .ifCond .ne 10, [47]) :: (40, 1, .aload_n 0, [0]) :: (41, 3, .getfield 13, [10, 4, 2, 900]) :: (44, 1, .iload_n 1, [1]) :: (45, 1, .iload_n 2, [2]) :: (46, 1, .iastore, []) :: cd_115_47
def cd_115_33 : List vi_E := (33, 1, .iconst 0, [0]) :: cd_115_34
def cd_115_22 : List vi_E := (22, 1, .aload_n 0, [0]) :: (23, 3, .getfield 160, [10, 1, 3, 897]) :: (26, 3, .ifCond .eq 7, [33]) :: (29, 1, .iconst 2, [2]) :: (30, 3, .goto 4, [34]) :: cd_115_33
def cd_115_18 : List vi_E := (18, 1, .iconst 1, [1]) :: (19, 3, .goto 15, [34]) :: cd_115_22
def cd_115_0 : List vi_E := (0, 1, .aload_n 0, [0]) :: (1, 1, .iload_n 1, [1]) :: (2, 3, .invokestatic 156, [132, 1, 1059, 1061, 55, 1060]) :: (5, 3, .ifCond .eq 13, [18]) :: (8, 1, .iload_n 2, [2]) :: (9, 1, .iconst 0, [0]) :: (10, 2, .bipush 120, [120]) :: (12, 3, .invokestatic 144, [125, 3, 1062, 1064, 55, 1063]) :: (15, 3, .ifCond .ne 7, [22]) :: cd_115_18
def cd_115 : List vi_E := cd_115_0
set_option maxRecDepth 100000 in
theorem ok_115 : vi_okC MT (MT 115) cd_115 = true := by decide +kernel
theorem at_115_0 : vi_at cd_115 0 = cd_115_0 := rfl
set_option maxRecDepth 100000 in
theorem at_115_18 : vi_at cd_115 18 = cd_115_18 := rfl
set_option maxRecDepth 100000 in
theorem at_115_22 : vi_at cd_115 22 = cd_115_22 := rfl
set_option maxRecDepth 100000 in
theorem at_115_33 : vi_at cd_115 33 = cd_115_33 := rfl
set_option maxRecDepth 100000 in
theorem at_115_34 : vi_at cd_115 34 = cd_115_34 := rfl
set_option maxRecDepth 100000 in
theorem at_115_47 : vi_at cd_115 47 = cd_115_47 := rfl
def cd_116_0 : List vi_E := (0, 1, .aload_n 0, [0]) :: (1, 3, .getfield 67, [10, 22, 2, 918]) :: (4, 1, .aload_n 0, [0]) :: (5, 3, .getfield 97, [10, 32, 2, 928]) :: (8, 1, .iload_n 1, [1]) :: (9, 1, .iaload, []) :: (10, 1, .iconst (-1), []) :: (11, 1, .iastore, []) :: (12, 1, .aload_n 0, [0]) :: (13, 3, .getfield 97, [10, 32, 2, 928]) :: (16, 1, .iload_n 1, [1]) :: (17, 1, .iconst 0, [0]) :: (18, 1, .iastore, []) :: (19, 1, .return_, []) :: []
def cd_116 : List vi_E := cd_116_0
set_option maxRecDepth 100000 in
theorem ok_116 : vi_okC MT (MT 116) cd_116 = true := by decide +kernel
theorem at_116_0 : vi_at cd_116 0 = cd_116_0 := rfl
def cd_117_174 : List vi_E := (174, 1, .return_, []) :: []
def cd_117_119 : List vi_E := (119, 1, .aload_n 0, [0]) :: (120, 3, .getfield 112, [10, 37, 2, 933]) :: (123, 2, .bipush 6, [6]) :: (125, 1, .iload_n 1, [1]) :: (126, 1, .imul, []) :: (127, 2, .iload 4, [4]) :: (129, 1, .iadd, []) :: (130, 2, .iload 7, [7]) :: (132, 1, .iastore, []) :: (133, 1, .aload_n 0, [0]) :: (134, 3, .getfield 106, [10, 35, 2, 931]) :: (137, 2, .bipush 6, [6]) :: (139, 1, .iload_n 1, [1]) :: (140, 1, .imul, []) :: (141, 2, .iload 4, [4]) :: (143, 1, .iadd, []) :: (144, 1, .aload_n 0, [0]) :: (145, 3, .getfield 106, [10, 35, 2, 931]) :: (148, 2, .bipush 6, [6]) :: (150, 1, .iload_n 1, [1]) :: (151, 1, .imul, []) :: (152, 2, .iload 4, [4]) :: (154, 1, .iadd, []) :: (155, 1, .iaload, []) :: (156, 2, .iload 7, [7]) :: (158, 1, .isub, []) :: (159, 1, .iastore, []) :: (160, 1, .iload_n 3, [3]) :: (161, 2, .iload 7, [7]) :: (163, 2, .iload 5, [5]) :: (165, 1, .imul, []) :: (166, 1, .isub, []) :: (167, 1, .istore_n 3, [3]) :: (168, 3, .iinc 4 (-1), []) :: (171, 3, .goto (-166), [5]) :: cd_117_174
def cd_117_111 : List vi_E := (111, 2, .istore 7, [7]) :: (113, 3, .iinc 8 1, []) :: (116, 3, .goto (-74), [42]) :: cd_117_119
def cd_117_109 : List vi_E := (109, 2, .iload 7, [7]) :: cd_117_111
def cd_117_42 : List vi_E := (42, 2, .iload 8, [8]) :: (44, 1, .aload_n 0, [0]) :: (45, 3, .getfield 106, [10, 35, 2, 931]) :: (48, 2, .bipush 6, [6]) :: (50, 1, .iload_n 1, [1]) :: (51, 1, .imul, []) :: (52, 2, .iload 4, [4]) :: (54, 1, .iadd, []) :: (55, 1, .iaload, []) :: (56, 3, .if_icmp .gt 63, [119]) :: (59, 2, .iload 8, [8]) :: (61, 2, .iload 5, [5]) :: (63, 1, .imul, []) :: (64, 1, .iload_n 3, [3]) :: (65, 3, .if_icmp .gt 54, [119]) :: (68, 1, .aload_n 0, [0]) :: (69, 3, .getfield 137, [10, 50, 2, 946]) :: (72, 3, .sipush 8001, [8001]) :: (75, 2, .iload 4, [4]) :: (77, 1, .imul, []) :: (78, 1, .iload_n 3, [3]) :: (79, 1, .iadd, []) :: (80, 2, .iload 8, [8]) :: (82, 2, .iload 5, [5]) :: (84, 1, .imul, []) :: (85, 1, .isub, []) :: (86, 1, .iaload, []) :: (87, 2, .istore 9, [9]) :: (89, 2, .iload 9, [9]) :: (91, 3, .ifCond .lt 18, [109]) :: (94, 2, .iload 9, [9]) :: (96, 2, .iload 8, [8]) :: (98, 1, .iadd, []) :: (99, 2, .iload 6, [6]) :: (101, 3, .if_icmp .ne 8, [109]) :: (104, 2, .iload 8, [8]) :: (106, 3, .goto 5, [111]) :: cd_117_109
def cd_117_5 : List vi_E := (5, 2, .iload 4, [4]) :: (7, 3, .ifCond .lt 167, [174]) :: (10, 2, .iload 4, [4]) :: (12, 3, .invokestatic 152, [104, 1, 1219, 1221, 55, 1220]) :: (15, 1, .iconst 5, [5]) :: (16, 1, .idiv, []) :: (17, 2, .istore 5, [5]) :: (19, 1, .aload_n 0, [0]) :: (20, 3, .getfield 137, [10, 50, 2, 946]) :: (23, 3, .sipush 8001, [8001]) :: (26, 2, .iload 4, [4]) :: (28, 1, .iconst 1, [1]) :: (29, 1, .iadd, []) :: (30, 1, .imul, []) :: (31, 1, .iload_n 3, [3]) :: (32, 1, .iadd, []) :: (33, 1, .iaload, []) :: (34, 2, .istore 6, [6]) :: (36, 1, .iconst 0, [0]) :: (37, 2, .istore 7, [7]) :: (39, 1, .iconst 0, [0]) :: (40, 2, .istore 8, [8]) :: cd_117_42
def cd_117_0 : List vi_E := (0, 1, .iload_n 2, [2]) :: (1, 1, .istore_n 3, [3]) :: (2, 1, .iconst 5, [5]) :: (3, 2, .istore 4, [4]) :: cd_117_5
def cd_117 : List vi_E := cd_117_0
set_option maxRecDepth 100000 in
theorem ok_117 : vi_okC MT (MT 117) cd_117 = true := by decide +kernel
theorem at_117_0 : vi_at cd_117 0 = cd_117_0 := rfl
set_option maxRecDepth 100000 in
theorem at_117_5 : vi_at cd_117 5 = cd_117_5 := rfl
set_option maxRecDepth 100000 in
theorem at_117_42 : vi_at cd_117 42 = cd_117_42 := rfl
set_option maxRecDepth 100000 in
theorem at_117_109 : vi_at cd_117 109 = cd_117_109 := rfl
set_option maxRecDepth 100000 in
theorem at_117_111 : vi_at cd_117 111 = cd_117_111 := rfl
set_option maxRecDepth 100000 in
theorem at_117_119 : vi_at cd_117 119 = cd_117_119 := rfl
set_option maxRecDepth 100000 in
theorem at_117_174 : vi_at cd_117 174 = cd_117_174 := rfl
def cd_118_70 : List vi_E := (70, 1, .return_, []) :: []
def cd_118_2 : List vi_E := (2, 1, .iload_n 2, [2]) :: (3, 2, .bipush 6, [6]) :: (5, 3, .if_icmp .ge 65, [70]) :: (8, 1, .aload_n 0, [0]) :: (9, 3, .getfield 112, [10, 37, 2, 933]) :: (12, 2, .bipush 6, [6]) :: (14, 1, .iload_n 1, [1]) :: (15, 1, .imul, []) :: (16, 1, .iload_n 2, [2]) :: (17, 1, .iadd, []) :: (18, 1, .aload_n 0, [0]) :: (19, 3, .getfield 109, [10, 36, 2, 932]) :: (22, 2, .bipush 6, [6]) :: (24, 1, .iload_n 1, [1]) :: (25, 1, .imul, []) :: (26, 1, .iload_n 2, [2]) :: (27, 1, .iadd, []) :: (28, 1, .iaload, []) :: (29, 1, .iastore, []) :: (30, 1, .aload_n 0, [0]) :: (31, 3, .getfield 106, [10, 35, 2, 931]) :: (34, 2, .bipush 6, [6]) :: (36, 1, .iload_n 1, [1]) :: (37, 1, .imul, []) :: (38, 1, .iload_n 2, [2]) :: (39, 1, .iadd, []) :: (40, 1, .aload_n 0, [0]) :: (41, 3, .getfield 106, [10, 35, 2, 931]) :: (44, 2, .bipush 6, [6]) :: (46, 1, .iload_n 1, [1]) :: (47, 1, .imul, []) :: (48, 1, .iload_n 2, [2]) :: (49, 1, .iadd, []) :: (50, 1, .iaload, []) :: (51, 1, .aload_n 0, [0]) :: (52, 3, .getfield 109, [10, 36, 2, 932]) :: (55, 2, .bipush 6, [6]) :: (57, 1, .iload_n 1, [1]) :: (58, 1, .imul, []) :: (59, 1, .iload_n 2, [2]) :: (60, 1, .iadd, []) :: (61, 1, .iaload, []) :: (62, 1, .isub, []) :: (63, 1, .iastore, []) :: (64, 3, .iinc 2 1, []) :: (67, 3, .goto (-65), [2]) :: cd_118_70
def cd_118_0 : List vi_E := (0, 1, .iconst 0, [0]) :: (1, 1, .istore_n 2, [2]) :: cd_118_2
def cd_118 : List vi_E := cd_118_0
set_option maxRecDepth 100000 in
theorem ok_118 : vi_okC MT (MT 118) cd_118 = true := by decide +kernel
theorem at_118_0 : vi_at cd_118 0 = cd_118_0 := rfl
set_option maxRecDepth 100000 in
theorem at_118_2 : vi_at cd_118 2 = cd_118_2 := rfl
set_option maxRecDepth 100000 in
theorem at_118_70 : vi_at cd_118 70 = cd_118_70 := rfl
def cd_119_90 : List vi_E := (90, 1, .return_, []) :: []
def cd_119_70 : List vi_E := (70, 3, .invokevirtual 164, [149, 1, 10, 1065, 1068, 55, 1067, 25]) :: (73, 3, .ifCond .ne 17, [90]) :: (76, 1, .aload_n 0, [0]) :: (77, 3, .getfield 29, [10, 9, 2, 905]) :: (80, 1, .iload_n 1, [1]) :: (81, 1, .iload_n 2, [2]) :: (82, 1, .iastore, []) :: (83, 1, .aload_n 0, [0]) :: (84, 3, .getfield 32, [10, 10, 2, 906]) :: (87, 1, .iload_n 1, [1]) :: (88, 1, .iload_n 3, [3]) :: (89, 1, .iastore, []) :: cd_119_90
def cd_119_69 : List vi_E := (69, 1, .iconst 0, [0]) :: cd_119_70
def cd_119_65 : List vi_E := (65, 1, .iconst 2, [2]) :: (66, 3, .goto 4, [70]) :: cd_119_69
def cd_119_49 : List vi_E := (49, 1, .aload_n 0, [0]) :: (50, 3, .getfield 160, [10, 1, 3, 897]) :: (53, 3, .ifCond .ne 12, [65]) :: (56, 1, .aload_n 0, [0]) :: (57, 3, .getfield 16, [10, 5, 2, 901]) :: (60, 1, .iload_n 1, [1]) :: (61, 1, .baload, []) :: (62, 3, .ifCond .ne 7, [69]) :: cd_119_65
def cd_119_37 : List vi_E := (37, 2, .istore 4, [4]) :: (39, 1, .aload_n 0, [0]) :: (40, 2, .iload 4, [4]) :: (42, 3, .ifCond .ne 7, [49]) :: (45, 1, .iconst 1, [1]) :: (46, 3, .goto 24, [70]) :: cd_119_49
def cd_119_36 : List vi_E := (36, 1, .iconst 0, [0]) :: cd_119_37
def cd_119_0 : List vi_E := (0, 1, .iload_n 1, [1]) :: (1, 1, .iconst 0, [0]) :: (2, 2, .bipush 23, [23]) :: (4, 3, .invokestatic 144, [125, 3, 1062, 1064, 55, 1063]) :: (7, 3, .ifCond .eq 29, [36]) :: (10, 1, .iload_n 2, [2]) :: (11, 1, .iconst 0, [0]) :: (12, 3, .sipush 168, [168]) :: (15, 3, .invokestatic 144, [125, 3, 1062, 1064, 55, 1063]) :: (18, 3, .ifCond .eq 18, [36]) :: (21, 1, .iload_n 3, [3]) :: (22, 1, .iconst 0, [0]) :: (23, 3, .sipush 168, [168]) :: (26, 3, .invokestatic 144, [125, 3, 1062, 1064, 55, 1063]) :: (29, 3, .ifCond .eq 7, [36]) :: (32, 1, .iconst 1, [1]) :: (33, 3, .goto 4, [37]) :: cd_119_36
def cd_119 : List vi_E := cd_119_0
set_option maxRecDepth 100000 in
theorem ok_119 : vi_okC MT (MT 119) cd_119 = true := by decide +kernel
theorem at_119_0 : vi_at cd_119 0 = cd_119_0 := rfl
set_option maxRecDepth 100000 in
theorem at_119_36 : vi_at cd_119 36 = cd_119_36 := rfl
set_option maxRecDepth 100000 in
theorem at_119_37 : vi_at cd_119 37 = cd_119_37 := rfl
set_option maxRecDepth 100000 in
theorem at_119_49 : vi_at cd_119 49 = cd_119_49 := rfl
set_option maxRecDepth 100000 in
theorem at_119_65 : vi_at cd_119 65 = cd_119_65 := rfl
set_option maxRecDepth 100000 in
theorem at_119_69 : vi_at cd_119 69 = cd_119_69 := rfl
set_option maxRecDepth 100000 in
theorem at_119_70 : vi_at cd_119 70 = cd_119_70 := rfl
set_option maxRecDepth 100000 in
theorem at_119_90 : vi_at cd_119 90 = cd_119_90 := rfl
def cd_120_373 : List vi_E := (373, 1, .return_, []) :: []
def cd_120_354 : List vi_E := (354, 1, .iload_n 1, [1]) :: (355, 1, .iconst 4, [4]) :: (356, 3, .if_icmp .ge 17, [373]) :: (359, 1, .aload_n 0, [0]) :: (360, 3, .getfield 7, [10, 3, 2, 899]) :: (363, 1, .iload_n 1, [1]) :: (364, 2, .bipush 20, [20]) :: (366, 1, .iastore, []) :: (367, 3, .iinc 1 1, []) :: (370, 3, .goto (-16), [354]) :: cd_120_373
def cd_120_0 : List vi_E := (0, 1, .aload_n 0, [0]) :: (1, 3, .invokespecial 1, [892, 77, 78]) :: (4, 1, .aload_n 0, [0]) :: (5, 1, .iconst 4, [4]) :: (6, 2, .newarray .int, [0, 118]) :: (8, 3, .putfield 7, [10, 3, 2, 899]) :: (11, 1, .aload_n 0, [0]) :: (12, 1, .iconst 4, [4]) :: (13, 2, .newarray .int, [0, 118]) :: (15, 3, .putfield 13, [10, 4, 2, 900]) :: (18, 1, .aload_n 0, [0]) :: (19, 2, .bipush 24, [24]) :: (21, 2, .newarray .boolean, [2, 1050]) :: (23, 3, .putfield 16, [10, 5, 2, 901]) :: (26, 1, .aload_n 0, [0]) :: (27, 2, .bipush 24, [24]) :: (29, 2, .newarray .int, [0, 118]) :: (31, 3, .putfield 20, [10, 6, 2, 902]) :: (34, 1, .aload_n 0, [0]) :: (35, 2, .bipush 24, [24]) :: (37, 2, .newarray .int, [0, 118]) :: (39, 3, .putfield 23, [10, 7, 2, 903]) :: (42, 1, .aload_n 0, [0]) :: (43, 2, .bipush 24, [24]) :: (45, 2, .newarray .int, [0, 118]) :: (47, 3, .putfield 26, [10, 8, 2, 904]) :: (50, 1, .aload_n 0, [0]) :: (51, 2, .bipush 24, [24]) :: (53, 2, .newarray .int, [0, 118]) :: (55, 3, .putfield 29, [10, 9, 2, 905]) :: (58, 1, .aload_n 0, [0]) :: (59, 2, .bipush 24, [24]) :: (61, 2, .newarray .int, [0, 118]) :: (63, 3, .putfield 32, [10, 10, 2, 906]) :: (66, 1, .aload_n 0, [0]) :: (67, 2, .ldc 35, [241920, 893]) :: (69, 2, .newarray .int, [0, 118]) :: (71, 3, .putfield 36, [10, 11, 2, 907]) :: (74, 1, .aload_n 0, [0]) :: (75, 2, .ldc 39, [40320, 894]) :: (77, 2, .newarray .int, [0, 118]) :: (79, 3, .putfield 40, [10, 12, 2, 908]) :: (82, 1, .aload_n 0, [0]) :: (83, 3, .sipush 301, [301]) :: (86, 2, .newarray .int, [0, 118]) :: (88, 3, .putfield 43, [10, 14, 2, 910]) :: (91, 1, .aload_n 0, [0]) :: (92, 3, .sipush 301, [301]) :: (95, 2, .newarray .int, [0, 118]) :: (97, 3, .putfield 46, [10, 15, 2, 911]) :: (100, 1, .aload_n 0, [0]) :: (101, 3, .sipush 301, [301]) :: (104, 2, .newarray .int, [0, 118]) :: (106, 3, .putfield 49, [10, 16, 2, 912]) :: (109, 1, .aload_n 0, [0]) :: (110, 3, .sipush 301, [301]) :: (113, 2, .newarray .int, [0, 118]) :: (115, 3, .putfield 52, [10, 17, 2, 913]) :: (118, 1, .aload_n 0, [0]) :: (119, 3, .sipush 301, [301]) :: (122, 2, .newarray .int, [0, 118]) :: (124, 3, .putfield 55, [10, 18, 2, 914]) :: (127, 1, .aload_n 0, [0]) :: (128, 3, .sipush 301, [301]) :: (131, 2, .newarray .boolean, [2, 1050]) :: (133, 3, .putfield 58, [10, 19, 2, 915]) :: (136, 1, .aload_n 0, [0]) :: (137, 3, .sipush 301, [301]) :: (140, 2, .newarray .int, [0, 118]) :: (142, 3, .putfield 61, [10, 20, 2, 916]) :: (145, 1, .aload_n 0, [0]) :: (146, 3, .sipush 301, [301]) :: (149, 2, .newarray .int, [0, 118]) :: (151, 3, .putfield 64, [10, 21, 2, 917]) :: (154, 1, .aload_n 0, [0]) :: (155, 3, .sipush 301, [301]) :: (158, 2, .newarray .int, [0, 118]) :: (160, 3, .putfield 67, [10, 22, 2, 918]) :: (163, 1, .aload_n 0, [0]) :: (164, 2, .bipush 20, [20]) :: (166, 2, .newarray .boolean, [2, 1050]) :: (168, 3, .putfield 70, [10, 23, 2, 919]) :: (171, 1, .aload_n 0, [0]) :: (172, 2, .bipush 20, [20]) :: (174, 2, .newarray .int, [0, 118]) :: (176, 3, .putfield 73, [10, 24, 2, 920]) :: (179, 1, .aload_n 0, [0]) :: (180, 2, .bipush 20, [20]) :: (182, 2, .newarray .int, [0, 118]) :: (184, 3, .putfield 76, [10, 25, 2, 921]) :: (187, 1, .aload_n 0, [0]) :: (188, 2, .bipush 20, [20]) :: (190, 2, .newarray .int, [0, 118]) :: (192, 3, .putfield 79, [10, 26, 2, 922]) :: (195, 1, .aload_n 0, [0]) :: (196, 3, .sipush 240, [240]) :: (199, 2, .newarray .int, [0, 118]) :: (201, 3, .putfield 82, [10, 27, 2, 923]) :: (204, 1, .aload_n 0, [0]) :: (205, 2, .bipush 30, [30]) :: (207, 2, .newarray .boolean, [2, 1050]) :: (209, 3, .putfield 85, [10, 28, 2, 924]) :: (212, 1, .aload_n 0, [0]) :: (213, 2, .bipush 30, [30]) :: (215, 2, .newarray .int, [0, 118]) :: (217, 3, .putfield 88, [10, 29, 2, 925]) :: (220, 1, .aload_n 0, [0]) :: (221, 2, .bipush 30, [30]) :: (223, 2, .newarray .int, [0, 118]) :: (225, 3, .putfield 91, [10, 30, 2, 926]) :: (228, 1, .aload_n 0, [0]) :: (229, 2, .bipush 30, [30]) :: (231, 2, .newarray .int, [0, 118]) :: (233, 3, .putfield 94, [10, 31, 2, 927]) :: (236, 1, .aload_n 0, [0]) :: (237, 1, .iconst 3, [3]) :: (238, 2, .newarray .int, [0, 118]) :: (240, 3, .putfield 97, [10, 32, 2, 928]) :: (243, 1, .aload_n 0, [0]) :: (244, 1, .iconst 3, [3]) :: (245, 2, .newarray .int, [0, 118]) :: (247, 3, .putfield 100, [10, 33, 2, 929]) :: (250, 1, .aload_n 0, [0]) :: (251, 1, .iconst 3, [3]) :: (252, 2, .newarray .int, [0, 118]) :: (254, 3, .putfield 103, [10, 34, 2, 930]) :: (257, 1, .aload_n 0, [0]) :: (258, 2, .bipush 18, [18]) :: (260, 2, .newarray .int, [0, 118]) :: (262, 3, .putfield 106, [10, 35, 2, 931]) :: (265, 1, .aload_n 0, [0]) :: (266, 2, .bipush 18, [18]) :: (268, 2, .newarray .int, [0, 118]) :: (270, 3, .putfield 109, [10, 36, 2, 932]) :: (273, 1, .aload_n 0, [0]) :: (274, 2, .bipush 18, [18]) :: (276, 2, .newarray .int, [0, 118]) :: (278, 3, .putfield 112, [10, 37, 2, 933]) :: (281, 1, .aload_n 0, [0]) :: (282, 3, .sipush 600, [600]) :: (285, 2, .newarray .int, [0, 118]) :: (287, 3, .putfield 115, [10, 39, 2, 935]) :: (290, 1, .aload_n 0, [0]) :: (291, 3, .sipush 600, [600]) :: (294, 2, .newarray .int, [0, 118]) :: (296, 3, .putfield 118, [10, 40, 2, 936]) :: (299, 1, .aload_n 0, [0]) :: (300, 3, .sipush 600, [600]) :: (303, 2, .newarray .int, [0, 118]) :: (305, 3, .putfield 121, [10, 41, 2, 937]) :: (308, 1, .aload_n 0, [0]) :: (309, 3, .sipush 4321, [4321]) :: (312, 2, .newarray .int, [0, 118]) :: (314, 3, .putfield 124, [10, 42, 2, 938]) :: (317, 1, .aload_n 0, [0]) :: (318, 3, .sipush 4321, [4321]) :: (321, 2, .newarray .int, [0, 118]) :: (323, 3, .putfield 127, [10, 43, 2, 939]) :: (326, 1, .aload_n 0, [0]) :: (327, 3, .sipush 4321, [4321]) :: (330, 2, .newarray .int, [0, 118]) :: (332, 3, .putfield 130, [10, 44, 2, 940]) :: (335, 1, .aload_n 0, [0]) :: (336, 3, .sipush 4321, [4321]) :: (339, 2, .newarray .int, [0, 118]) :: (341, 3, .putfield 133, [10, 45, 2, 941]) :: (344, 1, .aload_n 0, [0]) :: (345, 2, .ldc 136, [56007, 895]) :: (347, 2, .newarray .int, [0, 118]) :: (349, 3, .putfield 137, [10, 50, 2, 946]) :: (352, 1, .iconst 0, [0]) :: (353, 1, .istore_n 1, [1]) :: cd_120_354
def cd_120 : List vi_E := cd_120_0
set_option maxRecDepth 100000 in
theorem ok_120 : vi_okC MT (MT 120) cd_120 = true := by decide +kernel
theorem at_120_0 : vi_at cd_120 0 = cd_120_0 := rfl
set_option maxRecDepth 100000 in
theorem at_120_354 : vi_at cd_120 354 = cd_120_354 := rfl
set_option maxRecDepth 100000 in
theorem at_120_373 : vi_at cd_120 373 = cd_120_373 := rfl
def cd_121_28 : List vi_E := (28, 1, .ireturn, []) :: []
def cd_121_23 : List vi_E := (23, 1, .aload_n 0, [0]) :: (24, 1, .iload_n 1, [1]) :: (25, 3, .invokevirtual 211, [122, 1, 10, 1130, 1133, 55, 1132, 33]) :: cd_121_28
def cd_121_13 : List vi_E := (13, 3, .invokevirtual 164, [149, 1, 10, 1065, 1068, 55, 1067, 25]) :: (16, 3, .ifCond .eq 7, [23]) :: (19, 1, .iconst 0, [0]) :: (20, 3, .goto 8, [28]) :: cd_121_23
def cd_121_12 : List vi_E := (12, 1, .iconst 1, [1]) :: cd_121_13
def cd_121_0 : List vi_E := (0, 1, .aload_n 0, [0]) :: (1, 1, .iload_n 1, [1]) :: (2, 3, .invokestatic 205, [128, 1, 1122, 1124, 55, 1123]) :: (5, 3, .ifCond .eq 7, [12]) :: (8, 1, .iconst 0, [0]) :: (9, 3, .goto 4, [13]) :: cd_121_12
def cd_121 : List vi_E := cd_121_0
set_option maxRecDepth 100000 in
theorem ok_121 : vi_okC MT (MT 121) cd_121 = true := by decide +kernel
theorem at_121_0 : vi_at cd_121 0 = cd_121_0 := rfl
set_option maxRecDepth 100000 in
theorem at_121_12 : vi_at cd_121 12 = cd_121_12 := rfl
set_option maxRecDepth 100000 in
theorem at_121_13 : vi_at cd_121 13 = cd_121_13 := rfl
set_option maxRecDepth 100000 in
theorem at_121_23 : vi_at cd_121 23 = cd_121_23 := rfl
set_option maxRecDepth 100000 in
theorem at_121_28 : vi_at cd_121 28 = cd_121_28 := rfl
def cd_122_47 : List vi_E := (47, 1, .iload_n 2, [2]) :: (48, 1, .ireturn, []) :: []
def cd_122_40 : List vi_E := (40, 1, .istore_n 2, [2]) :: (41, 3, .iinc 3 1, []) :: (44, 3, .goto (-40), [4]) :: cd_122_47
def cd_122_39 : List vi_E := (39, 1, .iload_n 2, [2]) :: cd_122_40
def cd_122_4 : List vi_E := (4, 1, .iload_n 3, [3]) :: (5, 1, .aload_n 0, [0]) :: (6, 3, .getfield 201, [10, 13, 0, 909]) :: (9, 3, .if_icmp .gt 38, [47]) :: (12, 1, .aload_n 0, [0]) :: (13, 3, .getfield 43, [10, 14, 2, 910]) :: (16, 1, .iload_n 3, [3]) :: (17, 1, .iaload, []) :: (18, 3, .ifCond .ne 21, [39]) :: (21, 1, .aload_n 0, [0]) :: (22, 3, .getfield 52, [10, 17, 2, 913]) :: (25, 1, .iload_n 3, [3]) :: (26, 1, .iaload, []) :: (27, 1, .iload_n 1, [1]) :: (28, 3, .if_icmp .ne 11, [39]) :: (31, 1, .iload_n 1, [1]) :: (32, 3, .ifCond .le 7, [39]) :: (35, 1, .iload_n 3, [3]) :: (36, 3, .goto 4, [40]) :: cd_122_39
def cd_122_0 : List vi_E := (0, 1, .iconst 0, [0]) :: (1, 1, .istore_n 2, [2]) :: (2, 1, .iconst 1, [1]) :: (3, 1, .istore_n 3, [3]) :: cd_122_4
def cd_122 : List vi_E := cd_122_0
set_option maxRecDepth 100000 in
theorem ok_122 : vi_okC MT (MT 122) cd_122 = true := by decide +kernel
theorem at_122_0 : vi_at cd_122 0 = cd_122_0 := rfl
set_option maxRecDepth 100000 in
theorem at_122_4 : vi_at cd_122 4 = cd_122_4 := rfl
set_option maxRecDepth 100000 in
theorem at_122_39 : vi_at cd_122 39 = cd_122_39 := rfl
set_option maxRecDepth 100000 in
theorem at_122_40 : vi_at cd_122 40 = cd_122_40 := rfl
set_option maxRecDepth 100000 in
theorem at_122_47 : vi_at cd_122 47 = cd_122_47 := rfl
def cd_123_45 : List vi_E := (45, 1, .iload_n 2, [2]) :: (46, 1, .ireturn, []) :: []
def cd_123_38 : List vi_E := (38, 1, .istore_n 2, [2]) :: (39, 3, .iinc 3 1, []) :: (42, 3, .goto (-38), [4]) :: cd_123_45
def cd_123_37 : List vi_E := (37, 1, .iload_n 2, [2]) :: cd_123_38
def cd_123_4 : List vi_E := (4, 1, .iload_n 3, [3]) :: (5, 1, .aload_n 0, [0]) :: (6, 3, .getfield 201, [10, 13, 0, 909]) :: (9, 3, .if_icmp .gt 36, [45]) :: (12, 1, .aload_n 0, [0]) :: (13, 3, .getfield 43, [10, 14, 2, 910]) :: (16, 1, .iload_n 3, [3]) :: (17, 1, .iaload, []) :: (18, 3, .ifCond .ne 19, [37]) :: (21, 1, .aload_n 0, [0]) :: (22, 3, .getfield 55, [10, 18, 2, 914]) :: (25, 1, .iload_n 3, [3]) :: (26, 1, .iaload, []) :: (27, 1, .iload_n 1, [1]) :: (28, 3, .if_icmp .ne 9, [37]) :: (31, 1, .iload_n 2, [2]) :: (32, 1, .iconst 1, [1]) :: (33, 1, .iadd, []) :: (34, 3, .goto 4, [38]) :: cd_123_37
def cd_123_0 : List vi_E := (0, 1, .iconst 0, [0]) :: (1, 1, .istore_n 2, [2]) :: (2, 1, .iconst 1, [1]) :: (3, 1, .istore_n 3, [3]) :: cd_123_4
def cd_123 : List vi_E := cd_123_0
set_option maxRecDepth 100000 in
theorem ok_123 : vi_okC MT (MT 123) cd_123 = true := by decide +kernel
theorem at_123_0 : vi_at cd_123 0 = cd_123_0 := rfl
set_option maxRecDepth 100000 in
theorem at_123_4 : vi_at cd_123 4 = cd_123_4 := rfl
set_option maxRecDepth 100000 in
theorem at_123_37 : vi_at cd_123 37 = cd_123_37 := rfl
set_option maxRecDepth 100000 in
theorem at_123_38 : vi_at cd_123 38 = cd_123_38 := rfl
set_option maxRecDepth 100000 in
theorem at_123_45 : vi_at cd_123 45 = cd_123_45 := rfl
def cd_124_0 : List vi_E := (0, 1, .iload_n 0, [0]) :: (1, 1, .iconst 0, [0]) :: (2, 2, .bipush 19, [19]) :: (4, 3, .invokestatic 144, [125, 3, 1062, 1064, 55, 1063]) :: (7, 1, .ireturn, []) :: []
def cd_124 : List vi_E := cd_124_0
set_option maxRecDepth 100000 in
theorem ok_124 : vi_okC MT (MT 124) cd_124 = true := by decide +kernel
theorem at_124_0 : vi_at cd_124 0 = cd_124_0 := rfl
def cd_125_15 : List vi_E := (15, 1, .ireturn, []) :: []
def cd_125_14 : List vi_E := (14, 1, .iconst 0, [0]) :: cd_125_15
def cd_125_0 : List vi_E := (0, 1, .iload_n 0, [0]) :: (1, 1, .iload_n 1, [1]) :: (2, 3, .if_icmp .lt 12, [14]) :: (5, 1, .iload_n 0, [0]) :: (6, 1, .iload_n 2, [2]) :: (7, 3, .if_icmp .gt 7, [14]) :: (10, 1, .iconst 1, [1]) :: (11, 3, .goto 4, [15]) :: cd_125_14
def cd_125 : List vi_E := cd_125_0
set_option maxRecDepth 100000 in
theorem ok_125 : vi_okC MT (MT 125) cd_125 = true := by decide +kernel
theorem at_125_0 : vi_at cd_125 0 = cd_125_0 := rfl
set_option maxRecDepth 100000 in
theorem at_125_14 : vi_at cd_125 14 = cd_125_14 := rfl
set_option maxRecDepth 100000 in
theorem at_125_15 : vi_at cd_125 15 = cd_125_15 := rfl
def cd_126_0 : List vi_E := (0, 1, .iload_n 0, [0]) :: (1, 1, .iconst 0, [0]) :: (2, 1, .iconst 2, [2]) :: (3, 3, .invokestatic 144, [125, 3, 1062, 1064, 55, 1063]) :: (6, 1, .ireturn, []) :: []
def cd_126 : List vi_E := cd_126_0
set_option maxRecDepth 100000 in
theorem ok_126 : vi_okC MT (MT 126) cd_126 = true := by decide +kernel
theorem at_126_0 : vi_at cd_126 0 = cd_126_0 := rfl
def cd_127_0 : List vi_E := (0, 1, .iload_n 1, [1]) :: (1, 1, .aload_n 0, [0]) :: (2, 3, .getfield 148, [10, 2, 0, 898]) :: (5, 2, .ldc 151, [200000, 1101]) :: (7, 3, .invokestatic 144, [125, 3, 1062, 1064, 55, 1063]) :: (10, 1, .ireturn, []) :: []
def cd_127 : List vi_E := cd_127_0
set_option maxRecDepth 100000 in
theorem ok_127 : vi_okC MT (MT 127) cd_127 = true := by decide +kernel
theorem at_127_0 : vi_at cd_127 0 = cd_127_0 := rfl
def cd_128_0 : List vi_E := (0, 1, .iload_n 0, [0]) :: (1, 1, .iconst 1, [1]) :: (2, 2, .ldc 204, [1000000, 1125]) :: (4, 3, .invokestatic 144, [125, 3, 1062, 1064, 55, 1063]) :: (7, 1, .ireturn, []) :: []
def cd_128 : List vi_E := cd_128_0
set_option maxRecDepth 100000 in
theorem ok_128 : vi_okC MT (MT 128) cd_128 = true := by decide +kernel
theorem at_128_0 : vi_at cd_128 0 = cd_128_0 := rfl
def cd_129_41 : List vi_E := (41, 1, .ireturn, []) :: []
def cd_129_40 : List vi_E := (40, 1, .iconst 0, [0]) :: cd_129_41
def cd_129_0 : List vi_E := (0, 1, .iload_n 1, [1]) :: (1, 3, .invokestatic 156, [132, 1, 1059, 1061, 55, 1060]) :: (4, 3, .ifCond .eq 36, [40]) :: (7, 1, .iload_n 2, [2]) :: (8, 1, .iconst 0, [0]) :: (9, 2, .ldc 151, [200000, 1101]) :: (11, 3, .invokestatic 144, [125, 3, 1062, 1064, 55, 1063]) :: (14, 3, .ifCond .eq 26, [40]) :: (17, 1, .iload_n 3, [3]) :: (18, 1, .iload_n 2, [2]) :: (19, 2, .ldc 151, [200000, 1101]) :: (21, 3, .invokestatic 144, [125, 3, 1062, 1064, 55, 1063]) :: (24, 3, .ifCond .eq 16, [40]) :: (27, 1, .iload_n 3, [3]) :: (28, 1, .iload_n 2, [2]) :: (29, 1, .isub, []) :: (30, 3, .sipush 4320, [4320]) :: (33, 3, .if_icmp .gt 7, [40]) :: (36, 1, .iconst 1, [1]) :: (37, 3, .goto 4, [41]) :: cd_129_40
def cd_129 : List vi_E := cd_129_0
set_option maxRecDepth 100000 in
theorem ok_129 : vi_okC MT (MT 129) cd_129 = true := by decide +kernel
theorem at_129_0 : vi_at cd_129 0 = cd_129_0 := rfl
set_option maxRecDepth 100000 in
theorem at_129_40 : vi_at cd_129 40 = cd_129_40 := rfl
set_option maxRecDepth 100000 in
theorem at_129_41 : vi_at cd_129 41 = cd_129_41 := rfl
def cd_130_0 : List vi_E := (0, 1, .iload_n 1, [1]) :: (1, 1, .iconst 1, [1]) :: (2, 1, .aload_n 0, [0]) :: (3, 3, .getfield 201, [10, 13, 0, 909]) :: (6, 3, .invokestatic 144, [125, 3, 1062, 1064, 55, 1063]) :: (9, 1, .ireturn, []) :: []
def cd_130 : List vi_E := cd_130_0
set_option maxRecDepth 100000 in
theorem ok_130 : vi_okC MT (MT 130) cd_130 = true := by decide +kernel
theorem at_130_0 : vi_at cd_130 0 = cd_130_0 := rfl
def cd_131_55 : List vi_E := (55, 1, .iload_n 2, [2]) :: (56, 1, .ireturn, []) :: []
def cd_131_48 : List vi_E := (48, 1, .istore_n 2, [2]) :: (49, 3, .iinc 3 1, []) :: (52, 3, .goto (-48), [4]) :: cd_131_55
def cd_131_47 : List vi_E := (47, 1, .iconst 0, [0]) :: cd_131_48
def cd_131_43 : List vi_E := (43, 1, .iconst 1, [1]) :: (44, 3, .goto 4, [48]) :: cd_131_47
def cd_131_4 : List vi_E := (4, 1, .iload_n 3, [3]) :: (5, 2, .bipush 30, [30]) :: (7, 3, .if_icmp .ge 48, [55]) :: (10, 1, .iload_n 2, [2]) :: (11, 3, .ifCond .ne 32, [43]) :: (14, 1, .aload_n 0, [0]) :: (15, 3, .getfield 85, [10, 28, 2, 924]) :: (18, 1, .iload_n 3, [3]) :: (19, 1, .baload, []) :: (20, 3, .ifCond .eq 27, [47]) :: (23, 1, .aload_n 0, [0]) :: (24, 1, .iload_n 1, [1]) :: (25, 1, .aload_n 0, [0]) :: (26, 3, .getfield 91, [10, 30, 2, 926]) :: (29, 1, .iload_n 3, [3]) :: (30, 1, .iaload, []) :: (31, 3, .invokevirtual 217, [151, 2, 10, 1138, 1141, 55, 1140, 35]) :: (34, 1, .aload_n 0, [0]) :: (35, 3, .getfield 7, [10, 3, 2, 899]) :: (38, 1, .iload_n 1, [1]) :: (39, 1, .iaload, []) :: (40, 3, .if_icmp .le 7, [47]) :: cd_131_43
def cd_131_0 : List vi_E := (0, 1, .iconst 0, [0]) :: (1, 1, .istore_n 2, [2]) :: (2, 1, .iconst 0, [0]) :: (3, 1, .istore_n 3, [3]) :: cd_131_4
def cd_131 : List vi_E := cd_131_0
set_option maxRecDepth 100000 in
theorem ok_131 : vi_okC MT (MT 131) cd_131 = true := by decide +kernel
theorem at_131_0 : vi_at cd_131 0 = cd_131_0 := rfl
set_option maxRecDepth 100000 in
theorem at_131_4 : vi_at cd_131 4 = cd_131_4 := rfl
set_option maxRecDepth 100000 in
theorem at_131_43 : vi_at cd_131 43 = cd_131_43 := rfl
set_option maxRecDepth 100000 in
theorem at_131_47 : vi_at cd_131 47 = cd_131_47 := rfl
set_option maxRecDepth 100000 in
theorem at_131_48 : vi_at cd_131 48 = cd_131_48 := rfl
set_option maxRecDepth 100000 in
theorem at_131_55 : vi_at cd_131 55 = cd_131_55 := rfl
def cd_132_0 : List vi_E := (0, 1, .iload_n 0, [0]) :: (1, 1, .iconst 0, [0]) :: (2, 1, .iconst 3, [3]) :: (3, 3, .invokestatic 144, [125, 3, 1062, 1064, 55, 1063]) :: (6, 1, .ireturn, []) :: []
def cd_132 : List vi_E := cd_132_0
set_option maxRecDepth 100000 in
theorem ok_132 : vi_okC MT (MT 132) cd_132 = true := by decide +kernel
theorem at_132_0 : vi_at cd_132 0 = cd_132_0 := rfl
def cd_133_72 : List vi_E := (72, 1, .ireturn, []) :: []
def cd_133_66 : List vi_E := (66, 1, .aload_n 0, [0]) :: (67, 3, .getfield 121, [10, 41, 2, 937]) :: (70, 1, .iload_n 1, [1]) :: (71, 1, .iaload, []) :: cd_133_72
def cd_133_52 : List vi_E := (52, 1, .iload_n 2, [2]) :: (53, 1, .iconst 1, [1]) :: (54, 3, .if_icmp .ne 12, [66]) :: (57, 1, .aload_n 0, [0]) :: (58, 3, .getfield 118, [10, 40, 2, 936]) :: (61, 1, .iload_n 1, [1]) :: (62, 1, .iaload, []) :: (63, 3, .goto 9, [72]) :: cd_133_66
def cd_133_39 : List vi_E := (39, 1, .iload_n 2, [2]) :: (40, 3, .ifCond .ne 12, [52]) :: (43, 1, .aload_n 0, [0]) :: (44, 3, .getfield 115, [10, 39, 2, 935]) :: (47, 1, .iload_n 1, [1]) :: (48, 1, .iaload, []) :: (49, 3, .goto 23, [72]) :: cd_133_52
def cd_133_23 : List vi_E := (23, 1, .iload_n 1, [1]) :: (24, 1, .iconst 0, [0]) :: (25, 1, .aload_n 0, [0]) :: (26, 3, .getfield 273, [10, 38, 0, 934]) :: (29, 1, .iconst 1, [1]) :: (30, 1, .isub, []) :: (31, 3, .invokestatic 144, [125, 3, 1062, 1064, 55, 1063]) :: (34, 3, .ifCond .ne 5, [39]) :: (37, 1, .iconst (-1), []) :: (38, 1, .ireturn, []) :: cd_133_39
def cd_133_15 : List vi_E := (15, 3, .invokevirtual 164, [149, 1, 10, 1065, 1068, 55, 1067, 25]) :: (18, 3, .ifCond .eq 5, [23]) :: (21, 1, .iconst 0, [0]) :: (22, 1, .ireturn, []) :: cd_133_23
def cd_133_14 : List vi_E := (14, 1, .iconst 1, [1]) :: cd_133_15
def cd_133_0 : List vi_E := (0, 1, .aload_n 0, [0]) :: (1, 1, .iload_n 2, [2]) :: (2, 1, .iconst 0, [0]) :: (3, 1, .iconst 2, [2]) :: (4, 3, .invokestatic 144, [125, 3, 1062, 1064, 55, 1063]) :: (7, 3, .ifCond .eq 7, [14]) :: (10, 1, .iconst 0, [0]) :: (11, 3, .goto 4, [15]) :: cd_133_14
def cd_133 : List vi_E := cd_133_0
set_option maxRecDepth 100000 in
theorem ok_133 : vi_okC MT (MT 133) cd_133 = true := by decide +kernel
theorem at_133_0 : vi_at cd_133 0 = cd_133_0 := rfl
set_option maxRecDepth 100000 in
theorem at_133_14 : vi_at cd_133 14 = cd_133_14 := rfl
set_option maxRecDepth 100000 in
theorem at_133_15 : vi_at cd_133 15 = cd_133_15 := rfl
set_option maxRecDepth 100000 in
theorem at_133_23 : vi_at cd_133 23 = cd_133_23 := rfl
set_option maxRecDepth 100000 in
theorem at_133_39 : vi_at cd_133 39 = cd_133_39 := rfl
set_option maxRecDepth 100000 in
theorem at_133_52 : vi_at cd_133 52 = cd_133_52 := rfl
set_option maxRecDepth 100000 in
theorem at_133_66 : vi_at cd_133 66 = cd_133_66 := rfl
set_option maxRecDepth 100000 in
theorem at_133_72 : vi_at cd_133 72 = cd_133_72 := rfl
def cd_134_30 : List vi_E := (30, 1, .iload_n 1, [1]) :: (31, 1, .ireturn, []) :: []
def cd_134_23 : List vi_E := (23, 1, .istore_n 1, [1]) :: (24, 3, .iinc 2 1, []) :: (27, 3, .goto (-23), [4]) :: cd_134_30
def cd_134_22 : List vi_E := (22, 1, .iload_n 1, [1]) :: cd_134_23
def cd_134_4 : List vi_E := (4, 1, .iload_n 2, [2]) :: (5, 2, .bipush 6, [6]) :: (7, 3, .if_icmp .ge 23, [30]) :: (10, 1, .iload_n 2, [2]) :: (11, 3, .invokestatic 152, [104, 1, 1219, 1221, 55, 1220]) :: (14, 1, .iload_n 0, [0]) :: (15, 3, .if_icmp .ne 7, [22]) :: (18, 1, .iload_n 2, [2]) :: (19, 3, .goto 4, [23]) :: cd_134_22
def cd_134_0 : List vi_E := (0, 1, .iconst (-1), []) :: (1, 1, .istore_n 1, [1]) :: (2, 1, .iconst 0, [0]) :: (3, 1, .istore_n 2, [2]) :: cd_134_4
def cd_134 : List vi_E := cd_134_0
set_option maxRecDepth 100000 in
theorem ok_134 : vi_okC MT (MT 134) cd_134 = true := by decide +kernel
theorem at_134_0 : vi_at cd_134 0 = cd_134_0 := rfl
set_option maxRecDepth 100000 in
theorem at_134_4 : vi_at cd_134 4 = cd_134_4 := rfl
set_option maxRecDepth 100000 in
theorem at_134_22 : vi_at cd_134 22 = cd_134_22 := rfl
set_option maxRecDepth 100000 in
theorem at_134_23 : vi_at cd_134 23 = cd_134_23 := rfl
set_option maxRecDepth 100000 in
theorem at_134_30 : vi_at cd_134 30 = cd_134_30 := rfl
def cd_135_35 : List vi_E := (35, 1, .aload_n 0, [0]) :: (36, 1, .iload_n 1, [1]) :: (37, 1, .iload_n 2, [2]) :: (38, 1, .iload_n 3, [3]) :: (39, 1, .iload_n 2, [2]) :: (40, 1, .isub, []) :: (41, 3, .invokevirtual 194, [108, 3, 10, 1102, 1105, 55, 1104, 29]) :: (44, 1, .aload_n 0, [0]) :: (45, 3, .getfield 175, [10, 46, 0, 942]) :: (48, 1, .ireturn, []) :: []
def cd_135_27 : List vi_E := (27, 3, .invokevirtual 164, [149, 1, 10, 1065, 1068, 55, 1067, 25]) :: (30, 3, .ifCond .eq 5, [35]) :: (33, 1, .iconst 0, [0]) :: (34, 1, .ireturn, []) :: cd_135_35
def cd_135_26 : List vi_E := (26, 1, .iconst 0, [0]) :: cd_135_27
def cd_135_15 : List vi_E := (15, 1, .aload_n 0, [0]) :: (16, 3, .getfield 160, [10, 1, 3, 897]) :: (19, 3, .ifCond .ne 7, [26]) :: (22, 1, .iconst 2, [2]) :: (23, 3, .goto 4, [27]) :: cd_135_26
def cd_135_0 : List vi_E := (0, 1, .aload_n 0, [0]) :: (1, 1, .aload_n 0, [0]) :: (2, 1, .iload_n 1, [1]) :: (3, 1, .iload_n 2, [2]) :: (4, 1, .iload_n 3, [3]) :: (5, 3, .invokevirtual 198, [129, 3, 10, 1097, 1100, 55, 1099, 28]) :: (8, 3, .ifCond .ne 7, [15]) :: (11, 1, .iconst 1, [1]) :: (12, 3, .goto 15, [27]) :: cd_135_15
def cd_135 : List vi_E := cd_135_0
set_option maxRecDepth 100000 in
theorem ok_135 : vi_okC MT (MT 135) cd_135 = true := by decide +kernel
theorem at_135_0 : vi_at cd_135 0 = cd_135_0 := rfl
set_option maxRecDepth 100000 in
theorem at_135_15 : vi_at cd_135 15 = cd_135_15 := rfl
set_option maxRecDepth 100000 in
theorem at_135_26 : vi_at cd_135 26 = cd_135_26 := rfl
set_option maxRecDepth 100000 in
theorem at_135_27 : vi_at cd_135 27 = cd_135_27 := rfl
set_option maxRecDepth 100000 in
theorem at_135_35 : vi_at cd_135 35 = cd_135_35 := rfl
def cd_136_85 : List vi_E := (85, 1, .aload_n 0, [0]) :: (86, 3, .getfield 43, [10, 14, 2, 910]) :: (89, 1, .iload_n 1, [1]) :: (90, 1, .iconst 1, [1]) :: (91, 1, .iastore, []) :: (92, 1, .iconst 1, [1]) :: (93, 1, .ireturn, []) :: []
def cd_136_69 : List vi_E := (69, 1, .aload_n 0, [0]) :: (70, 1, .iload_n 2, [2]) :: (71, 3, .putfield 148, [10, 2, 0, 898]) :: (74, 1, .aload_n 0, [0]) :: (75, 1, .iload_n 1, [1]) :: (76, 1, .iload_n 2, [2]) :: (77, 3, .invokevirtual 238, [112, 2, 10, 1162, 1165, 55, 1164, 40]) :: (80, 3, .ifCond .le 5, [85]) :: (83, 1, .iconst 0, [0]) :: (84, 1, .ireturn, []) :: cd_136_85
def cd_136_61 : List vi_E := (61, 3, .invokevirtual 164, [149, 1, 10, 1065, 1068, 55, 1067, 25]) :: (64, 3, .ifCond .eq 5, [69]) :: (67, 1, .iconst 0, [0]) :: (68, 1, .ireturn, []) :: cd_136_69
def cd_136_60 : List vi_E := (60, 1, .iconst 0, [0]) :: cd_136_61
def cd_136_56 : List vi_E := (56, 1, .iconst 2, [2]) :: (57, 3, .goto 4, [61]) :: cd_136_60
def cd_136_31 : List vi_E := (31, 1, .aload_n 0, [0]) :: (32, 3, .getfield 160, [10, 1, 3, 897]) :: (35, 3, .ifCond .eq 21, [56]) :: (38, 1, .aload_n 0, [0]) :: (39, 3, .getfield 43, [10, 14, 2, 910]) :: (42, 1, .iload_n 1, [1]) :: (43, 1, .iaload, []) :: (44, 3, .ifCond .ne 12, [56]) :: (47, 1, .aload_n 0, [0]) :: (48, 3, .getfield 67, [10, 22, 2, 918]) :: (51, 1, .iload_n 1, [1]) :: (52, 1, .iaload, []) :: (53, 3, .ifCond .lt 7, [60]) :: cd_136_56
def cd_136_21 : List vi_E := (21, 1, .istore_n 3, [3]) :: (22, 1, .aload_n 0, [0]) :: (23, 1, .iload_n 3, [3]) :: (24, 3, .ifCond .ne 7, [31]) :: (27, 1, .iconst 1, [1]) :: (28, 3, .goto 33, [61]) :: cd_136_31
def cd_136_20 : List vi_E := (20, 1, .iconst 0, [0]) :: cd_136_21
def cd_136_0 : List vi_E := (0, 1, .aload_n 0, [0]) :: (1, 1, .iload_n 1, [1]) :: (2, 3, .invokevirtual 235, [130, 1, 10, 1158, 1161, 55, 1160, 39]) :: (5, 3, .ifCond .eq 15, [20]) :: (8, 1, .aload_n 0, [0]) :: (9, 1, .iload_n 2, [2]) :: (10, 3, .invokevirtual 208, [127, 1, 10, 1126, 1129, 55, 1128, 32]) :: (13, 3, .ifCond .eq 7, [20]) :: (16, 1, .iconst 1, [1]) :: (17, 3, .goto 4, [21]) :: cd_136_20
def cd_136 : List vi_E := cd_136_0
set_option maxRecDepth 100000 in
theorem ok_136 : vi_okC MT (MT 136) cd_136 = true := by decide +kernel
theorem at_136_0 : vi_at cd_136 0 = cd_136_0 := rfl
set_option maxRecDepth 100000 in
theorem at_136_20 : vi_at cd_136 20 = cd_136_20 := rfl
set_option maxRecDepth 100000 in
theorem at_136_21 : vi_at cd_136 21 = cd_136_21 := rfl
set_option maxRecDepth 100000 in
theorem at_136_31 : vi_at cd_136 31 = cd_136_31 := rfl
set_option maxRecDepth 100000 in
theorem at_136_56 : vi_at cd_136 56 = cd_136_56 := rfl
set_option maxRecDepth 100000 in
theorem at_136_60 : vi_at cd_136 60 = cd_136_60 := rfl
set_option maxRecDepth 100000 in
theorem at_136_61 : vi_at cd_136 61 = cd_136_61 := rfl
set_option maxRecDepth 100000 in
theorem at_136_69 : vi_at cd_136 69 = cd_136_69 := rfl
set_option maxRecDepth 100000 in
theorem at_136_85 : vi_at cd_136 85 = cd_136_85 := rfl
def cd_137_67 : List vi_E := (67, 1, .return_, []) :: []
def cd_137_46 : List vi_E := (46, 1, .istore_n 2, [2]) :: (47, 1, .aload_n 0, [0]) :: (48, 3, .getfield 36, [10, 11, 2, 907]) :: (51, 3, .sipush 10080, [10080]) :: (54, 1, .iload_n 1, [1]) :: (55, 1, .imul, []) :: (56, 2, .iload 4, [4]) :: (58, 1, .iadd, []) :: (59, 1, .iload_n 2, [2]) :: (60, 1, .iastore, []) :: (61, 3, .iinc 3 1, []) :: (64, 3, .goto (-60), [4]) :: cd_137_67
def cd_137_43 : List vi_E := (43, 1, .iload_n 2, [2]) :: (44, 1, .iconst 1, [1]) :: (45, 1, .iadd, []) :: cd_137_46
def cd_137_35 : List vi_E := (35, 1, .iload_n 2, [2]) :: (36, 3, .ifCond .ge 7, [43]) :: (39, 1, .iconst (-1), []) :: (40, 3, .goto 6, [46]) :: cd_137_43
def cd_137_4 : List vi_E := (4, 1, .iload_n 3, [3]) :: (5, 3, .sipush 20160, [20160]) :: (8, 3, .if_icmp .ge 59, [67]) :: (11, 1, .iload_n 3, [3]) :: (12, 3, .sipush 10080, [10080]) :: (15, 1, .irem, []) :: (16, 2, .istore 4, [4]) :: (18, 1, .aload_n 0, [0]) :: (19, 1, .iload_n 1, [1]) :: (20, 2, .iload 4, [4]) :: (22, 2, .bipush 60, [60]) :: (24, 1, .idiv, []) :: (25, 3, .invokevirtual 167, [139, 2, 10, 1085, 1088, 55, 1087, 26]) :: (28, 3, .ifCond .eq 7, [35]) :: (31, 1, .iconst 0, [0]) :: (32, 3, .goto 14, [46]) :: cd_137_35
def cd_137_0 : List vi_E := (0, 1, .iconst (-1), []) :: (1, 1, .istore_n 2, [2]) :: (2, 1, .iconst 0, [0]) :: (3, 1, .istore_n 3, [3]) :: cd_137_4
def cd_137 : List vi_E := cd_137_0
set_option maxRecDepth 100000 in
theorem ok_137 : vi_okC MT (MT 137) cd_137 = true := by decide +kernel
theorem at_137_0 : vi_at cd_137 0 = cd_137_0 := rfl
set_option maxRecDepth 100000 in
theorem at_137_4 : vi_at cd_137 4 = cd_137_4 := rfl
set_option maxRecDepth 100000 in
theorem at_137_35 : vi_at cd_137 35 = cd_137_35 := rfl
set_option maxRecDepth 100000 in
theorem at_137_43 : vi_at cd_137 43 = cd_137_43 := rfl
set_option maxRecDepth 100000 in
theorem at_137_46 : vi_at cd_137 46 = cd_137_46 := rfl
set_option maxRecDepth 100000 in
theorem at_137_67 : vi_at cd_137 67 = cd_137_67 := rfl
def cd_138_135 : List vi_E := (135, 1, .aload_n 0, [0]) :: (136, 1, .aload_n 0, [0]) :: (137, 3, .getfield 46, [10, 15, 2, 911]) :: (140, 2, .iload 5, [5]) :: (142, 1, .iaload, []) :: (143, 1, .aload_n 0, [0]) :: (144, 3, .getfield 49, [10, 16, 2, 912]) :: (147, 2, .iload 5, [5]) :: (149, 1, .iaload, []) :: (150, 1, .iload_n 1, [1]) :: (151, 1, .aload_n 0, [0]) :: (152, 3, .getfield 55, [10, 18, 2, 914]) :: (155, 2, .iload 5, [5]) :: (157, 1, .iaload, []) :: (158, 3, .invokevirtual 227, [95, 4, 10, 1150, 1153, 55, 1152, 38]) :: (161, 2, .istore 6, [6]) :: (163, 1, .aload_n 0, [0]) :: (164, 3, .getfield 61, [10, 20, 2, 916]) :: (167, 2, .iload 6, [6]) :: (169, 1, .aload_n 0, [0]) :: (170, 3, .getfield 61, [10, 20, 2, 916]) :: (173, 2, .iload 5, [5]) :: (175, 1, .iaload, []) :: (176, 1, .iastore, []) :: (177, 1, .aload_n 0, [0]) :: (178, 3, .getfield 64, [10, 21, 2, 917]) :: (181, 2, .iload 6, [6]) :: (183, 1, .aload_n 0, [0]) :: (184, 3, .getfield 64, [10, 21, 2, 917]) :: (187, 2, .iload 5, [5]) :: (189, 1, .iaload, []) :: (190, 1, .iastore, []) :: (191, 1, .aload_n 0, [0]) :: (192, 3, .getfield 43, [10, 14, 2, 910]) :: (195, 2, .iload 5, [5]) :: (197, 1, .iconst 2, [2]) :: (198, 1, .iastore, []) :: (199, 2, .iload 6, [6]) :: (201, 1, .ireturn, []) :: []
def cd_138_104 : List vi_E := (104, 1, .aload_n 0, [0]) :: (105, 1, .iload_n 3, [3]) :: (106, 3, .putfield 148, [10, 2, 0, 898]) :: (109, 2, .iload 5, [5]) :: (111, 3, .ifCond .ne 24, [135]) :: (114, 1, .aload_n 0, [0]) :: (115, 1, .iload_n 2, [2]) :: (116, 1, .iload_n 3, [3]) :: (117, 1, .iconst 0, [0]) :: (118, 1, .iconst (-1), []) :: (119, 3, .invokevirtual 227, [95, 4, 10, 1150, 1153, 55, 1152, 38]) :: (122, 2, .istore 6, [6]) :: (124, 1, .aload_n 0, [0]) :: (125, 3, .getfield 58, [10, 19, 2, 915]) :: (128, 2, .iload 6, [6]) :: (130, 1, .iconst 1, [1]) :: (131, 1, .bastore, []) :: (132, 2, .iload 6, [6]) :: (134, 1, .ireturn, []) :: cd_138_135
def cd_138_96 : List vi_E := (96, 3, .invokevirtual 164, [149, 1, 10, 1065, 1068, 55, 1067, 25]) :: (99, 3, .ifCond .eq 5, [104]) :: (102, 1, .iconst 0, [0]) :: (103, 1, .ireturn, []) :: cd_138_104
def cd_138_95 : List vi_E := (95, 1, .iconst 0, [0]) :: cd_138_96
def cd_138_91 : List vi_E := (91, 1, .iconst 2, [2]) :: (92, 3, .goto 4, [96]) :: cd_138_95
def cd_138_59 : List vi_E := (59, 1, .aload_n 0, [0]) :: (60, 3, .getfield 160, [10, 1, 3, 897]) :: (63, 3, .ifCond .eq 28, [91]) :: (66, 1, .aload_n 0, [0]) :: (67, 3, .getfield 201, [10, 13, 0, 909]) :: (70, 3, .sipush 300, [300]) :: (73, 3, .if_icmp .eq 18, [91]) :: (76, 2, .iload 5, [5]) :: (78, 3, .ifCond .le 17, [95]) :: (81, 1, .aload_n 0, [0]) :: (82, 3, .getfield 67, [10, 22, 2, 918]) :: (85, 2, .iload 5, [5]) :: (87, 1, .iaload, []) :: (88, 3, .ifCond .lt 7, [95]) :: cd_138_91
def cd_138_47 : List vi_E := (47, 2, .istore 5, [5]) :: (49, 1, .aload_n 0, [0]) :: (50, 2, .iload 4, [4]) :: (52, 3, .ifCond .ne 7, [59]) :: (55, 1, .iconst 1, [1]) :: (56, 3, .goto 40, [96]) :: cd_138_59
def cd_138_46 : List vi_E := (46, 1, .iconst 0, [0]) :: cd_138_47
def cd_138_31 : List vi_E := (31, 2, .istore 4, [4]) :: (33, 2, .iload 4, [4]) :: (35, 3, .ifCond .eq 11, [46]) :: (38, 1, .aload_n 0, [0]) :: (39, 1, .iload_n 1, [1]) :: (40, 3, .invokevirtual 211, [122, 1, 10, 1130, 1133, 55, 1132, 33]) :: (43, 3, .goto 4, [47]) :: cd_138_46
def cd_138_30 : List vi_E := (30, 1, .iconst 0, [0]) :: cd_138_31
def cd_138_11 : List vi_E := (11, 1, .iload_n 2, [2]) :: (12, 3, .invokestatic 156, [132, 1, 1059, 1061, 55, 1060]) :: (15, 3, .ifCond .eq 15, [30]) :: (18, 1, .aload_n 0, [0]) :: (19, 1, .iload_n 3, [3]) :: (20, 3, .invokevirtual 208, [127, 1, 10, 1126, 1129, 55, 1128, 32]) :: (23, 3, .ifCond .eq 7, [30]) :: (26, 1, .iconst 1, [1]) :: (27, 3, .goto 4, [31]) :: cd_138_30
def cd_138_0 : List vi_E := (0, 1, .iload_n 1, [1]) :: (1, 3, .ifCond .eq 10, [11]) :: (4, 1, .iload_n 1, [1]) :: (5, 3, .invokestatic 205, [128, 1, 1122, 1124, 55, 1123]) :: (8, 3, .ifCond .eq 22, [30]) :: cd_138_11
def cd_138 : List vi_E := cd_138_0
set_option maxRecDepth 100000 in
theorem ok_138 : vi_okC MT (MT 138) cd_138 = true := by decide +kernel
theorem at_138_0 : vi_at cd_138 0 = cd_138_0 := rfl
set_option maxRecDepth 100000 in
theorem at_138_11 : vi_at cd_138 11 = cd_138_11 := rfl
set_option maxRecDepth 100000 in
theorem at_138_30 : vi_at cd_138 30 = cd_138_30 := rfl
set_option maxRecDepth 100000 in
theorem at_138_31 : vi_at cd_138 31 = cd_138_31 := rfl
set_option maxRecDepth 100000 in
theorem at_138_46 : vi_at cd_138 46 = cd_138_46 := rfl
set_option maxRecDepth 100000 in
theorem at_138_47 : vi_at cd_138 47 = cd_138_47 := rfl
set_option maxRecDepth 100000 in
theorem at_138_59 : vi_at cd_138 59 = cd_138_59 := rfl
set_option maxRecDepth 100000 in
theorem at_138_91 : vi_at cd_138 91 = cd_138_91 := rfl
set_option maxRecDepth 100000 in
theorem at_138_95 : vi_at cd_138 95 = cd_138_95 := rfl
set_option maxRecDepth 100000 in
theorem at_138_96 : vi_at cd_138 96 = cd_138_96 := rfl
set_option maxRecDepth 100000 in
theorem at_138_104 : vi_at cd_138 104 = cd_138_104 := rfl
set_option maxRecDepth 100000 in
theorem at_138_135 : vi_at cd_138 135 = cd_138_135 := rfl
def cd_139_68 : List vi_E := (68, 1, .ireturn, []) :: []
def cd_139_67 : List vi_E := (67, 1, .iconst 0, [0]) :: cd_139_68
def cd_139_63 : List vi_E := (63, 1, .iconst 1, [1]) :: (64, 3, .goto 4, [68]) :: cd_139_67
def cd_139_43 : List vi_E := (43, 1, .iload_n 2, [2]) :: (44, 1, .aload_n 0, [0]) :: (45, 3, .getfield 29, [10, 9, 2, 905]) :: (48, 1, .iload_n 1, [1]) :: (49, 1, .iaload, []) :: (50, 3, .if_icmp .ge 13, [63]) :: (53, 1, .iload_n 2, [2]) :: (54, 1, .aload_n 0, [0]) :: (55, 3, .getfield 32, [10, 10, 2, 906]) :: (58, 1, .iload_n 1, [1]) :: (59, 1, .iaload, []) :: (60, 3, .if_icmp .ge 7, [67]) :: cd_139_63
def cd_139_39 : List vi_E := (39, 1, .iconst 0, [0]) :: (40, 3, .goto 28, [68]) :: cd_139_43
def cd_139_0 : List vi_E := (0, 1, .aload_n 0, [0]) :: (1, 3, .getfield 29, [10, 9, 2, 905]) :: (4, 1, .iload_n 1, [1]) :: (5, 1, .iaload, []) :: (6, 1, .aload_n 0, [0]) :: (7, 3, .getfield 32, [10, 10, 2, 906]) :: (10, 1, .iload_n 1, [1]) :: (11, 1, .iaload, []) :: (12, 3, .if_icmp .ge 31, [43]) :: (15, 1, .aload_n 0, [0]) :: (16, 3, .getfield 29, [10, 9, 2, 905]) :: (19, 1, .iload_n 1, [1]) :: (20, 1, .iaload, []) :: (21, 1, .iload_n 2, [2]) :: (22, 3, .if_icmp .gt 17, [39]) :: (25, 1, .iload_n 2, [2]) :: (26, 1, .aload_n 0, [0]) :: (27, 3, .getfield 32, [10, 10, 2, 906]) :: (30, 1, .iload_n 1, [1]) :: (31, 1, .iaload, []) :: (32, 3, .if_icmp .ge 7, [39]) :: (35, 1, .iconst 1, [1]) :: (36, 3, .goto 32, [68]) :: cd_139_39
def cd_139 : List vi_E := cd_139_0
set_option maxRecDepth 100000 in
theorem ok_139 : vi_okC MT (MT 139) cd_139 = true := by decide +kernel
theorem at_139_0 : vi_at cd_139 0 = cd_139_0 := rfl
set_option maxRecDepth 100000 in
theorem at_139_39 : vi_at cd_139 39 = cd_139_39 := rfl
set_option maxRecDepth 100000 in
theorem at_139_43 : vi_at cd_139 43 = cd_139_43 := rfl
set_option maxRecDepth 100000 in
theorem at_139_63 : vi_at cd_139 63 = cd_139_63 := rfl
set_option maxRecDepth 100000 in
theorem at_139_67 : vi_at cd_139 67 = cd_139_67 := rfl
set_option maxRecDepth 100000 in
theorem at_139_68 : vi_at cd_139 68 = cd_139_68 := rfl
def cd_140_28 : List vi_E := (28, 1, .ireturn, []) :: []
def cd_140_23 : List vi_E := (23, 1, .aload_n 0, [0]) :: (24, 1, .iload_n 1, [1]) :: (25, 3, .invokevirtual 214, [100, 1, 10, 1134, 1137, 55, 1136, 34]) :: cd_140_28
def cd_140_13 : List vi_E := (13, 3, .invokevirtual 164, [149, 1, 10, 1065, 1068, 55, 1067, 25]) :: (16, 3, .ifCond .eq 7, [23]) :: (19, 1, .iconst 0, [0]) :: (20, 3, .goto 8, [28]) :: cd_140_23
def cd_140_12 : List vi_E := (12, 1, .iconst 1, [1]) :: cd_140_13
def cd_140_0 : List vi_E := (0, 1, .aload_n 0, [0]) :: (1, 1, .iload_n 1, [1]) :: (2, 3, .invokestatic 156, [132, 1, 1059, 1061, 55, 1060]) :: (5, 3, .ifCond .eq 7, [12]) :: (8, 1, .iconst 0, [0]) :: (9, 3, .goto 4, [13]) :: cd_140_12
def cd_140 : List vi_E := cd_140_0
set_option maxRecDepth 100000 in
theorem ok_140 : vi_okC MT (MT 140) cd_140 = true := by decide +kernel
theorem at_140_0 : vi_at cd_140 0 = cd_140_0 := rfl
set_option maxRecDepth 100000 in
theorem at_140_12 : vi_at cd_140 12 = cd_140_12 := rfl
set_option maxRecDepth 100000 in
theorem at_140_13 : vi_at cd_140 13 = cd_140_13 := rfl
set_option maxRecDepth 100000 in
theorem at_140_23 : vi_at cd_140 23 = cd_140_23 := rfl
set_option maxRecDepth 100000 in
theorem at_140_28 : vi_at cd_140 28 = cd_140_28 := rfl
def cd_141_151 : List vi_E := (151, 1, .return_, []) :: []
def cd_141_122 : List vi_E := (122, 2, .istore 8, [8]) :: (124, 2, .iload 8, [8]) :: (126, 3, .ifCond .eq 25, [151]) :: (129, 1, .aload_n 0, [0]) :: (130, 2, .iload 6, [6]) :: (132, 3, .putfield 175, [10, 46, 0, 942]) :: (135, 1, .aload_n 0, [0]) :: (136, 2, .iload 7, [7]) :: (138, 3, .putfield 178, [10, 47, 0, 943]) :: (141, 1, .aload_n 0, [0]) :: (142, 1, .iload_n 1, [1]) :: (143, 3, .putfield 181, [10, 48, 0, 944]) :: (146, 1, .aload_n 0, [0]) :: (147, 1, .iload_n 3, [3]) :: (148, 3, .putfield 184, [10, 49, 0, 945]) :: cd_141_151
def cd_141_121 : List vi_E := (121, 1, .iconst 0, [0]) :: cd_141_122
def cd_141_117 : List vi_E := (117, 1, .iconst 1, [1]) :: (118, 3, .goto 4, [122]) :: cd_141_121
def cd_141_63 : List vi_E := (63, 1, .iadd, []) :: (64, 2, .istore 7, [7]) :: (66, 1, .aload_n 0, [0]) :: (67, 3, .getfield 175, [10, 46, 0, 942]) :: (70, 3, .ifCond .lt 47, [117]) :: (73, 2, .iload 6, [6]) :: (75, 1, .aload_n 0, [0]) :: (76, 3, .getfield 175, [10, 46, 0, 942]) :: (79, 3, .if_icmp .lt 38, [117]) :: (82, 2, .iload 6, [6]) :: (84, 1, .aload_n 0, [0]) :: (85, 3, .getfield 175, [10, 46, 0, 942]) :: (88, 3, .if_icmp .ne 33, [121]) :: (91, 2, .iload 7, [7]) :: (93, 1, .aload_n 0, [0]) :: (94, 3, .getfield 178, [10, 47, 0, 943]) :: (97, 3, .if_icmp .lt 20, [117]) :: (100, 2, .iload 7, [7]) :: (102, 1, .aload_n 0, [0]) :: (103, 3, .getfield 178, [10, 47, 0, 943]) :: (106, 3, .if_icmp .ne 15, [121]) :: (109, 1, .iload_n 1, [1]) :: (110, 1, .aload_n 0, [0]) :: (111, 3, .getfield 181, [10, 48, 0, 944]) :: (114, 3, .if_icmp .ge 7, [121]) :: cd_141_117
def cd_141_57 : List vi_E := (57, 1, .aload_n 0, [0]) :: (58, 3, .getfield 127, [10, 43, 2, 939]) :: (61, 1, .iload_n 3, [3]) :: (62, 1, .iaload, []) :: cd_141_63
def cd_141_44 : List vi_E := (44, 1, .iadd, []) :: (45, 2, .istore 6, [6]) :: (47, 1, .iconst 1, [1]) :: (48, 2, .iload 5, [5]) :: (50, 3, .ifCond .eq 7, [57]) :: (53, 1, .iconst 0, [0]) :: (54, 3, .goto 9, [63]) :: cd_141_57
def cd_141_38 : List vi_E := (38, 1, .aload_n 0, [0]) :: (39, 3, .getfield 124, [10, 42, 2, 938]) :: (42, 1, .iload_n 3, [3]) :: (43, 1, .iaload, []) :: cd_141_44
def cd_141_28 : List vi_E := (28, 1, .iload_n 2, [2]) :: (29, 2, .iload 5, [5]) :: (31, 3, .ifCond .eq 7, [38]) :: (34, 1, .iconst 0, [0]) :: (35, 3, .goto 9, [44]) :: cd_141_38
def cd_141_11 : List vi_E := (11, 2, .istore 5, [5]) :: (13, 2, .iload 5, [5]) :: (15, 3, .ifCond .ne 13, [28]) :: (18, 1, .aload_n 0, [0]) :: (19, 3, .getfield 124, [10, 42, 2, 938]) :: (22, 1, .iload_n 3, [3]) :: (23, 1, .iaload, []) :: (24, 3, .ifCond .ge 4, [28]) :: (27, 1, .return_, []) :: cd_141_28
def cd_141_10 : List vi_E := (10, 1, .iconst 0, [0]) :: cd_141_11
def cd_141_0 : List vi_E := (0, 1, .iload_n 3, [3]) :: (1, 2, .iload 4, [4]) :: (3, 3, .if_icmp .lt 7, [10]) :: (6, 1, .iconst 1, [1]) :: (7, 3, .goto 4, [11]) :: cd_141_10
def cd_141 : List vi_E := cd_141_0
set_option maxRecDepth 100000 in
theorem ok_141 : vi_okC MT (MT 141) cd_141 = true := by decide +kernel
theorem at_141_0 : vi_at cd_141 0 = cd_141_0 := rfl
set_option maxRecDepth 100000 in
theorem at_141_10 : vi_at cd_141 10 = cd_141_10 := rfl
set_option maxRecDepth 100000 in
theorem at_141_11 : vi_at cd_141 11 = cd_141_11 := rfl
set_option maxRecDepth 100000 in
theorem at_141_28 : vi_at cd_141 28 = cd_141_28 := rfl
set_option maxRecDepth 100000 in
theorem at_141_38 : vi_at cd_141 38 = cd_141_38 := rfl
set_option maxRecDepth 100000 in
theorem at_141_44 : vi_at cd_141 44 = cd_141_44 := rfl
set_option maxRecDepth 100000 in
theorem at_141_57 : vi_at cd_141 57 = cd_141_57 := rfl
set_option maxRecDepth 100000 in
theorem at_141_63 : vi_at cd_141 63 = cd_141_63 := rfl
set_option maxRecDepth 100000 in
theorem at_141_117 : vi_at cd_141 117 = cd_141_117 := rfl
set_option maxRecDepth 100000 in
theorem at_141_121 : vi_at cd_141 121 = cd_141_121 := rfl
set_option maxRecDepth 100000 in
theorem at_141_122 : vi_at cd_141 122 = cd_141_122 := rfl
set_option maxRecDepth 100000 in
theorem at_141_151 : vi_at cd_141 151 = cd_141_151 := rfl
def cd_142_169 : List vi_E := (169, 1, .aload_n 0, [0]) :: (170, 1, .iconst 1, [1]) :: (171, 3, .putfield 160, [10, 1, 3, 897]) :: (174, 1, .iconst (-1), []) :: (175, 1, .ireturn, []) :: []
def cd_142_150 : List vi_E := (150, 1, .iload_n 1, [1]) :: (151, 2, .ldc 39, [40320, 894]) :: (153, 3, .if_icmp .ge 16, [169]) :: (156, 1, .aload_n 0, [0]) :: (157, 3, .getfield 40, [10, 12, 2, 908]) :: (160, 1, .iload_n 1, [1]) :: (161, 1, .iconst (-1), []) :: (162, 1, .iastore, []) :: (163, 3, .iinc 1 1, []) :: (166, 3, .goto (-16), [150]) :: cd_142_169
def cd_142_148 : List vi_E := (148, 1, .iconst 0, [0]) :: (149, 1, .istore_n 1, [1]) :: cd_142_150
def cd_142_142 : List vi_E := (142, 3, .iinc 1 1, []) :: (145, 3, .goto (-23), [122]) :: cd_142_148
def cd_142_122 : List vi_E := (122, 1, .iload_n 1, [1]) :: (123, 2, .bipush 24, [24]) :: (125, 3, .if_icmp .ge 23, [148]) :: (128, 1, .aload_n 0, [0]) :: (129, 3, .getfield 16, [10, 5, 2, 901]) :: (132, 1, .iload_n 1, [1]) :: (133, 1, .baload, []) :: (134, 3, .ifCond .eq 8, [142]) :: (137, 1, .aload_n 0, [0]) :: (138, 1, .iload_n 1, [1]) :: (139, 3, .invokevirtual 171, [137, 1, 10, 1089, 1092, 55, 1091, 27]) :: cd_142_142
def cd_142_120 : List vi_E := (120, 1, .iconst 0, [0]) :: (121, 1, .istore_n 1, [1]) :: cd_142_122
def cd_142_114 : List vi_E := (114, 3, .iinc 1 1, []) :: (117, 3, .goto (-94), [23]) :: cd_142_120
def cd_142_108 : List vi_E := (108, 3, .iinc 2 1, []) :: (111, 3, .goto (-81), [30]) :: cd_142_114
def cd_142_96 : List vi_E := (96, 1, .iload_n 3, [3]) :: (97, 3, .ifCond .ne 11, [108]) :: (100, 3, .sipush 168, [168]) :: (103, 1, .iload_n 1, [1]) :: (104, 1, .imul, []) :: (105, 1, .iload_n 2, [2]) :: (106, 1, .iadd, []) :: (107, 1, .ireturn, []) :: cd_142_108
def cd_142_89 : List vi_E := (89, 1, .istore_n 3, [3]) :: (90, 3, .iinc 4 1, []) :: (93, 3, .goto (-51), [42]) :: cd_142_96
def cd_142_88 : List vi_E := (88, 1, .iconst 0, [0]) :: cd_142_89
def cd_142_84 : List vi_E := (84, 1, .iconst 1, [1]) :: (85, 3, .goto 4, [89]) :: cd_142_88
def cd_142_42 : List vi_E := (42, 2, .iload 4, [4]) :: (44, 2, .bipush 24, [24]) :: (46, 3, .if_icmp .ge 50, [96]) :: (49, 1, .iload_n 3, [3]) :: (50, 3, .ifCond .ne 34, [84]) :: (53, 1, .aload_n 0, [0]) :: (54, 3, .getfield 16, [10, 5, 2, 901]) :: (57, 2, .iload 4, [4]) :: (59, 1, .baload, []) :: (60, 3, .ifCond .eq 28, [88]) :: (63, 1, .aload_n 0, [0]) :: (64, 3, .getfield 26, [10, 8, 2, 904]) :: (67, 2, .iload 4, [4]) :: (69, 1, .iaload, []) :: (70, 1, .iload_n 1, [1]) :: (71, 3, .if_icmp .ne 17, [88]) :: (74, 1, .aload_n 0, [0]) :: (75, 2, .iload 4, [4]) :: (77, 1, .iload_n 2, [2]) :: (78, 3, .invokevirtual 167, [139, 2, 10, 1085, 1088, 55, 1087, 26]) :: (81, 3, .ifCond .eq 7, [88]) :: cd_142_84
def cd_142_30 : List vi_E := (30, 1, .iload_n 2, [2]) :: (31, 3, .sipush 168, [168]) :: (34, 3, .if_icmp .ge 80, [114]) :: (37, 1, .iconst 0, [0]) :: (38, 1, .istore_n 3, [3]) :: (39, 1, .iconst 0, [0]) :: (40, 2, .istore 4, [4]) :: cd_142_42
def cd_142_23 : List vi_E := (23, 1, .iload_n 1, [1]) :: (24, 1, .iconst 4, [4]) :: (25, 3, .if_icmp .ge 95, [120]) :: (28, 1, .iconst 0, [0]) :: (29, 1, .istore_n 2, [2]) :: cd_142_30
def cd_142_21 : List vi_E := (21, 1, .iconst 0, [0]) :: (22, 1, .istore_n 1, [1]) :: cd_142_23
def cd_142_13 : List vi_E := (13, 3, .invokevirtual 164, [149, 1, 10, 1065, 1068, 55, 1067, 25]) :: (16, 3, .ifCond .eq 5, [21]) :: (19, 1, .iconst 0, [0]) :: (20, 1, .ireturn, []) :: cd_142_21
def cd_142_12 : List vi_E := (12, 1, .iconst 0, [0]) :: cd_142_13
def cd_142_0 : List vi_E := (0, 1, .aload_n 0, [0]) :: (1, 1, .aload_n 0, [0]) :: (2, 3, .getfield 160, [10, 1, 3, 897]) :: (5, 3, .ifCond .eq 7, [12]) :: (8, 1, .iconst 1, [1]) :: (9, 3, .goto 4, [13]) :: cd_142_12
def cd_142 : List vi_E := cd_142_0
set_option maxRecDepth 100000 in
theorem ok_142 : vi_okC MT (MT 142) cd_142 = true := by decide +kernel
theorem at_142_0 : vi_at cd_142 0 = cd_142_0 := rfl
set_option maxRecDepth 100000 in
theorem at_142_12 : vi_at cd_142 12 = cd_142_12 := rfl
set_option maxRecDepth 100000 in
theorem at_142_13 : vi_at cd_142 13 = cd_142_13 := rfl
set_option maxRecDepth 100000 in
theorem at_142_21 : vi_at cd_142 21 = cd_142_21 := rfl
set_option maxRecDepth 100000 in
theorem at_142_23 : vi_at cd_142 23 = cd_142_23 := rfl
set_option maxRecDepth 100000 in
theorem at_142_30 : vi_at cd_142 30 = cd_142_30 := rfl
set_option maxRecDepth 100000 in
theorem at_142_42 : vi_at cd_142 42 = cd_142_42 := rfl
set_option maxRecDepth 100000 in
theorem at_142_84 : vi_at cd_142 84 = cd_142_84 := rfl
set_option maxRecDepth 100000 in
theorem at_142_88 : vi_at cd_142 88 = cd_142_88 := rfl
set_option maxRecDepth 100000 in
theorem at_142_89 : vi_at cd_142 89 = cd_142_89 := rfl
set_option maxRecDepth 100000 in
theorem at_142_96 : vi_at cd_142 96 = cd_142_96 := rfl
set_option maxRecDepth 100000 in
theorem at_142_108 : vi_at cd_142 108 = cd_142_108 := rfl
set_option maxRecDepth 100000 in
theorem at_142_114 : vi_at cd_142 114 = cd_142_114 := rfl
set_option maxRecDepth 100000 in
theorem at_142_120 : vi_at cd_142 120 = cd_142_120 := rfl
set_option maxRecDepth 100000 in
theorem at_142_122 : vi_at cd_142 122 = cd_142_122 := rfl
set_option maxRecDepth 100000 in
theorem at_142_142 : vi_at cd_142 142 = cd_142_142 := rfl
set_option maxRecDepth 100000 in
theorem at_142_148 : vi_at cd_142 148 = cd_142_148 := rfl
set_option maxRecDepth 100000 in
theorem at_142_150 : vi_at cd_142 150 = cd_142_150 := rfl
set_option maxRecDepth 100000 in
theorem at_142_169 : vi_at cd_142 169 = cd_142_169 := rfl
def cd_143_34 : List vi_E := (34, 1, .aload_n 0, [0]) :: (35, 1, .iload_n 1, [1]) :: (36, 3, .invokevirtual 264, [116, 1, 10, 1239, 1242, 55, 1241, 46]) :: (39, 1, .aload_n 0, [0]) :: (40, 1, .iload_n 1, [1]) :: (41, 3, .invokevirtual 267, [118, 1, 10, 1243, 1246, 55, 1245, 47]) :: (44, 1, .aload_n 0, [0]) :: (45, 1, .iload_n 1, [1]) :: (46, 3, .invokevirtual 256, [152, 1, 10, 1226, 1229, 55, 1228, 44]) :: (49, 1, .ireturn, []) :: []
def cd_143_26 : List vi_E := (26, 3, .invokevirtual 164, [149, 1, 10, 1065, 1068, 55, 1067, 25]) :: (29, 3, .ifCond .eq 5, [34]) :: (32, 1, .iconst 0, [0]) :: (33, 1, .ireturn, []) :: cd_143_34
def cd_143_25 : List vi_E := (25, 1, .iconst 0, [0]) :: cd_143_26
def cd_143_12 : List vi_E := (12, 1, .aload_n 0, [0]) :: (13, 3, .getfield 97, [10, 32, 2, 928]) :: (16, 1, .iload_n 1, [1]) :: (17, 1, .iaload, []) :: (18, 3, .ifCond .ne 7, [25]) :: (21, 1, .iconst 2, [2]) :: (22, 3, .goto 4, [26]) :: cd_143_25
def cd_143_0 : List vi_E := (0, 1, .aload_n 0, [0]) :: (1, 1, .iload_n 1, [1]) :: (2, 3, .invokestatic 247, [126, 1, 1209, 1211, 55, 1210]) :: (5, 3, .ifCond .ne 7, [12]) :: (8, 1, .iconst 1, [1]) :: (9, 3, .goto 17, [26]) :: cd_143_12
def cd_143 : List vi_E := cd_143_0
set_option maxRecDepth 100000 in
theorem ok_143 : vi_okC MT (MT 143) cd_143 = true := by decide +kernel
theorem at_143_0 : vi_at cd_143 0 = cd_143_0 := rfl
set_option maxRecDepth 100000 in
theorem at_143_12 : vi_at cd_143 12 = cd_143_12 := rfl
set_option maxRecDepth 100000 in
theorem at_143_25 : vi_at cd_143 25 = cd_143_25 := rfl
set_option maxRecDepth 100000 in
theorem at_143_26 : vi_at cd_143 26 = cd_143_26 := rfl
set_option maxRecDepth 100000 in
theorem at_143_34 : vi_at cd_143 34 = cd_143_34 := rfl
def cd_144_154 : List vi_E := (154, 1, .aload_n 0, [0]) :: (155, 3, .getfield 100, [10, 33, 2, 929]) :: (158, 1, .iload_n 2, [2]) :: (159, 1, .iaload, []) :: (160, 1, .ireturn, []) :: []
def cd_144_128 : List vi_E := (128, 2, .iload 5, [5]) :: (130, 2, .bipush 6, [6]) :: (132, 3, .if_icmp .ge 22, [154]) :: (135, 1, .aload_n 0, [0]) :: (136, 3, .getfield 109, [10, 36, 2, 932]) :: (139, 2, .bipush 6, [6]) :: (141, 1, .iload_n 2, [2]) :: (142, 1, .imul, []) :: (143, 2, .iload 5, [5]) :: (145, 1, .iadd, []) :: (146, 1, .iconst 0, [0]) :: (147, 1, .iastore, []) :: (148, 3, .iinc 5 1, []) :: (151, 3, .goto (-23), [128]) :: cd_144_154
def cd_144_87 : List vi_E := (87, 1, .aload_n 0, [0]) :: (88, 1, .iload_n 3, [3]) :: (89, 3, .putfield 148, [10, 2, 0, 898]) :: (92, 1, .aload_n 0, [0]) :: (93, 3, .getfield 97, [10, 32, 2, 928]) :: (96, 1, .iload_n 2, [2]) :: (97, 1, .iload_n 1, [1]) :: (98, 1, .iastore, []) :: (99, 1, .aload_n 0, [0]) :: (100, 3, .getfield 67, [10, 22, 2, 918]) :: (103, 1, .iload_n 1, [1]) :: (104, 1, .iload_n 2, [2]) :: (105, 1, .iastore, []) :: (106, 1, .aload_n 0, [0]) :: (107, 3, .getfield 100, [10, 33, 2, 929]) :: (110, 1, .iload_n 2, [2]) :: (111, 1, .aload_n 0, [0]) :: (112, 1, .iload_n 1, [1]) :: (113, 1, .iload_n 3, [3]) :: (114, 3, .invokevirtual 238, [112, 2, 10, 1162, 1165, 55, 1164, 40]) :: (117, 1, .iastore, []) :: (118, 1, .aload_n 0, [0]) :: (119, 3, .getfield 103, [10, 34, 2, 930]) :: (122, 1, .iload_n 2, [2]) :: (123, 1, .iload_n 3, [3]) :: (124, 1, .iastore, []) :: (125, 1, .iconst 0, [0]) :: (126, 2, .istore 5, [5]) :: cd_144_128
def cd_144_79 : List vi_E := (79, 3, .invokevirtual 164, [149, 1, 10, 1065, 1068, 55, 1067, 25]) :: (82, 3, .ifCond .eq 5, [87]) :: (85, 1, .iconst 0, [0]) :: (86, 1, .ireturn, []) :: cd_144_87
def cd_144_78 : List vi_E := (78, 1, .iconst 0, [0]) :: cd_144_79
def cd_144_74 : List vi_E := (74, 1, .iconst 2, [2]) :: (75, 3, .goto 4, [79]) :: cd_144_78
def cd_144_40 : List vi_E := (40, 1, .aload_n 0, [0]) :: (41, 3, .getfield 160, [10, 1, 3, 897]) :: (44, 3, .ifCond .eq 30, [74]) :: (47, 1, .aload_n 0, [0]) :: (48, 3, .getfield 97, [10, 32, 2, 928]) :: (51, 1, .iload_n 2, [2]) :: (52, 1, .iaload, []) :: (53, 3, .ifCond .gt 21, [74]) :: (56, 1, .aload_n 0, [0]) :: (57, 3, .getfield 43, [10, 14, 2, 910]) :: (60, 1, .iload_n 1, [1]) :: (61, 1, .iaload, []) :: (62, 3, .ifCond .ne 12, [74]) :: (65, 1, .aload_n 0, [0]) :: (66, 3, .getfield 67, [10, 22, 2, 918]) :: (69, 1, .iload_n 1, [1]) :: (70, 1, .iaload, []) :: (71, 3, .ifCond .lt 7, [78]) :: cd_144_74
def cd_144_28 : List vi_E := (28, 2, .istore 4, [4]) :: (30, 1, .aload_n 0, [0]) :: (31, 2, .iload 4, [4]) :: (33, 3, .ifCond .ne 7, [40]) :: (36, 1, .iconst 1, [1]) :: (37, 3, .goto 42, [79]) :: cd_144_40
def cd_144_27 : List vi_E := (27, 1, .iconst 0, [0]) :: cd_144_28
def cd_144_0 : List vi_E := (0, 1, .aload_n 0, [0]) :: (1, 1, .iload_n 1, [1]) :: (2, 3, .invokevirtual 235, [130, 1, 10, 1158, 1161, 55, 1160, 39]) :: (5, 3, .ifCond .eq 22, [27]) :: (8, 1, .iload_n 2, [2]) :: (9, 3, .invokestatic 247, [126, 1, 1209, 1211, 55, 1210]) :: (12, 3, .ifCond .eq 15, [27]) :: (15, 1, .aload_n 0, [0]) :: (16, 1, .iload_n 3, [3]) :: (17, 3, .invokevirtual 208, [127, 1, 10, 1126, 1129, 55, 1128, 32]) :: (20, 3, .ifCond .eq 7, [27]) :: (23, 1, .iconst 1, [1]) :: (24, 3, .goto 4, [28]) :: cd_144_27
def cd_144 : List vi_E := cd_144_0
set_option maxRecDepth 100000 in
theorem ok_144 : vi_okC MT (MT 144) cd_144 = true := by decide +kernel
theorem at_144_0 : vi_at cd_144 0 = cd_144_0 := rfl
set_option maxRecDepth 100000 in
theorem at_144_27 : vi_at cd_144 27 = cd_144_27 := rfl
set_option maxRecDepth 100000 in
theorem at_144_28 : vi_at cd_144 28 = cd_144_28 := rfl
set_option maxRecDepth 100000 in
theorem at_144_40 : vi_at cd_144 40 = cd_144_40 := rfl
set_option maxRecDepth 100000 in
theorem at_144_74 : vi_at cd_144 74 = cd_144_74 := rfl
set_option maxRecDepth 100000 in
theorem at_144_78 : vi_at cd_144 78 = cd_144_78 := rfl
set_option maxRecDepth 100000 in
theorem at_144_79 : vi_at cd_144 79 = cd_144_79 := rfl
set_option maxRecDepth 100000 in
theorem at_144_87 : vi_at cd_144 87 = cd_144_87 := rfl
set_option maxRecDepth 100000 in
theorem at_144_128 : vi_at cd_144 128 = cd_144_128 := rfl
set_option maxRecDepth 100000 in
theorem at_144_154 : vi_at cd_144 154 = cd_144_154 := rfl
def cd_145_215 : List vi_E := (215, 1, .iload_n 2, [2]) :: (216, 1, .ireturn, []) :: []
def cd_145_117 : List vi_E := (117, 1, .aload_n 0, [0]) :: (118, 1, .iload_n 1, [1]) :: (119, 1, .iload_n 2, [2]) :: (120, 1, .iconst 5, [5]) :: (121, 1, .idiv, []) :: (122, 3, .invokevirtual 270, [117, 2, 10, 1247, 1250, 55, 1249, 48]) :: (125, 1, .aload_n 0, [0]) :: (126, 3, .getfield 100, [10, 33, 2, 929]) :: (129, 1, .iload_n 1, [1]) :: (130, 1, .iaload, []) :: (131, 3, .ifCond .le 84, [215]) :: (134, 1, .aload_n 0, [0]) :: (135, 3, .getfield 61, [10, 20, 2, 916]) :: (138, 1, .iload_n 3, [3]) :: (139, 1, .aload_n 0, [0]) :: (140, 3, .getfield 61, [10, 20, 2, 916]) :: (143, 1, .iload_n 3, [3]) :: (144, 1, .iaload, []) :: (145, 1, .aload_n 0, [0]) :: (146, 3, .getfield 100, [10, 33, 2, 929]) :: (149, 1, .iload_n 1, [1]) :: (150, 1, .iaload, []) :: (151, 1, .iadd, []) :: (152, 1, .iastore, []) :: (153, 1, .aload_n 0, [0]) :: (154, 3, .getfield 64, [10, 21, 2, 917]) :: (157, 1, .iload_n 3, [3]) :: (158, 1, .aload_n 0, [0]) :: (159, 3, .getfield 103, [10, 34, 2, 930]) :: (162, 1, .iload_n 1, [1]) :: (163, 1, .iaload, []) :: (164, 1, .iastore, []) :: (165, 1, .aload_n 0, [0]) :: (166, 3, .getfield 115, [10, 39, 2, 935]) :: (169, 1, .aload_n 0, [0]) :: (170, 3, .getfield 273, [10, 38, 0, 934]) :: (173, 1, .iload_n 3, [3]) :: (174, 1, .iastore, []) :: (175, 1, .aload_n 0, [0]) :: (176, 3, .getfield 118, [10, 40, 2, 936]) :: (179, 1, .aload_n 0, [0]) :: (180, 3, .getfield 273, [10, 38, 0, 934]) :: (183, 1, .aload_n 0, [0]) :: (184, 3, .getfield 103, [10, 34, 2, 930]) :: (187, 1, .iload_n 1, [1]) :: (188, 1, .iaload, []) :: (189, 1, .iastore, []) :: (190, 1, .aload_n 0, [0]) :: (191, 3, .getfield 121, [10, 41, 2, 937]) :: (194, 1, .aload_n 0, [0]) :: (195, 3, .getfield 273, [10, 38, 0, 934]) :: (198, 1, .aload_n 0, [0]) :: (199, 3, .getfield 100, [10, 33, 2, 929]) :: (202, 1, .iload_n 1, [1]) :: (203, 1, .iaload, []) :: (204, 1, .iastore, []) :: (205, 1, .aload_n 0, [0]) :: (206, 1, .dup, []) :: (207, 3, .getfield 273, [10, 38, 0, 934]) :: (210, 1, .iconst 1, [1]) :: (211, 1, .iadd, []) :: (212, 3, .putfield 273, [10, 38, 0, 934]) :: cd_145_215
def cd_145_100 : List vi_E := (100, 1, .aload_n 0, [0]) :: (101, 1, .iload_n 1, [1]) :: (102, 3, .invokevirtual 264, [116, 1, 10, 1239, 1242, 55, 1241, 46]) :: (105, 2, .iload 4, [4]) :: (107, 3, .ifCond .ne 10, [117]) :: (110, 1, .aload_n 0, [0]) :: (111, 1, .iload_n 1, [1]) :: (112, 3, .invokevirtual 267, [118, 1, 10, 1243, 1246, 55, 1245, 47]) :: (115, 1, .iconst (-1), []) :: (116, 1, .ireturn, []) :: cd_145_117
def cd_145_98 : List vi_E := (98, 2, .istore 4, [4]) :: cd_145_100
def cd_145_97 : List vi_E := (97, 1, .iconst 0, [0]) :: cd_145_98
def cd_145_63 : List vi_E := (63, 2, .istore 4, [4]) :: (65, 2, .iload 4, [4]) :: (67, 3, .ifCond .eq 33, [100]) :: (70, 1, .aload_n 0, [0]) :: (71, 1, .iload_n 1, [1]) :: (72, 1, .iload_n 2, [2]) :: (73, 1, .iconst 5, [5]) :: (74, 1, .idiv, []) :: (75, 3, .invokevirtual 259, [114, 2, 10, 1234, 1237, 55, 1236, 45]) :: (78, 1, .aload_n 0, [0]) :: (79, 3, .getfield 137, [10, 50, 2, 946]) :: (82, 3, .ldc_w 263, [48006, 1238]) :: (85, 1, .iload_n 2, [2]) :: (86, 1, .iconst 5, [5]) :: (87, 1, .idiv, []) :: (88, 1, .iadd, []) :: (89, 1, .iaload, []) :: (90, 3, .ifCond .lt 7, [97]) :: (93, 1, .iconst 1, [1]) :: (94, 3, .goto 4, [98]) :: cd_145_97
def cd_145_62 : List vi_E := (62, 1, .iconst 0, [0]) :: cd_145_63
def cd_145_34 : List vi_E := (34, 1, .aload_n 0, [0]) :: (35, 1, .iload_n 1, [1]) :: (36, 3, .invokevirtual 256, [152, 1, 10, 1226, 1229, 55, 1228, 44]) :: (39, 1, .aload_n 0, [0]) :: (40, 3, .getfield 100, [10, 33, 2, 929]) :: (43, 1, .iload_n 1, [1]) :: (44, 1, .iaload, []) :: (45, 1, .isub, []) :: (46, 1, .istore_n 2, [2]) :: (47, 1, .aload_n 0, [0]) :: (48, 3, .getfield 97, [10, 32, 2, 928]) :: (51, 1, .iload_n 1, [1]) :: (52, 1, .iaload, []) :: (53, 1, .istore_n 3, [3]) :: (54, 1, .iload_n 2, [2]) :: (55, 3, .ifCond .lt 7, [62]) :: (58, 1, .iconst 1, [1]) :: (59, 3, .goto 4, [63]) :: cd_145_62
def cd_145_26 : List vi_E := (26, 3, .invokevirtual 164, [149, 1, 10, 1065, 1068, 55, 1067, 25]) :: (29, 3, .ifCond .eq 5, [34]) :: (32, 1, .iconst 0, [0]) :: (33, 1, .ireturn, []) :: cd_145_34
def cd_145_25 : List vi_E := (25, 1, .iconst 0, [0]) :: cd_145_26
def cd_145_12 : List vi_E := (12, 1, .aload_n 0, [0]) :: (13, 3, .getfield 97, [10, 32, 2, 928]) :: (16, 1, .iload_n 1, [1]) :: (17, 1, .iaload, []) :: (18, 3, .ifCond .ne 7, [25]) :: (21, 1, .iconst 2, [2]) :: (22, 3, .goto 4, [26]) :: cd_145_25
def cd_145_0 : List vi_E := (0, 1, .aload_n 0, [0]) :: (1, 1, .iload_n 1, [1]) :: (2, 3, .invokestatic 247, [126, 1, 1209, 1211, 55, 1210]) :: (5, 3, .ifCond .ne 7, [12]) :: (8, 1, .iconst 1, [1]) :: (9, 3, .goto 17, [26]) :: cd_145_12
def cd_145 : List vi_E := cd_145_0
set_option maxRecDepth 100000 in
theorem ok_145 : vi_okC MT (MT 145) cd_145 = true := by decide +kernel
theorem at_145_0 : vi_at cd_145 0 = cd_145_0 := rfl
set_option maxRecDepth 100000 in
theorem at_145_12 : vi_at cd_145 12 = cd_145_12 := rfl
set_option maxRecDepth 100000 in
theorem at_145_25 : vi_at cd_145 25 = cd_145_25 := rfl
set_option maxRecDepth 100000 in
theorem at_145_26 : vi_at cd_145 26 = cd_145_26 := rfl
set_option maxRecDepth 100000 in
theorem at_145_34 : vi_at cd_145 34 = cd_145_34 := rfl
set_option maxRecDepth 100000 in
theorem at_145_62 : vi_at cd_145 62 = cd_145_62 := rfl
set_option maxRecDepth 100000 in
theorem at_145_63 : vi_at cd_145 63 = cd_145_63 := rfl
set_option maxRecDepth 100000 in
theorem at_145_97 : vi_at cd_145 97 = cd_145_97 := rfl
set_option maxRecDepth 100000 in
theorem at_145_98 : vi_at cd_145 98 = cd_145_98 := rfl
set_option maxRecDepth 100000 in
theorem at_145_100 : vi_at cd_145 100 = cd_145_100 := rfl
set_option maxRecDepth 100000 in
theorem at_145_117 : vi_at cd_145 117 = cd_145_117 := rfl
set_option maxRecDepth 100000 in
theorem at_145_215 : vi_at cd_145 215 = cd_145_215 := rfl
def cd_146_47 : List vi_E := (47, 1, .return_, []) :: []
def cd_146_34 : List vi_E := (34, 3, .invokevirtual 164, [149, 1, 10, 1065, 1068, 55, 1067, 25]) :: (37, 3, .ifCond .ne 10, [47]) :: (40, 1, .aload_n 0, [0]) :: (41, 3, .getfield 7, [10, 3, 2, 899]) :: (44, 1, .iload_n 1, [1]) :: (45, 1, .iload_n 2, [2]) :: (46, 1, .iastore, []) :: cd_146_47
def cd_146_33 : List vi_E := (33, 1, .iconst 0, [0]) :: cd_146_34
def cd_146_22 : List vi_E := (22, 1, .aload_n 0, [0]) :: (23, 3, .getfield 160, [10, 1, 3, 897]) :: (26, 3, .ifCond .eq 7, [33]) :: (29, 1, .iconst 2, [2]) :: (30, 3, .goto 4, [34]) :: cd_146_33
def cd_146_18 : List vi_E := (18, 1, .iconst 1, [1]) :: (19, 3, .goto 15, [34]) :: cd_146_22
def cd_146_0 : List vi_E := (0, 1, .aload_n 0, [0]) :: (1, 1, .iload_n 1, [1]) :: (2, 3, .invokestatic 156, [132, 1, 1059, 1061, 55, 1060]) :: (5, 3, .ifCond .eq 13, [18]) :: (8, 1, .iload_n 2, [2]) :: (9, 1, .iconst 1, [1]) :: (10, 2, .bipush 40, [40]) :: (12, 3, .invokestatic 144, [125, 3, 1062, 1064, 55, 1063]) :: (15, 3, .ifCond .ne 7, [22]) :: cd_146_18
def cd_146 : List vi_E := cd_146_0
set_option maxRecDepth 100000 in
theorem ok_146 : vi_okC MT (MT 146) cd_146 = true := by decide +kernel
theorem at_146_0 : vi_at cd_146 0 = cd_146_0 := rfl
set_option maxRecDepth 100000 in
theorem at_146_18 : vi_at cd_146 18 = cd_146_18 := rfl
set_option maxRecDepth 100000 in
theorem at_146_22 : vi_at cd_146 22 = cd_146_22 := rfl
set_option maxRecDepth 100000 in
theorem at_146_33 : vi_at cd_146 33 = cd_146_33 := rfl
set_option maxRecDepth 100000 in
theorem at_146_34 : vi_at cd_146 34 = cd_146_34 := rfl
set_option maxRecDepth 100000 in
theorem at_146_47 : vi_at cd_146 47 = cd_146_47 := rfl
def cd_147_109 : List vi_E := (109, 1, .aload_n 0, [0]) :: (110, 3, .getfield 82, [10, 27, 2, 923]) :: (113, 2, .bipush 12, [12]) :: (115, 1, .iload_n 1, [1]) :: (116, 1, .imul, []) :: (117, 1, .aload_n 0, [0]) :: (118, 3, .getfield 79, [10, 26, 2, 922]) :: (121, 1, .iload_n 1, [1]) :: (122, 1, .iaload, []) :: (123, 1, .iadd, []) :: (124, 1, .iload_n 2, [2]) :: (125, 1, .iastore, []) :: (126, 1, .aload_n 0, [0]) :: (127, 3, .getfield 79, [10, 26, 2, 922]) :: (130, 1, .iload_n 1, [1]) :: (131, 1, .dup2, []) :: (132, 1, .iaload, []) :: (133, 1, .iconst 1, [1]) :: (134, 1, .iadd, []) :: (135, 1, .iastore, []) :: (136, 1, .return_, []) :: []
def cd_147_108 : List vi_E := (108, 1, .return_, []) :: cd_147_109
def cd_147_96 : List vi_E := (96, 3, .invokevirtual 164, [149, 1, 10, 1065, 1068, 55, 1067, 25]) :: (99, 3, .ifCond .ne 9, [108]) :: (102, 2, .iload 4, [4]) :: (104, 1, .iload_n 1, [1]) :: (105, 3, .if_icmp .ne 4, [109]) :: cd_147_108
def cd_147_95 : List vi_E := (95, 1, .iconst 0, [0]) :: cd_147_96
def cd_147_86 : List vi_E := (86, 2, .iload 5, [5]) :: (88, 3, .ifCond .ne 7, [95]) :: (91, 1, .iconst 2, [2]) :: (92, 3, .goto 4, [96]) :: cd_147_95
def cd_147_75 : List vi_E := (75, 2, .istore 5, [5]) :: (77, 1, .aload_n 0, [0]) :: (78, 1, .iload_n 3, [3]) :: (79, 3, .ifCond .ne 7, [86]) :: (82, 1, .iconst 1, [1]) :: (83, 3, .goto 13, [96]) :: cd_147_86
def cd_147_74 : List vi_E := (74, 1, .iconst 0, [0]) :: cd_147_75
def cd_147_70 : List vi_E := (70, 1, .iconst 1, [1]) :: (71, 3, .goto 4, [75]) :: cd_147_74
def cd_147_33 : List vi_E := (33, 2, .istore 4, [4]) :: (35, 1, .iload_n 3, [3]) :: (36, 3, .ifCond .eq 38, [74]) :: (39, 1, .aload_n 0, [0]) :: (40, 3, .getfield 70, [10, 23, 2, 919]) :: (43, 1, .iload_n 1, [1]) :: (44, 1, .baload, []) :: (45, 3, .ifCond .eq 29, [74]) :: (48, 2, .iload 4, [4]) :: (50, 1, .iload_n 1, [1]) :: (51, 3, .if_icmp .eq 19, [70]) :: (54, 2, .iload 4, [4]) :: (56, 3, .ifCond .ge 18, [74]) :: (59, 1, .aload_n 0, [0]) :: (60, 3, .getfield 79, [10, 26, 2, 922]) :: (63, 1, .iload_n 1, [1]) :: (64, 1, .iaload, []) :: (65, 2, .bipush 12, [12]) :: (67, 3, .if_icmp .ge 7, [74]) :: cd_147_70
def cd_147_32 : List vi_E := (32, 1, .iconst (-1), []) :: cd_147_33
def cd_147_19 : List vi_E := (19, 1, .istore_n 3, [3]) :: (20, 1, .iload_n 3, [3]) :: (21, 3, .ifCond .eq 11, [32]) :: (24, 1, .aload_n 0, [0]) :: (25, 1, .iload_n 2, [2]) :: (26, 3, .invokevirtual 221, [107, 1, 10, 1142, 1145, 55, 1144, 36]) :: (29, 3, .goto 4, [33]) :: cd_147_32
def cd_147_18 : List vi_E := (18, 1, .iconst 0, [0]) :: cd_147_19
def cd_147_0 : List vi_E := (0, 1, .iload_n 1, [1]) :: (1, 3, .invokestatic 241, [124, 1, 1182, 1184, 55, 1183]) :: (4, 3, .ifCond .eq 14, [18]) :: (7, 1, .iload_n 2, [2]) :: (8, 3, .invokestatic 205, [128, 1, 1122, 1124, 55, 1123]) :: (11, 3, .ifCond .eq 7, [18]) :: (14, 1, .iconst 1, [1]) :: (15, 3, .goto 4, [19]) :: cd_147_18
def cd_147 : List vi_E := cd_147_0
set_option maxRecDepth 100000 in
theorem ok_147 : vi_okC MT (MT 147) cd_147 = true := by decide +kernel
theorem at_147_0 : vi_at cd_147 0 = cd_147_0 := rfl
set_option maxRecDepth 100000 in
theorem at_147_18 : vi_at cd_147 18 = cd_147_18 := rfl
set_option maxRecDepth 100000 in
theorem at_147_19 : vi_at cd_147 19 = cd_147_19 := rfl
set_option maxRecDepth 100000 in
theorem at_147_32 : vi_at cd_147 32 = cd_147_32 := rfl
set_option maxRecDepth 100000 in
theorem at_147_33 : vi_at cd_147 33 = cd_147_33 := rfl
set_option maxRecDepth 100000 in
theorem at_147_70 : vi_at cd_147 70 = cd_147_70 := rfl
set_option maxRecDepth 100000 in
theorem at_147_74 : vi_at cd_147 74 = cd_147_74 := rfl
set_option maxRecDepth 100000 in
theorem at_147_75 : vi_at cd_147 75 = cd_147_75 := rfl
set_option maxRecDepth 100000 in
theorem at_147_86 : vi_at cd_147 86 = cd_147_86 := rfl
set_option maxRecDepth 100000 in
theorem at_147_95 : vi_at cd_147 95 = cd_147_95 := rfl
set_option maxRecDepth 100000 in
theorem at_147_96 : vi_at cd_147 96 = cd_147_96 := rfl
set_option maxRecDepth 100000 in
theorem at_147_108 : vi_at cd_147 108 = cd_147_108 := rfl
set_option maxRecDepth 100000 in
theorem at_147_109 : vi_at cd_147 109 = cd_147_109 := rfl
def cd_148_83 : List vi_E := (83, 1, .aload_n 0, [0]) :: (84, 3, .getfield 16, [10, 5, 2, 901]) :: (87, 1, .iload_n 1, [1]) :: (88, 1, .iconst 1, [1]) :: (89, 1, .bastore, []) :: (90, 1, .aload_n 0, [0]) :: (91, 3, .getfield 20, [10, 6, 2, 902]) :: (94, 1, .iload_n 1, [1]) :: (95, 1, .iload_n 2, [2]) :: (96, 1, .iastore, []) :: (97, 1, .aload_n 0, [0]) :: (98, 3, .getfield 23, [10, 7, 2, 903]) :: (101, 1, .iload_n 1, [1]) :: (102, 1, .iload_n 3, [3]) :: (103, 1, .iastore, []) :: (104, 1, .aload_n 0, [0]) :: (105, 3, .getfield 26, [10, 8, 2, 904]) :: (108, 1, .iload_n 1, [1]) :: (109, 2, .iload 4, [4]) :: (111, 1, .iastore, []) :: (112, 1, .aload_n 0, [0]) :: (113, 3, .getfield 29, [10, 9, 2, 905]) :: (116, 1, .iload_n 1, [1]) :: (117, 1, .iconst 0, [0]) :: (118, 1, .iastore, []) :: (119, 1, .aload_n 0, [0]) :: (120, 3, .getfield 32, [10, 10, 2, 906]) :: (123, 1, .iload_n 1, [1]) :: (124, 3, .sipush 168, [168]) :: (127, 1, .iastore, []) :: (128, 1, .return_, []) :: []
def cd_148_76 : List vi_E := (76, 3, .invokevirtual 164, [149, 1, 10, 1065, 1068, 55, 1067, 25]) :: (79, 3, .ifCond .eq 4, [83]) :: (82, 1, .return_, []) :: cd_148_83
def cd_148_75 : List vi_E := (75, 1, .iconst 0, [0]) :: cd_148_76
def cd_148_64 : List vi_E := (64, 1, .aload_n 0, [0]) :: (65, 3, .getfield 160, [10, 1, 3, 897]) :: (68, 3, .ifCond .eq 7, [75]) :: (71, 1, .iconst 2, [2]) :: (72, 3, .goto 4, [76]) :: cd_148_75
def cd_148_52 : List vi_E := (52, 2, .istore 5, [5]) :: (54, 1, .aload_n 0, [0]) :: (55, 2, .iload 5, [5]) :: (57, 3, .ifCond .ne 7, [64]) :: (60, 1, .iconst 1, [1]) :: (61, 3, .goto 15, [76]) :: cd_148_64
def cd_148_51 : List vi_E := (51, 1, .iconst 0, [0]) :: cd_148_52
def cd_148_0 : List vi_E := (0, 1, .iload_n 1, [1]) :: (1, 1, .iconst 0, [0]) :: (2, 2, .bipush 23, [23]) :: (4, 3, .invokestatic 144, [125, 3, 1062, 1064, 55, 1063]) :: (7, 3, .ifCond .eq 44, [51]) :: (10, 1, .iload_n 2, [2]) :: (11, 1, .iconst 0, [0]) :: (12, 3, .sipush 20000, [20000]) :: (15, 3, .invokestatic 144, [125, 3, 1062, 1064, 55, 1063]) :: (18, 3, .ifCond .eq 33, [51]) :: (21, 1, .iload_n 2, [2]) :: (22, 1, .iconst 5, [5]) :: (23, 1, .irem, []) :: (24, 3, .ifCond .ne 27, [51]) :: (27, 1, .iload_n 3, [3]) :: (28, 2, .bipush 15, [15]) :: (30, 3, .sipush 4320, [4320]) :: (33, 3, .invokestatic 144, [125, 3, 1062, 1064, 55, 1063]) :: (36, 3, .ifCond .eq 15, [51]) :: (39, 2, .iload 4, [4]) :: (41, 3, .invokestatic 156, [132, 1, 1059, 1061, 55, 1060]) :: (44, 3, .ifCond .eq 7, [51]) :: (47, 1, .iconst 1, [1]) :: (48, 3, .goto 4, [52]) :: cd_148_51
def cd_148 : List vi_E := cd_148_0
set_option maxRecDepth 100000 in
theorem ok_148 : vi_okC MT (MT 148) cd_148 = true := by decide +kernel
theorem at_148_0 : vi_at cd_148 0 = cd_148_0 := rfl
set_option maxRecDepth 100000 in
theorem at_148_51 : vi_at cd_148 51 = cd_148_51 := rfl
set_option maxRecDepth 100000 in
theorem at_148_52 : vi_at cd_148 52 = cd_148_52 := rfl
set_option maxRecDepth 100000 in
theorem at_148_64 : vi_at cd_148 64 = cd_148_64 := rfl
set_option maxRecDepth 100000 in
theorem at_148_75 : vi_at cd_148 75 = cd_148_75 := rfl
set_option maxRecDepth 100000 in
theorem at_148_76 : vi_at cd_148 76 = cd_148_76 := rfl
set_option maxRecDepth 100000 in
theorem at_148_83 : vi_at cd_148 83 = cd_148_83 := rfl
def cd_149_14 : List vi_E := (14, 1, .ireturn, []) :: []
def cd_149_13 : List vi_E := (13, 1, .iconst 0, [0]) :: cd_149_14
def cd_149_0 : List vi_E := (0, 1, .aload_n 0, [0]) :: (1, 1, .iload_n 1, [1]) :: (2, 3, .putfield 140, [10, 0, 0, 896]) :: (5, 1, .iload_n 1, [1]) :: (6, 3, .ifCond .le 7, [13]) :: (9, 1, .iconst 1, [1]) :: (10, 3, .goto 4, [14]) :: cd_149_13
def cd_149 : List vi_E := cd_149_0
set_option maxRecDepth 100000 in
theorem ok_149 : vi_okC MT (MT 149) cd_149 = true := by decide +kernel
theorem at_149_0 : vi_at cd_149 0 = cd_149_0 := rfl
set_option maxRecDepth 100000 in
theorem at_149_13 : vi_at cd_149 13 = cd_149_13 := rfl
set_option maxRecDepth 100000 in
theorem at_149_14 : vi_at cd_149 14 = cd_149_14 := rfl
def cd_150_140 : List vi_E := (140, 1, .bastore, []) :: (141, 1, .aload_n 0, [0]) :: (142, 3, .getfield 85, [10, 28, 2, 924]) :: (145, 1, .iload_n 1, [1]) :: (146, 1, .baload, []) :: (147, 1, .ireturn, []) :: []
def cd_150_139 : List vi_E := (139, 1, .iconst 0, [0]) :: cd_150_140
def cd_150_93 : List vi_E := (93, 1, .aload_n 0, [0]) :: (94, 3, .getfield 85, [10, 28, 2, 924]) :: (97, 1, .iload_n 1, [1]) :: (98, 1, .iconst 1, [1]) :: (99, 1, .bastore, []) :: (100, 1, .aload_n 0, [0]) :: (101, 3, .getfield 88, [10, 29, 2, 925]) :: (104, 1, .iload_n 1, [1]) :: (105, 1, .iload_n 2, [2]) :: (106, 1, .iastore, []) :: (107, 1, .aload_n 0, [0]) :: (108, 3, .getfield 91, [10, 30, 2, 926]) :: (111, 1, .iload_n 1, [1]) :: (112, 1, .iload_n 3, [3]) :: (113, 1, .iastore, []) :: (114, 1, .aload_n 0, [0]) :: (115, 3, .getfield 94, [10, 31, 2, 927]) :: (118, 1, .iload_n 1, [1]) :: (119, 2, .iload 4, [4]) :: (121, 1, .iastore, []) :: (122, 1, .aload_n 0, [0]) :: (123, 3, .getfield 85, [10, 28, 2, 924]) :: (126, 1, .iload_n 1, [1]) :: (127, 1, .aload_n 0, [0]) :: (128, 1, .iload_n 2, [2]) :: (129, 3, .invokevirtual 244, [131, 1, 10, 1197, 1200, 55, 1199, 42]) :: (132, 3, .ifCond .ne 7, [139]) :: (135, 1, .iconst 1, [1]) :: (136, 3, .goto 4, [140]) :: cd_150_139
def cd_150_85 : List vi_E := (85, 3, .invokevirtual 164, [149, 1, 10, 1065, 1068, 55, 1067, 25]) :: (88, 3, .ifCond .eq 5, [93]) :: (91, 1, .iconst 0, [0]) :: (92, 1, .ireturn, []) :: cd_150_93
def cd_150_84 : List vi_E := (84, 1, .iconst 0, [0]) :: cd_150_85
def cd_150_80 : List vi_E := (80, 1, .iconst 2, [2]) :: (81, 3, .goto 4, [85]) :: cd_150_84
def cd_150_64 : List vi_E := (64, 1, .aload_n 0, [0]) :: (65, 3, .getfield 160, [10, 1, 3, 897]) :: (68, 3, .ifCond .eq 12, [80]) :: (71, 1, .aload_n 0, [0]) :: (72, 3, .getfield 85, [10, 28, 2, 924]) :: (75, 1, .iload_n 1, [1]) :: (76, 1, .baload, []) :: (77, 3, .ifCond .eq 7, [84]) :: cd_150_80
def cd_150_52 : List vi_E := (52, 2, .istore 5, [5]) :: (54, 1, .aload_n 0, [0]) :: (55, 2, .iload 5, [5]) :: (57, 3, .ifCond .ne 7, [64]) :: (60, 1, .iconst 1, [1]) :: (61, 3, .goto 24, [85]) :: cd_150_64
def cd_150_51 : List vi_E := (51, 1, .iconst 0, [0]) :: cd_150_52
def cd_150_0 : List vi_E := (0, 1, .iload_n 1, [1]) :: (1, 1, .iconst 0, [0]) :: (2, 2, .bipush 29, [29]) :: (4, 3, .invokestatic 144, [125, 3, 1062, 1064, 55, 1063]) :: (7, 3, .ifCond .eq 44, [51]) :: (10, 1, .iload_n 2, [2]) :: (11, 3, .invokestatic 156, [132, 1, 1059, 1061, 55, 1060]) :: (14, 3, .ifCond .eq 37, [51]) :: (17, 1, .iload_n 3, [3]) :: (18, 1, .aload_n 0, [0]) :: (19, 3, .getfield 148, [10, 2, 0, 898]) :: (22, 2, .ldc 151, [200000, 1101]) :: (24, 3, .invokestatic 144, [125, 3, 1062, 1064, 55, 1063]) :: (27, 3, .ifCond .eq 24, [51]) :: (30, 2, .iload 4, [4]) :: (32, 1, .iconst 0, [0]) :: (33, 2, .ldc 151, [200000, 1101]) :: (35, 3, .invokestatic 144, [125, 3, 1062, 1064, 55, 1063]) :: (38, 3, .ifCond .eq 13, [51]) :: (41, 1, .iload_n 3, [3]) :: (42, 2, .iload 4, [4]) :: (44, 3, .if_icmp .ge 7, [51]) :: (47, 1, .iconst 1, [1]) :: (48, 3, .goto 4, [52]) :: cd_150_51
def cd_150 : List vi_E := cd_150_0
set_option maxRecDepth 100000 in
theorem ok_150 : vi_okC MT (MT 150) cd_150 = true := by decide +kernel
theorem at_150_0 : vi_at cd_150 0 = cd_150_0 := rfl
set_option maxRecDepth 100000 in
theorem at_150_51 : vi_at cd_150 51 = cd_150_51 := rfl
set_option maxRecDepth 100000 in
theorem at_150_52 : vi_at cd_150 52 = cd_150_52 := rfl
set_option maxRecDepth 100000 in
theorem at_150_64 : vi_at cd_150 64 = cd_150_64 := rfl
set_option maxRecDepth 100000 in
theorem at_150_80 : vi_at cd_150 80 = cd_150_80 := rfl
set_option maxRecDepth 100000 in
theorem at_150_84 : vi_at cd_150 84 = cd_150_84 := rfl
set_option maxRecDepth 100000 in
theorem at_150_85 : vi_at cd_150 85 = cd_150_85 := rfl
set_option maxRecDepth 100000 in
theorem at_150_93 : vi_at cd_150 93 = cd_150_93 := rfl
set_option maxRecDepth 100000 in
theorem at_150_139 : vi_at cd_150 139 = cd_150_139 := rfl
set_option maxRecDepth 100000 in
theorem at_150_140 : vi_at cd_150 140 = cd_150_140 := rfl
def cd_151_81 : List vi_E := (81, 1, .iload_n 3, [3]) :: (82, 1, .ireturn, []) :: []
def cd_151_74 : List vi_E := (74, 1, .istore_n 3, [3]) :: (75, 3, .iinc 4 1, []) :: (78, 3, .goto (-73), [5]) :: cd_151_81
def cd_151_73 : List vi_E := (73, 1, .iload_n 3, [3]) :: cd_151_74
def cd_151_60 : List vi_E := (60, 2, .istore 5, [5]) :: (62, 2, .iload 5, [5]) :: (64, 3, .ifCond .eq 9, [73]) :: (67, 1, .iload_n 3, [3]) :: (68, 1, .iconst 1, [1]) :: (69, 1, .iadd, []) :: (70, 3, .goto 4, [74]) :: cd_151_73
def cd_151_59 : List vi_E := (59, 1, .iconst 0, [0]) :: cd_151_60
def cd_151_5 : List vi_E := (5, 2, .iload 4, [4]) :: (7, 2, .bipush 30, [30]) :: (9, 3, .if_icmp .ge 72, [81]) :: (12, 1, .aload_n 0, [0]) :: (13, 3, .getfield 85, [10, 28, 2, 924]) :: (16, 2, .iload 4, [4]) :: (18, 1, .baload, []) :: (19, 3, .ifCond .eq 40, [59]) :: (22, 1, .aload_n 0, [0]) :: (23, 3, .getfield 88, [10, 29, 2, 925]) :: (26, 2, .iload 4, [4]) :: (28, 1, .iaload, []) :: (29, 1, .iload_n 1, [1]) :: (30, 3, .if_icmp .ne 29, [59]) :: (33, 1, .aload_n 0, [0]) :: (34, 3, .getfield 91, [10, 30, 2, 926]) :: (37, 2, .iload 4, [4]) :: (39, 1, .iaload, []) :: (40, 1, .iload_n 2, [2]) :: (41, 3, .if_icmp .gt 18, [59]) :: (44, 1, .iload_n 2, [2]) :: (45, 1, .aload_n 0, [0]) :: (46, 3, .getfield 94, [10, 31, 2, 927]) :: (49, 2, .iload 4, [4]) :: (51, 1, .iaload, []) :: (52, 3, .if_icmp .ge 7, [59]) :: (55, 1, .iconst 1, [1]) :: (56, 3, .goto 4, [60]) :: cd_151_59
def cd_151_0 : List vi_E := (0, 1, .iconst 0, [0]) :: (1, 1, .istore_n 3, [3]) :: (2, 1, .iconst 0, [0]) :: (3, 2, .istore 4, [4]) :: cd_151_5
def cd_151 : List vi_E := cd_151_0
set_option maxRecDepth 100000 in
theorem ok_151 : vi_okC MT (MT 151) cd_151 = true := by decide +kernel
theorem at_151_0 : vi_at cd_151 0 = cd_151_0 := rfl
set_option maxRecDepth 100000 in
theorem at_151_5 : vi_at cd_151 5 = cd_151_5 := rfl
set_option maxRecDepth 100000 in
theorem at_151_59 : vi_at cd_151 59 = cd_151_59 := rfl
set_option maxRecDepth 100000 in
theorem at_151_60 : vi_at cd_151 60 = cd_151_60 := rfl
set_option maxRecDepth 100000 in
theorem at_151_73 : vi_at cd_151 73 = cd_151_73 := rfl
set_option maxRecDepth 100000 in
theorem at_151_74 : vi_at cd_151 74 = cd_151_74 := rfl
set_option maxRecDepth 100000 in
theorem at_151_81 : vi_at cd_151 81 = cd_151_81 := rfl
def cd_152_35 : List vi_E := (35, 1, .iload_n 2, [2]) :: (36, 1, .ireturn, []) :: []
def cd_152_4 : List vi_E := (4, 1, .iload_n 3, [3]) :: (5, 2, .bipush 6, [6]) :: (7, 3, .if_icmp .ge 28, [35]) :: (10, 1, .iload_n 2, [2]) :: (11, 1, .iload_n 3, [3]) :: (12, 3, .invokestatic 152, [104, 1, 1219, 1221, 55, 1220]) :: (15, 1, .aload_n 0, [0]) :: (16, 3, .getfield 109, [10, 36, 2, 932]) :: (19, 2, .bipush 6, [6]) :: (21, 1, .iload_n 1, [1]) :: (22, 1, .imul, []) :: (23, 1, .iload_n 3, [3]) :: (24, 1, .iadd, []) :: (25, 1, .iaload, []) :: (26, 1, .imul, []) :: (27, 1, .iadd, []) :: (28, 1, .istore_n 2, [2]) :: (29, 3, .iinc 3 1, []) :: (32, 3, .goto (-28), [4]) :: cd_152_35
def cd_152_0 : List vi_E := (0, 1, .iconst 0, [0]) :: (1, 1, .istore_n 2, [2]) :: (2, 1, .iconst 0, [0]) :: (3, 1, .istore_n 3, [3]) :: cd_152_4
def cd_152 : List vi_E := cd_152_0
set_option maxRecDepth 100000 in
theorem ok_152 : vi_okC MT (MT 152) cd_152 = true := by decide +kernel
theorem at_152_0 : vi_at cd_152 0 = cd_152_0 := rfl
set_option maxRecDepth 100000 in
theorem at_152_4 : vi_at cd_152 4 = cd_152_4 := rfl
set_option maxRecDepth 100000 in
theorem at_152_35 : vi_at cd_152 35 = cd_152_35 := rfl
def cd_153_97 : List vi_E := (97, 2, .iload 4, [4]) :: (99, 1, .ireturn, []) :: []
def cd_153_89 : List vi_E := (89, 2, .istore 4, [4]) :: (91, 3, .iinc 5 1, []) :: (94, 3, .goto (-44), [50]) :: cd_153_97
def cd_153_87 : List vi_E := (87, 2, .iload 4, [4]) :: cd_153_89
def cd_153_50 : List vi_E := (50, 2, .iload 5, [5]) :: (52, 1, .aload_n 0, [0]) :: (53, 3, .getfield 273, [10, 38, 0, 934]) :: (56, 3, .if_icmp .ge 41, [97]) :: (59, 1, .aload_n 0, [0]) :: (60, 3, .getfield 118, [10, 40, 2, 936]) :: (63, 2, .iload 5, [5]) :: (65, 1, .iaload, []) :: (66, 1, .iload_n 1, [1]) :: (67, 1, .iload_n 2, [2]) :: (68, 3, .invokestatic 144, [125, 3, 1062, 1064, 55, 1063]) :: (71, 3, .ifCond .eq 16, [87]) :: (74, 2, .iload 4, [4]) :: (76, 1, .aload_n 0, [0]) :: (77, 3, .getfield 121, [10, 41, 2, 937]) :: (80, 2, .iload 5, [5]) :: (82, 1, .iaload, []) :: (83, 1, .iadd, []) :: (84, 3, .goto 5, [89]) :: cd_153_87
def cd_153_44 : List vi_E := (44, 1, .iconst 0, [0]) :: (45, 2, .istore 4, [4]) :: (47, 1, .iconst 0, [0]) :: (48, 2, .istore 5, [5]) :: cd_153_50
def cd_153_36 : List vi_E := (36, 3, .invokevirtual 164, [149, 1, 10, 1065, 1068, 55, 1067, 25]) :: (39, 3, .ifCond .eq 5, [44]) :: (42, 1, .iconst 0, [0]) :: (43, 1, .ireturn, []) :: cd_153_44
def cd_153_35 : List vi_E := (35, 1, .iconst 1, [1]) :: cd_153_36
def cd_153_25 : List vi_E := (25, 1, .istore_n 3, [3]) :: (26, 1, .aload_n 0, [0]) :: (27, 1, .iload_n 3, [3]) :: (28, 3, .ifCond .eq 7, [35]) :: (31, 1, .iconst 0, [0]) :: (32, 3, .goto 4, [36]) :: cd_153_35
def cd_153_24 : List vi_E := (24, 1, .iconst 0, [0]) :: cd_153_25
def cd_153_0 : List vi_E := (0, 1, .iload_n 1, [1]) :: (1, 1, .iconst 0, [0]) :: (2, 2, .ldc 151, [200000, 1101]) :: (4, 3, .invokestatic 144, [125, 3, 1062, 1064, 55, 1063]) :: (7, 3, .ifCond .eq 17, [24]) :: (10, 1, .iload_n 2, [2]) :: (11, 1, .iload_n 1, [1]) :: (12, 2, .ldc 151, [200000, 1101]) :: (14, 3, .invokestatic 144, [125, 3, 1062, 1064, 55, 1063]) :: (17, 3, .ifCond .eq 7, [24]) :: (20, 1, .iconst 1, [1]) :: (21, 3, .goto 4, [25]) :: cd_153_24
def cd_153 : List vi_E := cd_153_0
set_option maxRecDepth 100000 in
theorem ok_153 : vi_okC MT (MT 153) cd_153 = true := by decide +kernel
theorem at_153_0 : vi_at cd_153 0 = cd_153_0 := rfl
set_option maxRecDepth 100000 in
theorem at_153_24 : vi_at cd_153 24 = cd_153_24 := rfl
set_option maxRecDepth 100000 in
theorem at_153_25 : vi_at cd_153 25 = cd_153_25 := rfl
set_option maxRecDepth 100000 in
theorem at_153_35 : vi_at cd_153 35 = cd_153_35 := rfl
set_option maxRecDepth 100000 in
theorem at_153_36 : vi_at cd_153 36 = cd_153_36 := rfl
set_option maxRecDepth 100000 in
theorem at_153_44 : vi_at cd_153 44 = cd_153_44 := rfl
set_option maxRecDepth 100000 in
theorem at_153_50 : vi_at cd_153 50 = cd_153_50 := rfl
set_option maxRecDepth 100000 in
theorem at_153_87 : vi_at cd_153 87 = cd_153_87 := rfl
set_option maxRecDepth 100000 in
theorem at_153_89 : vi_at cd_153 89 = cd_153_89 := rfl
set_option maxRecDepth 100000 in
theorem at_153_97 : vi_at cd_153 97 = cd_153_97 := rfl
def cd_154_0 : List vi_E := (0, 1, .aload_n 0, [0]) :: (1, 3, .getfield 140, [10, 0, 0, 896]) :: (4, 1, .ireturn, []) :: []
def cd_154 : List vi_E := cd_154_0
set_option maxRecDepth 100000 in
theorem ok_154 : vi_okC MT (MT 154) cd_154 = true := by decide +kernel
theorem at_154_0 : vi_at cd_154 0 = cd_154_0 := rfl

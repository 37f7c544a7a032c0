/-! ===== code, entry by entry ===== -/
def cd_0_20 : List vi_E := (20, 1, .return_, []) :: []
def cd_0_5 : List vi_E := (5, 1, .iload_n 2, [2]) :: (6, 1, .iload_n 3, [3]) :: (7, 3, .if_icmp .ge 13, [20]) :: (10, 1, .aload_n 0, [0]) :: (11, 1, .iload_n 2, [2]) :: (12, 1, .iload_n 1, [1]) :: (13, 1, .iastore, []) :: (14, 3, .iinc 2 1, []) :: (17, 3, .goto (-12), [5]) :: cd_0_20
def cd_0_0 : List vi_E := (0, 1, .iconst 0, [0]) :: (1, 1, .istore_n 2, [2]) :: (2, 1, .aload_n 0, [0]) :: (3, 1, .arraylength, []) :: (4, 1, .istore_n 3, [3]) :: cd_0_5
def cd_0 : List vi_E := cd_0_0
set_option maxRecDepth 100000 in
theorem ok_0 : vi_okC MT (MT 0) cd_0 = true := by decide +kernel
theorem at_0_0 : vi_at cd_0 0 = cd_0_0 := rfl
set_option maxRecDepth 100000 in
theorem at_0_5 : vi_at cd_0 5 = cd_0_5 := rfl
set_option maxRecDepth 100000 in
theorem at_0_20 : vi_at cd_0 20 = cd_0_20 := rfl
def cd_1_10 : List vi_E := (10, 1, .ireturn, []) :: []
def cd_1_9 : List vi_E := (9, 1, .iload_n 1, [1]) :: cd_1_10
def cd_1_0 : List vi_E := (0, 1, .iload_n 0, [0]) :: (1, 1, .iload_n 1, [1]) :: (2, 3, .if_icmp .lt 7, [9]) :: (5, 1, .iload_n 0, [0]) :: (6, 3, .goto 4, [10]) :: cd_1_9
def cd_1 : List vi_E := cd_1_0
set_option maxRecDepth 100000 in
theorem ok_1 : vi_okC MT (MT 1) cd_1 = true := by decide +kernel
theorem at_1_0 : vi_at cd_1 0 = cd_1_0 := rfl
set_option maxRecDepth 100000 in
theorem at_1_9 : vi_at cd_1 9 = cd_1_9 := rfl
set_option maxRecDepth 100000 in
theorem at_1_10 : vi_at cd_1 10 = cd_1_10 := rfl
def cd_2_10 : List vi_E := (10, 1, .ireturn, []) :: []
def cd_2_9 : List vi_E := (9, 1, .iload_n 1, [1]) :: cd_2_10
def cd_2_0 : List vi_E := (0, 1, .iload_n 0, [0]) :: (1, 1, .iload_n 1, [1]) :: (2, 3, .if_icmp .gt 7, [9]) :: (5, 1, .iload_n 0, [0]) :: (6, 3, .goto 4, [10]) :: cd_2_9
def cd_2 : List vi_E := cd_2_0
set_option maxRecDepth 100000 in
theorem ok_2 : vi_okC MT (MT 2) cd_2 = true := by decide +kernel
theorem at_2_0 : vi_at cd_2 0 = cd_2_0 := rfl
set_option maxRecDepth 100000 in
theorem at_2_9 : vi_at cd_2 9 = cd_2_9 := rfl
set_option maxRecDepth 100000 in
theorem at_2_10 : vi_at cd_2 10 = cd_2_10 := rfl
def cd_3_83 : List vi_E := (83, 1, .iload_n 3, [3]) :: (84, 1, .ireturn, []) :: []
def cd_3_77 : List vi_E := (77, 3, .iinc 5 1, []) :: (80, 3, .goto (-60), [20]) :: cd_3_83
def cd_3_49 : List vi_E := (49, 1, .aload_n 0, [0]) :: (50, 3, .getfield 18, [0, 1, 2, 137]) :: (53, 1, .iconst 0, [0]) :: (54, 1, .aload_n 0, [0]) :: (55, 3, .getfield 13, [0, 0, 2, 135]) :: (58, 1, .iconst 0, [0]) :: (59, 1, .aload_n 0, [0]) :: (60, 3, .getfield 18, [0, 1, 2, 137]) :: (63, 1, .arraylength, []) :: (64, 3, .invokestatic 42, [772, 774, 773, 69]) :: (67, 1, .aload_n 0, [0]) :: (68, 1, .aload_n 0, [0]) :: (69, 3, .getfield 25, [0, 3, 0, 139]) :: (72, 3, .putfield 21, [0, 2, 0, 138]) :: (75, 1, .iconst 1, [1]) :: (76, 1, .istore_n 3, [3]) :: cd_3_77
def cd_3_20 : List vi_E := (20, 2, .iload 5, [5]) :: (22, 2, .iload 4, [4]) :: (24, 3, .if_icmp .gt 59, [83]) :: (27, 1, .aload_n 0, [0]) :: (28, 2, .iload 5, [5]) :: (30, 1, .iload_n 1, [1]) :: (31, 1, .aload_n 2, [2]) :: (32, 3, .invokevirtual 34, [6, 3, 0, 764, 767, 52, 766, 20]) :: (35, 3, .ifCond .eq 42, [77]) :: (38, 1, .iload_n 3, [3]) :: (39, 3, .ifCond .eq 10, [49]) :: (42, 1, .aload_n 0, [0]) :: (43, 3, .invokevirtual 38, [5, 0, 0, 768, 771, 52, 770, 21]) :: (46, 3, .ifCond .eq 31, [77]) :: cd_3_49
def cd_3_0 : List vi_E := (0, 1, .iconst 0, [0]) :: (1, 1, .istore_n 3, [3]) :: (2, 1, .aload_n 2, [2]) :: (3, 1, .iconst 2, [2]) :: (4, 1, .iaload, []) :: (5, 1, .iload_n 1, [1]) :: (6, 3, .getstatic 9, [0, 133, 1]) :: (9, 1, .iconst 2, [2]) :: (10, 1, .iaload, []) :: (11, 1, .idiv, []) :: (12, 3, .invokestatic 28, [1, 761, 762, 65, 763]) :: (15, 2, .istore 4, [4]) :: (17, 1, .iconst 0, [0]) :: (18, 2, .istore 5, [5]) :: cd_3_20
def cd_3 : List vi_E := cd_3_0
set_option maxRecDepth 100000 in
theorem ok_3 : vi_okC MT (MT 3) cd_3 = true := by decide +kernel
theorem at_3_0 : vi_at cd_3 0 = cd_3_0 := rfl
set_option maxRecDepth 100000 in
theorem at_3_20 : vi_at cd_3 20 = cd_3_20 := rfl
set_option maxRecDepth 100000 in
theorem at_3_49 : vi_at cd_3 49 = cd_3_49 := rfl
set_option maxRecDepth 100000 in
theorem at_3_77 : vi_at cd_3 77 = cd_3_77 := rfl
set_option maxRecDepth 100000 in
theorem at_3_83 : vi_at cd_3 83 = cd_3_83 := rfl
def cd_4_0 : List vi_E := (0, 1, .aload_n 0, [0]) :: (1, 3, .invokespecial 3, [132, 77, 78]) :: (4, 1, .aload_n 0, [0]) :: (5, 3, .getstatic 9, [0, 133, 1]) :: (8, 1, .arraylength, []) :: (9, 2, .newarray .int, [0, 118]) :: (11, 3, .putfield 13, [0, 0, 2, 135]) :: (14, 1, .aload_n 0, [0]) :: (15, 3, .getstatic 9, [0, 133, 1]) :: (18, 1, .arraylength, []) :: (19, 2, .newarray .int, [0, 118]) :: (21, 3, .putfield 18, [0, 1, 2, 137]) :: (24, 1, .aload_n 0, [0]) :: (25, 1, .iconst 0, [0]) :: (26, 3, .putfield 21, [0, 2, 0, 138]) :: (29, 1, .aload_n 0, [0]) :: (30, 1, .iconst 0, [0]) :: (31, 3, .putfield 25, [0, 3, 0, 139]) :: (34, 1, .return_, []) :: []
def cd_4 : List vi_E := cd_4_0
set_option maxRecDepth 100000 in
theorem ok_4 : vi_okC MT (MT 4) cd_4 = true := by decide +kernel
theorem at_4_0 : vi_at cd_4 0 = cd_4_0 := rfl
def cd_5_80 : List vi_E := (80, 1, .iconst 0, [0]) :: (81, 1, .ireturn, []) :: []
def cd_5_74 : List vi_E := (74, 3, .iinc 1 1, []) :: (77, 3, .goto (-47), [30]) :: cd_5_80
def cd_5_73 : List vi_E := (73, 1, .ireturn, []) :: cd_5_74
def cd_5_72 : List vi_E := (72, 1, .iconst 0, [0]) :: cd_5_73
def cd_5_30 : List vi_E := (30, 1, .iload_n 1, [1]) :: (31, 3, .getstatic 9, [0, 133, 1]) :: (34, 1, .arraylength, []) :: (35, 3, .if_icmp .ge 45, [80]) :: (38, 1, .aload_n 0, [0]) :: (39, 3, .getfield 18, [0, 1, 2, 137]) :: (42, 1, .iload_n 1, [1]) :: (43, 1, .iaload, []) :: (44, 1, .aload_n 0, [0]) :: (45, 3, .getfield 13, [0, 0, 2, 135]) :: (48, 1, .iload_n 1, [1]) :: (49, 1, .iaload, []) :: (50, 3, .if_icmp .eq 24, [74]) :: (53, 1, .aload_n 0, [0]) :: (54, 3, .getfield 18, [0, 1, 2, 137]) :: (57, 1, .iload_n 1, [1]) :: (58, 1, .iaload, []) :: (59, 1, .aload_n 0, [0]) :: (60, 3, .getfield 13, [0, 0, 2, 135]) :: (63, 1, .iload_n 1, [1]) :: (64, 1, .iaload, []) :: (65, 3, .if_icmp .le 7, [72]) :: (68, 1, .iconst 1, [1]) :: (69, 3, .goto 4, [73]) :: cd_5_72
def cd_5_28 : List vi_E := (28, 1, .iconst 0, [0]) :: (29, 1, .istore_n 1, [1]) :: cd_5_30
def cd_5_27 : List vi_E := (27, 1, .ireturn, []) :: cd_5_28
def cd_5_26 : List vi_E := (26, 1, .iconst 0, [0]) :: cd_5_27
def cd_5_0 : List vi_E := (0, 1, .aload_n 0, [0]) :: (1, 3, .getfield 25, [0, 3, 0, 139]) :: (4, 1, .aload_n 0, [0]) :: (5, 3, .getfield 21, [0, 2, 0, 138]) :: (8, 3, .if_icmp .eq 20, [28]) :: (11, 1, .aload_n 0, [0]) :: (12, 3, .getfield 25, [0, 3, 0, 139]) :: (15, 1, .aload_n 0, [0]) :: (16, 3, .getfield 21, [0, 2, 0, 138]) :: (19, 3, .if_icmp .ge 7, [26]) :: (22, 1, .iconst 1, [1]) :: (23, 3, .goto 4, [27]) :: cd_5_26
def cd_5 : List vi_E := cd_5_0
set_option maxRecDepth 100000 in
theorem ok_5 : vi_okC MT (MT 5) cd_5 = true := by decide +kernel
theorem at_5_0 : vi_at cd_5 0 = cd_5_0 := rfl
set_option maxRecDepth 100000 in
theorem at_5_26 : vi_at cd_5 26 = cd_5_26 := rfl
set_option maxRecDepth 100000 in
theorem at_5_27 : vi_at cd_5 27 = cd_5_27 := rfl
set_option maxRecDepth 100000 in
theorem at_5_28 : vi_at cd_5 28 = cd_5_28 := rfl
set_option maxRecDepth 100000 in
theorem at_5_30 : vi_at cd_5 30 = cd_5_30 := rfl
set_option maxRecDepth 100000 in
theorem at_5_72 : vi_at cd_5 72 = cd_5_72 := rfl
set_option maxRecDepth 100000 in
theorem at_5_73 : vi_at cd_5 73 = cd_5_73 := rfl
set_option maxRecDepth 100000 in
theorem at_5_74 : vi_at cd_5 74 = cd_5_74 := rfl
set_option maxRecDepth 100000 in
theorem at_5_80 : vi_at cd_5 80 = cd_5_80 := rfl
def cd_6_119 : List vi_E := (119, 1, .ireturn, []) :: []
def cd_6_118 : List vi_E := (118, 1, .iconst 0, [0]) :: cd_6_119
def cd_6_109 : List vi_E := (109, 2, .iload 4, [4]) :: (111, 3, .ifCond .ne 7, [118]) :: (114, 1, .iconst 1, [1]) :: (115, 3, .goto 4, [119]) :: cd_6_118
def cd_6_103 : List vi_E := (103, 3, .iinc 5 1, []) :: (106, 3, .goto (-87), [19]) :: cd_6_109
def cd_6_45 : List vi_E := (45, 1, .aload_n 0, [0]) :: (46, 3, .getfield 18, [0, 1, 2, 137]) :: (49, 2, .iload 5, [5]) :: (51, 1, .aload_n 3, [3]) :: (52, 2, .iload 5, [5]) :: (54, 1, .iaload, []) :: (55, 2, .iload 4, [4]) :: (57, 3, .getstatic 9, [0, 133, 1]) :: (60, 2, .iload 5, [5]) :: (62, 1, .iaload, []) :: (63, 1, .idiv, []) :: (64, 3, .invokestatic 28, [1, 761, 762, 65, 763]) :: (67, 1, .iastore, []) :: (68, 2, .iload 4, [4]) :: (70, 1, .aload_n 0, [0]) :: (71, 3, .getfield 18, [0, 1, 2, 137]) :: (74, 2, .iload 5, [5]) :: (76, 1, .iaload, []) :: (77, 3, .getstatic 9, [0, 133, 1]) :: (80, 2, .iload 5, [5]) :: (82, 1, .iaload, []) :: (83, 1, .imul, []) :: (84, 1, .isub, []) :: (85, 2, .istore 4, [4]) :: (87, 1, .aload_n 0, [0]) :: (88, 1, .dup, []) :: (89, 3, .getfield 25, [0, 3, 0, 139]) :: (92, 1, .aload_n 0, [0]) :: (93, 3, .getfield 18, [0, 1, 2, 137]) :: (96, 2, .iload 5, [5]) :: (98, 1, .iaload, []) :: (99, 1, .iadd, []) :: (100, 3, .putfield 25, [0, 3, 0, 139]) :: cd_6_103
def cd_6_19 : List vi_E := (19, 2, .iload 5, [5]) :: (21, 3, .getstatic 9, [0, 133, 1]) :: (24, 1, .arraylength, []) :: (25, 3, .if_icmp .ge 84, [109]) :: (28, 2, .iload 5, [5]) :: (30, 1, .iconst 2, [2]) :: (31, 3, .if_icmp .ne 14, [45]) :: (34, 1, .aload_n 0, [0]) :: (35, 3, .getfield 18, [0, 1, 2, 137]) :: (38, 2, .iload 5, [5]) :: (40, 1, .iload_n 1, [1]) :: (41, 1, .iastore, []) :: (42, 3, .goto 61, [103]) :: cd_6_45
def cd_6_0 : List vi_E := (0, 1, .iload_n 2, [2]) :: (1, 1, .iload_n 1, [1]) :: (2, 3, .getstatic 9, [0, 133, 1]) :: (5, 1, .iconst 2, [2]) :: (6, 1, .iaload, []) :: (7, 1, .imul, []) :: (8, 1, .isub, []) :: (9, 2, .istore 4, [4]) :: (11, 1, .aload_n 0, [0]) :: (12, 1, .iload_n 1, [1]) :: (13, 3, .putfield 25, [0, 3, 0, 139]) :: (16, 1, .iconst 0, [0]) :: (17, 2, .istore 5, [5]) :: cd_6_19
def cd_6 : List vi_E := cd_6_0
set_option maxRecDepth 100000 in
theorem ok_6 : vi_okC MT (MT 6) cd_6 = true := by decide +kernel
theorem at_6_0 : vi_at cd_6 0 = cd_6_0 := rfl
set_option maxRecDepth 100000 in
theorem at_6_19 : vi_at cd_6 19 = cd_6_19 := rfl
set_option maxRecDepth 100000 in
theorem at_6_45 : vi_at cd_6 45 = cd_6_45 := rfl
set_option maxRecDepth 100000 in
theorem at_6_103 : vi_at cd_6 103 = cd_6_103 := rfl
set_option maxRecDepth 100000 in
theorem at_6_109 : vi_at cd_6 109 = cd_6_109 := rfl
set_option maxRecDepth 100000 in
theorem at_6_118 : vi_at cd_6 118 = cd_6_118 := rfl
set_option maxRecDepth 100000 in
theorem at_6_119 : vi_at cd_6 119 = cd_6_119 := rfl
def cd_62_29 : List vi_E := (29, 1, .return_, []) :: []
def cd_62_0 : List vi_E := (0, 1, .aload_n 0, [0]) :: (1, 3, .getfield 22, [1, 3, 0, 646]) :: (4, 2, .bipush 12, [12]) :: (6, 3, .if_icmp .ge 23, [29]) :: (9, 1, .aload_n 0, [0]) :: (10, 3, .getfield 18, [1, 2, 2, 645]) :: (13, 1, .aload_n 0, [0]) :: (14, 3, .getfield 22, [1, 3, 0, 646]) :: (17, 1, .iload_n 1, [1]) :: (18, 1, .iastore, []) :: (19, 1, .aload_n 0, [0]) :: (20, 1, .dup, []) :: (21, 3, .getfield 22, [1, 3, 0, 646]) :: (24, 1, .iconst 1, [1]) :: (25, 1, .iadd, []) :: (26, 3, .putfield 22, [1, 3, 0, 646]) :: cd_62_29
def cd_62 : List vi_E := cd_62_0
set_option maxRecDepth 100000 in
theorem ok_62 : vi_okC MT (MT 62) cd_62 = true := by decide +kernel
theorem at_62_0 : vi_at cd_62 0 = cd_62_0 := rfl
set_option maxRecDepth 100000 in
theorem at_62_29 : vi_at cd_62 29 = cd_62_29 := rfl
def cd_63_28 : List vi_E := (28, 1, .iconst (-1), []) :: (29, 1, .ireturn, []) :: []
def cd_63_22 : List vi_E := (22, 3, .iinc 2 1, []) :: (25, 3, .goto (-23), [2]) :: cd_63_28
def cd_63_2 : List vi_E := (2, 1, .iload_n 2, [2]) :: (3, 1, .aload_n 0, [0]) :: (4, 3, .getfield 22, [1, 3, 0, 646]) :: (7, 3, .if_icmp .ge 21, [28]) :: (10, 1, .aload_n 0, [0]) :: (11, 3, .getfield 18, [1, 2, 2, 645]) :: (14, 1, .iload_n 2, [2]) :: (15, 1, .iaload, []) :: (16, 1, .iload_n 1, [1]) :: (17, 3, .if_icmp .ne 5, [22]) :: (20, 1, .iload_n 2, [2]) :: (21, 1, .ireturn, []) :: cd_63_22
def cd_63_0 : List vi_E := (0, 1, .iconst 0, [0]) :: (1, 1, .istore_n 2, [2]) :: cd_63_2
def cd_63 : List vi_E := cd_63_0
set_option maxRecDepth 100000 in
theorem ok_63 : vi_okC MT (MT 63) cd_63 = true := by decide +kernel
theorem at_63_0 : vi_at cd_63 0 = cd_63_0 := rfl
set_option maxRecDepth 100000 in
theorem at_63_2 : vi_at cd_63 2 = cd_63_2 := rfl
set_option maxRecDepth 100000 in
theorem at_63_22 : vi_at cd_63 22 = cd_63_22 := rfl
set_option maxRecDepth 100000 in
theorem at_63_28 : vi_at cd_63 28 = cd_63_28 := rfl
def cd_64_0 : List vi_E := (0, 1, .aload_n 0, [0]) :: (1, 3, .invokespecial 3, [640, 77, 78]) :: (4, 1, .aload_n 0, [0]) :: (5, 1, .iconst 0, [0]) :: (6, 3, .putfield 9, [1, 0, 0, 641]) :: (9, 1, .aload_n 0, [0]) :: (10, 1, .iconst 1, [1]) :: (11, 3, .putfield 15, [1, 1, 0, 643]) :: (14, 1, .aload_n 0, [0]) :: (15, 2, .bipush 12, [12]) :: (17, 2, .newarray .int, [0, 118]) :: (19, 3, .putfield 18, [1, 2, 2, 645]) :: (22, 1, .aload_n 0, [0]) :: (23, 1, .iconst 0, [0]) :: (24, 3, .putfield 22, [1, 3, 0, 646]) :: (27, 1, .return_, []) :: []
def cd_64 : List vi_E := cd_64_0
set_option maxRecDepth 100000 in
theorem ok_64 : vi_okC MT (MT 64) cd_64 = true := by decide +kernel
theorem at_64_0 : vi_at cd_64 0 = cd_64_0 := rfl
def cd_65_36 : List vi_E := (36, 1, .return_, []) :: []
def cd_65_0 : List vi_E := (0, 1, .aload_n 0, [0]) :: (1, 1, .iload_n 1, [1]) :: (2, 3, .invokevirtual 25, [63, 1, 1, 679, 492, 66, 490, 491]) :: (5, 1, .istore_n 2, [2]) :: (6, 1, .iload_n 2, [2]) :: (7, 1, .iconst (-1), []) :: (8, 3, .if_icmp .eq 28, [36]) :: (11, 1, .aload_n 0, [0]) :: (12, 1, .dup, []) :: (13, 3, .getfield 22, [1, 3, 0, 646]) :: (16, 1, .iconst 1, [1]) :: (17, 1, .isub, []) :: (18, 3, .putfield 22, [1, 3, 0, 646]) :: (21, 1, .aload_n 0, [0]) :: (22, 3, .getfield 18, [1, 2, 2, 645]) :: (25, 1, .iload_n 2, [2]) :: (26, 1, .aload_n 0, [0]) :: (27, 3, .getfield 18, [1, 2, 2, 645]) :: (30, 1, .aload_n 0, [0]) :: (31, 3, .getfield 22, [1, 3, 0, 646]) :: (34, 1, .iaload, []) :: (35, 1, .iastore, []) :: cd_65_36
def cd_65 : List vi_E := cd_65_0
set_option maxRecDepth 100000 in
theorem ok_65 : vi_okC MT (MT 65) cd_65 = true := by decide +kernel
theorem at_65_0 : vi_at cd_65 0 = cd_65_0 := rfl
set_option maxRecDepth 100000 in
theorem at_65_36 : vi_at cd_65 36 = cd_65_36 := rfl
def cd_66_61 : List vi_E := (61, 1, .aload_n 0, [0]) :: (62, 3, .getfield 36, [2, 7, 0, 96]) :: (65, 1, .ireturn, []) :: []
def cd_66_55 : List vi_E := (55, 3, .iinc 3 1, []) :: (58, 3, .goto (-37), [21]) :: cd_66_61
def cd_66_21 : List vi_E := (21, 1, .iload_n 3, [3]) :: (22, 1, .aload_n 0, [0]) :: (23, 3, .getfield 28, [2, 5, 2, 94]) :: (26, 3, .getfield 67, [8, 2, 0, 162]) :: (29, 3, .if_icmp .ge 32, [61]) :: (32, 1, .aload_n 0, [0]) :: (33, 3, .getfield 28, [2, 5, 2, 94]) :: (36, 3, .getfield 70, [8, 1, 2, 160]) :: (39, 1, .iload_n 3, [3]) :: (40, 1, .aaload, [6]) :: (41, 3, .getfield 74, [5, 0, 0, 375]) :: (44, 1, .iload_n 1, [1]) :: (45, 3, .if_icmp .ne 10, [55]) :: (48, 1, .aload_n 0, [0]) :: (49, 1, .iload_n 3, [3]) :: (50, 1, .iload_n 2, [2]) :: (51, 3, .invokevirtual 107, [70, 2, 2, 601, 604, 51, 603, 18]) :: (54, 1, .ireturn, []) :: cd_66_55
def cd_66_14 : List vi_E := (14, 1, .aload_n 0, [0]) :: (15, 1, .iload_n 2, [2]) :: (16, 3, .invokevirtual 86, [71, 1, 2, 582, 585, 51, 584, 15]) :: (19, 1, .iconst 0, [0]) :: (20, 1, .istore_n 3, [3]) :: cd_66_21
def cd_66_0 : List vi_E := (0, 1, .iload_n 1, [1]) :: (1, 2, .bipush 24, [24]) :: (3, 3, .if_icmp .ne 11, [14]) :: (6, 1, .aload_n 0, [0]) :: (7, 3, .getfield 28, [2, 5, 2, 94]) :: (10, 3, .getfield 104, [8, 4, 0, 167]) :: (13, 1, .ireturn, []) :: cd_66_14
def cd_66 : List vi_E := cd_66_0
set_option maxRecDepth 100000 in
theorem ok_66 : vi_okC MT (MT 66) cd_66 = true := by decide +kernel
theorem at_66_0 : vi_at cd_66 0 = cd_66_0 := rfl
set_option maxRecDepth 100000 in
theorem at_66_14 : vi_at cd_66 14 = cd_66_14 := rfl
set_option maxRecDepth 100000 in
theorem at_66_21 : vi_at cd_66 21 = cd_66_21 := rfl
set_option maxRecDepth 100000 in
theorem at_66_55 : vi_at cd_66 55 = cd_66_55 := rfl
set_option maxRecDepth 100000 in
theorem at_66_61 : vi_at cd_66 61 = cd_66_61 := rfl
def cd_67_0 : List vi_E := (0, 1, .aload_n 0, [0]) :: (1, 3, .getfield 11, [2, 0, 2, 89]) :: (4, 1, .iload_n 1, [1]) :: (5, 1, .laload, []) :: (6, 3, .ldc2_w 115, [31, 868]) :: (9, 1, .land, []) :: (10, 1, .l2i, []) :: (11, 1, .ireturn, []) :: []
def cd_67 : List vi_E := cd_67_0
set_option maxRecDepth 100000 in
theorem ok_67 : vi_okC MT (MT 67) cd_67 = true := by decide +kernel
theorem at_67_0 : vi_at cd_67 0 = cd_67_0 := rfl
def cd_68_0 : List vi_E := (0, 1, .aload_n 0, [0]) :: (1, 3, .invokespecial 5, [88, 77, 78]) :: (4, 1, .aload_n 0, [0]) :: (5, 3, .sipush 4320, [4320]) :: (8, 2, .newarray .long, [1, 117]) :: (10, 3, .putfield 11, [2, 0, 2, 89]) :: (13, 1, .aload_n 0, [0]) :: (14, 2, .bipush 24, [24]) :: (16, 2, .newarray .long, [1, 117]) :: (18, 3, .putfield 15, [2, 1, 2, 90]) :: (21, 1, .aload_n 0, [0]) :: (22, 2, .bipush 24, [24]) :: (24, 2, .newarray .int, [0, 118]) :: (26, 3, .putfield 18, [2, 2, 2, 91]) :: (29, 1, .aload_n 0, [0]) :: (30, 3, .sipush 509, [509]) :: (33, 2, .newarray .int, [0, 118]) :: (35, 3, .putfield 22, [2, 3, 2, 92]) :: (38, 1, .aload_n 0, [0]) :: (39, 3, .sipush 509, [509]) :: (42, 2, .newarray .int, [0, 118]) :: (44, 3, .putfield 25, [2, 4, 2, 93]) :: (47, 1, .aload_n 0, [0]) :: (48, 1, .aconst_null, []) :: (49, 3, .putfield 28, [2, 5, 2, 94]) :: (52, 1, .aload_n 0, [0]) :: (53, 1, .iconst 0, [0]) :: (54, 3, .putfield 32, [2, 6, 0, 95]) :: (57, 1, .aload_n 0, [0]) :: (58, 1, .iconst 0, [0]) :: (59, 3, .putfield 36, [2, 7, 0, 96]) :: (62, 1, .aload_n 0, [0]) :: (63, 1, .iconst (-1), []) :: (64, 3, .putfield 39, [2, 8, 0, 97]) :: (67, 1, .return_, []) :: []
def cd_68 : List vi_E := cd_68_0
set_option maxRecDepth 100000 in
theorem ok_68 : vi_okC MT (MT 68) cd_68 = true := by decide +kernel
theorem at_68_0 : vi_at cd_68 0 = cd_68_0 := rfl
def cd_69_103 : List vi_E := (103, 1, .lload_n 2, [2]) :: (104, 1, .lreturn, []) :: []
def cd_69_97 : List vi_E := (97, 3, .iinc 4 1, []) :: (100, 3, .goto (-60), [40]) :: cd_69_103
def cd_69_96 : List vi_E := (96, 1, .lstore_n 2, [2]) :: cd_69_97
def cd_69_95 : List vi_E := (95, 1, .lload_n 2, [2]) :: cd_69_96
def cd_69_40 : List vi_E := (40, 2, .iload 4, [4]) :: (42, 1, .aload_n 0, [0]) :: (43, 3, .getfield 28, [2, 5, 2, 94]) :: (46, 3, .getfield 67, [8, 2, 0, 162]) :: (49, 3, .if_icmp .ge 54, [103]) :: (52, 1, .aload_n 0, [0]) :: (53, 2, .iload 4, [4]) :: (55, 1, .iload_n 1, [1]) :: (56, 3, .invokevirtual 107, [70, 2, 2, 601, 604, 51, 603, 18]) :: (59, 2, .istore 5, [5]) :: (61, 2, .iload 5, [5]) :: (63, 1, .iload_n 1, [1]) :: (64, 3, .if_icmp .le 33, [97]) :: (67, 1, .aload_n 0, [0]) :: (68, 3, .getfield 15, [2, 1, 2, 90]) :: (71, 2, .iload 4, [4]) :: (73, 1, .laload, []) :: (74, 1, .aload_n 0, [0]) :: (75, 2, .iload 5, [5]) :: (77, 3, .invokevirtual 50, [74, 1, 2, 596, 599, 51, 598, 17]) :: (80, 1, .ladd, []) :: (81, 2, .lstore 6, [6]) :: (83, 2, .lload 6, [6]) :: (85, 1, .lload_n 2, [2]) :: (86, 1, .lcmp, []) :: (87, 3, .ifCond .ge 8, [95]) :: (90, 2, .lload 6, [6]) :: (92, 3, .goto 4, [96]) :: cd_69_95
def cd_69_37 : List vi_E := (37, 1, .iconst 0, [0]) :: (38, 2, .istore 4, [4]) :: cd_69_40
def cd_69_0 : List vi_E := (0, 3, .ldc2_w 102, [9223372036854775807, 595]) :: (3, 1, .lstore_n 2, [2]) :: (4, 1, .iload_n 1, [1]) :: (5, 3, .ifCond .ne 32, [37]) :: (8, 1, .aload_n 0, [0]) :: (9, 3, .getfield 28, [2, 5, 2, 94]) :: (12, 3, .getfield 104, [8, 4, 0, 167]) :: (15, 3, .ifCond .le 22, [37]) :: (18, 2, .bipush 24, [24]) :: (20, 1, .iconst 0, [0]) :: (21, 3, .invokestatic 82, [75, 2, 578, 580, 51, 579]) :: (24, 1, .aload_n 0, [0]) :: (25, 1, .aload_n 0, [0]) :: (26, 3, .getfield 28, [2, 5, 2, 94]) :: (29, 3, .getfield 104, [8, 4, 0, 167]) :: (32, 3, .invokevirtual 50, [74, 1, 2, 596, 599, 51, 598, 17]) :: (35, 1, .ladd, []) :: (36, 1, .lstore_n 2, [2]) :: cd_69_37
def cd_69 : List vi_E := cd_69_0
set_option maxRecDepth 100000 in
theorem ok_69 : vi_okC MT (MT 69) cd_69 = true := by decide +kernel
theorem at_69_0 : vi_at cd_69 0 = cd_69_0 := rfl
set_option maxRecDepth 100000 in
theorem at_69_37 : vi_at cd_69 37 = cd_69_37 := rfl
set_option maxRecDepth 100000 in
theorem at_69_40 : vi_at cd_69 40 = cd_69_40 := rfl
set_option maxRecDepth 100000 in
theorem at_69_95 : vi_at cd_69 95 = cd_69_95 := rfl
set_option maxRecDepth 100000 in
theorem at_69_96 : vi_at cd_69 96 = cd_69_96 := rfl
set_option maxRecDepth 100000 in
theorem at_69_97 : vi_at cd_69 97 = cd_69_97 := rfl
set_option maxRecDepth 100000 in
theorem at_69_103 : vi_at cd_69 103 = cd_69_103 := rfl
def cd_70_37 : List vi_E := (37, 1, .ireturn, []) :: []
def cd_70_26 : List vi_E := (26, 1, .aload_n 0, [0]) :: (27, 3, .getfield 18, [2, 2, 2, 91]) :: (30, 1, .iload_n 1, [1]) :: (31, 1, .iaload, []) :: (32, 1, .aload_n 0, [0]) :: (33, 3, .getfield 32, [2, 6, 0, 95]) :: (36, 1, .isub, []) :: cd_70_37
def cd_70_0 : List vi_E := (0, 1, .aload_n 0, [0]) :: (1, 3, .getfield 18, [2, 2, 2, 91]) :: (4, 1, .iload_n 1, [1]) :: (5, 1, .iaload, []) :: (6, 3, .ifCond .ne 20, [26]) :: (9, 1, .iload_n 2, [2]) :: (10, 1, .aload_n 0, [0]) :: (11, 3, .getfield 28, [2, 5, 2, 94]) :: (14, 3, .getfield 70, [8, 1, 2, 160]) :: (17, 1, .iload_n 1, [1]) :: (18, 1, .aaload, [6]) :: (19, 3, .getfield 110, [5, 2, 0, 379]) :: (22, 1, .iadd, []) :: (23, 3, .goto 14, [37]) :: cd_70_26
def cd_70 : List vi_E := cd_70_0
set_option maxRecDepth 100000 in
theorem ok_70 : vi_okC MT (MT 70) cd_70 = true := by decide +kernel
theorem at_70_0 : vi_at cd_70 0 = cd_70_0 := rfl
set_option maxRecDepth 100000 in
theorem at_70_26 : vi_at cd_70 26 = cd_70_26 := rfl
set_option maxRecDepth 100000 in
theorem at_70_37 : vi_at cd_70 37 = cd_70_37 := rfl
def cd_71_78 : List vi_E := (78, 1, .return_, []) :: []
def cd_71_71 : List vi_E := (71, 1, .iastore, []) :: (72, 3, .iinc 3 1, []) :: (75, 3, .goto (-59), [16]) :: cd_71_78
def cd_71_56 : List vi_E := (56, 2, .aload 4, [4]) :: (58, 1, .aload_n 0, [0]) :: (59, 3, .getfield 32, [2, 6, 0, 95]) :: (62, 1, .iload_n 1, [1]) :: (63, 1, .iadd, []) :: (64, 1, .aload_n 0, [0]) :: (65, 3, .getfield 32, [2, 6, 0, 95]) :: (68, 3, .invokevirtual 97, [83, 2, 5, 587, 590, 61, 588, 589]) :: cd_71_71
def cd_71_16 : List vi_E := (16, 1, .iload_n 3, [3]) :: (17, 1, .aload_n 0, [0]) :: (18, 3, .getfield 28, [2, 5, 2, 94]) :: (21, 3, .getfield 67, [8, 2, 0, 162]) :: (24, 3, .if_icmp .ge 54, [78]) :: (27, 1, .aload_n 0, [0]) :: (28, 3, .getfield 28, [2, 5, 2, 94]) :: (31, 3, .getfield 70, [8, 1, 2, 160]) :: (34, 1, .iload_n 3, [3]) :: (35, 1, .aaload, [6]) :: (36, 2, .astore 4, [4]) :: (38, 1, .aload_n 0, [0]) :: (39, 3, .getfield 18, [2, 2, 2, 91]) :: (42, 1, .iload_n 3, [3]) :: (43, 2, .aload 4, [4]) :: (45, 1, .iload_n 2, [2]) :: (46, 3, .invokevirtual 93, [85, 1, 5, 586, 435, 61, 433, 434]) :: (49, 3, .ifCond .eq 7, [56]) :: (52, 1, .iconst 0, [0]) :: (53, 3, .goto 18, [71]) :: cd_71_56
def cd_71_0 : List vi_E := (0, 1, .aload_n 0, [0]) :: (1, 3, .getfield 32, [2, 6, 0, 95]) :: (4, 1, .iload_n 1, [1]) :: (5, 1, .iadd, []) :: (6, 2, .bipush 60, [60]) :: (8, 1, .idiv, []) :: (9, 3, .sipush 168, [168]) :: (12, 1, .irem, []) :: (13, 1, .istore_n 2, [2]) :: (14, 1, .iconst 0, [0]) :: (15, 1, .istore_n 3, [3]) :: cd_71_16
def cd_71 : List vi_E := cd_71_0
set_option maxRecDepth 100000 in
theorem ok_71 : vi_okC MT (MT 71) cd_71 = true := by decide +kernel
theorem at_71_0 : vi_at cd_71 0 = cd_71_0 := rfl
set_option maxRecDepth 100000 in
theorem at_71_16 : vi_at cd_71 16 = cd_71_16 := rfl
set_option maxRecDepth 100000 in
theorem at_71_56 : vi_at cd_71 56 = cd_71_56 := rfl
set_option maxRecDepth 100000 in
theorem at_71_71 : vi_at cd_71 71 = cd_71_71 := rfl
set_option maxRecDepth 100000 in
theorem at_71_78 : vi_at cd_71 78 = cd_71_78 := rfl
def cd_72_62 : List vi_E := (62, 1, .aload_n 0, [0]) :: (63, 3, .getfield 25, [2, 4, 2, 93]) :: (66, 2, .iload 5, [5]) :: (68, 1, .iaload, []) :: (69, 1, .ireturn, []) :: []
def cd_72_0 : List vi_E := (0, 1, .aload_n 1, [1]) :: (1, 1, .iload_n 2, [2]) :: (2, 1, .iload_n 3, [3]) :: (3, 3, .invokestatic 42, [76, 3, 571, 573, 51, 572]) :: (6, 2, .istore 4, [4]) :: (8, 2, .iload 4, [4]) :: (10, 3, .sipush 509, [509]) :: (13, 1, .irem, []) :: (14, 2, .istore 5, [5]) :: (16, 1, .aload_n 0, [0]) :: (17, 3, .getfield 22, [2, 3, 2, 92]) :: (20, 2, .iload 5, [5]) :: (22, 1, .iaload, []) :: (23, 2, .iload 4, [4]) :: (25, 3, .if_icmp .eq 37, [62]) :: (28, 1, .aload_n 0, [0]) :: (29, 1, .aload_n 1, [1]) :: (30, 1, .iload_n 2, [2]) :: (31, 1, .iload_n 3, [3]) :: (32, 2, .iload 4, [4]) :: (34, 3, .invokevirtual 46, [77, 4, 2, 574, 577, 51, 576, 14]) :: (37, 1, .aload_n 0, [0]) :: (38, 3, .getfield 22, [2, 3, 2, 92]) :: (41, 2, .iload 5, [5]) :: (43, 2, .iload 4, [4]) :: (45, 1, .iastore, []) :: (46, 1, .aload_n 0, [0]) :: (47, 3, .getfield 25, [2, 4, 2, 93]) :: (50, 2, .iload 5, [5]) :: (52, 1, .aload_n 0, [0]) :: (53, 1, .iconst 0, [0]) :: (54, 3, .invokevirtual 50, [74, 1, 2, 596, 599, 51, 598, 17]) :: (57, 2, .bipush 18, [18]) :: (59, 1, .lshr, []) :: (60, 1, .l2i, []) :: (61, 1, .iastore, []) :: cd_72_62
def cd_72 : List vi_E := cd_72_0
set_option maxRecDepth 100000 in
theorem ok_72 : vi_okC MT (MT 72) cd_72 = true := by decide +kernel
theorem at_72_0 : vi_at cd_72 0 = cd_72_0 := rfl
set_option maxRecDepth 100000 in
theorem at_72_62 : vi_at cd_72 62 = cd_72_62 := rfl
def cd_73_74 : List vi_E := (74, 1, .ireturn, []) :: []
def cd_73_73 : List vi_E := (73, 1, .iconst (-1), []) :: cd_73_74
def cd_73_55 : List vi_E := (55, 2, .iload 5, [5]) :: (57, 1, .aload_n 0, [0]) :: (58, 3, .getfield 36, [2, 7, 0, 96]) :: (61, 3, .if_icmp .ge 12, [73]) :: (64, 1, .aload_n 0, [0]) :: (65, 2, .iload 5, [5]) :: (67, 3, .invokevirtual 54, [67, 1, 2, 864, 867, 51, 866, 23]) :: (70, 3, .goto 4, [74]) :: cd_73_73
def cd_73_19 : List vi_E := (19, 2, .iload 6, [6]) :: (21, 2, .iload 4, [4]) :: (23, 3, .if_icmp .ge 32, [55]) :: (26, 2, .iload 5, [5]) :: (28, 1, .aload_n 0, [0]) :: (29, 3, .getfield 36, [2, 7, 0, 96]) :: (32, 3, .if_icmp .ge 23, [55]) :: (35, 1, .aload_n 0, [0]) :: (36, 1, .aload_n 0, [0]) :: (37, 2, .iload 5, [5]) :: (39, 3, .invokevirtual 54, [67, 1, 2, 864, 867, 51, 866, 23]) :: (42, 2, .iload 5, [5]) :: (44, 3, .invokevirtual 58, [66, 2, 2, 869, 872, 51, 871, 24]) :: (47, 2, .istore 5, [5]) :: (49, 3, .iinc 6 1, []) :: (52, 3, .goto (-33), [19]) :: cd_73_55
def cd_73_0 : List vi_E := (0, 1, .aload_n 0, [0]) :: (1, 1, .aload_n 1, [1]) :: (2, 1, .iload_n 2, [2]) :: (3, 1, .iload_n 3, [3]) :: (4, 1, .aload_n 1, [1]) :: (5, 1, .iload_n 2, [2]) :: (6, 1, .iload_n 3, [3]) :: (7, 3, .invokestatic 42, [76, 3, 571, 573, 51, 572]) :: (10, 3, .invokevirtual 46, [77, 4, 2, 574, 577, 51, 576, 14]) :: (13, 1, .iconst 0, [0]) :: (14, 2, .istore 5, [5]) :: (16, 1, .iconst 0, [0]) :: (17, 2, .istore 6, [6]) :: cd_73_19
def cd_73 : List vi_E := cd_73_0
set_option maxRecDepth 100000 in
theorem ok_73 : vi_okC MT (MT 73) cd_73 = true := by decide +kernel
theorem at_73_0 : vi_at cd_73 0 = cd_73_0 := rfl
set_option maxRecDepth 100000 in
theorem at_73_19 : vi_at cd_73 19 = cd_73_19 := rfl
set_option maxRecDepth 100000 in
theorem at_73_55 : vi_at cd_73 55 = cd_73_55 := rfl
set_option maxRecDepth 100000 in
theorem at_73_73 : vi_at cd_73 73 = cd_73_73 := rfl
set_option maxRecDepth 100000 in
theorem at_73_74 : vi_at cd_73 74 = cd_73_74 := rfl
def cd_74_22 : List vi_E := (22, 1, .lreturn, []) :: []
def cd_74_21 : List vi_E := (21, 1, .lconst 0, [0]) :: cd_74_22
def cd_74_0 : List vi_E := (0, 1, .iload_n 1, [1]) :: (1, 1, .aload_n 0, [0]) :: (2, 3, .getfield 36, [2, 7, 0, 96]) :: (5, 3, .if_icmp .ge 16, [21]) :: (8, 1, .aload_n 0, [0]) :: (9, 3, .getfield 11, [2, 0, 2, 89]) :: (12, 1, .iload_n 1, [1]) :: (13, 1, .laload, []) :: (14, 3, .ldc2_w 113, [18446744073709551584, 600]) :: (17, 1, .land, []) :: (18, 3, .goto 4, [22]) :: cd_74_21
def cd_74 : List vi_E := cd_74_0
set_option maxRecDepth 100000 in
theorem ok_74 : vi_okC MT (MT 74) cd_74 = true := by decide +kernel
theorem at_74_0 : vi_at cd_74 0 = cd_74_0 := rfl
set_option maxRecDepth 100000 in
theorem at_74_21 : vi_at cd_74 21 = cd_74_21 := rfl
set_option maxRecDepth 100000 in
theorem at_74_22 : vi_at cd_74 22 = cd_74_22 := rfl
def cd_75_0 : List vi_E := (0, 1, .iload_n 1, [1]) :: (1, 1, .i2l, []) :: (2, 2, .bipush 18, [18]) :: (4, 1, .lshl, []) :: (5, 3, .ldc2_w 111, [32, 581]) :: (8, 1, .ladd, []) :: (9, 1, .iload_n 0, [0]) :: (10, 1, .i2l, []) :: (11, 1, .ladd, []) :: (12, 1, .lreturn, []) :: []
def cd_75 : List vi_E := cd_75_0
set_option maxRecDepth 100000 in
theorem ok_75 : vi_okC MT (MT 75) cd_75 = true := by decide +kernel
theorem at_75_0 : vi_at cd_75 0 = cd_75_0 := rfl
def cd_76_0 : List vi_E := (0, 1, .aload_n 0, [0]) :: (1, 3, .getfield 62, [8, 0, 0, 158]) :: (4, 3, .sipush 10080, [10080]) :: (7, 1, .imul, []) :: (8, 1, .iload_n 1, [1]) :: (9, 3, .sipush 10080, [10080]) :: (12, 1, .irem, []) :: (13, 1, .iadd, []) :: (14, 3, .sipush 4321, [4321]) :: (17, 1, .imul, []) :: (18, 1, .iload_n 2, [2]) :: (19, 1, .iadd, []) :: (20, 1, .ireturn, []) :: []
def cd_76 : List vi_E := cd_76_0
set_option maxRecDepth 100000 in
theorem ok_76 : vi_okC MT (MT 76) cd_76 = true := by decide +kernel
theorem at_76_0 : vi_at cd_76 0 = cd_76_0 := rfl
def cd_77_156 : List vi_E := (156, 1, .return_, []) :: []
def cd_77_137 : List vi_E := (137, 1, .aload_n 0, [0]) :: (138, 3, .getfield 11, [2, 0, 2, 89]) :: (141, 2, .iload 5, [5]) :: (143, 1, .aload_n 0, [0]) :: (144, 2, .iload 5, [5]) :: (146, 3, .invokevirtual 90, [69, 1, 2, 591, 594, 51, 593, 16]) :: (149, 1, .lastore, []) :: (150, 3, .iinc 5 (-1), []) :: (153, 3, .goto (-53), [100]) :: cd_77_156
def cd_77_131 : List vi_E := (131, 1, .aload_n 0, [0]) :: (132, 2, .iload 5, [5]) :: (134, 3, .invokevirtual 86, [71, 1, 2, 582, 585, 51, 584, 15]) :: cd_77_137
def cd_77_100 : List vi_E := (100, 2, .iload 5, [5]) :: (102, 3, .ifCond .lt 54, [156]) :: (105, 2, .iload 5, [5]) :: (107, 1, .aload_n 0, [0]) :: (108, 3, .getfield 36, [2, 7, 0, 96]) :: (111, 1, .iconst 1, [1]) :: (112, 1, .isub, []) :: (113, 3, .if_icmp .eq 18, [131]) :: (116, 1, .aload_n 0, [0]) :: (117, 3, .getfield 32, [2, 6, 0, 95]) :: (120, 2, .iload 5, [5]) :: (122, 1, .iadd, []) :: (123, 2, .bipush 60, [60]) :: (125, 1, .irem, []) :: (126, 2, .bipush 59, [59]) :: (128, 3, .if_icmp .ne 9, [137]) :: cd_77_131
def cd_77_92 : List vi_E := (92, 1, .aload_n 0, [0]) :: (93, 3, .getfield 36, [2, 7, 0, 96]) :: (96, 1, .iconst 1, [1]) :: (97, 1, .isub, []) :: (98, 2, .istore 5, [5]) :: cd_77_100
def cd_77_38 : List vi_E := (38, 2, .iload 5, [5]) :: (40, 1, .aload_n 0, [0]) :: (41, 3, .getfield 28, [2, 5, 2, 94]) :: (44, 3, .getfield 67, [8, 2, 0, 162]) :: (47, 3, .if_icmp .ge 45, [92]) :: (50, 1, .aload_n 0, [0]) :: (51, 3, .getfield 15, [2, 1, 2, 90]) :: (54, 2, .iload 5, [5]) :: (56, 1, .aload_n 0, [0]) :: (57, 3, .getfield 28, [2, 5, 2, 94]) :: (60, 3, .getfield 70, [8, 1, 2, 160]) :: (63, 2, .iload 5, [5]) :: (65, 1, .aaload, [6]) :: (66, 3, .getfield 74, [5, 0, 0, 375]) :: (69, 1, .aload_n 0, [0]) :: (70, 3, .getfield 28, [2, 5, 2, 94]) :: (73, 3, .getfield 70, [8, 1, 2, 160]) :: (76, 2, .iload 5, [5]) :: (78, 1, .aaload, [6]) :: (79, 3, .getfield 79, [5, 1, 0, 377]) :: (82, 3, .invokestatic 82, [75, 2, 578, 580, 51, 579]) :: (85, 1, .lastore, []) :: (86, 3, .iinc 5 1, []) :: (89, 3, .goto (-51), [38]) :: cd_77_92
def cd_77_10 : List vi_E := (10, 1, .aload_n 0, [0]) :: (11, 2, .iload 4, [4]) :: (13, 3, .putfield 39, [2, 8, 0, 97]) :: (16, 1, .aload_n 0, [0]) :: (17, 1, .aload_n 1, [1]) :: (18, 3, .putfield 28, [2, 5, 2, 94]) :: (21, 1, .aload_n 0, [0]) :: (22, 1, .iload_n 2, [2]) :: (23, 3, .sipush 10080, [10080]) :: (26, 1, .irem, []) :: (27, 3, .putfield 32, [2, 6, 0, 95]) :: (30, 1, .aload_n 0, [0]) :: (31, 1, .iload_n 3, [3]) :: (32, 3, .putfield 36, [2, 7, 0, 96]) :: (35, 1, .iconst 0, [0]) :: (36, 2, .istore 5, [5]) :: cd_77_38
def cd_77_0 : List vi_E := (0, 1, .aload_n 0, [0]) :: (1, 3, .getfield 39, [2, 8, 0, 97]) :: (4, 2, .iload 4, [4]) :: (6, 3, .if_icmp .ne 4, [10]) :: (9, 1, .return_, []) :: cd_77_10
def cd_77 : List vi_E := cd_77_0
set_option maxRecDepth 100000 in
theorem ok_77 : vi_okC MT (MT 77) cd_77 = true := by decide +kernel
theorem at_77_0 : vi_at cd_77 0 = cd_77_0 := rfl
set_option maxRecDepth 100000 in
theorem at_77_10 : vi_at cd_77 10 = cd_77_10 := rfl
set_option maxRecDepth 100000 in
theorem at_77_38 : vi_at cd_77 38 = cd_77_38 := rfl
set_option maxRecDepth 100000 in
theorem at_77_92 : vi_at cd_77 92 = cd_77_92 := rfl
set_option maxRecDepth 100000 in
theorem at_77_100 : vi_at cd_77 100 = cd_77_100 := rfl
set_option maxRecDepth 100000 in
theorem at_77_131 : vi_at cd_77 131 = cd_77_131 := rfl
set_option maxRecDepth 100000 in
theorem at_77_137 : vi_at cd_77 137 = cd_77_137 := rfl
set_option maxRecDepth 100000 in
theorem at_77_156 : vi_at cd_77 156 = cd_77_156 := rfl
def cd_78_0 : List vi_E := (0, 1, .aload_n 0, [0]) :: (1, 1, .aload_n 1, [1]) :: (2, 3, .putfield 24, [3, 3, 2, 191]) :: (5, 1, .aload_n 0, [0]) :: (6, 3, .getfield 24, [3, 3, 2, 191]) :: (9, 1, .iconst 1, [1]) :: (10, 3, .putfield 41, [7, 6, 3, 519]) :: (13, 1, .aload_n 0, [0]) :: (14, 1, .iload_n 2, [2]) :: (15, 3, .putfield 28, [3, 4, 0, 193]) :: (18, 1, .aload_n 0, [0]) :: (19, 1, .iload_n 3, [3]) :: (20, 3, .putfield 32, [3, 5, 0, 195]) :: (23, 1, .aload_n 0, [0]) :: (24, 1, .iconst 0, [0]) :: (25, 3, .putfield 35, [3, 6, 0, 197]) :: (28, 1, .aload_n 0, [0]) :: (29, 1, .iconst 0, [0]) :: (30, 3, .putfield 38, [3, 7, 0, 199]) :: (33, 1, .aload_n 0, [0]) :: (34, 3, .getfield 18, [3, 1, 2, 187]) :: (37, 1, .iconst 0, [0]) :: (38, 3, .invokestatic 47, [0, 2, 732, 734, 68, 733]) :: (41, 1, .return_, []) :: []
def cd_78 : List vi_E := cd_78_0
set_option maxRecDepth 100000 in
theorem ok_78 : vi_okC MT (MT 78) cd_78 = true := by decide +kernel
theorem at_78_0 : vi_at cd_78 0 = cd_78_0 := rfl
def cd_79_52 : List vi_E := (52, 1, .aload_n 0, [0]) :: (53, 1, .aconst_null, []) :: (54, 3, .putfield 24, [3, 3, 2, 191]) :: (57, 1, .return_, []) :: []
def cd_79_37 : List vi_E := (37, 1, .aload_n 0, [0]) :: (38, 3, .getfield 24, [3, 3, 2, 191]) :: (41, 3, .ifnull 11, [52]) :: (44, 1, .aload_n 0, [0]) :: (45, 3, .getfield 24, [3, 3, 2, 191]) :: (48, 1, .iconst 0, [0]) :: (49, 3, .putfield 41, [7, 6, 3, 519]) :: cd_79_52
def cd_79_2 : List vi_E := (2, 1, .iload_n 2, [2]) :: (3, 3, .getstatic 7, [0, 184, 1]) :: (6, 1, .arraylength, []) :: (7, 3, .if_icmp .ge 30, [37]) :: (10, 1, .aload_n 0, [0]) :: (11, 3, .getfield 21, [3, 2, 2, 189]) :: (14, 1, .iload_n 2, [2]) :: (15, 1, .aload_n 1, [1]) :: (16, 1, .iload_n 2, [2]) :: (17, 1, .iaload, []) :: (18, 1, .iastore, []) :: (19, 1, .aload_n 0, [0]) :: (20, 3, .getfield 13, [3, 0, 2, 185]) :: (23, 1, .iload_n 2, [2]) :: (24, 1, .dup2, []) :: (25, 1, .iaload, []) :: (26, 1, .aload_n 1, [1]) :: (27, 1, .iload_n 2, [2]) :: (28, 1, .iaload, []) :: (29, 1, .isub, []) :: (30, 1, .iastore, []) :: (31, 3, .iinc 2 1, []) :: (34, 3, .goto (-32), [2]) :: cd_79_37
def cd_79_0 : List vi_E := (0, 1, .iconst 0, [0]) :: (1, 1, .istore_n 2, [2]) :: cd_79_2
def cd_79 : List vi_E := cd_79_0
set_option maxRecDepth 100000 in
theorem ok_79 : vi_okC MT (MT 79) cd_79 = true := by decide +kernel
theorem at_79_0 : vi_at cd_79 0 = cd_79_0 := rfl
set_option maxRecDepth 100000 in
theorem at_79_2 : vi_at cd_79 2 = cd_79_2 := rfl
set_option maxRecDepth 100000 in
theorem at_79_37 : vi_at cd_79 37 = cd_79_37 := rfl
set_option maxRecDepth 100000 in
theorem at_79_52 : vi_at cd_79 52 = cd_79_52 := rfl
def cd_80_0 : List vi_E := (0, 1, .aload_n 0, [0]) :: (1, 3, .invokespecial 1, [183, 77, 78]) :: (4, 1, .aload_n 0, [0]) :: (5, 3, .getstatic 7, [0, 184, 1]) :: (8, 1, .arraylength, []) :: (9, 2, .newarray .int, [0, 118]) :: (11, 3, .putfield 13, [3, 0, 2, 185]) :: (14, 1, .aload_n 0, [0]) :: (15, 3, .getstatic 7, [0, 184, 1]) :: (18, 1, .arraylength, []) :: (19, 2, .newarray .int, [0, 118]) :: (21, 3, .putfield 18, [3, 1, 2, 187]) :: (24, 1, .aload_n 0, [0]) :: (25, 3, .getstatic 7, [0, 184, 1]) :: (28, 1, .arraylength, []) :: (29, 2, .newarray .int, [0, 118]) :: (31, 3, .putfield 21, [3, 2, 2, 189]) :: (34, 1, .aload_n 0, [0]) :: (35, 1, .aconst_null, []) :: (36, 3, .putfield 24, [3, 3, 2, 191]) :: (39, 1, .aload_n 0, [0]) :: (40, 1, .iconst 0, [0]) :: (41, 3, .putfield 28, [3, 4, 0, 193]) :: (44, 1, .aload_n 0, [0]) :: (45, 1, .iconst 0, [0]) :: (46, 3, .putfield 32, [3, 5, 0, 195]) :: (49, 1, .aload_n 0, [0]) :: (50, 1, .iconst 0, [0]) :: (51, 3, .putfield 35, [3, 6, 0, 197]) :: (54, 1, .aload_n 0, [0]) :: (55, 1, .iconst 0, [0]) :: (56, 3, .putfield 38, [3, 7, 0, 199]) :: (59, 1, .return_, []) :: []
def cd_80 : List vi_E := cd_80_0
set_option maxRecDepth 100000 in
theorem ok_80 : vi_okC MT (MT 80) cd_80 = true := by decide +kernel
theorem at_80_0 : vi_at cd_80 0 = cd_80_0 := rfl
def cd_81_0 : List vi_E := (0, 1, .aload_n 0, [0]) :: (1, 3, .getfield 13, [3, 0, 2, 185]) :: (4, 1, .iload_n 1, [1]) :: (5, 1, .dup2, []) :: (6, 1, .iaload, []) :: (7, 1, .iconst 1, [1]) :: (8, 1, .iadd, []) :: (9, 1, .iastore, []) :: (10, 1, .aload_n 0, [0]) :: (11, 3, .getfield 18, [3, 1, 2, 187]) :: (14, 1, .iload_n 1, [1]) :: (15, 1, .dup2, []) :: (16, 1, .iaload, []) :: (17, 1, .iconst 1, [1]) :: (18, 1, .iadd, []) :: (19, 1, .iastore, []) :: (20, 1, .aload_n 0, [0]) :: (21, 1, .dup, []) :: (22, 3, .getfield 35, [3, 6, 0, 197]) :: (25, 1, .iconst 1, [1]) :: (26, 1, .iadd, []) :: (27, 3, .putfield 35, [3, 6, 0, 197]) :: (30, 1, .aload_n 0, [0]) :: (31, 1, .dup, []) :: (32, 3, .getfield 38, [3, 7, 0, 199]) :: (35, 3, .getstatic 7, [0, 184, 1]) :: (38, 1, .iload_n 1, [1]) :: (39, 1, .iaload, []) :: (40, 1, .iadd, []) :: (41, 3, .putfield 38, [3, 7, 0, 199]) :: (44, 1, .return_, []) :: []
def cd_81 : List vi_E := cd_81_0
set_option maxRecDepth 100000 in
theorem ok_81 : vi_okC MT (MT 81) cd_81 = true := by decide +kernel
theorem at_81_0 : vi_at cd_81 0 = cd_81_0 := rfl
def cd_82_0 : List vi_E := (0, 1, .aload_n 0, [0]) :: (1, 3, .invokespecial 1, [787, 77, 78]) :: (4, 1, .aload_n 0, [0]) :: (5, 1, .iload_n 1, [1]) :: (6, 3, .putfield 7, [4, 0, 0, 788]) :: (9, 1, .aload_n 0, [0]) :: (10, 1, .iload_n 2, [2]) :: (11, 3, .putfield 13, [4, 1, 0, 790]) :: (14, 1, .aload_n 0, [0]) :: (15, 1, .iload_n 3, [3]) :: (16, 3, .putfield 16, [4, 2, 0, 792]) :: (19, 1, .return_, []) :: []
def cd_82 : List vi_E := cd_82_0
set_option maxRecDepth 100000 in
theorem ok_82 : vi_okC MT (MT 82) cd_82 = true := by decide +kernel
theorem at_82_0 : vi_at cd_82 0 = cd_82_0 := rfl
def cd_83_61 : List vi_E := (61, 1, .ireturn, []) :: []
def cd_83_54 : List vi_E := (54, 2, .iload 4, [4]) :: (56, 1, .aload_n 0, [0]) :: (57, 3, .getfield 24, [5, 2, 0, 378]) :: (60, 1, .iadd, []) :: cd_83_61
def cd_83_19 : List vi_E := (19, 1, .aload_n 0, [0]) :: (20, 3, .getfield 15, [5, 5, 0, 384]) :: (23, 2, .bipush 60, [60]) :: (25, 1, .imul, []) :: (26, 1, .iconst 1, [1]) :: (27, 1, .isub, []) :: (28, 1, .istore_n 3, [3]) :: (29, 1, .iload_n 1, [1]) :: (30, 1, .iload_n 1, [1]) :: (31, 3, .sipush 10080, [10080]) :: (34, 1, .iadd, []) :: (35, 1, .iload_n 3, [3]) :: (36, 1, .isub, []) :: (37, 3, .sipush 10080, [10080]) :: (40, 1, .irem, []) :: (41, 1, .isub, []) :: (42, 2, .istore 4, [4]) :: (44, 2, .iload 4, [4]) :: (46, 1, .iload_n 2, [2]) :: (47, 3, .if_icmp .ge 7, [54]) :: (50, 1, .iconst (-1), []) :: (51, 3, .goto 10, [61]) :: cd_83_54
def cd_83_0 : List vi_E := (0, 1, .aload_n 0, [0]) :: (1, 3, .getfield 9, [5, 4, 0, 382]) :: (4, 3, .sipush 168, [168]) :: (7, 3, .if_icmp .ne 12, [19]) :: (10, 1, .aload_n 0, [0]) :: (11, 3, .getfield 15, [5, 5, 0, 384]) :: (14, 3, .ifCond .ne 5, [19]) :: (17, 1, .iconst (-1), []) :: (18, 1, .ireturn, []) :: cd_83_19
def cd_83 : List vi_E := cd_83_0
set_option maxRecDepth 100000 in
theorem ok_83 : vi_okC MT (MT 83) cd_83 = true := by decide +kernel
theorem at_83_0 : vi_at cd_83 0 = cd_83_0 := rfl
set_option maxRecDepth 100000 in
theorem at_83_19 : vi_at cd_83 19 = cd_83_19 := rfl
set_option maxRecDepth 100000 in
theorem at_83_54 : vi_at cd_83 54 = cd_83_54 := rfl
set_option maxRecDepth 100000 in
theorem at_83_61 : vi_at cd_83 61 = cd_83_61 := rfl
def cd_84_0 : List vi_E := (0, 1, .aload_n 0, [0]) :: (1, 3, .invokespecial 3, [373, 77, 78]) :: (4, 1, .aload_n 0, [0]) :: (5, 1, .iconst 0, [0]) :: (6, 3, .putfield 9, [5, 4, 0, 382]) :: (9, 1, .aload_n 0, [0]) :: (10, 3, .sipush 168, [168]) :: (13, 3, .putfield 15, [5, 5, 0, 384]) :: (16, 1, .aload_n 0, [0]) :: (17, 1, .iload_n 1, [1]) :: (18, 3, .putfield 18, [5, 0, 0, 374]) :: (21, 1, .aload_n 0, [0]) :: (22, 1, .iload_n 2, [2]) :: (23, 3, .putfield 21, [5, 1, 0, 376]) :: (26, 1, .aload_n 0, [0]) :: (27, 1, .iload_n 3, [3]) :: (28, 3, .putfield 24, [5, 2, 0, 378]) :: (31, 1, .aload_n 0, [0]) :: (32, 2, .iload 4, [4]) :: (34, 3, .putfield 27, [5, 3, 0, 380]) :: (37, 1, .return_, []) :: []
def cd_84 : List vi_E := cd_84_0
set_option maxRecDepth 100000 in
theorem ok_84 : vi_okC MT (MT 84) cd_84 = true := by decide +kernel
theorem at_84_0 : vi_at cd_84 0 = cd_84_0 := rfl
def cd_85_54 : List vi_E := (54, 1, .ireturn, []) :: []
def cd_85_53 : List vi_E := (53, 1, .iconst 0, [0]) :: cd_85_54
def cd_85_49 : List vi_E := (49, 1, .iconst 1, [1]) :: (50, 3, .goto 4, [54]) :: cd_85_53
def cd_85_33 : List vi_E := (33, 1, .iload_n 1, [1]) :: (34, 1, .aload_n 0, [0]) :: (35, 3, .getfield 9, [5, 4, 0, 382]) :: (38, 3, .if_icmp .ge 11, [49]) :: (41, 1, .iload_n 1, [1]) :: (42, 1, .aload_n 0, [0]) :: (43, 3, .getfield 15, [5, 5, 0, 384]) :: (46, 3, .if_icmp .ge 7, [53]) :: cd_85_49
def cd_85_32 : List vi_E := (32, 1, .ireturn, []) :: cd_85_33
def cd_85_31 : List vi_E := (31, 1, .iconst 0, [0]) :: cd_85_32
def cd_85_0 : List vi_E := (0, 1, .aload_n 0, [0]) :: (1, 3, .getfield 9, [5, 4, 0, 382]) :: (4, 1, .aload_n 0, [0]) :: (5, 3, .getfield 15, [5, 5, 0, 384]) :: (8, 3, .if_icmp .ge 25, [33]) :: (11, 1, .aload_n 0, [0]) :: (12, 3, .getfield 9, [5, 4, 0, 382]) :: (15, 1, .iload_n 1, [1]) :: (16, 3, .if_icmp .gt 15, [31]) :: (19, 1, .iload_n 1, [1]) :: (20, 1, .aload_n 0, [0]) :: (21, 3, .getfield 15, [5, 5, 0, 384]) :: (24, 3, .if_icmp .ge 7, [31]) :: (27, 1, .iconst 1, [1]) :: (28, 3, .goto 4, [32]) :: cd_85_31
def cd_85 : List vi_E := cd_85_0
set_option maxRecDepth 100000 in
theorem ok_85 : vi_okC MT (MT 85) cd_85 = true := by decide +kernel
theorem at_85_0 : vi_at cd_85 0 = cd_85_0 := rfl
set_option maxRecDepth 100000 in
theorem at_85_31 : vi_at cd_85 31 = cd_85_31 := rfl
set_option maxRecDepth 100000 in
theorem at_85_32 : vi_at cd_85 32 = cd_85_32 := rfl
set_option maxRecDepth 100000 in
theorem at_85_33 : vi_at cd_85 33 = cd_85_33 := rfl
set_option maxRecDepth 100000 in
theorem at_85_49 : vi_at cd_85 49 = cd_85_49 := rfl
set_option maxRecDepth 100000 in
theorem at_85_53 : vi_at cd_85 53 = cd_85_53 := rfl
set_option maxRecDepth 100000 in
theorem at_85_54 : vi_at cd_85 54 = cd_85_54 := rfl
def cd_86_0 : List vi_E := (0, 1, .aload_n 0, [0]) :: (1, 3, .invokespecial 1, [698, 77, 78]) :: (4, 1, .aload_n 0, [0]) :: (5, 1, .iload_n 1, [1]) :: (6, 3, .putfield 7, [6, 0, 0, 699]) :: (9, 1, .aload_n 0, [0]) :: (10, 1, .iload_n 2, [2]) :: (11, 3, .putfield 13, [6, 1, 0, 701]) :: (14, 1, .aload_n 0, [0]) :: (15, 1, .iload_n 3, [3]) :: (16, 3, .putfield 16, [6, 2, 0, 703]) :: (19, 1, .return_, []) :: []
def cd_86 : List vi_E := cd_86_0
set_option maxRecDepth 100000 in
theorem ok_86 : vi_okC MT (MT 86) cd_86 = true := by decide +kernel
theorem at_86_0 : vi_at cd_86 0 = cd_86_0 := rfl
def cd_87_21 : List vi_E := (21, 1, .ireturn, []) :: []
def cd_87_20 : List vi_E := (20, 1, .iconst 0, [0]) :: cd_87_21
def cd_87_0 : List vi_E := (0, 1, .aload_n 0, [0]) :: (1, 3, .getfield 13, [6, 1, 0, 701]) :: (4, 1, .iload_n 1, [1]) :: (5, 3, .if_icmp .gt 15, [20]) :: (8, 1, .iload_n 1, [1]) :: (9, 1, .aload_n 0, [0]) :: (10, 3, .getfield 16, [6, 2, 0, 703]) :: (13, 3, .if_icmp .ge 7, [20]) :: (16, 1, .iconst 1, [1]) :: (17, 3, .goto 4, [21]) :: cd_87_20
def cd_87 : List vi_E := cd_87_0
set_option maxRecDepth 100000 in
theorem ok_87 : vi_okC MT (MT 87) cd_87 = true := by decide +kernel
theorem at_87_0 : vi_at cd_87 0 = cd_87_0 := rfl
set_option maxRecDepth 100000 in
theorem at_87_20 : vi_at cd_87 20 = cd_87_20 := rfl
set_option maxRecDepth 100000 in
theorem at_87_21 : vi_at cd_87 21 = cd_87_21 := rfl
def cd_88_0 : List vi_E := (0, 1, .aload_n 0, [0]) :: (1, 3, .invokespecial 3, [505, 77, 78]) :: (4, 1, .aload_n 0, [0]) :: (5, 3, .getstatic 9, [1, 463, 0]) :: (8, 3, .putfield 15, [7, 5, 2, 516]) :: (11, 1, .aload_n 0, [0]) :: (12, 1, .iconst 0, [0]) :: (13, 3, .putfield 20, [7, 6, 3, 518]) :: (16, 1, .aload_n 0, [0]) :: (17, 1, .iconst 0, [0]) :: (18, 3, .putfield 24, [7, 7, 0, 521]) :: (21, 1, .aload_n 0, [0]) :: (22, 1, .iconst (-1), []) :: (23, 3, .putfield 28, [7, 8, 0, 523]) :: (26, 1, .aload_n 0, [0]) :: (27, 1, .iload_n 1, [1]) :: (28, 3, .putfield 31, [7, 0, 0, 506]) :: (31, 1, .aload_n 0, [0]) :: (32, 1, .iload_n 2, [2]) :: (33, 3, .putfield 34, [7, 1, 0, 508]) :: (36, 1, .aload_n 0, [0]) :: (37, 1, .iload_n 3, [3]) :: (38, 3, .putfield 37, [7, 2, 0, 510]) :: (41, 1, .aload_n 0, [0]) :: (42, 2, .iload 4, [4]) :: (44, 3, .putfield 40, [7, 3, 0, 512]) :: (47, 1, .aload_n 0, [0]) :: (48, 2, .iload 5, [5]) :: (50, 3, .putfield 43, [7, 4, 0, 514]) :: (53, 1, .return_, []) :: []
def cd_88 : List vi_E := cd_88_0
set_option maxRecDepth 100000 in
theorem ok_88 : vi_okC MT (MT 88) cd_88 = true := by decide +kernel
theorem at_88_0 : vi_at cd_88 0 = cd_88_0 := rfl
def cd_89_24 : List vi_E := (24, 1, .ireturn, []) :: []
def cd_89_23 : List vi_E := (23, 1, .iconst 0, [0]) :: cd_89_24
def cd_89_0 : List vi_E := (0, 1, .aload_n 0, [0]) :: (1, 3, .getfield 28, [7, 8, 0, 523]) :: (4, 1, .iconst (-1), []) :: (5, 3, .if_icmp .eq 18, [23]) :: (8, 1, .iload_n 1, [1]) :: (9, 1, .aload_n 0, [0]) :: (10, 3, .getfield 28, [7, 8, 0, 523]) :: (13, 1, .isub, []) :: (14, 2, .bipush 15, [15]) :: (16, 3, .if_icmp .gt 7, [23]) :: (19, 1, .iconst 1, [1]) :: (20, 3, .goto 4, [24]) :: cd_89_23
def cd_89 : List vi_E := cd_89_0
set_option maxRecDepth 100000 in
theorem ok_89 : vi_okC MT (MT 89) cd_89 = true := by decide +kernel
theorem at_89_0 : vi_at cd_89 0 = cd_89_0 := rfl
set_option maxRecDepth 100000 in
theorem at_89_23 : vi_at cd_89 23 = cd_89_23 := rfl
set_option maxRecDepth 100000 in
theorem at_89_24 : vi_at cd_89 24 = cd_89_24 := rfl
def cd_90_15 : List vi_E := (15, 1, .ireturn, []) :: []
def cd_90_14 : List vi_E := (14, 1, .iconst 0, [0]) :: cd_90_15
def cd_90_0 : List vi_E := (0, 1, .aload_n 0, [0]) :: (1, 3, .getfield 15, [7, 5, 2, 516]) :: (4, 3, .getstatic 9, [1, 463, 0]) :: (7, 3, .if_acmp .ne 7, [14]) :: (10, 1, .iconst 1, [1]) :: (11, 3, .goto 4, [15]) :: cd_90_14
def cd_90 : List vi_E := cd_90_0
set_option maxRecDepth 100000 in
theorem ok_90 : vi_okC MT (MT 90) cd_90 = true := by decide +kernel
theorem at_90_0 : vi_at cd_90 0 = cd_90_0 := rfl
set_option maxRecDepth 100000 in
theorem at_90_14 : vi_at cd_90 14 = cd_90_14 := rfl
set_option maxRecDepth 100000 in
theorem at_90_15 : vi_at cd_90 15 = cd_90_15 := rfl
def cd_91_25 : List vi_E := (25, 1, .iconst (-1), []) :: (26, 1, .ireturn, []) :: []
def cd_91_19 : List vi_E := (19, 3, .iinc 1 1, []) :: (22, 3, .goto (-20), [2]) :: cd_91_25
def cd_91_2 : List vi_E := (2, 1, .iload_n 1, [1]) :: (3, 3, .sipush 168, [168]) :: (6, 3, .if_icmp .ge 19, [25]) :: (9, 1, .aload_n 0, [0]) :: (10, 1, .iload_n 1, [1]) :: (11, 3, .invokevirtual 33, [93, 1, 8, 428, 431, 53, 430, 1]) :: (14, 3, .ifCond .ne 5, [19]) :: (17, 1, .iload_n 1, [1]) :: (18, 1, .ireturn, []) :: cd_91_19
def cd_91_0 : List vi_E := (0, 1, .iconst 0, [0]) :: (1, 1, .istore_n 1, [1]) :: cd_91_2
def cd_91 : List vi_E := cd_91_0
set_option maxRecDepth 100000 in
theorem ok_91 : vi_okC MT (MT 91) cd_91 = true := by decide +kernel
theorem at_91_0 : vi_at cd_91 0 = cd_91_0 := rfl
set_option maxRecDepth 100000 in
theorem at_91_2 : vi_at cd_91 2 = cd_91_2 := rfl
set_option maxRecDepth 100000 in
theorem at_91_19 : vi_at cd_91 19 = cd_91_19 := rfl
set_option maxRecDepth 100000 in
theorem at_91_25 : vi_at cd_91 25 = cd_91_25 := rfl
def cd_92_60 : List vi_E := (60, 1, .return_, []) :: []
def cd_92_54 : List vi_E := (54, 3, .iinc 2 1, []) :: (57, 3, .goto (-50), [7]) :: cd_92_60
def cd_92_7 : List vi_E := (7, 1, .iload_n 2, [2]) :: (8, 2, .bipush 24, [24]) :: (10, 3, .if_icmp .ge 50, [60]) :: (13, 1, .aload_n 1, [1]) :: (14, 1, .iload_n 2, [2]) :: (15, 1, .aaload, [6]) :: (16, 3, .ifnull 38, [54]) :: (19, 1, .aload_n 1, [1]) :: (20, 1, .iload_n 2, [2]) :: (21, 1, .aaload, [6]) :: (22, 3, .getfield 30, [5, 3, 0, 381]) :: (25, 1, .aload_n 0, [0]) :: (26, 3, .getfield 27, [8, 0, 0, 157]) :: (29, 3, .if_icmp .ne 25, [54]) :: (32, 1, .aload_n 0, [0]) :: (33, 3, .getfield 11, [8, 1, 2, 159]) :: (36, 1, .aload_n 0, [0]) :: (37, 3, .getfield 17, [8, 2, 0, 161]) :: (40, 1, .aload_n 1, [1]) :: (41, 1, .iload_n 2, [2]) :: (42, 1, .aaload, [6]) :: (43, 1, .aastore, [6, 5]) :: (44, 1, .aload_n 0, [0]) :: (45, 1, .dup, []) :: (46, 3, .getfield 17, [8, 2, 0, 161]) :: (49, 1, .iconst 1, [1]) :: (50, 1, .iadd, []) :: (51, 3, .putfield 17, [8, 2, 0, 161]) :: cd_92_54
def cd_92_0 : List vi_E := (0, 1, .aload_n 0, [0]) :: (1, 1, .iconst 0, [0]) :: (2, 3, .putfield 17, [8, 2, 0, 161]) :: (5, 1, .iconst 0, [0]) :: (6, 1, .istore_n 2, [2]) :: cd_92_7
def cd_92 : List vi_E := cd_92_0
set_option maxRecDepth 100000 in
theorem ok_92 : vi_okC MT (MT 92) cd_92 = true := by decide +kernel
theorem at_92_0 : vi_at cd_92 0 = cd_92_0 := rfl
set_option maxRecDepth 100000 in
theorem at_92_7 : vi_at cd_92 7 = cd_92_7 := rfl
set_option maxRecDepth 100000 in
theorem at_92_54 : vi_at cd_92 54 = cd_92_54 := rfl
set_option maxRecDepth 100000 in
theorem at_92_60 : vi_at cd_92 60 = cd_92_60 := rfl
def cd_93_31 : List vi_E := (31, 1, .iconst 0, [0]) :: (32, 1, .ireturn, []) :: []
def cd_93_25 : List vi_E := (25, 3, .iinc 2 1, []) :: (28, 3, .goto (-26), [2]) :: cd_93_31
def cd_93_2 : List vi_E := (2, 1, .iload_n 2, [2]) :: (3, 1, .aload_n 0, [0]) :: (4, 3, .getfield 17, [8, 2, 0, 161]) :: (7, 3, .if_icmp .ge 24, [31]) :: (10, 1, .aload_n 0, [0]) :: (11, 3, .getfield 11, [8, 1, 2, 159]) :: (14, 1, .iload_n 2, [2]) :: (15, 1, .aaload, [6]) :: (16, 1, .iload_n 1, [1]) :: (17, 3, .invokevirtual 37, [85, 1, 5, 432, 435, 61, 433, 434]) :: (20, 3, .ifCond .eq 5, [25]) :: (23, 1, .iconst 1, [1]) :: (24, 1, .ireturn, []) :: cd_93_25
def cd_93_0 : List vi_E := (0, 1, .iconst 0, [0]) :: (1, 1, .istore_n 2, [2]) :: cd_93_2
def cd_93 : List vi_E := cd_93_0
set_option maxRecDepth 100000 in
theorem ok_93 : vi_okC MT (MT 93) cd_93 = true := by decide +kernel
theorem at_93_0 : vi_at cd_93 0 = cd_93_0 := rfl
set_option maxRecDepth 100000 in
theorem at_93_2 : vi_at cd_93 2 = cd_93_2 := rfl
set_option maxRecDepth 100000 in
theorem at_93_25 : vi_at cd_93 25 = cd_93_25 := rfl
set_option maxRecDepth 100000 in
theorem at_93_31 : vi_at cd_93 31 = cd_93_31 := rfl
def cd_94_0 : List vi_E := (0, 1, .aload_n 0, [0]) :: (1, 3, .invokespecial 3, [155, 77, 78]) :: (4, 1, .aload_n 0, [0]) :: (5, 2, .bipush 24, [24]) :: (7, 3, .anewarray 9, [6, 156, 82]) :: (10, 3, .putfield 11, [8, 1, 2, 159]) :: (13, 1, .aload_n 0, [0]) :: (14, 1, .iconst 0, [0]) :: (15, 3, .putfield 17, [8, 2, 0, 161]) :: (18, 1, .aload_n 0, [0]) :: (19, 2, .bipush 20, [20]) :: (21, 3, .putfield 21, [8, 3, 0, 163]) :: (24, 1, .aload_n 0, [0]) :: (25, 1, .iconst 0, [0]) :: (26, 3, .putfield 24, [8, 4, 0, 165]) :: (29, 1, .aload_n 0, [0]) :: (30, 1, .iload_n 1, [1]) :: (31, 3, .putfield 27, [8, 0, 0, 157]) :: (34, 1, .return_, []) :: []
def cd_94 : List vi_E := cd_94_0
set_option maxRecDepth 100000 in
theorem ok_94 : vi_okC MT (MT 94) cd_94 = true := by decide +kernel
theorem at_94_0 : vi_at cd_94 0 = cd_94_0 := rfl

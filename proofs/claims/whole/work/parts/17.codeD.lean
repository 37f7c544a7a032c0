/-! ===== code, entry by entry ===== -/
def cd_155_25 : List vi_E := (25, 1, .iconst 0, [0]) :: (26, 1, .ireturn, []) :: []
def cd_155_21 : List vi_E := (21, 2, .astore 6, [6]) :: (23, 1, .iconst 2, [2]) :: (24, 1, .ireturn, []) :: cd_155_25
def cd_155_17 : List vi_E := (17, 2, .astore 6, [6]) :: (19, 1, .iconst 1, [1]) :: (20, 1, .ireturn, []) :: cd_155_21
def cd_155_0 : List vi_E := (0, 2, .aload 5, [5]) :: (2, 1, .iconst 0, [0]) :: (3, 1, .aload_n 0, [0]) :: (4, 1, .iload_n 1, [1]) :: (5, 1, .iload_n 2, [2]) :: (6, 1, .iload_n 3, [3]) :: (7, 2, .iload 4, [4]) :: (9, 3, .invokevirtual 95, [8, 4, 9, 856, 859, 50, 857, 858]) :: (12, 1, .i2l, []) :: (13, 1, .lastore, []) :: (14, 3, .goto 11, [25]) :: cd_155_17
def cd_155 : List vi_E := cd_155_0
set_option maxRecDepth 100000 in
theorem ok_155 : vi_okC MT (MT 155) cd_155 = true := by decide +kernel
theorem at_155_0 : vi_at cd_155 0 = cd_155_0 := rfl
set_option maxRecDepth 100000 in
theorem at_155_17 : vi_at cd_155 17 = cd_155_17 := rfl
set_option maxRecDepth 100000 in
theorem at_155_21 : vi_at cd_155 21 = cd_155_21 := rfl
set_option maxRecDepth 100000 in
theorem at_155_25 : vi_at cd_155 25 = cd_155_25 := rfl
def cd_156_17 : List vi_E := (17, 1, .iconst 0, [0]) :: (18, 1, .ireturn, []) :: []
def cd_156_13 : List vi_E := (13, 2, .astore 4, [4]) :: (15, 1, .iconst 1, [1]) :: (16, 1, .ireturn, []) :: cd_156_17
def cd_156_0 : List vi_E := (0, 1, .aload_n 3, [3]) :: (1, 1, .iconst 0, [0]) :: (2, 1, .aload_n 0, [0]) :: (3, 1, .iload_n 1, [1]) :: (4, 1, .iload_n 2, [2]) :: (5, 3, .invokevirtual 83, [9, 2, 9, 825, 828, 50, 826, 827]) :: (8, 1, .i2l, []) :: (9, 1, .lastore, []) :: (10, 3, .goto 7, [17]) :: cd_156_13
def cd_156 : List vi_E := cd_156_0
set_option maxRecDepth 100000 in
theorem ok_156 : vi_okC MT (MT 156) cd_156 = true := by decide +kernel
theorem at_156_0 : vi_at cd_156 0 = cd_156_0 := rfl
set_option maxRecDepth 100000 in
theorem at_156_13 : vi_at cd_156 13 = cd_156_13 := rfl
set_option maxRecDepth 100000 in
theorem at_156_17 : vi_at cd_156 17 = cd_156_17 := rfl
def cd_157_22 : List vi_E := (22, 1, .iconst 0, [0]) :: (23, 1, .ireturn, []) :: []
def cd_157_19 : List vi_E := (19, 1, .astore_n 3, [3]) :: (20, 1, .iconst 1, [1]) :: (21, 1, .ireturn, []) :: cd_157_22
def cd_157_15 : List vi_E := (15, 1, .lastore, []) :: (16, 3, .goto 6, [22]) :: cd_157_19
def cd_157_14 : List vi_E := (14, 1, .lconst 0, [0]) :: cd_157_15
def cd_157_0 : List vi_E := (0, 1, .aload_n 2, [2]) :: (1, 1, .iconst 0, [0]) :: (2, 1, .aload_n 0, [0]) :: (3, 1, .iload_n 1, [1]) :: (4, 3, .invokevirtual 61, [10, 1, 9, 714, 717, 50, 715, 716]) :: (7, 3, .ifCond .eq 7, [14]) :: (10, 1, .lconst 1, [1]) :: (11, 3, .goto 4, [15]) :: cd_157_14
def cd_157 : List vi_E := cd_157_0
set_option maxRecDepth 100000 in
theorem ok_157 : vi_okC MT (MT 157) cd_157 = true := by decide +kernel
theorem at_157_0 : vi_at cd_157 0 = cd_157_0 := rfl
set_option maxRecDepth 100000 in
theorem at_157_14 : vi_at cd_157 14 = cd_157_14 := rfl
set_option maxRecDepth 100000 in
theorem at_157_15 : vi_at cd_157 15 = cd_157_15 := rfl
set_option maxRecDepth 100000 in
theorem at_157_19 : vi_at cd_157 19 = cd_157_19 := rfl
set_option maxRecDepth 100000 in
theorem at_157_22 : vi_at cd_157 22 = cd_157_22 := rfl
def cd_158_17 : List vi_E := (17, 1, .iconst 0, [0]) :: (18, 1, .ireturn, []) :: []
def cd_158_13 : List vi_E := (13, 2, .astore 4, [4]) :: (15, 1, .iconst 1, [1]) :: (16, 1, .ireturn, []) :: cd_158_17
def cd_158_0 : List vi_E := (0, 1, .aload_n 3, [3]) :: (1, 1, .iconst 0, [0]) :: (2, 1, .aload_n 0, [0]) :: (3, 1, .iload_n 1, [1]) :: (4, 1, .iload_n 2, [2]) :: (5, 3, .invokevirtual 77, [11, 2, 9, 811, 814, 50, 812, 813]) :: (8, 1, .i2l, []) :: (9, 1, .lastore, []) :: (10, 3, .goto 7, [17]) :: cd_158_13
def cd_158 : List vi_E := cd_158_0
set_option maxRecDepth 100000 in
theorem ok_158 : vi_okC MT (MT 158) cd_158 = true := by decide +kernel
theorem at_158_0 : vi_at cd_158 0 = cd_158_0 := rfl
set_option maxRecDepth 100000 in
theorem at_158_13 : vi_at cd_158 13 = cd_158_13 := rfl
set_option maxRecDepth 100000 in
theorem at_158_17 : vi_at cd_158 17 = cd_158_17 := rfl
def cd_159_21 : List vi_E := (21, 1, .iconst 0, [0]) :: (22, 1, .ireturn, []) :: []
def cd_159_17 : List vi_E := (17, 2, .astore 4, [4]) :: (19, 1, .iconst 2, [2]) :: (20, 1, .ireturn, []) :: cd_159_21
def cd_159_13 : List vi_E := (13, 2, .astore 4, [4]) :: (15, 1, .iconst 1, [1]) :: (16, 1, .ireturn, []) :: cd_159_17
def cd_159_0 : List vi_E := (0, 1, .aload_n 3, [3]) :: (1, 1, .iconst 0, [0]) :: (2, 1, .aload_n 0, [0]) :: (3, 1, .iload_n 1, [1]) :: (4, 1, .iload_n 2, [2]) :: (5, 3, .invokevirtual 67, [13, 2, 9, 738, 741, 50, 739, 740]) :: (8, 1, .i2l, []) :: (9, 1, .lastore, []) :: (10, 3, .goto 11, [21]) :: cd_159_13
def cd_159 : List vi_E := cd_159_0
set_option maxRecDepth 100000 in
theorem ok_159 : vi_okC MT (MT 159) cd_159 = true := by decide +kernel
theorem at_159_0 : vi_at cd_159 0 = cd_159_0 := rfl
set_option maxRecDepth 100000 in
theorem at_159_13 : vi_at cd_159 13 = cd_159_13 := rfl
set_option maxRecDepth 100000 in
theorem at_159_17 : vi_at cd_159 17 = cd_159_17 := rfl
set_option maxRecDepth 100000 in
theorem at_159_21 : vi_at cd_159 21 = cd_159_21 := rfl
def cd_160_18 : List vi_E := (18, 1, .iconst 0, [0]) :: (19, 1, .ireturn, []) :: []
def cd_160_14 : List vi_E := (14, 2, .astore 4, [4]) :: (16, 1, .iconst 2, [2]) :: (17, 1, .ireturn, []) :: cd_160_18
def cd_160_10 : List vi_E := (10, 2, .astore 4, [4]) :: (12, 1, .iconst 1, [1]) :: (13, 1, .ireturn, []) :: cd_160_14
def cd_160_0 : List vi_E := (0, 1, .aload_n 0, [0]) :: (1, 1, .iload_n 1, [1]) :: (2, 1, .iload_n 2, [2]) :: (3, 1, .iload_n 3, [3]) :: (4, 3, .invokevirtual 47, [14, 3, 9, 629, 632, 50, 630, 631]) :: (7, 3, .goto 11, [18]) :: cd_160_10
def cd_160 : List vi_E := cd_160_0
set_option maxRecDepth 100000 in
theorem ok_160 : vi_okC MT (MT 160) cd_160 = true := by decide +kernel
theorem at_160_0 : vi_at cd_160 0 = cd_160_0 := rfl
set_option maxRecDepth 100000 in
theorem at_160_10 : vi_at cd_160 10 = cd_160_10 := rfl
set_option maxRecDepth 100000 in
theorem at_160_14 : vi_at cd_160 14 = cd_160_14 := rfl
set_option maxRecDepth 100000 in
theorem at_160_18 : vi_at cd_160 18 = cd_160_18 := rfl
def cd_161_22 : List vi_E := (22, 1, .iconst 0, [0]) :: (23, 1, .ireturn, []) :: []
def cd_161_19 : List vi_E := (19, 1, .astore_n 3, [3]) :: (20, 1, .iconst 1, [1]) :: (21, 1, .ireturn, []) :: cd_161_22
def cd_161_15 : List vi_E := (15, 1, .lastore, []) :: (16, 3, .goto 6, [22]) :: cd_161_19
def cd_161_14 : List vi_E := (14, 1, .lconst 0, [0]) :: cd_161_15
def cd_161_0 : List vi_E := (0, 1, .aload_n 2, [2]) :: (1, 1, .iconst 0, [0]) :: (2, 1, .aload_n 0, [0]) :: (3, 1, .iload_n 1, [1]) :: (4, 3, .invokevirtual 53, [17, 1, 9, 671, 674, 50, 672, 673]) :: (7, 3, .ifCond .eq 7, [14]) :: (10, 1, .lconst 1, [1]) :: (11, 3, .goto 4, [15]) :: cd_161_14
def cd_161 : List vi_E := cd_161_0
set_option maxRecDepth 100000 in
theorem ok_161 : vi_okC MT (MT 161) cd_161 = true := by decide +kernel
theorem at_161_0 : vi_at cd_161 0 = cd_161_0 := rfl
set_option maxRecDepth 100000 in
theorem at_161_14 : vi_at cd_161 14 = cd_161_14 := rfl
set_option maxRecDepth 100000 in
theorem at_161_15 : vi_at cd_161 15 = cd_161_15 := rfl
set_option maxRecDepth 100000 in
theorem at_161_19 : vi_at cd_161 19 = cd_161_19 := rfl
set_option maxRecDepth 100000 in
theorem at_161_22 : vi_at cd_161 22 = cd_161_22 := rfl
def cd_162_23 : List vi_E := (23, 1, .iconst 0, [0]) :: (24, 1, .ireturn, []) :: []
def cd_162_19 : List vi_E := (19, 2, .astore 5, [5]) :: (21, 1, .iconst 2, [2]) :: (22, 1, .ireturn, []) :: cd_162_23
def cd_162_15 : List vi_E := (15, 2, .astore 5, [5]) :: (17, 1, .iconst 1, [1]) :: (18, 1, .ireturn, []) :: cd_162_19
def cd_162_0 : List vi_E := (0, 2, .aload 4, [4]) :: (2, 1, .iconst 0, [0]) :: (3, 1, .aload_n 0, [0]) :: (4, 1, .iload_n 1, [1]) :: (5, 1, .iload_n 2, [2]) :: (6, 1, .iload_n 3, [3]) :: (7, 3, .invokevirtual 32, [18, 3, 9, 439, 442, 50, 440, 441]) :: (10, 1, .i2l, []) :: (11, 1, .lastore, []) :: (12, 3, .goto 11, [23]) :: cd_162_15
def cd_162 : List vi_E := cd_162_0
set_option maxRecDepth 100000 in
theorem ok_162 : vi_okC MT (MT 162) cd_162 = true := by decide +kernel
theorem at_162_0 : vi_at cd_162 0 = cd_162_0 := rfl
set_option maxRecDepth 100000 in
theorem at_162_15 : vi_at cd_162 15 = cd_162_15 := rfl
set_option maxRecDepth 100000 in
theorem at_162_19 : vi_at cd_162 19 = cd_162_19 := rfl
set_option maxRecDepth 100000 in
theorem at_162_23 : vi_at cd_162 23 = cd_162_23 := rfl
def cd_163_21 : List vi_E := (21, 1, .iconst 0, [0]) :: (22, 1, .ireturn, []) :: []
def cd_163_17 : List vi_E := (17, 2, .astore 4, [4]) :: (19, 1, .iconst 2, [2]) :: (20, 1, .ireturn, []) :: cd_163_21
def cd_163_13 : List vi_E := (13, 2, .astore 4, [4]) :: (15, 1, .iconst 1, [1]) :: (16, 1, .ireturn, []) :: cd_163_17
def cd_163_0 : List vi_E := (0, 1, .aload_n 3, [3]) :: (1, 1, .iconst 0, [0]) :: (2, 1, .aload_n 0, [0]) :: (3, 1, .iload_n 1, [1]) :: (4, 1, .iload_n 2, [2]) :: (5, 3, .invokevirtual 36, [19, 2, 9, 547, 550, 50, 548, 549]) :: (8, 1, .i2l, []) :: (9, 1, .lastore, []) :: (10, 3, .goto 11, [21]) :: cd_163_13
def cd_163 : List vi_E := cd_163_0
set_option maxRecDepth 100000 in
theorem ok_163 : vi_okC MT (MT 163) cd_163 = true := by decide +kernel
theorem at_163_0 : vi_at cd_163 0 = cd_163_0 := rfl
set_option maxRecDepth 100000 in
theorem at_163_13 : vi_at cd_163 13 = cd_163_13 := rfl
set_option maxRecDepth 100000 in
theorem at_163_17 : vi_at cd_163 17 = cd_163_17 := rfl
set_option maxRecDepth 100000 in
theorem at_163_21 : vi_at cd_163 21 = cd_163_21 := rfl
def cd_164_23 : List vi_E := (23, 1, .iconst 0, [0]) :: (24, 1, .ireturn, []) :: []
def cd_164_19 : List vi_E := (19, 2, .astore 5, [5]) :: (21, 1, .iconst 2, [2]) :: (22, 1, .ireturn, []) :: cd_164_23
def cd_164_15 : List vi_E := (15, 2, .astore 5, [5]) :: (17, 1, .iconst 1, [1]) :: (18, 1, .ireturn, []) :: cd_164_19
def cd_164_0 : List vi_E := (0, 2, .aload 4, [4]) :: (2, 1, .iconst 0, [0]) :: (3, 1, .aload_n 0, [0]) :: (4, 1, .iload_n 1, [1]) :: (5, 1, .iload_n 2, [2]) :: (6, 1, .iload_n 3, [3]) :: (7, 3, .invokevirtual 80, [21, 3, 9, 818, 821, 50, 819, 820]) :: (10, 1, .i2l, []) :: (11, 1, .lastore, []) :: (12, 3, .goto 11, [23]) :: cd_164_15
def cd_164 : List vi_E := cd_164_0
set_option maxRecDepth 100000 in
theorem ok_164 : vi_okC MT (MT 164) cd_164 = true := by decide +kernel
theorem at_164_0 : vi_at cd_164 0 = cd_164_0 := rfl
set_option maxRecDepth 100000 in
theorem at_164_15 : vi_at cd_164 15 = cd_164_15 := rfl
set_option maxRecDepth 100000 in
theorem at_164_19 : vi_at cd_164 19 = cd_164_19 := rfl
set_option maxRecDepth 100000 in
theorem at_164_23 : vi_at cd_164 23 = cd_164_23 := rfl
def cd_165_15 : List vi_E := (15, 1, .iconst 0, [0]) :: (16, 1, .ireturn, []) :: []
def cd_165_12 : List vi_E := (12, 1, .astore_n 3, [3]) :: (13, 1, .iconst 2, [2]) :: (14, 1, .ireturn, []) :: cd_165_15
def cd_165_9 : List vi_E := (9, 1, .astore_n 3, [3]) :: (10, 1, .iconst 1, [1]) :: (11, 1, .ireturn, []) :: cd_165_12
def cd_165_0 : List vi_E := (0, 1, .aload_n 0, [0]) :: (1, 1, .iload_n 1, [1]) :: (2, 1, .iload_n 2, [2]) :: (3, 3, .invokevirtual 25, [22, 2, 9, 409, 412, 50, 410, 411]) :: (6, 3, .goto 9, [15]) :: cd_165_9
def cd_165 : List vi_E := cd_165_0
set_option maxRecDepth 100000 in
theorem ok_165 : vi_okC MT (MT 165) cd_165 = true := by decide +kernel
theorem at_165_0 : vi_at cd_165 0 = cd_165_0 := rfl
set_option maxRecDepth 100000 in
theorem at_165_9 : vi_at cd_165 9 = cd_165_9 := rfl
set_option maxRecDepth 100000 in
theorem at_165_12 : vi_at cd_165 12 = cd_165_12 := rfl
set_option maxRecDepth 100000 in
theorem at_165_15 : vi_at cd_165 15 = cd_165_15 := rfl
def cd_166_18 : List vi_E := (18, 1, .iconst 0, [0]) :: (19, 1, .ireturn, []) :: []
def cd_166_14 : List vi_E := (14, 2, .astore 4, [4]) :: (16, 1, .iconst 2, [2]) :: (17, 1, .ireturn, []) :: cd_166_18
def cd_166_10 : List vi_E := (10, 2, .astore 4, [4]) :: (12, 1, .iconst 1, [1]) :: (13, 1, .ireturn, []) :: cd_166_14
def cd_166_0 : List vi_E := (0, 1, .aload_n 0, [0]) :: (1, 1, .iload_n 1, [1]) :: (2, 1, .iload_n 2, [2]) :: (3, 1, .iload_n 3, [3]) :: (4, 3, .invokevirtual 21, [23, 3, 9, 402, 405, 50, 403, 404]) :: (7, 3, .goto 11, [18]) :: cd_166_10
def cd_166 : List vi_E := cd_166_0
set_option maxRecDepth 100000 in
theorem ok_166 : vi_okC MT (MT 166) cd_166 = true := by decide +kernel
theorem at_166_0 : vi_at cd_166 0 = cd_166_0 := rfl
set_option maxRecDepth 100000 in
theorem at_166_10 : vi_at cd_166 10 = cd_166_10 := rfl
set_option maxRecDepth 100000 in
theorem at_166_14 : vi_at cd_166 14 = cd_166_14 := rfl
set_option maxRecDepth 100000 in
theorem at_166_18 : vi_at cd_166 18 = cd_166_18 := rfl
def cd_167_15 : List vi_E := (15, 1, .iconst 0, [0]) :: (16, 1, .ireturn, []) :: []
def cd_167_12 : List vi_E := (12, 1, .astore_n 3, [3]) :: (13, 1, .iconst 1, [1]) :: (14, 1, .ireturn, []) :: cd_167_15
def cd_167_0 : List vi_E := (0, 1, .aload_n 2, [2]) :: (1, 1, .iconst 0, [0]) :: (2, 1, .aload_n 0, [0]) :: (3, 1, .iload_n 1, [1]) :: (4, 3, .invokevirtual 89, [25, 1, 9, 839, 842, 50, 840, 841]) :: (7, 1, .i2l, []) :: (8, 1, .lastore, []) :: (9, 3, .goto 6, [15]) :: cd_167_12
def cd_167 : List vi_E := cd_167_0
set_option maxRecDepth 100000 in
theorem ok_167 : vi_okC MT (MT 167) cd_167 = true := by decide +kernel
theorem at_167_0 : vi_at cd_167 0 = cd_167_0 := rfl
set_option maxRecDepth 100000 in
theorem at_167_12 : vi_at cd_167 12 = cd_167_12 := rfl
set_option maxRecDepth 100000 in
theorem at_167_15 : vi_at cd_167 15 = cd_167_15 := rfl
def cd_168_17 : List vi_E := (17, 1, .iconst 0, [0]) :: (18, 1, .ireturn, []) :: []
def cd_168_13 : List vi_E := (13, 2, .astore 4, [4]) :: (15, 1, .iconst 1, [1]) :: (16, 1, .ireturn, []) :: cd_168_17
def cd_168_0 : List vi_E := (0, 1, .aload_n 3, [3]) :: (1, 1, .iconst 0, [0]) :: (2, 1, .aload_n 0, [0]) :: (3, 1, .iload_n 1, [1]) :: (4, 1, .iload_n 2, [2]) :: (5, 3, .invokevirtual 99, [39, 2, 9, 876, 879, 50, 877, 878]) :: (8, 1, .i2l, []) :: (9, 1, .lastore, []) :: (10, 3, .goto 7, [17]) :: cd_168_13
def cd_168 : List vi_E := cd_168_0
set_option maxRecDepth 100000 in
theorem ok_168 : vi_okC MT (MT 168) cd_168 = true := by decide +kernel
theorem at_168_0 : vi_at cd_168 0 = cd_168_0 := rfl
set_option maxRecDepth 100000 in
theorem at_168_13 : vi_at cd_168 13 = cd_168_13 := rfl
set_option maxRecDepth 100000 in
theorem at_168_17 : vi_at cd_168 17 = cd_168_17 := rfl
def cd_170_23 : List vi_E := (23, 1, .iconst 0, [0]) :: (24, 1, .ireturn, []) :: []
def cd_170_19 : List vi_E := (19, 2, .astore 5, [5]) :: (21, 1, .iconst 2, [2]) :: (22, 1, .ireturn, []) :: cd_170_23
def cd_170_15 : List vi_E := (15, 2, .astore 5, [5]) :: (17, 1, .iconst 1, [1]) :: (18, 1, .ireturn, []) :: cd_170_19
def cd_170_0 : List vi_E := (0, 2, .aload 4, [4]) :: (2, 1, .iconst 0, [0]) :: (3, 1, .aload_n 0, [0]) :: (4, 1, .iload_n 1, [1]) :: (5, 1, .iload_n 2, [2]) :: (6, 1, .iload_n 3, [3]) :: (7, 3, .invokevirtual 92, [41, 3, 9, 846, 849, 50, 847, 848]) :: (10, 1, .i2l, []) :: (11, 1, .lastore, []) :: (12, 3, .goto 11, [23]) :: cd_170_15
def cd_170 : List vi_E := cd_170_0
set_option maxRecDepth 100000 in
theorem ok_170 : vi_okC MT (MT 170) cd_170 = true := by decide +kernel
theorem at_170_0 : vi_at cd_170 0 = cd_170_0 := rfl
set_option maxRecDepth 100000 in
theorem at_170_15 : vi_at cd_170 15 = cd_170_15 := rfl
set_option maxRecDepth 100000 in
theorem at_170_19 : vi_at cd_170 19 = cd_170_19 := rfl
set_option maxRecDepth 100000 in
theorem at_170_23 : vi_at cd_170 23 = cd_170_23 := rfl
def cd_171_28 : List vi_E := (28, 1, .iconst 0, [0]) :: (29, 1, .ireturn, []) :: []
def cd_171_24 : List vi_E := (24, 2, .astore 4, [4]) :: (26, 1, .iconst 2, [2]) :: (27, 1, .ireturn, []) :: cd_171_28
def cd_171_20 : List vi_E := (20, 2, .astore 4, [4]) :: (22, 1, .iconst 1, [1]) :: (23, 1, .ireturn, []) :: cd_171_24
def cd_171_16 : List vi_E := (16, 1, .lastore, []) :: (17, 3, .goto 11, [28]) :: cd_171_20
def cd_171_15 : List vi_E := (15, 1, .lconst 0, [0]) :: cd_171_16
def cd_171_0 : List vi_E := (0, 1, .aload_n 3, [3]) :: (1, 1, .iconst 0, [0]) :: (2, 1, .aload_n 0, [0]) :: (3, 1, .iload_n 1, [1]) :: (4, 1, .iload_n 2, [2]) :: (5, 3, .invokevirtual 40, [42, 2, 9, 611, 614, 50, 612, 613]) :: (8, 3, .ifCond .eq 7, [15]) :: (11, 1, .lconst 1, [1]) :: (12, 3, .goto 4, [16]) :: cd_171_15
def cd_171 : List vi_E := cd_171_0
set_option maxRecDepth 100000 in
theorem ok_171 : vi_okC MT (MT 171) cd_171 = true := by decide +kernel
theorem at_171_0 : vi_at cd_171 0 = cd_171_0 := rfl
set_option maxRecDepth 100000 in
theorem at_171_15 : vi_at cd_171 15 = cd_171_15 := rfl
set_option maxRecDepth 100000 in
theorem at_171_16 : vi_at cd_171 16 = cd_171_16 := rfl
set_option maxRecDepth 100000 in
theorem at_171_20 : vi_at cd_171 20 = cd_171_20 := rfl
set_option maxRecDepth 100000 in
theorem at_171_24 : vi_at cd_171 24 = cd_171_24 := rfl
set_option maxRecDepth 100000 in
theorem at_171_28 : vi_at cd_171 28 = cd_171_28 := rfl
def cd_172_23 : List vi_E := (23, 1, .iconst 0, [0]) :: (24, 1, .ireturn, []) :: []
def cd_172_19 : List vi_E := (19, 2, .astore 5, [5]) :: (21, 1, .iconst 2, [2]) :: (22, 1, .ireturn, []) :: cd_172_23
def cd_172_15 : List vi_E := (15, 2, .astore 5, [5]) :: (17, 1, .iconst 1, [1]) :: (18, 1, .ireturn, []) :: cd_172_19
def cd_172_0 : List vi_E := (0, 2, .aload 4, [4]) :: (2, 1, .iconst 0, [0]) :: (3, 1, .aload_n 0, [0]) :: (4, 1, .iload_n 1, [1]) :: (5, 1, .iload_n 2, [2]) :: (6, 1, .iload_n 3, [3]) :: (7, 3, .invokevirtual 44, [43, 3, 9, 620, 623, 50, 621, 622]) :: (10, 1, .i2l, []) :: (11, 1, .lastore, []) :: (12, 3, .goto 11, [23]) :: cd_172_15
def cd_172 : List vi_E := cd_172_0
set_option maxRecDepth 100000 in
theorem ok_172 : vi_okC MT (MT 172) cd_172 = true := by decide +kernel
theorem at_172_0 : vi_at cd_172 0 = cd_172_0 := rfl
set_option maxRecDepth 100000 in
theorem at_172_15 : vi_at cd_172 15 = cd_172_15 := rfl
set_option maxRecDepth 100000 in
theorem at_172_19 : vi_at cd_172 19 = cd_172_19 := rfl
set_option maxRecDepth 100000 in
theorem at_172_23 : vi_at cd_172 23 = cd_172_23 := rfl
def cd_173_15 : List vi_E := (15, 1, .iconst 0, [0]) :: (16, 1, .ireturn, []) :: []
def cd_173_12 : List vi_E := (12, 1, .astore_n 3, [3]) :: (13, 1, .iconst 1, [1]) :: (14, 1, .ireturn, []) :: cd_173_15
def cd_173_0 : List vi_E := (0, 1, .aload_n 2, [2]) :: (1, 1, .iconst 0, [0]) :: (2, 1, .aload_n 0, [0]) :: (3, 1, .iload_n 1, [1]) :: (4, 3, .invokevirtual 86, [47, 1, 9, 832, 835, 50, 833, 834]) :: (7, 1, .i2l, []) :: (8, 1, .lastore, []) :: (9, 3, .goto 6, [15]) :: cd_173_12
def cd_173 : List vi_E := cd_173_0
set_option maxRecDepth 100000 in
theorem ok_173 : vi_okC MT (MT 173) cd_173 = true := by decide +kernel
theorem at_173_0 : vi_at cd_173 0 = cd_173_0 := rfl
set_option maxRecDepth 100000 in
theorem at_173_12 : vi_at cd_173 12 = cd_173_12 := rfl
set_option maxRecDepth 100000 in
theorem at_173_15 : vi_at cd_173 15 = cd_173_15 := rfl
def cd_174_14 : List vi_E := (14, 1, .iconst 0, [0]) :: (15, 1, .ireturn, []) :: []
def cd_174_11 : List vi_E := (11, 1, .astore_n 2, [2]) :: (12, 1, .iconst 1, [1]) :: (13, 1, .ireturn, []) :: cd_174_14
def cd_174_0 : List vi_E := (0, 1, .aload_n 1, [1]) :: (1, 1, .iconst 0, [0]) :: (2, 1, .aload_n 0, [0]) :: (3, 3, .invokevirtual 28, [48, 0, 9, 416, 419, 50, 417, 418]) :: (6, 1, .i2l, []) :: (7, 1, .lastore, []) :: (8, 3, .goto 6, [14]) :: cd_174_11
def cd_174 : List vi_E := cd_174_0
set_option maxRecDepth 100000 in
theorem ok_174 : vi_okC MT (MT 174) cd_174 = true := by decide +kernel
theorem at_174_0 : vi_at cd_174 0 = cd_174_0 := rfl
set_option maxRecDepth 100000 in
theorem at_174_11 : vi_at cd_174 11 = cd_174_11 := rfl
set_option maxRecDepth 100000 in
theorem at_174_14 : vi_at cd_174 14 = cd_174_14 := rfl
def cd_175_18 : List vi_E := (18, 1, .iconst 0, [0]) :: (19, 1, .ireturn, []) :: []
def cd_175_15 : List vi_E := (15, 1, .astore_n 3, [3]) :: (16, 1, .iconst 2, [2]) :: (17, 1, .ireturn, []) :: cd_175_18
def cd_175_12 : List vi_E := (12, 1, .astore_n 3, [3]) :: (13, 1, .iconst 1, [1]) :: (14, 1, .ireturn, []) :: cd_175_15
def cd_175_0 : List vi_E := (0, 1, .aload_n 2, [2]) :: (1, 1, .iconst 0, [0]) :: (2, 1, .aload_n 0, [0]) :: (3, 1, .iload_n 1, [1]) :: (4, 3, .invokevirtual 74, [49, 1, 9, 804, 807, 50, 805, 806]) :: (7, 1, .i2l, []) :: (8, 1, .lastore, []) :: (9, 3, .goto 9, [18]) :: cd_175_12
def cd_175 : List vi_E := cd_175_0
set_option maxRecDepth 100000 in
theorem ok_175 : vi_okC MT (MT 175) cd_175 = true := by decide +kernel
theorem at_175_0 : vi_at cd_175 0 = cd_175_0 := rfl
set_option maxRecDepth 100000 in
theorem at_175_12 : vi_at cd_175 12 = cd_175_12 := rfl
set_option maxRecDepth 100000 in
theorem at_175_15 : vi_at cd_175 15 = cd_175_15 := rfl
set_option maxRecDepth 100000 in
theorem at_175_18 : vi_at cd_175 18 = cd_175_18 := rfl
def cd_176_23 : List vi_E := (23, 1, .iconst 0, [0]) :: (24, 1, .ireturn, []) :: []
def cd_176_19 : List vi_E := (19, 2, .astore 5, [5]) :: (21, 1, .iconst 2, [2]) :: (22, 1, .ireturn, []) :: cd_176_23
def cd_176_15 : List vi_E := (15, 2, .astore 5, [5]) :: (17, 1, .iconst 1, [1]) :: (18, 1, .ireturn, []) :: cd_176_19
def cd_176_0 : List vi_E := (0, 2, .aload 4, [4]) :: (2, 1, .iconst 0, [0]) :: (3, 1, .aload_n 0, [0]) :: (4, 1, .iload_n 1, [1]) :: (5, 1, .iload_n 2, [2]) :: (6, 1, .iload_n 3, [3]) :: (7, 3, .invokevirtual 64, [50, 3, 9, 721, 724, 50, 722, 723]) :: (10, 1, .i2l, []) :: (11, 1, .lastore, []) :: (12, 3, .goto 11, [23]) :: cd_176_15
def cd_176 : List vi_E := cd_176_0
set_option maxRecDepth 100000 in
theorem ok_176 : vi_okC MT (MT 176) cd_176 = true := by decide +kernel
theorem at_176_0 : vi_at cd_176 0 = cd_176_0 := rfl
set_option maxRecDepth 100000 in
theorem at_176_15 : vi_at cd_176 15 = cd_176_15 := rfl
set_option maxRecDepth 100000 in
theorem at_176_19 : vi_at cd_176 19 = cd_176_19 := rfl
set_option maxRecDepth 100000 in
theorem at_176_23 : vi_at cd_176 23 = cd_176_23 := rfl
def cd_177_18 : List vi_E := (18, 1, .iconst 0, [0]) :: (19, 1, .ireturn, []) :: []
def cd_177_15 : List vi_E := (15, 1, .astore_n 3, [3]) :: (16, 1, .iconst 2, [2]) :: (17, 1, .ireturn, []) :: cd_177_18
def cd_177_12 : List vi_E := (12, 1, .astore_n 3, [3]) :: (13, 1, .iconst 1, [1]) :: (14, 1, .ireturn, []) :: cd_177_15
def cd_177_0 : List vi_E := (0, 1, .aload_n 2, [2]) :: (1, 1, .iconst 0, [0]) :: (2, 1, .aload_n 0, [0]) :: (3, 1, .iload_n 1, [1]) :: (4, 3, .invokevirtual 70, [51, 1, 9, 753, 756, 50, 754, 755]) :: (7, 1, .i2l, []) :: (8, 1, .lastore, []) :: (9, 3, .goto 9, [18]) :: cd_177_12
def cd_177 : List vi_E := cd_177_0
set_option maxRecDepth 100000 in
theorem ok_177 : vi_okC MT (MT 177) cd_177 = true := by decide +kernel
theorem at_177_0 : vi_at cd_177 0 = cd_177_0 := rfl
set_option maxRecDepth 100000 in
theorem at_177_12 : vi_at cd_177 12 = cd_177_12 := rfl
set_option maxRecDepth 100000 in
theorem at_177_15 : vi_at cd_177 15 = cd_177_15 := rfl
set_option maxRecDepth 100000 in
theorem at_177_18 : vi_at cd_177 18 = cd_177_18 := rfl
def cd_178_15 : List vi_E := (15, 1, .iconst 0, [0]) :: (16, 1, .ireturn, []) :: []
def cd_178_12 : List vi_E := (12, 1, .astore_n 3, [3]) :: (13, 1, .iconst 2, [2]) :: (14, 1, .ireturn, []) :: cd_178_15
def cd_178_9 : List vi_E := (9, 1, .astore_n 3, [3]) :: (10, 1, .iconst 1, [1]) :: (11, 1, .ireturn, []) :: cd_178_12
def cd_178_0 : List vi_E := (0, 1, .aload_n 0, [0]) :: (1, 1, .iload_n 1, [1]) :: (2, 1, .iload_n 2, [2]) :: (3, 3, .invokevirtual 7, [52, 2, 9, 263, 266, 50, 264, 265]) :: (6, 3, .goto 9, [15]) :: cd_178_9
def cd_178 : List vi_E := cd_178_0
set_option maxRecDepth 100000 in
theorem ok_178 : vi_okC MT (MT 178) cd_178 = true := by decide +kernel
theorem at_178_0 : vi_at cd_178 0 = cd_178_0 := rfl
set_option maxRecDepth 100000 in
theorem at_178_9 : vi_at cd_178 9 = cd_178_9 := rfl
set_option maxRecDepth 100000 in
theorem at_178_12 : vi_at cd_178 12 = cd_178_12 := rfl
set_option maxRecDepth 100000 in
theorem at_178_15 : vi_at cd_178 15 = cd_178_15 := rfl
def cd_179_15 : List vi_E := (15, 1, .iconst 0, [0]) :: (16, 1, .ireturn, []) :: []
def cd_179_12 : List vi_E := (12, 1, .astore_n 3, [3]) :: (13, 1, .iconst 2, [2]) :: (14, 1, .ireturn, []) :: cd_179_15
def cd_179_9 : List vi_E := (9, 1, .astore_n 3, [3]) :: (10, 1, .iconst 1, [1]) :: (11, 1, .ireturn, []) :: cd_179_12
def cd_179_0 : List vi_E := (0, 1, .aload_n 0, [0]) :: (1, 1, .iload_n 1, [1]) :: (2, 1, .iload_n 2, [2]) :: (3, 3, .invokevirtual 50, [53, 2, 9, 660, 663, 50, 661, 662]) :: (6, 3, .goto 9, [15]) :: cd_179_9
def cd_179 : List vi_E := cd_179_0
set_option maxRecDepth 100000 in
theorem ok_179 : vi_okC MT (MT 179) cd_179 = true := by decide +kernel
theorem at_179_0 : vi_at cd_179 0 = cd_179_0 := rfl
set_option maxRecDepth 100000 in
theorem at_179_9 : vi_at cd_179 9 = cd_179_9 := rfl
set_option maxRecDepth 100000 in
theorem at_179_12 : vi_at cd_179 12 = cd_179_12 := rfl
set_option maxRecDepth 100000 in
theorem at_179_15 : vi_at cd_179 15 = cd_179_15 := rfl
def cd_180_20 : List vi_E := (20, 1, .iconst 0, [0]) :: (21, 1, .ireturn, []) :: []
def cd_180_16 : List vi_E := (16, 2, .astore 5, [5]) :: (18, 1, .iconst 2, [2]) :: (19, 1, .ireturn, []) :: cd_180_20
def cd_180_12 : List vi_E := (12, 2, .astore 5, [5]) :: (14, 1, .iconst 1, [1]) :: (15, 1, .ireturn, []) :: cd_180_16
def cd_180_0 : List vi_E := (0, 1, .aload_n 0, [0]) :: (1, 1, .iload_n 1, [1]) :: (2, 1, .iload_n 2, [2]) :: (3, 1, .iload_n 3, [3]) :: (4, 2, .iload 4, [4]) :: (6, 3, .invokevirtual 17, [55, 4, 9, 359, 362, 50, 360, 361]) :: (9, 3, .goto 11, [20]) :: cd_180_12
def cd_180 : List vi_E := cd_180_0
set_option maxRecDepth 100000 in
theorem ok_180 : vi_okC MT (MT 180) cd_180 = true := by decide +kernel
theorem at_180_0 : vi_at cd_180 0 = cd_180_0 := rfl
set_option maxRecDepth 100000 in
theorem at_180_12 : vi_at cd_180 12 = cd_180_12 := rfl
set_option maxRecDepth 100000 in
theorem at_180_16 : vi_at cd_180 16 = cd_180_16 := rfl
set_option maxRecDepth 100000 in
theorem at_180_20 : vi_at cd_180 20 = cd_180_20 := rfl
def cd_181_32 : List vi_E := (32, 1, .iconst 0, [0]) :: (33, 1, .ireturn, []) :: []
def cd_181_28 : List vi_E := (28, 2, .astore 6, [6]) :: (30, 1, .iconst 2, [2]) :: (31, 1, .ireturn, []) :: cd_181_32
def cd_181_24 : List vi_E := (24, 2, .astore 6, [6]) :: (26, 1, .iconst 1, [1]) :: (27, 1, .ireturn, []) :: cd_181_28
def cd_181_20 : List vi_E := (20, 1, .lastore, []) :: (21, 3, .goto 11, [32]) :: cd_181_24
def cd_181_19 : List vi_E := (19, 1, .lconst 0, [0]) :: cd_181_20
def cd_181_0 : List vi_E := (0, 2, .aload 5, [5]) :: (2, 1, .iconst 0, [0]) :: (3, 1, .aload_n 0, [0]) :: (4, 1, .iload_n 1, [1]) :: (5, 1, .iload_n 2, [2]) :: (6, 1, .iload_n 3, [3]) :: (7, 2, .iload 4, [4]) :: (9, 3, .invokevirtual 57, [57, 4, 9, 683, 686, 50, 684, 685]) :: (12, 3, .ifCond .eq 7, [19]) :: (15, 1, .lconst 1, [1]) :: (16, 3, .goto 4, [20]) :: cd_181_19
def cd_181 : List vi_E := cd_181_0
set_option maxRecDepth 100000 in
theorem ok_181 : vi_okC MT (MT 181) cd_181 = true := by decide +kernel
theorem at_181_0 : vi_at cd_181 0 = cd_181_0 := rfl
set_option maxRecDepth 100000 in
theorem at_181_19 : vi_at cd_181 19 = cd_181_19 := rfl
set_option maxRecDepth 100000 in
theorem at_181_20 : vi_at cd_181 20 = cd_181_20 := rfl
set_option maxRecDepth 100000 in
theorem at_181_24 : vi_at cd_181 24 = cd_181_24 := rfl
set_option maxRecDepth 100000 in
theorem at_181_28 : vi_at cd_181 28 = cd_181_28 := rfl
set_option maxRecDepth 100000 in
theorem at_181_32 : vi_at cd_181 32 = cd_181_32 := rfl
def cd_182_17 : List vi_E := (17, 1, .iconst 0, [0]) :: (18, 1, .ireturn, []) :: []
def cd_182_13 : List vi_E := (13, 2, .astore 4, [4]) :: (15, 1, .iconst 1, [1]) :: (16, 1, .ireturn, []) :: cd_182_17
def cd_182_0 : List vi_E := (0, 1, .aload_n 3, [3]) :: (1, 1, .iconst 0, [0]) :: (2, 1, .aload_n 0, [0]) :: (3, 1, .iload_n 1, [1]) :: (4, 1, .iload_n 2, [2]) :: (5, 3, .invokevirtual 102, [59, 2, 9, 883, 886, 50, 884, 885]) :: (8, 1, .i2l, []) :: (9, 1, .lastore, []) :: (10, 3, .goto 7, [17]) :: cd_182_13
def cd_182 : List vi_E := cd_182_0
set_option maxRecDepth 100000 in
theorem ok_182 : vi_okC MT (MT 182) cd_182 = true := by decide +kernel
theorem at_182_0 : vi_at cd_182 0 = cd_182_0 := rfl
set_option maxRecDepth 100000 in
theorem at_182_13 : vi_at cd_182 13 = cd_182_13 := rfl
set_option maxRecDepth 100000 in
theorem at_182_17 : vi_at cd_182 17 = cd_182_17 := rfl

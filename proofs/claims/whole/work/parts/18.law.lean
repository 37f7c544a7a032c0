/-! ===== the law: its code in small lists ===== -/
def cL_i_0 : List vi_E := (0, 3, .new 8, [9, 13, 71, 72, 50]) :: (3, 1, .dup, []) :: (4, 3, .invokespecial 105, [24, 0, 73, 75, 50, 74]) :: (7, 1, .astore_n 1, [1]) :: (8, 3, .new 106, [10, 51, 887, 888, 55]) :: (11, 1, .dup, []) :: (12, 3, .invokespecial 108, [120, 0, 889, 891, 55, 890]) :: (15, 1, .astore_n 2, [2]) :: (16, 1, .iconst 1, [1]) :: (17, 2, .newarray .long, [1, 117]) :: (19, 1, .astore_n 3, [3]) :: (20, 1, .iconst 0, [0]) :: (21, 2, .istore 4, [4]) :: []
def cL_i : List vi_E := cL_i_0
set_option maxRecDepth 100000 in
theorem oL_i : vi_okC MT (MT 169) cL_i = true := by decide +kernel
theorem aL_i_0 : vi_at cL_i 0 = cL_i_0 := rfl
def cL_h_23 : List vi_E := (23, 2, .iload 4, [4]) :: (25, 1, .aload_n 0, [0]) :: (26, 1, .arraylength, []) :: (27, 1, .iconst 5, [5]) :: (28, 1, .isub, []) :: (29, 3, .if_icmp .gt 1941, [1970]) :: (32, 1, .aload_n 0, [0]) :: (33, 2, .iload 4, [4]) :: (35, 1, .iaload, []) :: (36, 2, .bipush 31, [31]) :: (38, 1, .iand, []) :: (39, 121, .tableswitch 1925 0 26 #[121, 169, 241, 301, 349, 393, 473, 541, 616, 696, 756, 804, 867, 966, 1029, 1109, 1177, 1233, 1289, 1357, 1437, 1505, 1561, 1617, 1697, 1789, 1857], [1964, 160, 208, 280, 340, 388, 432, 512, 580, 655, 735, 795, 843, 906, 1005, 1068, 1148, 1216, 1272, 1328, 1396, 1476, 1544, 1600, 1656, 1736, 1828, 1896]) :: []
def cL_h : List vi_E := cL_h_23
set_option maxRecDepth 100000 in
theorem oL_h : vi_okC MT (MT 169) cL_h = true := by decide +kernel
theorem aL_h_23 : vi_at cL_h 23 = cL_h_23 := rfl
def cL_e_1964 : List vi_E := (1964, 3, .iinc 4 5, []) :: (1967, 3, .goto (-1944), [23]) :: (1970, 1, .iconst 1, [1]) :: (1971, 1, .ireturn, []) :: []
def cL_e : List vi_E := cL_e_1964
set_option maxRecDepth 100000 in
theorem oL_e : vi_okC MT (MT 169) cL_e = true := by decide +kernel
theorem aL_e_1964 : vi_at cL_e 1964 = cL_e_1964 := rfl
def cL_0a_160 : List vi_E := (160, 1, .aload_n 1, [1]) :: (161, 1, .aload_n 0, [0]) :: (162, 2, .iload 4, [4]) :: (164, 1, .iconst 1, [1]) :: (165, 1, .iadd, []) :: (166, 1, .iaload, []) :: (167, 1, .aload_n 0, [0]) :: (168, 2, .iload 4, [4]) :: (170, 1, .iconst 2, [2]) :: (171, 1, .iadd, []) :: (172, 1, .iaload, []) :: []
def cL_0a : List vi_E := cL_0a_160
set_option maxRecDepth 100000 in
theorem oL_0a : vi_okC MT (MT 169) cL_0a = true := by decide +kernel
theorem aL_0a_160 : vi_at cL_0a 160 = cL_0a_160 := rfl
def cL_0b_205 : List vi_E := (205, 3, .goto 1759, [1964]) :: []
def cL_0b_176 : List vi_E := (176, 2, .istore 5, [5]) :: (178, 1, .aload_n 2, [2]) :: (179, 1, .aload_n 0, [0]) :: (180, 2, .iload 4, [4]) :: (182, 1, .iconst 1, [1]) :: (183, 1, .iadd, []) :: (184, 1, .iaload, []) :: (185, 1, .aload_n 0, [0]) :: (186, 2, .iload 4, [4]) :: (188, 1, .iconst 2, [2]) :: (189, 1, .iadd, []) :: (190, 1, .iaload, []) :: (191, 3, .invokevirtual 114, [146, 2, 10, 1055, 1058, 55, 1056, 1057]) :: (194, 1, .aload_n 2, [2]) :: (195, 3, .invokevirtual 115, [154, 0, 10, 1051, 1054, 55, 1052, 1053]) :: (198, 2, .iload 5, [5]) :: (200, 3, .if_icmp .eq 5, [205]) :: (203, 1, .iconst 0, [0]) :: (204, 1, .ireturn, []) :: cL_0b_205
def cL_0b : List vi_E := cL_0b_176
set_option maxRecDepth 100000 in
theorem oL_0b : vi_okC MT (MT 169) cL_0b = true := by decide +kernel
theorem aL_0b_176 : vi_at cL_0b 176 = cL_0b_176 := rfl
theorem aL_0b_205 : vi_at cL_0b 205 = cL_0b_205 := rfl
def cL_1a_208 : List vi_E := (208, 1, .aload_n 1, [1]) :: (209, 1, .aload_n 0, [0]) :: (210, 2, .iload 4, [4]) :: (212, 1, .iconst 1, [1]) :: (213, 1, .iadd, []) :: (214, 1, .iaload, []) :: (215, 1, .aload_n 0, [0]) :: (216, 2, .iload 4, [4]) :: (218, 1, .iconst 2, [2]) :: (219, 1, .iadd, []) :: (220, 1, .iaload, []) :: (221, 1, .aload_n 0, [0]) :: (222, 2, .iload 4, [4]) :: (224, 1, .iconst 3, [3]) :: (225, 1, .iadd, []) :: (226, 1, .iaload, []) :: (227, 1, .aload_n 0, [0]) :: (228, 2, .iload 4, [4]) :: (230, 1, .iconst 4, [4]) :: (231, 1, .iadd, []) :: (232, 1, .iaload, []) :: []
def cL_1a : List vi_E := cL_1a_208
set_option maxRecDepth 100000 in
theorem oL_1a : vi_okC MT (MT 169) cL_1a = true := by decide +kernel
theorem aL_1a_208 : vi_at cL_1a 208 = cL_1a_208 := rfl
def cL_1b_277 : List vi_E := (277, 3, .goto 1687, [1964]) :: []
def cL_1b_236 : List vi_E := (236, 2, .istore 5, [5]) :: (238, 1, .aload_n 2, [2]) :: (239, 1, .aload_n 0, [0]) :: (240, 2, .iload 4, [4]) :: (242, 1, .iconst 1, [1]) :: (243, 1, .iadd, []) :: (244, 1, .iaload, []) :: (245, 1, .aload_n 0, [0]) :: (246, 2, .iload 4, [4]) :: (248, 1, .iconst 2, [2]) :: (249, 1, .iadd, []) :: (250, 1, .iaload, []) :: (251, 1, .aload_n 0, [0]) :: (252, 2, .iload 4, [4]) :: (254, 1, .iconst 3, [3]) :: (255, 1, .iadd, []) :: (256, 1, .iaload, []) :: (257, 1, .aload_n 0, [0]) :: (258, 2, .iload 4, [4]) :: (260, 1, .iconst 4, [4]) :: (261, 1, .iadd, []) :: (262, 1, .iaload, []) :: (263, 3, .invokevirtual 121, [148, 4, 10, 1069, 1072, 55, 1070, 1071]) :: (266, 1, .aload_n 2, [2]) :: (267, 3, .invokevirtual 115, [154, 0, 10, 1051, 1054, 55, 1052, 1053]) :: (270, 2, .iload 5, [5]) :: (272, 3, .if_icmp .eq 5, [277]) :: (275, 1, .iconst 0, [0]) :: (276, 1, .ireturn, []) :: cL_1b_277
def cL_1b : List vi_E := cL_1b_236
set_option maxRecDepth 100000 in
theorem oL_1b : vi_okC MT (MT 169) cL_1b = true := by decide +kernel
theorem aL_1b_236 : vi_at cL_1b 236 = cL_1b_236 := rfl
theorem aL_1b_277 : vi_at cL_1b 277 = cL_1b_277 := rfl
def cL_2a_280 : List vi_E := (280, 1, .aload_n 1, [1]) :: (281, 1, .aload_n 0, [0]) :: (282, 2, .iload 4, [4]) :: (284, 1, .iconst 1, [1]) :: (285, 1, .iadd, []) :: (286, 1, .iaload, []) :: (287, 1, .aload_n 0, [0]) :: (288, 2, .iload 4, [4]) :: (290, 1, .iconst 2, [2]) :: (291, 1, .iadd, []) :: (292, 1, .iaload, []) :: (293, 1, .aload_n 0, [0]) :: (294, 2, .iload 4, [4]) :: (296, 1, .iconst 3, [3]) :: (297, 1, .iadd, []) :: (298, 1, .iaload, []) :: []
def cL_2a : List vi_E := cL_2a_280
set_option maxRecDepth 100000 in
theorem oL_2a : vi_okC MT (MT 169) cL_2a = true := by decide +kernel
theorem aL_2a_280 : vi_at cL_2a 280 = cL_2a_280 := rfl
def cL_2b_337 : List vi_E := (337, 3, .goto 1627, [1964]) :: []
def cL_2b_302 : List vi_E := (302, 2, .istore 5, [5]) :: (304, 1, .aload_n 2, [2]) :: (305, 1, .aload_n 0, [0]) :: (306, 2, .iload 4, [4]) :: (308, 1, .iconst 1, [1]) :: (309, 1, .iadd, []) :: (310, 1, .iaload, []) :: (311, 1, .aload_n 0, [0]) :: (312, 2, .iload 4, [4]) :: (314, 1, .iconst 2, [2]) :: (315, 1, .iadd, []) :: (316, 1, .iaload, []) :: (317, 1, .aload_n 0, [0]) :: (318, 2, .iload 4, [4]) :: (320, 1, .iconst 3, [3]) :: (321, 1, .iadd, []) :: (322, 1, .iaload, []) :: (323, 3, .invokevirtual 125, [119, 3, 10, 1073, 1076, 55, 1074, 1075]) :: (326, 1, .aload_n 2, [2]) :: (327, 3, .invokevirtual 115, [154, 0, 10, 1051, 1054, 55, 1052, 1053]) :: (330, 2, .iload 5, [5]) :: (332, 3, .if_icmp .eq 5, [337]) :: (335, 1, .iconst 0, [0]) :: (336, 1, .ireturn, []) :: cL_2b_337
def cL_2b : List vi_E := cL_2b_302
set_option maxRecDepth 100000 in
theorem oL_2b : vi_okC MT (MT 169) cL_2b = true := by decide +kernel
theorem aL_2b_302 : vi_at cL_2b 302 = cL_2b_302 := rfl
theorem aL_2b_337 : vi_at cL_2b 337 = cL_2b_337 := rfl
def cL_3a_340 : List vi_E := (340, 1, .aload_n 1, [1]) :: (341, 1, .aload_n 0, [0]) :: (342, 2, .iload 4, [4]) :: (344, 1, .iconst 1, [1]) :: (345, 1, .iadd, []) :: (346, 1, .iaload, []) :: (347, 1, .aload_n 0, [0]) :: (348, 2, .iload 4, [4]) :: (350, 1, .iconst 2, [2]) :: (351, 1, .iadd, []) :: (352, 1, .iaload, []) :: []
def cL_3a : List vi_E := cL_3a_340
set_option maxRecDepth 100000 in
theorem oL_3a : vi_okC MT (MT 169) cL_3a = true := by decide +kernel
theorem aL_3a_340 : vi_at cL_3a 340 = cL_3a_340 := rfl
def cL_3b_385 : List vi_E := (385, 3, .goto 1579, [1964]) :: []
def cL_3b_356 : List vi_E := (356, 2, .istore 5, [5]) :: (358, 1, .aload_n 2, [2]) :: (359, 1, .aload_n 0, [0]) :: (360, 2, .iload 4, [4]) :: (362, 1, .iconst 1, [1]) :: (363, 1, .iadd, []) :: (364, 1, .iaload, []) :: (365, 1, .aload_n 0, [0]) :: (366, 2, .iload 4, [4]) :: (368, 1, .iconst 2, [2]) :: (369, 1, .iadd, []) :: (370, 1, .iaload, []) :: (371, 3, .invokevirtual 128, [115, 2, 10, 1077, 1080, 55, 1078, 1079]) :: (374, 1, .aload_n 2, [2]) :: (375, 3, .invokevirtual 115, [154, 0, 10, 1051, 1054, 55, 1052, 1053]) :: (378, 2, .iload 5, [5]) :: (380, 3, .if_icmp .eq 5, [385]) :: (383, 1, .iconst 0, [0]) :: (384, 1, .ireturn, []) :: cL_3b_385
def cL_3b : List vi_E := cL_3b_356
set_option maxRecDepth 100000 in
theorem oL_3b : vi_okC MT (MT 169) cL_3b = true := by decide +kernel
theorem aL_3b_356 : vi_at cL_3b 356 = cL_3b_356 := rfl
theorem aL_3b_385 : vi_at cL_3b 385 = cL_3b_385 := rfl
def cL_4a_388 : List vi_E := (388, 1, .aload_n 1, [1]) :: (389, 1, .aload_n 3, [3]) :: []
def cL_4a : List vi_E := cL_4a_388
set_option maxRecDepth 100000 in
theorem oL_4a : vi_okC MT (MT 169) cL_4a = true := by decide +kernel
theorem aL_4a_388 : vi_at cL_4a 388 = cL_4a_388 := rfl
def cL_4b_429 : List vi_E := (429, 3, .goto 1535, [1964]) :: []
def cL_4b_412 : List vi_E := (412, 2, .iload 5, [5]) :: (414, 3, .ifCond .ne 15, [429]) :: (417, 1, .aload_n 3, [3]) :: (418, 1, .iconst 0, [0]) :: (419, 1, .laload, []) :: (420, 2, .iload 6, [6]) :: (422, 1, .i2l, []) :: (423, 1, .lcmp, []) :: (424, 3, .ifCond .eq 5, [429]) :: (427, 1, .iconst 0, [0]) :: (428, 1, .ireturn, []) :: cL_4b_429
def cL_4b_393 : List vi_E := (393, 2, .istore 5, [5]) :: (395, 1, .aload_n 2, [2]) :: (396, 3, .invokevirtual 132, [142, 0, 10, 1081, 1084, 55, 1082, 1083]) :: (399, 2, .istore 6, [6]) :: (401, 1, .aload_n 2, [2]) :: (402, 3, .invokevirtual 115, [154, 0, 10, 1051, 1054, 55, 1052, 1053]) :: (405, 2, .iload 5, [5]) :: (407, 3, .if_icmp .eq 5, [412]) :: (410, 1, .iconst 0, [0]) :: (411, 1, .ireturn, []) :: cL_4b_412
def cL_4b : List vi_E := cL_4b_393
set_option maxRecDepth 100000 in
theorem oL_4b : vi_okC MT (MT 169) cL_4b = true := by decide +kernel
theorem aL_4b_393 : vi_at cL_4b 393 = cL_4b_393 := rfl
theorem aL_4b_412 : vi_at cL_4b 412 = cL_4b_412 := rfl
theorem aL_4b_429 : vi_at cL_4b 429 = cL_4b_429 := rfl
def cL_5a_432 : List vi_E := (432, 1, .aload_n 1, [1]) :: (433, 1, .aload_n 0, [0]) :: (434, 2, .iload 4, [4]) :: (436, 1, .iconst 1, [1]) :: (437, 1, .iadd, []) :: (438, 1, .iaload, []) :: (439, 1, .aload_n 0, [0]) :: (440, 2, .iload 4, [4]) :: (442, 1, .iconst 2, [2]) :: (443, 1, .iadd, []) :: (444, 1, .iaload, []) :: (445, 1, .aload_n 0, [0]) :: (446, 2, .iload 4, [4]) :: (448, 1, .iconst 3, [3]) :: (449, 1, .iadd, []) :: (450, 1, .iaload, []) :: (451, 1, .aload_n 3, [3]) :: []
def cL_5a : List vi_E := cL_5a_432
set_option maxRecDepth 100000 in
theorem oL_5a : vi_okC MT (MT 169) cL_5a = true := by decide +kernel
theorem aL_5a_432 : vi_at cL_5a 432 = cL_5a_432 := rfl
def cL_5b_509 : List vi_E := (509, 3, .goto 1455, [1964]) :: []
def cL_5b_492 : List vi_E := (492, 2, .iload 5, [5]) :: (494, 3, .ifCond .ne 15, [509]) :: (497, 1, .aload_n 3, [3]) :: (498, 1, .iconst 0, [0]) :: (499, 1, .laload, []) :: (500, 2, .iload 6, [6]) :: (502, 1, .i2l, []) :: (503, 1, .lcmp, []) :: (504, 3, .ifCond .eq 5, [509]) :: (507, 1, .iconst 0, [0]) :: (508, 1, .ireturn, []) :: cL_5b_509
def cL_5b_455 : List vi_E := (455, 2, .istore 5, [5]) :: (457, 1, .aload_n 2, [2]) :: (458, 1, .aload_n 0, [0]) :: (459, 2, .iload 4, [4]) :: (461, 1, .iconst 1, [1]) :: (462, 1, .iadd, []) :: (463, 1, .iaload, []) :: (464, 1, .aload_n 0, [0]) :: (465, 2, .iload 4, [4]) :: (467, 1, .iconst 2, [2]) :: (468, 1, .iadd, []) :: (469, 1, .iaload, []) :: (470, 1, .aload_n 0, [0]) :: (471, 2, .iload 4, [4]) :: (473, 1, .iconst 3, [3]) :: (474, 1, .iadd, []) :: (475, 1, .iaload, []) :: (476, 3, .invokevirtual 136, [110, 3, 10, 1118, 1121, 55, 1119, 1120]) :: (479, 2, .istore 6, [6]) :: (481, 1, .aload_n 2, [2]) :: (482, 3, .invokevirtual 115, [154, 0, 10, 1051, 1054, 55, 1052, 1053]) :: (485, 2, .iload 5, [5]) :: (487, 3, .if_icmp .eq 5, [492]) :: (490, 1, .iconst 0, [0]) :: (491, 1, .ireturn, []) :: cL_5b_492
def cL_5b : List vi_E := cL_5b_455
set_option maxRecDepth 100000 in
theorem oL_5b : vi_okC MT (MT 169) cL_5b = true := by decide +kernel
theorem aL_5b_455 : vi_at cL_5b 455 = cL_5b_455 := rfl
theorem aL_5b_492 : vi_at cL_5b 492 = cL_5b_492 := rfl
theorem aL_5b_509 : vi_at cL_5b 509 = cL_5b_509 := rfl
def cL_6a_512 : List vi_E := (512, 1, .aload_n 1, [1]) :: (513, 1, .aload_n 0, [0]) :: (514, 2, .iload 4, [4]) :: (516, 1, .iconst 1, [1]) :: (517, 1, .iadd, []) :: (518, 1, .iaload, []) :: (519, 1, .aload_n 0, [0]) :: (520, 2, .iload 4, [4]) :: (522, 1, .iconst 2, [2]) :: (523, 1, .iadd, []) :: (524, 1, .iaload, []) :: (525, 1, .aload_n 3, [3]) :: []
def cL_6a : List vi_E := cL_6a_512
set_option maxRecDepth 100000 in
theorem oL_6a : vi_okC MT (MT 169) cL_6a = true := by decide +kernel
theorem aL_6a_512 : vi_at cL_6a 512 = cL_6a_512 := rfl
def cL_6b_577 : List vi_E := (577, 3, .goto 1387, [1964]) :: []
def cL_6b_560 : List vi_E := (560, 2, .iload 5, [5]) :: (562, 3, .ifCond .ne 15, [577]) :: (565, 1, .aload_n 3, [3]) :: (566, 1, .iconst 0, [0]) :: (567, 1, .laload, []) :: (568, 2, .iload 6, [6]) :: (570, 1, .i2l, []) :: (571, 1, .lcmp, []) :: (572, 3, .ifCond .eq 5, [577]) :: (575, 1, .iconst 0, [0]) :: (576, 1, .ireturn, []) :: cL_6b_577
def cL_6b_529 : List vi_E := (529, 2, .istore 5, [5]) :: (531, 1, .aload_n 2, [2]) :: (532, 1, .aload_n 0, [0]) :: (533, 2, .iload 4, [4]) :: (535, 1, .iconst 1, [1]) :: (536, 1, .iadd, []) :: (537, 1, .iaload, []) :: (538, 1, .aload_n 0, [0]) :: (539, 2, .iload 4, [4]) :: (541, 1, .iconst 2, [2]) :: (542, 1, .iadd, []) :: (543, 1, .iaload, []) :: (544, 3, .invokevirtual 140, [111, 2, 10, 1154, 1157, 55, 1155, 1156]) :: (547, 2, .istore 6, [6]) :: (549, 1, .aload_n 2, [2]) :: (550, 3, .invokevirtual 115, [154, 0, 10, 1051, 1054, 55, 1052, 1053]) :: (553, 2, .iload 5, [5]) :: (555, 3, .if_icmp .eq 5, [560]) :: (558, 1, .iconst 0, [0]) :: (559, 1, .ireturn, []) :: cL_6b_560
def cL_6b : List vi_E := cL_6b_529
set_option maxRecDepth 100000 in
theorem oL_6b : vi_okC MT (MT 169) cL_6b = true := by decide +kernel
theorem aL_6b_529 : vi_at cL_6b 529 = cL_6b_529 := rfl
theorem aL_6b_560 : vi_at cL_6b 560 = cL_6b_560 := rfl
theorem aL_6b_577 : vi_at cL_6b 577 = cL_6b_577 := rfl
def cL_7a_580 : List vi_E := (580, 1, .aload_n 1, [1]) :: (581, 1, .aload_n 0, [0]) :: (582, 2, .iload 4, [4]) :: (584, 1, .iconst 1, [1]) :: (585, 1, .iadd, []) :: (586, 1, .iaload, []) :: (587, 1, .aload_n 0, [0]) :: (588, 2, .iload 4, [4]) :: (590, 1, .iconst 2, [2]) :: (591, 1, .iadd, []) :: (592, 1, .iaload, []) :: (593, 1, .aload_n 3, [3]) :: []
def cL_7a : List vi_E := cL_7a_580
set_option maxRecDepth 100000 in
theorem oL_7a : vi_okC MT (MT 169) cL_7a = true := by decide +kernel
theorem aL_7a_580 : vi_at cL_7a 580 = cL_7a_580 := rfl
def cL_7b_652 : List vi_E := (652, 3, .goto 1312, [1964]) :: []
def cL_7b_646 : List vi_E := (646, 1, .lcmp, []) :: (647, 3, .ifCond .eq 5, [652]) :: (650, 1, .iconst 0, [0]) :: (651, 1, .ireturn, []) :: cL_7b_652
def cL_7b_645 : List vi_E := (645, 1, .lconst 0, [0]) :: cL_7b_646
def cL_7b_628 : List vi_E := (628, 2, .iload 5, [5]) :: (630, 3, .ifCond .ne 22, [652]) :: (633, 1, .aload_n 3, [3]) :: (634, 1, .iconst 0, [0]) :: (635, 1, .laload, []) :: (636, 2, .iload 6, [6]) :: (638, 3, .ifCond .eq 7, [645]) :: (641, 1, .lconst 1, [1]) :: (642, 3, .goto 4, [646]) :: cL_7b_645
def cL_7b_597 : List vi_E := (597, 2, .istore 5, [5]) :: (599, 1, .aload_n 2, [2]) :: (600, 1, .aload_n 0, [0]) :: (601, 2, .iload 4, [4]) :: (603, 1, .iconst 1, [1]) :: (604, 1, .iadd, []) :: (605, 1, .iaload, []) :: (606, 1, .aload_n 0, [0]) :: (607, 2, .iload 4, [4]) :: (609, 1, .iconst 2, [2]) :: (610, 1, .iadd, []) :: (611, 1, .iaload, []) :: (612, 3, .invokevirtual 143, [136, 2, 10, 1170, 1173, 55, 1171, 1172]) :: (615, 2, .istore 6, [6]) :: (617, 1, .aload_n 2, [2]) :: (618, 3, .invokevirtual 115, [154, 0, 10, 1051, 1054, 55, 1052, 1053]) :: (621, 2, .iload 5, [5]) :: (623, 3, .if_icmp .eq 5, [628]) :: (626, 1, .iconst 0, [0]) :: (627, 1, .ireturn, []) :: cL_7b_628
def cL_7b : List vi_E := cL_7b_597
set_option maxRecDepth 100000 in
theorem oL_7b : vi_okC MT (MT 169) cL_7b = true := by decide +kernel
theorem aL_7b_597 : vi_at cL_7b 597 = cL_7b_597 := rfl
theorem aL_7b_628 : vi_at cL_7b 628 = cL_7b_628 := rfl
theorem aL_7b_645 : vi_at cL_7b 645 = cL_7b_645 := rfl
theorem aL_7b_646 : vi_at cL_7b 646 = cL_7b_646 := rfl
theorem aL_7b_652 : vi_at cL_7b 652 = cL_7b_652 := rfl
def cL_8a_655 : List vi_E := (655, 1, .aload_n 1, [1]) :: (656, 1, .aload_n 0, [0]) :: (657, 2, .iload 4, [4]) :: (659, 1, .iconst 1, [1]) :: (660, 1, .iadd, []) :: (661, 1, .iaload, []) :: (662, 1, .aload_n 0, [0]) :: (663, 2, .iload 4, [4]) :: (665, 1, .iconst 2, [2]) :: (666, 1, .iadd, []) :: (667, 1, .iaload, []) :: (668, 1, .aload_n 0, [0]) :: (669, 2, .iload 4, [4]) :: (671, 1, .iconst 3, [3]) :: (672, 1, .iadd, []) :: (673, 1, .iaload, []) :: (674, 1, .aload_n 3, [3]) :: []
def cL_8a : List vi_E := cL_8a_655
set_option maxRecDepth 100000 in
theorem oL_8a : vi_okC MT (MT 169) cL_8a = true := by decide +kernel
theorem aL_8a_655 : vi_at cL_8a 655 = cL_8a_655 := rfl
def cL_8b_732 : List vi_E := (732, 3, .goto 1232, [1964]) :: []
def cL_8b_715 : List vi_E := (715, 2, .iload 5, [5]) :: (717, 3, .ifCond .ne 15, [732]) :: (720, 1, .aload_n 3, [3]) :: (721, 1, .iconst 0, [0]) :: (722, 1, .laload, []) :: (723, 2, .iload 6, [6]) :: (725, 1, .i2l, []) :: (726, 1, .lcmp, []) :: (727, 3, .ifCond .eq 5, [732]) :: (730, 1, .iconst 0, [0]) :: (731, 1, .ireturn, []) :: cL_8b_732
def cL_8b_678 : List vi_E := (678, 2, .istore 5, [5]) :: (680, 1, .aload_n 2, [2]) :: (681, 1, .aload_n 0, [0]) :: (682, 2, .iload 4, [4]) :: (684, 1, .iconst 1, [1]) :: (685, 1, .iadd, []) :: (686, 1, .iaload, []) :: (687, 1, .aload_n 0, [0]) :: (688, 2, .iload 4, [4]) :: (690, 1, .iconst 2, [2]) :: (691, 1, .iadd, []) :: (692, 1, .iaload, []) :: (693, 1, .aload_n 0, [0]) :: (694, 2, .iload 4, [4]) :: (696, 1, .iconst 3, [3]) :: (697, 1, .iadd, []) :: (698, 1, .iaload, []) :: (699, 3, .invokevirtual 146, [138, 3, 10, 1174, 1177, 55, 1175, 1176]) :: (702, 2, .istore 6, [6]) :: (704, 1, .aload_n 2, [2]) :: (705, 3, .invokevirtual 115, [154, 0, 10, 1051, 1054, 55, 1052, 1053]) :: (708, 2, .iload 5, [5]) :: (710, 3, .if_icmp .eq 5, [715]) :: (713, 1, .iconst 0, [0]) :: (714, 1, .ireturn, []) :: cL_8b_715
def cL_8b : List vi_E := cL_8b_678
set_option maxRecDepth 100000 in
theorem oL_8b : vi_okC MT (MT 169) cL_8b = true := by decide +kernel
theorem aL_8b_678 : vi_at cL_8b 678 = cL_8b_678 := rfl
theorem aL_8b_715 : vi_at cL_8b 715 = cL_8b_715 := rfl
theorem aL_8b_732 : vi_at cL_8b 732 = cL_8b_732 := rfl
def cL_9a_735 : List vi_E := (735, 1, .aload_n 1, [1]) :: (736, 1, .aload_n 0, [0]) :: (737, 2, .iload 4, [4]) :: (739, 1, .iconst 1, [1]) :: (740, 1, .iadd, []) :: (741, 1, .iaload, []) :: (742, 1, .aload_n 0, [0]) :: (743, 2, .iload 4, [4]) :: (745, 1, .iconst 2, [2]) :: (746, 1, .iadd, []) :: (747, 1, .iaload, []) :: (748, 1, .aload_n 0, [0]) :: (749, 2, .iload 4, [4]) :: (751, 1, .iconst 3, [3]) :: (752, 1, .iadd, []) :: (753, 1, .iaload, []) :: []
def cL_9a : List vi_E := cL_9a_735
set_option maxRecDepth 100000 in
theorem oL_9a : vi_okC MT (MT 169) cL_9a = true := by decide +kernel
theorem aL_9a_735 : vi_at cL_9a 735 = cL_9a_735 := rfl
def cL_9b_792 : List vi_E := (792, 3, .goto 1172, [1964]) :: []
def cL_9b_757 : List vi_E := (757, 2, .istore 5, [5]) :: (759, 1, .aload_n 2, [2]) :: (760, 1, .aload_n 0, [0]) :: (761, 2, .iload 4, [4]) :: (763, 1, .iconst 1, [1]) :: (764, 1, .iadd, []) :: (765, 1, .iaload, []) :: (766, 1, .aload_n 0, [0]) :: (767, 2, .iload 4, [4]) :: (769, 1, .iconst 2, [2]) :: (770, 1, .iadd, []) :: (771, 1, .iaload, []) :: (772, 1, .aload_n 0, [0]) :: (773, 2, .iload 4, [4]) :: (775, 1, .iconst 3, [3]) :: (776, 1, .iadd, []) :: (777, 1, .iaload, []) :: (778, 3, .invokevirtual 149, [106, 3, 10, 1178, 1181, 55, 1179, 1180]) :: (781, 1, .aload_n 2, [2]) :: (782, 3, .invokevirtual 115, [154, 0, 10, 1051, 1054, 55, 1052, 1053]) :: (785, 2, .iload 5, [5]) :: (787, 3, .if_icmp .eq 5, [792]) :: (790, 1, .iconst 0, [0]) :: (791, 1, .ireturn, []) :: cL_9b_792
def cL_9b : List vi_E := cL_9b_757
set_option maxRecDepth 100000 in
theorem oL_9b : vi_okC MT (MT 169) cL_9b = true := by decide +kernel
theorem aL_9b_757 : vi_at cL_9b 757 = cL_9b_757 := rfl
theorem aL_9b_792 : vi_at cL_9b 792 = cL_9b_792 := rfl
def cL_10a_795 : List vi_E := (795, 1, .aload_n 1, [1]) :: (796, 1, .aload_n 0, [0]) :: (797, 2, .iload 4, [4]) :: (799, 1, .iconst 1, [1]) :: (800, 1, .iadd, []) :: (801, 1, .iaload, []) :: (802, 1, .aload_n 0, [0]) :: (803, 2, .iload 4, [4]) :: (805, 1, .iconst 2, [2]) :: (806, 1, .iadd, []) :: (807, 1, .iaload, []) :: []
def cL_10a : List vi_E := cL_10a_795
set_option maxRecDepth 100000 in
theorem oL_10a : vi_okC MT (MT 169) cL_10a = true := by decide +kernel
theorem aL_10a_795 : vi_at cL_10a 795 = cL_10a_795 := rfl
def cL_10b_840 : List vi_E := (840, 3, .goto 1124, [1964]) :: []
def cL_10b_811 : List vi_E := (811, 2, .istore 5, [5]) :: (813, 1, .aload_n 2, [2]) :: (814, 1, .aload_n 0, [0]) :: (815, 2, .iload 4, [4]) :: (817, 1, .iconst 1, [1]) :: (818, 1, .iadd, []) :: (819, 1, .iaload, []) :: (820, 1, .aload_n 0, [0]) :: (821, 2, .iload 4, [4]) :: (823, 1, .iconst 2, [2]) :: (824, 1, .iadd, []) :: (825, 1, .iaload, []) :: (826, 3, .invokevirtual 152, [147, 2, 10, 1185, 1188, 55, 1186, 1187]) :: (829, 1, .aload_n 2, [2]) :: (830, 3, .invokevirtual 115, [154, 0, 10, 1051, 1054, 55, 1052, 1053]) :: (833, 2, .iload 5, [5]) :: (835, 3, .if_icmp .eq 5, [840]) :: (838, 1, .iconst 0, [0]) :: (839, 1, .ireturn, []) :: cL_10b_840
def cL_10b : List vi_E := cL_10b_811
set_option maxRecDepth 100000 in
theorem oL_10b : vi_okC MT (MT 169) cL_10b = true := by decide +kernel
theorem aL_10b_811 : vi_at cL_10b 811 = cL_10b_811 := rfl
theorem aL_10b_840 : vi_at cL_10b 840 = cL_10b_840 := rfl
def cL_11a_843 : List vi_E := (843, 1, .aload_n 1, [1]) :: (844, 1, .aload_n 0, [0]) :: (845, 2, .iload 4, [4]) :: (847, 1, .iconst 1, [1]) :: (848, 1, .iadd, []) :: (849, 1, .iaload, []) :: (850, 1, .aload_n 3, [3]) :: []
def cL_11a : List vi_E := cL_11a_843
set_option maxRecDepth 100000 in
theorem oL_11a : vi_okC MT (MT 169) cL_11a = true := by decide +kernel
theorem aL_11a_843 : vi_at cL_11a 843 = cL_11a_843 := rfl
def cL_11b_903 : List vi_E := (903, 3, .goto 1061, [1964]) :: []
def cL_11b_897 : List vi_E := (897, 1, .lcmp, []) :: (898, 3, .ifCond .eq 5, [903]) :: (901, 1, .iconst 0, [0]) :: (902, 1, .ireturn, []) :: cL_11b_903
def cL_11b_896 : List vi_E := (896, 1, .lconst 0, [0]) :: cL_11b_897
def cL_11b_879 : List vi_E := (879, 2, .iload 5, [5]) :: (881, 3, .ifCond .ne 22, [903]) :: (884, 1, .aload_n 3, [3]) :: (885, 1, .iconst 0, [0]) :: (886, 1, .laload, []) :: (887, 2, .iload 6, [6]) :: (889, 3, .ifCond .eq 7, [896]) :: (892, 1, .lconst 1, [1]) :: (893, 3, .goto 4, [897]) :: cL_11b_896
def cL_11b_854 : List vi_E := (854, 2, .istore 5, [5]) :: (856, 1, .aload_n 2, [2]) :: (857, 1, .aload_n 0, [0]) :: (858, 2, .iload 4, [4]) :: (860, 1, .iconst 1, [1]) :: (861, 1, .iadd, []) :: (862, 1, .iaload, []) :: (863, 3, .invokevirtual 156, [109, 1, 10, 1189, 1192, 55, 1190, 1191]) :: (866, 2, .istore 6, [6]) :: (868, 1, .aload_n 2, [2]) :: (869, 3, .invokevirtual 115, [154, 0, 10, 1051, 1054, 55, 1052, 1053]) :: (872, 2, .iload 5, [5]) :: (874, 3, .if_icmp .eq 5, [879]) :: (877, 1, .iconst 0, [0]) :: (878, 1, .ireturn, []) :: cL_11b_879
def cL_11b : List vi_E := cL_11b_854
set_option maxRecDepth 100000 in
theorem oL_11b : vi_okC MT (MT 169) cL_11b = true := by decide +kernel
theorem aL_11b_854 : vi_at cL_11b 854 = cL_11b_854 := rfl
theorem aL_11b_879 : vi_at cL_11b 879 = cL_11b_879 := rfl
theorem aL_11b_896 : vi_at cL_11b 896 = cL_11b_896 := rfl
theorem aL_11b_897 : vi_at cL_11b 897 = cL_11b_897 := rfl
theorem aL_11b_903 : vi_at cL_11b 903 = cL_11b_903 := rfl
def cL_12a_906 : List vi_E := (906, 1, .aload_n 1, [1]) :: (907, 1, .aload_n 0, [0]) :: (908, 2, .iload 4, [4]) :: (910, 1, .iconst 1, [1]) :: (911, 1, .iadd, []) :: (912, 1, .iaload, []) :: (913, 1, .aload_n 0, [0]) :: (914, 2, .iload 4, [4]) :: (916, 1, .iconst 2, [2]) :: (917, 1, .iadd, []) :: (918, 1, .iaload, []) :: (919, 1, .aload_n 0, [0]) :: (920, 2, .iload 4, [4]) :: (922, 1, .iconst 3, [3]) :: (923, 1, .iadd, []) :: (924, 1, .iaload, []) :: (925, 1, .aload_n 0, [0]) :: (926, 2, .iload 4, [4]) :: (928, 1, .iconst 4, [4]) :: (929, 1, .iadd, []) :: (930, 1, .iaload, []) :: (931, 1, .aload_n 3, [3]) :: []
def cL_12a : List vi_E := cL_12a_906
set_option maxRecDepth 100000 in
theorem oL_12a : vi_okC MT (MT 169) cL_12a = true := by decide +kernel
theorem aL_12a_906 : vi_at cL_12a 906 = cL_12a_906 := rfl
def cL_12b_1002 : List vi_E := (1002, 3, .goto 962, [1964]) :: []
def cL_12b_996 : List vi_E := (996, 1, .lcmp, []) :: (997, 3, .ifCond .eq 5, [1002]) :: (1000, 1, .iconst 0, [0]) :: (1001, 1, .ireturn, []) :: cL_12b_1002
def cL_12b_995 : List vi_E := (995, 1, .lconst 0, [0]) :: cL_12b_996
def cL_12b_978 : List vi_E := (978, 2, .iload 5, [5]) :: (980, 3, .ifCond .ne 22, [1002]) :: (983, 1, .aload_n 3, [3]) :: (984, 1, .iconst 0, [0]) :: (985, 1, .laload, []) :: (986, 2, .iload 6, [6]) :: (988, 3, .ifCond .eq 7, [995]) :: (991, 1, .lconst 1, [1]) :: (992, 3, .goto 4, [996]) :: cL_12b_995
def cL_12b_935 : List vi_E := (935, 2, .istore 5, [5]) :: (937, 1, .aload_n 2, [2]) :: (938, 1, .aload_n 0, [0]) :: (939, 2, .iload 4, [4]) :: (941, 1, .iconst 1, [1]) :: (942, 1, .iadd, []) :: (943, 1, .iaload, []) :: (944, 1, .aload_n 0, [0]) :: (945, 2, .iload 4, [4]) :: (947, 1, .iconst 2, [2]) :: (948, 1, .iadd, []) :: (949, 1, .iaload, []) :: (950, 1, .aload_n 0, [0]) :: (951, 2, .iload 4, [4]) :: (953, 1, .iconst 3, [3]) :: (954, 1, .iadd, []) :: (955, 1, .iaload, []) :: (956, 1, .aload_n 0, [0]) :: (957, 2, .iload 4, [4]) :: (959, 1, .iconst 4, [4]) :: (960, 1, .iadd, []) :: (961, 1, .iaload, []) :: (962, 3, .invokevirtual 160, [150, 4, 10, 1193, 1196, 55, 1194, 1195]) :: (965, 2, .istore 6, [6]) :: (967, 1, .aload_n 2, [2]) :: (968, 3, .invokevirtual 115, [154, 0, 10, 1051, 1054, 55, 1052, 1053]) :: (971, 2, .iload 5, [5]) :: (973, 3, .if_icmp .eq 5, [978]) :: (976, 1, .iconst 0, [0]) :: (977, 1, .ireturn, []) :: cL_12b_978
def cL_12b : List vi_E := cL_12b_935
set_option maxRecDepth 100000 in
theorem oL_12b : vi_okC MT (MT 169) cL_12b = true := by decide +kernel
theorem aL_12b_935 : vi_at cL_12b 935 = cL_12b_935 := rfl
theorem aL_12b_978 : vi_at cL_12b 978 = cL_12b_978 := rfl
theorem aL_12b_995 : vi_at cL_12b 995 = cL_12b_995 := rfl
theorem aL_12b_996 : vi_at cL_12b 996 = cL_12b_996 := rfl
theorem aL_12b_1002 : vi_at cL_12b 1002 = cL_12b_1002 := rfl
def cL_13a_1005 : List vi_E := (1005, 1, .aload_n 1, [1]) :: (1006, 1, .aload_n 0, [0]) :: (1007, 2, .iload 4, [4]) :: (1009, 1, .iconst 1, [1]) :: (1010, 1, .iadd, []) :: (1011, 1, .iaload, []) :: (1012, 1, .aload_n 3, [3]) :: []
def cL_13a : List vi_E := cL_13a_1005
set_option maxRecDepth 100000 in
theorem oL_13a : vi_okC MT (MT 169) cL_13a = true := by decide +kernel
theorem aL_13a_1005 : vi_at cL_13a 1005 = cL_13a_1005 := rfl
def cL_13b_1065 : List vi_E := (1065, 3, .goto 899, [1964]) :: []
def cL_13b_1059 : List vi_E := (1059, 1, .lcmp, []) :: (1060, 3, .ifCond .eq 5, [1065]) :: (1063, 1, .iconst 0, [0]) :: (1064, 1, .ireturn, []) :: cL_13b_1065
def cL_13b_1058 : List vi_E := (1058, 1, .lconst 0, [0]) :: cL_13b_1059
def cL_13b_1041 : List vi_E := (1041, 2, .iload 5, [5]) :: (1043, 3, .ifCond .ne 22, [1065]) :: (1046, 1, .aload_n 3, [3]) :: (1047, 1, .iconst 0, [0]) :: (1048, 1, .laload, []) :: (1049, 2, .iload 6, [6]) :: (1051, 3, .ifCond .eq 7, [1058]) :: (1054, 1, .lconst 1, [1]) :: (1055, 3, .goto 4, [1059]) :: cL_13b_1058
def cL_13b_1016 : List vi_E := (1016, 2, .istore 5, [5]) :: (1018, 1, .aload_n 2, [2]) :: (1019, 1, .aload_n 0, [0]) :: (1020, 2, .iload 4, [4]) :: (1022, 1, .iconst 1, [1]) :: (1023, 1, .iadd, []) :: (1024, 1, .iaload, []) :: (1025, 3, .invokevirtual 163, [99, 1, 10, 1201, 1204, 55, 1202, 1203]) :: (1028, 2, .istore 6, [6]) :: (1030, 1, .aload_n 2, [2]) :: (1031, 3, .invokevirtual 115, [154, 0, 10, 1051, 1054, 55, 1052, 1053]) :: (1034, 2, .iload 5, [5]) :: (1036, 3, .if_icmp .eq 5, [1041]) :: (1039, 1, .iconst 0, [0]) :: (1040, 1, .ireturn, []) :: cL_13b_1041
def cL_13b : List vi_E := cL_13b_1016
set_option maxRecDepth 100000 in
theorem oL_13b : vi_okC MT (MT 169) cL_13b = true := by decide +kernel
theorem aL_13b_1016 : vi_at cL_13b 1016 = cL_13b_1016 := rfl
theorem aL_13b_1041 : vi_at cL_13b 1041 = cL_13b_1041 := rfl
theorem aL_13b_1058 : vi_at cL_13b 1058 = cL_13b_1058 := rfl
theorem aL_13b_1059 : vi_at cL_13b 1059 = cL_13b_1059 := rfl
theorem aL_13b_1065 : vi_at cL_13b 1065 = cL_13b_1065 := rfl
def cL_14a_1068 : List vi_E := (1068, 1, .aload_n 1, [1]) :: (1069, 1, .aload_n 0, [0]) :: (1070, 2, .iload 4, [4]) :: (1072, 1, .iconst 1, [1]) :: (1073, 1, .iadd, []) :: (1074, 1, .iaload, []) :: (1075, 1, .aload_n 0, [0]) :: (1076, 2, .iload 4, [4]) :: (1078, 1, .iconst 2, [2]) :: (1079, 1, .iadd, []) :: (1080, 1, .iaload, []) :: (1081, 1, .aload_n 0, [0]) :: (1082, 2, .iload 4, [4]) :: (1084, 1, .iconst 3, [3]) :: (1085, 1, .iadd, []) :: (1086, 1, .iaload, []) :: (1087, 1, .aload_n 3, [3]) :: []
def cL_14a : List vi_E := cL_14a_1068
set_option maxRecDepth 100000 in
theorem oL_14a : vi_okC MT (MT 169) cL_14a = true := by decide +kernel
theorem aL_14a_1068 : vi_at cL_14a 1068 = cL_14a_1068 := rfl
def cL_14b_1145 : List vi_E := (1145, 3, .goto 819, [1964]) :: []
def cL_14b_1128 : List vi_E := (1128, 2, .iload 5, [5]) :: (1130, 3, .ifCond .ne 15, [1145]) :: (1133, 1, .aload_n 3, [3]) :: (1134, 1, .iconst 0, [0]) :: (1135, 1, .laload, []) :: (1136, 2, .iload 6, [6]) :: (1138, 1, .i2l, []) :: (1139, 1, .lcmp, []) :: (1140, 3, .ifCond .eq 5, [1145]) :: (1143, 1, .iconst 0, [0]) :: (1144, 1, .ireturn, []) :: cL_14b_1145
def cL_14b_1091 : List vi_E := (1091, 2, .istore 5, [5]) :: (1093, 1, .aload_n 2, [2]) :: (1094, 1, .aload_n 0, [0]) :: (1095, 2, .iload 4, [4]) :: (1097, 1, .iconst 1, [1]) :: (1098, 1, .iadd, []) :: (1099, 1, .iaload, []) :: (1100, 1, .aload_n 0, [0]) :: (1101, 2, .iload 4, [4]) :: (1103, 1, .iconst 2, [2]) :: (1104, 1, .iadd, []) :: (1105, 1, .iaload, []) :: (1106, 1, .aload_n 0, [0]) :: (1107, 2, .iload 4, [4]) :: (1109, 1, .iconst 3, [3]) :: (1110, 1, .iadd, []) :: (1111, 1, .iaload, []) :: (1112, 3, .invokevirtual 166, [144, 3, 10, 1205, 1208, 55, 1206, 1207]) :: (1115, 2, .istore 6, [6]) :: (1117, 1, .aload_n 2, [2]) :: (1118, 3, .invokevirtual 115, [154, 0, 10, 1051, 1054, 55, 1052, 1053]) :: (1121, 2, .iload 5, [5]) :: (1123, 3, .if_icmp .eq 5, [1128]) :: (1126, 1, .iconst 0, [0]) :: (1127, 1, .ireturn, []) :: cL_14b_1128
def cL_14b : List vi_E := cL_14b_1091
set_option maxRecDepth 100000 in
theorem oL_14b : vi_okC MT (MT 169) cL_14b = true := by decide +kernel
theorem aL_14b_1091 : vi_at cL_14b 1091 = cL_14b_1091 := rfl
theorem aL_14b_1128 : vi_at cL_14b 1128 = cL_14b_1128 := rfl
theorem aL_14b_1145 : vi_at cL_14b 1145 = cL_14b_1145 := rfl
def cL_15a_1148 : List vi_E := (1148, 1, .aload_n 1, [1]) :: (1149, 1, .aload_n 0, [0]) :: (1150, 2, .iload 4, [4]) :: (1152, 1, .iconst 1, [1]) :: (1153, 1, .iadd, []) :: (1154, 1, .iaload, []) :: (1155, 1, .aload_n 0, [0]) :: (1156, 2, .iload 4, [4]) :: (1158, 1, .iconst 2, [2]) :: (1159, 1, .iadd, []) :: (1160, 1, .iaload, []) :: (1161, 1, .aload_n 3, [3]) :: []
def cL_15a : List vi_E := cL_15a_1148
set_option maxRecDepth 100000 in
theorem oL_15a : vi_okC MT (MT 169) cL_15a = true := by decide +kernel
theorem aL_15a_1148 : vi_at cL_15a 1148 = cL_15a_1148 := rfl
def cL_15b_1213 : List vi_E := (1213, 3, .goto 751, [1964]) :: []
def cL_15b_1196 : List vi_E := (1196, 2, .iload 5, [5]) :: (1198, 3, .ifCond .ne 15, [1213]) :: (1201, 1, .aload_n 3, [3]) :: (1202, 1, .iconst 0, [0]) :: (1203, 1, .laload, []) :: (1204, 2, .iload 6, [6]) :: (1206, 1, .i2l, []) :: (1207, 1, .lcmp, []) :: (1208, 3, .ifCond .eq 5, [1213]) :: (1211, 1, .iconst 0, [0]) :: (1212, 1, .ireturn, []) :: cL_15b_1213
def cL_15b_1165 : List vi_E := (1165, 2, .istore 5, [5]) :: (1167, 1, .aload_n 2, [2]) :: (1168, 1, .aload_n 0, [0]) :: (1169, 2, .iload 4, [4]) :: (1171, 1, .iconst 1, [1]) :: (1172, 1, .iadd, []) :: (1173, 1, .iaload, []) :: (1174, 1, .aload_n 0, [0]) :: (1175, 2, .iload 4, [4]) :: (1177, 1, .iconst 2, [2]) :: (1178, 1, .iadd, []) :: (1179, 1, .iaload, []) :: (1180, 3, .invokevirtual 169, [103, 2, 10, 1212, 1215, 55, 1213, 1214]) :: (1183, 2, .istore 6, [6]) :: (1185, 1, .aload_n 2, [2]) :: (1186, 3, .invokevirtual 115, [154, 0, 10, 1051, 1054, 55, 1052, 1053]) :: (1189, 2, .iload 5, [5]) :: (1191, 3, .if_icmp .eq 5, [1196]) :: (1194, 1, .iconst 0, [0]) :: (1195, 1, .ireturn, []) :: cL_15b_1196
def cL_15b : List vi_E := cL_15b_1165
set_option maxRecDepth 100000 in
theorem oL_15b : vi_okC MT (MT 169) cL_15b = true := by decide +kernel
theorem aL_15b_1165 : vi_at cL_15b 1165 = cL_15b_1165 := rfl
theorem aL_15b_1196 : vi_at cL_15b 1196 = cL_15b_1196 := rfl
theorem aL_15b_1213 : vi_at cL_15b 1213 = cL_15b_1213 := rfl
def cL_16a_1216 : List vi_E := (1216, 1, .aload_n 1, [1]) :: (1217, 1, .aload_n 0, [0]) :: (1218, 2, .iload 4, [4]) :: (1220, 1, .iconst 1, [1]) :: (1221, 1, .iadd, []) :: (1222, 1, .iaload, []) :: (1223, 1, .aload_n 3, [3]) :: []
def cL_16a : List vi_E := cL_16a_1216
set_option maxRecDepth 100000 in
theorem oL_16a : vi_okC MT (MT 169) cL_16a = true := by decide +kernel
theorem aL_16a_1216 : vi_at cL_16a 1216 = cL_16a_1216 := rfl
def cL_16b_1269 : List vi_E := (1269, 3, .goto 695, [1964]) :: []
def cL_16b_1252 : List vi_E := (1252, 2, .iload 5, [5]) :: (1254, 3, .ifCond .ne 15, [1269]) :: (1257, 1, .aload_n 3, [3]) :: (1258, 1, .iconst 0, [0]) :: (1259, 1, .laload, []) :: (1260, 2, .iload 6, [6]) :: (1262, 1, .i2l, []) :: (1263, 1, .lcmp, []) :: (1264, 3, .ifCond .eq 5, [1269]) :: (1267, 1, .iconst 0, [0]) :: (1268, 1, .ireturn, []) :: cL_16b_1269
def cL_16b_1227 : List vi_E := (1227, 2, .istore 5, [5]) :: (1229, 1, .aload_n 2, [2]) :: (1230, 1, .aload_n 0, [0]) :: (1231, 2, .iload 4, [4]) :: (1233, 1, .iconst 1, [1]) :: (1234, 1, .iadd, []) :: (1235, 1, .iaload, []) :: (1236, 3, .invokevirtual 172, [145, 1, 10, 1230, 1233, 55, 1231, 1232]) :: (1239, 2, .istore 6, [6]) :: (1241, 1, .aload_n 2, [2]) :: (1242, 3, .invokevirtual 115, [154, 0, 10, 1051, 1054, 55, 1052, 1053]) :: (1245, 2, .iload 5, [5]) :: (1247, 3, .if_icmp .eq 5, [1252]) :: (1250, 1, .iconst 0, [0]) :: (1251, 1, .ireturn, []) :: cL_16b_1252
def cL_16b : List vi_E := cL_16b_1227
set_option maxRecDepth 100000 in
theorem oL_16b : vi_okC MT (MT 169) cL_16b = true := by decide +kernel
theorem aL_16b_1227 : vi_at cL_16b 1227 = cL_16b_1227 := rfl
theorem aL_16b_1252 : vi_at cL_16b 1252 = cL_16b_1252 := rfl
theorem aL_16b_1269 : vi_at cL_16b 1269 = cL_16b_1269 := rfl
def cL_17a_1272 : List vi_E := (1272, 1, .aload_n 1, [1]) :: (1273, 1, .aload_n 0, [0]) :: (1274, 2, .iload 4, [4]) :: (1276, 1, .iconst 1, [1]) :: (1277, 1, .iadd, []) :: (1278, 1, .iaload, []) :: (1279, 1, .aload_n 3, [3]) :: []
def cL_17a : List vi_E := cL_17a_1272
set_option maxRecDepth 100000 in
theorem oL_17a : vi_okC MT (MT 169) cL_17a = true := by decide +kernel
theorem aL_17a_1272 : vi_at cL_17a 1272 = cL_17a_1272 := rfl
def cL_17b_1325 : List vi_E := (1325, 3, .goto 639, [1964]) :: []
def cL_17b_1308 : List vi_E := (1308, 2, .iload 5, [5]) :: (1310, 3, .ifCond .ne 15, [1325]) :: (1313, 1, .aload_n 3, [3]) :: (1314, 1, .iconst 0, [0]) :: (1315, 1, .laload, []) :: (1316, 2, .iload 6, [6]) :: (1318, 1, .i2l, []) :: (1319, 1, .lcmp, []) :: (1320, 3, .ifCond .eq 5, [1325]) :: (1323, 1, .iconst 0, [0]) :: (1324, 1, .ireturn, []) :: cL_17b_1325
def cL_17b_1283 : List vi_E := (1283, 2, .istore 5, [5]) :: (1285, 1, .aload_n 2, [2]) :: (1286, 1, .aload_n 0, [0]) :: (1287, 2, .iload 4, [4]) :: (1289, 1, .iconst 1, [1]) :: (1290, 1, .iadd, []) :: (1291, 1, .iaload, []) :: (1292, 3, .invokevirtual 175, [143, 1, 10, 1251, 1254, 55, 1252, 1253]) :: (1295, 2, .istore 6, [6]) :: (1297, 1, .aload_n 2, [2]) :: (1298, 3, .invokevirtual 115, [154, 0, 10, 1051, 1054, 55, 1052, 1053]) :: (1301, 2, .iload 5, [5]) :: (1303, 3, .if_icmp .eq 5, [1308]) :: (1306, 1, .iconst 0, [0]) :: (1307, 1, .ireturn, []) :: cL_17b_1308
def cL_17b : List vi_E := cL_17b_1283
set_option maxRecDepth 100000 in
theorem oL_17b : vi_okC MT (MT 169) cL_17b = true := by decide +kernel
theorem aL_17b_1283 : vi_at cL_17b 1283 = cL_17b_1283 := rfl
theorem aL_17b_1308 : vi_at cL_17b 1308 = cL_17b_1308 := rfl
theorem aL_17b_1325 : vi_at cL_17b 1325 = cL_17b_1325 := rfl
def cL_18a_1328 : List vi_E := (1328, 1, .aload_n 1, [1]) :: (1329, 1, .aload_n 0, [0]) :: (1330, 2, .iload 4, [4]) :: (1332, 1, .iconst 1, [1]) :: (1333, 1, .iadd, []) :: (1334, 1, .iaload, []) :: (1335, 1, .aload_n 0, [0]) :: (1336, 2, .iload 4, [4]) :: (1338, 1, .iconst 2, [2]) :: (1339, 1, .iadd, []) :: (1340, 1, .iaload, []) :: (1341, 1, .aload_n 3, [3]) :: []
def cL_18a : List vi_E := cL_18a_1328
set_option maxRecDepth 100000 in
theorem oL_18a : vi_okC MT (MT 169) cL_18a = true := by decide +kernel
theorem aL_18a_1328 : vi_at cL_18a 1328 = cL_18a_1328 := rfl
def cL_18b_1393 : List vi_E := (1393, 3, .goto 571, [1964]) :: []
def cL_18b_1376 : List vi_E := (1376, 2, .iload 5, [5]) :: (1378, 3, .ifCond .ne 15, [1393]) :: (1381, 1, .aload_n 3, [3]) :: (1382, 1, .iconst 0, [0]) :: (1383, 1, .laload, []) :: (1384, 2, .iload 6, [6]) :: (1386, 1, .i2l, []) :: (1387, 1, .lcmp, []) :: (1388, 3, .ifCond .eq 5, [1393]) :: (1391, 1, .iconst 0, [0]) :: (1392, 1, .ireturn, []) :: cL_18b_1393
def cL_18b_1345 : List vi_E := (1345, 2, .istore 5, [5]) :: (1347, 1, .aload_n 2, [2]) :: (1348, 1, .aload_n 0, [0]) :: (1349, 2, .iload 4, [4]) :: (1351, 1, .iconst 1, [1]) :: (1352, 1, .iadd, []) :: (1353, 1, .iaload, []) :: (1354, 1, .aload_n 0, [0]) :: (1355, 2, .iload 4, [4]) :: (1357, 1, .iconst 2, [2]) :: (1358, 1, .iadd, []) :: (1359, 1, .iaload, []) :: (1360, 3, .invokevirtual 178, [101, 2, 10, 1255, 1258, 55, 1256, 1257]) :: (1363, 2, .istore 6, [6]) :: (1365, 1, .aload_n 2, [2]) :: (1366, 3, .invokevirtual 115, [154, 0, 10, 1051, 1054, 55, 1052, 1053]) :: (1369, 2, .iload 5, [5]) :: (1371, 3, .if_icmp .eq 5, [1376]) :: (1374, 1, .iconst 0, [0]) :: (1375, 1, .ireturn, []) :: cL_18b_1376
def cL_18b : List vi_E := cL_18b_1345
set_option maxRecDepth 100000 in
theorem oL_18b : vi_okC MT (MT 169) cL_18b = true := by decide +kernel
theorem aL_18b_1345 : vi_at cL_18b 1345 = cL_18b_1345 := rfl
theorem aL_18b_1376 : vi_at cL_18b 1376 = cL_18b_1376 := rfl
theorem aL_18b_1393 : vi_at cL_18b 1393 = cL_18b_1393 := rfl
def cL_19a_1396 : List vi_E := (1396, 1, .aload_n 1, [1]) :: (1397, 1, .aload_n 0, [0]) :: (1398, 2, .iload 4, [4]) :: (1400, 1, .iconst 1, [1]) :: (1401, 1, .iadd, []) :: (1402, 1, .iaload, []) :: (1403, 1, .aload_n 0, [0]) :: (1404, 2, .iload 4, [4]) :: (1406, 1, .iconst 2, [2]) :: (1407, 1, .iadd, []) :: (1408, 1, .iaload, []) :: (1409, 1, .aload_n 0, [0]) :: (1410, 2, .iload 4, [4]) :: (1412, 1, .iconst 3, [3]) :: (1413, 1, .iadd, []) :: (1414, 1, .iaload, []) :: (1415, 1, .aload_n 3, [3]) :: []
def cL_19a : List vi_E := cL_19a_1396
set_option maxRecDepth 100000 in
theorem oL_19a : vi_okC MT (MT 169) cL_19a = true := by decide +kernel
theorem aL_19a_1396 : vi_at cL_19a 1396 = cL_19a_1396 := rfl
def cL_19b_1473 : List vi_E := (1473, 3, .goto 491, [1964]) :: []
def cL_19b_1456 : List vi_E := (1456, 2, .iload 5, [5]) :: (1458, 3, .ifCond .ne 15, [1473]) :: (1461, 1, .aload_n 3, [3]) :: (1462, 1, .iconst 0, [0]) :: (1463, 1, .laload, []) :: (1464, 2, .iload 6, [6]) :: (1466, 1, .i2l, []) :: (1467, 1, .lcmp, []) :: (1468, 3, .ifCond .eq 5, [1473]) :: (1471, 1, .iconst 0, [0]) :: (1472, 1, .ireturn, []) :: cL_19b_1473
def cL_19b_1419 : List vi_E := (1419, 2, .istore 5, [5]) :: (1421, 1, .aload_n 2, [2]) :: (1422, 1, .aload_n 0, [0]) :: (1423, 2, .iload 4, [4]) :: (1425, 1, .iconst 1, [1]) :: (1426, 1, .iadd, []) :: (1427, 1, .iaload, []) :: (1428, 1, .aload_n 0, [0]) :: (1429, 2, .iload 4, [4]) :: (1431, 1, .iconst 2, [2]) :: (1432, 1, .iadd, []) :: (1433, 1, .iaload, []) :: (1434, 1, .aload_n 0, [0]) :: (1435, 2, .iload 4, [4]) :: (1437, 1, .iconst 3, [3]) :: (1438, 1, .iadd, []) :: (1439, 1, .iaload, []) :: (1440, 3, .invokevirtual 181, [113, 3, 10, 1259, 1262, 55, 1260, 1261]) :: (1443, 2, .istore 6, [6]) :: (1445, 1, .aload_n 2, [2]) :: (1446, 3, .invokevirtual 115, [154, 0, 10, 1051, 1054, 55, 1052, 1053]) :: (1449, 2, .iload 5, [5]) :: (1451, 3, .if_icmp .eq 5, [1456]) :: (1454, 1, .iconst 0, [0]) :: (1455, 1, .ireturn, []) :: cL_19b_1456
def cL_19b : List vi_E := cL_19b_1419
set_option maxRecDepth 100000 in
theorem oL_19b : vi_okC MT (MT 169) cL_19b = true := by decide +kernel
theorem aL_19b_1419 : vi_at cL_19b 1419 = cL_19b_1419 := rfl
theorem aL_19b_1456 : vi_at cL_19b 1456 = cL_19b_1456 := rfl
theorem aL_19b_1473 : vi_at cL_19b 1473 = cL_19b_1473 := rfl
def cL_20a_1476 : List vi_E := (1476, 1, .aload_n 1, [1]) :: (1477, 1, .aload_n 0, [0]) :: (1478, 2, .iload 4, [4]) :: (1480, 1, .iconst 1, [1]) :: (1481, 1, .iadd, []) :: (1482, 1, .iaload, []) :: (1483, 1, .aload_n 0, [0]) :: (1484, 2, .iload 4, [4]) :: (1486, 1, .iconst 2, [2]) :: (1487, 1, .iadd, []) :: (1488, 1, .iaload, []) :: (1489, 1, .aload_n 3, [3]) :: []
def cL_20a : List vi_E := cL_20a_1476
set_option maxRecDepth 100000 in
theorem oL_20a : vi_okC MT (MT 169) cL_20a = true := by decide +kernel
theorem aL_20a_1476 : vi_at cL_20a 1476 = cL_20a_1476 := rfl
def cL_20b_1541 : List vi_E := (1541, 3, .goto 423, [1964]) :: []
def cL_20b_1524 : List vi_E := (1524, 2, .iload 5, [5]) :: (1526, 3, .ifCond .ne 15, [1541]) :: (1529, 1, .aload_n 3, [3]) :: (1530, 1, .iconst 0, [0]) :: (1531, 1, .laload, []) :: (1532, 2, .iload 6, [6]) :: (1534, 1, .i2l, []) :: (1535, 1, .lcmp, []) :: (1536, 3, .ifCond .eq 5, [1541]) :: (1539, 1, .iconst 0, [0]) :: (1540, 1, .ireturn, []) :: cL_20b_1541
def cL_20b_1493 : List vi_E := (1493, 2, .istore 5, [5]) :: (1495, 1, .aload_n 2, [2]) :: (1496, 1, .aload_n 0, [0]) :: (1497, 2, .iload 4, [4]) :: (1499, 1, .iconst 1, [1]) :: (1500, 1, .iadd, []) :: (1501, 1, .iaload, []) :: (1502, 1, .aload_n 0, [0]) :: (1503, 2, .iload 4, [4]) :: (1505, 1, .iconst 2, [2]) :: (1506, 1, .iadd, []) :: (1507, 1, .iaload, []) :: (1508, 3, .invokevirtual 184, [98, 2, 10, 1264, 1267, 55, 1265, 1266]) :: (1511, 2, .istore 6, [6]) :: (1513, 1, .aload_n 2, [2]) :: (1514, 3, .invokevirtual 115, [154, 0, 10, 1051, 1054, 55, 1052, 1053]) :: (1517, 2, .iload 5, [5]) :: (1519, 3, .if_icmp .eq 5, [1524]) :: (1522, 1, .iconst 0, [0]) :: (1523, 1, .ireturn, []) :: cL_20b_1524
def cL_20b : List vi_E := cL_20b_1493
set_option maxRecDepth 100000 in
theorem oL_20b : vi_okC MT (MT 169) cL_20b = true := by decide +kernel
theorem aL_20b_1493 : vi_at cL_20b 1493 = cL_20b_1493 := rfl
theorem aL_20b_1524 : vi_at cL_20b 1524 = cL_20b_1524 := rfl
theorem aL_20b_1541 : vi_at cL_20b 1541 = cL_20b_1541 := rfl
def cL_21a_1544 : List vi_E := (1544, 1, .aload_n 1, [1]) :: (1545, 1, .aload_n 0, [0]) :: (1546, 2, .iload 4, [4]) :: (1548, 1, .iconst 1, [1]) :: (1549, 1, .iadd, []) :: (1550, 1, .iaload, []) :: (1551, 1, .aload_n 3, [3]) :: []
def cL_21a : List vi_E := cL_21a_1544
set_option maxRecDepth 100000 in
theorem oL_21a : vi_okC MT (MT 169) cL_21a = true := by decide +kernel
theorem aL_21a_1544 : vi_at cL_21a 1544 = cL_21a_1544 := rfl
def cL_21b_1597 : List vi_E := (1597, 3, .goto 367, [1964]) :: []
def cL_21b_1580 : List vi_E := (1580, 2, .iload 5, [5]) :: (1582, 3, .ifCond .ne 15, [1597]) :: (1585, 1, .aload_n 3, [3]) :: (1586, 1, .iconst 0, [0]) :: (1587, 1, .laload, []) :: (1588, 2, .iload 6, [6]) :: (1590, 1, .i2l, []) :: (1591, 1, .lcmp, []) :: (1592, 3, .ifCond .eq 5, [1597]) :: (1595, 1, .iconst 0, [0]) :: (1596, 1, .ireturn, []) :: cL_21b_1597
def cL_21b_1555 : List vi_E := (1555, 2, .istore 5, [5]) :: (1557, 1, .aload_n 2, [2]) :: (1558, 1, .aload_n 0, [0]) :: (1559, 2, .iload 4, [4]) :: (1561, 1, .iconst 1, [1]) :: (1562, 1, .iadd, []) :: (1563, 1, .iaload, []) :: (1564, 3, .invokevirtual 187, [140, 1, 10, 1268, 1271, 55, 1269, 1270]) :: (1567, 2, .istore 6, [6]) :: (1569, 1, .aload_n 2, [2]) :: (1570, 3, .invokevirtual 115, [154, 0, 10, 1051, 1054, 55, 1052, 1053]) :: (1573, 2, .iload 5, [5]) :: (1575, 3, .if_icmp .eq 5, [1580]) :: (1578, 1, .iconst 0, [0]) :: (1579, 1, .ireturn, []) :: cL_21b_1580
def cL_21b : List vi_E := cL_21b_1555
set_option maxRecDepth 100000 in
theorem oL_21b : vi_okC MT (MT 169) cL_21b = true := by decide +kernel
theorem aL_21b_1555 : vi_at cL_21b 1555 = cL_21b_1555 := rfl
theorem aL_21b_1580 : vi_at cL_21b 1580 = cL_21b_1580 := rfl
theorem aL_21b_1597 : vi_at cL_21b 1597 = cL_21b_1597 := rfl
def cL_22a_1600 : List vi_E := (1600, 1, .aload_n 1, [1]) :: (1601, 1, .aload_n 0, [0]) :: (1602, 2, .iload 4, [4]) :: (1604, 1, .iconst 1, [1]) :: (1605, 1, .iadd, []) :: (1606, 1, .iaload, []) :: (1607, 1, .aload_n 3, [3]) :: []
def cL_22a : List vi_E := cL_22a_1600
set_option maxRecDepth 100000 in
theorem oL_22a : vi_okC MT (MT 169) cL_22a = true := by decide +kernel
theorem aL_22a_1600 : vi_at cL_22a 1600 = cL_22a_1600 := rfl
def cL_22b_1653 : List vi_E := (1653, 3, .goto 311, [1964]) :: []
def cL_22b_1636 : List vi_E := (1636, 2, .iload 5, [5]) :: (1638, 3, .ifCond .ne 15, [1653]) :: (1641, 1, .aload_n 3, [3]) :: (1642, 1, .iconst 0, [0]) :: (1643, 1, .laload, []) :: (1644, 2, .iload 6, [6]) :: (1646, 1, .i2l, []) :: (1647, 1, .lcmp, []) :: (1648, 3, .ifCond .eq 5, [1653]) :: (1651, 1, .iconst 0, [0]) :: (1652, 1, .ireturn, []) :: cL_22b_1653
def cL_22b_1611 : List vi_E := (1611, 2, .istore 5, [5]) :: (1613, 1, .aload_n 2, [2]) :: (1614, 1, .aload_n 0, [0]) :: (1615, 2, .iload 4, [4]) :: (1617, 1, .iconst 1, [1]) :: (1618, 1, .iadd, []) :: (1619, 1, .iaload, []) :: (1620, 3, .invokevirtual 190, [121, 1, 10, 1272, 1275, 55, 1273, 1274]) :: (1623, 2, .istore 6, [6]) :: (1625, 1, .aload_n 2, [2]) :: (1626, 3, .invokevirtual 115, [154, 0, 10, 1051, 1054, 55, 1052, 1053]) :: (1629, 2, .iload 5, [5]) :: (1631, 3, .if_icmp .eq 5, [1636]) :: (1634, 1, .iconst 0, [0]) :: (1635, 1, .ireturn, []) :: cL_22b_1636
def cL_22b : List vi_E := cL_22b_1611
set_option maxRecDepth 100000 in
theorem oL_22b : vi_okC MT (MT 169) cL_22b = true := by decide +kernel
theorem aL_22b_1611 : vi_at cL_22b 1611 = cL_22b_1611 := rfl
theorem aL_22b_1636 : vi_at cL_22b 1636 = cL_22b_1636 := rfl
theorem aL_22b_1653 : vi_at cL_22b 1653 = cL_22b_1653 := rfl
def cL_23a_1656 : List vi_E := (1656, 1, .aload_n 1, [1]) :: (1657, 1, .aload_n 0, [0]) :: (1658, 2, .iload 4, [4]) :: (1660, 1, .iconst 1, [1]) :: (1661, 1, .iadd, []) :: (1662, 1, .iaload, []) :: (1663, 1, .aload_n 0, [0]) :: (1664, 2, .iload 4, [4]) :: (1666, 1, .iconst 2, [2]) :: (1667, 1, .iadd, []) :: (1668, 1, .iaload, []) :: (1669, 1, .aload_n 0, [0]) :: (1670, 2, .iload 4, [4]) :: (1672, 1, .iconst 3, [3]) :: (1673, 1, .iadd, []) :: (1674, 1, .iaload, []) :: (1675, 1, .aload_n 3, [3]) :: []
def cL_23a : List vi_E := cL_23a_1656
set_option maxRecDepth 100000 in
theorem oL_23a : vi_okC MT (MT 169) cL_23a = true := by decide +kernel
theorem aL_23a_1656 : vi_at cL_23a 1656 = cL_23a_1656 := rfl
def cL_23b_1733 : List vi_E := (1733, 3, .goto 231, [1964]) :: []
def cL_23b_1716 : List vi_E := (1716, 2, .iload 5, [5]) :: (1718, 3, .ifCond .ne 15, [1733]) :: (1721, 1, .aload_n 3, [3]) :: (1722, 1, .iconst 0, [0]) :: (1723, 1, .laload, []) :: (1724, 2, .iload 6, [6]) :: (1726, 1, .i2l, []) :: (1727, 1, .lcmp, []) :: (1728, 3, .ifCond .eq 5, [1733]) :: (1731, 1, .iconst 0, [0]) :: (1732, 1, .ireturn, []) :: cL_23b_1733
def cL_23b_1679 : List vi_E := (1679, 2, .istore 5, [5]) :: (1681, 1, .aload_n 2, [2]) :: (1682, 1, .aload_n 0, [0]) :: (1683, 2, .iload 4, [4]) :: (1685, 1, .iconst 1, [1]) :: (1686, 1, .iadd, []) :: (1687, 1, .iaload, []) :: (1688, 1, .aload_n 0, [0]) :: (1689, 2, .iload 4, [4]) :: (1691, 1, .iconst 2, [2]) :: (1692, 1, .iadd, []) :: (1693, 1, .iaload, []) :: (1694, 1, .aload_n 0, [0]) :: (1695, 2, .iload 4, [4]) :: (1697, 1, .iconst 3, [3]) :: (1698, 1, .iadd, []) :: (1699, 1, .iaload, []) :: (1700, 3, .invokevirtual 193, [135, 3, 10, 1093, 1096, 55, 1094, 1095]) :: (1703, 2, .istore 6, [6]) :: (1705, 1, .aload_n 2, [2]) :: (1706, 3, .invokevirtual 115, [154, 0, 10, 1051, 1054, 55, 1052, 1053]) :: (1709, 2, .iload 5, [5]) :: (1711, 3, .if_icmp .eq 5, [1716]) :: (1714, 1, .iconst 0, [0]) :: (1715, 1, .ireturn, []) :: cL_23b_1716
def cL_23b : List vi_E := cL_23b_1679
set_option maxRecDepth 100000 in
theorem oL_23b : vi_okC MT (MT 169) cL_23b = true := by decide +kernel
theorem aL_23b_1679 : vi_at cL_23b 1679 = cL_23b_1679 := rfl
theorem aL_23b_1716 : vi_at cL_23b 1716 = cL_23b_1716 := rfl
theorem aL_23b_1733 : vi_at cL_23b 1733 = cL_23b_1733 := rfl
def cL_24a_1736 : List vi_E := (1736, 1, .aload_n 1, [1]) :: (1737, 1, .aload_n 0, [0]) :: (1738, 2, .iload 4, [4]) :: (1740, 1, .iconst 1, [1]) :: (1741, 1, .iadd, []) :: (1742, 1, .iaload, []) :: (1743, 1, .aload_n 0, [0]) :: (1744, 2, .iload 4, [4]) :: (1746, 1, .iconst 2, [2]) :: (1747, 1, .iadd, []) :: (1748, 1, .iaload, []) :: (1749, 1, .aload_n 0, [0]) :: (1750, 2, .iload 4, [4]) :: (1752, 1, .iconst 3, [3]) :: (1753, 1, .iadd, []) :: (1754, 1, .iaload, []) :: (1755, 1, .aload_n 0, [0]) :: (1756, 2, .iload 4, [4]) :: (1758, 1, .iconst 4, [4]) :: (1759, 1, .iadd, []) :: (1760, 1, .iaload, []) :: (1761, 1, .aload_n 3, [3]) :: []
def cL_24a : List vi_E := cL_24a_1736
set_option maxRecDepth 100000 in
theorem oL_24a : vi_okC MT (MT 169) cL_24a = true := by decide +kernel
theorem aL_24a_1736 : vi_at cL_24a 1736 = cL_24a_1736 := rfl
def cL_24b_1825 : List vi_E := (1825, 3, .goto 139, [1964]) :: []
def cL_24b_1808 : List vi_E := (1808, 2, .iload 5, [5]) :: (1810, 3, .ifCond .ne 15, [1825]) :: (1813, 1, .aload_n 3, [3]) :: (1814, 1, .iconst 0, [0]) :: (1815, 1, .laload, []) :: (1816, 2, .iload 6, [6]) :: (1818, 1, .i2l, []) :: (1819, 1, .lcmp, []) :: (1820, 3, .ifCond .eq 5, [1825]) :: (1823, 1, .iconst 0, [0]) :: (1824, 1, .ireturn, []) :: cL_24b_1825
def cL_24b_1765 : List vi_E := (1765, 2, .istore 5, [5]) :: (1767, 1, .aload_n 2, [2]) :: (1768, 1, .aload_n 0, [0]) :: (1769, 2, .iload 4, [4]) :: (1771, 1, .iconst 1, [1]) :: (1772, 1, .iadd, []) :: (1773, 1, .iaload, []) :: (1774, 1, .aload_n 0, [0]) :: (1775, 2, .iload 4, [4]) :: (1777, 1, .iconst 2, [2]) :: (1778, 1, .iadd, []) :: (1779, 1, .iaload, []) :: (1780, 1, .aload_n 0, [0]) :: (1781, 2, .iload 4, [4]) :: (1783, 1, .iconst 3, [3]) :: (1784, 1, .iadd, []) :: (1785, 1, .iaload, []) :: (1786, 1, .aload_n 0, [0]) :: (1787, 2, .iload 4, [4]) :: (1789, 1, .iconst 4, [4]) :: (1790, 1, .iadd, []) :: (1791, 1, .iaload, []) :: (1792, 3, .invokevirtual 196, [97, 4, 10, 1114, 1117, 55, 1115, 1116]) :: (1795, 2, .istore 6, [6]) :: (1797, 1, .aload_n 2, [2]) :: (1798, 3, .invokevirtual 115, [154, 0, 10, 1051, 1054, 55, 1052, 1053]) :: (1801, 2, .iload 5, [5]) :: (1803, 3, .if_icmp .eq 5, [1808]) :: (1806, 1, .iconst 0, [0]) :: (1807, 1, .ireturn, []) :: cL_24b_1808
def cL_24b : List vi_E := cL_24b_1765
set_option maxRecDepth 100000 in
theorem oL_24b : vi_okC MT (MT 169) cL_24b = true := by decide +kernel
theorem aL_24b_1765 : vi_at cL_24b 1765 = cL_24b_1765 := rfl
theorem aL_24b_1808 : vi_at cL_24b 1808 = cL_24b_1808 := rfl
theorem aL_24b_1825 : vi_at cL_24b 1825 = cL_24b_1825 := rfl
def cL_25a_1828 : List vi_E := (1828, 1, .aload_n 1, [1]) :: (1829, 1, .aload_n 0, [0]) :: (1830, 2, .iload 4, [4]) :: (1832, 1, .iconst 1, [1]) :: (1833, 1, .iadd, []) :: (1834, 1, .iaload, []) :: (1835, 1, .aload_n 0, [0]) :: (1836, 2, .iload 4, [4]) :: (1838, 1, .iconst 2, [2]) :: (1839, 1, .iadd, []) :: (1840, 1, .iaload, []) :: (1841, 1, .aload_n 3, [3]) :: []
def cL_25a : List vi_E := cL_25a_1828
set_option maxRecDepth 100000 in
theorem oL_25a : vi_okC MT (MT 169) cL_25a = true := by decide +kernel
theorem aL_25a_1828 : vi_at cL_25a 1828 = cL_25a_1828 := rfl
def cL_25b_1893 : List vi_E := (1893, 3, .goto 71, [1964]) :: []
def cL_25b_1876 : List vi_E := (1876, 2, .iload 5, [5]) :: (1878, 3, .ifCond .ne 15, [1893]) :: (1881, 1, .aload_n 3, [3]) :: (1882, 1, .iconst 0, [0]) :: (1883, 1, .laload, []) :: (1884, 2, .iload 6, [6]) :: (1886, 1, .i2l, []) :: (1887, 1, .lcmp, []) :: (1888, 3, .ifCond .eq 5, [1893]) :: (1891, 1, .iconst 0, [0]) :: (1892, 1, .ireturn, []) :: cL_25b_1893
def cL_25b_1845 : List vi_E := (1845, 2, .istore 5, [5]) :: (1847, 1, .aload_n 2, [2]) :: (1848, 1, .aload_n 0, [0]) :: (1849, 2, .iload 4, [4]) :: (1851, 1, .iconst 1, [1]) :: (1852, 1, .iadd, []) :: (1853, 1, .iaload, []) :: (1854, 1, .aload_n 0, [0]) :: (1855, 2, .iload 4, [4]) :: (1857, 1, .iconst 2, [2]) :: (1858, 1, .iadd, []) :: (1859, 1, .iaload, []) :: (1860, 3, .invokevirtual 199, [133, 2, 10, 1276, 1279, 55, 1277, 1278]) :: (1863, 2, .istore 6, [6]) :: (1865, 1, .aload_n 2, [2]) :: (1866, 3, .invokevirtual 115, [154, 0, 10, 1051, 1054, 55, 1052, 1053]) :: (1869, 2, .iload 5, [5]) :: (1871, 3, .if_icmp .eq 5, [1876]) :: (1874, 1, .iconst 0, [0]) :: (1875, 1, .ireturn, []) :: cL_25b_1876
def cL_25b : List vi_E := cL_25b_1845
set_option maxRecDepth 100000 in
theorem oL_25b : vi_okC MT (MT 169) cL_25b = true := by decide +kernel
theorem aL_25b_1845 : vi_at cL_25b 1845 = cL_25b_1845 := rfl
theorem aL_25b_1876 : vi_at cL_25b 1876 = cL_25b_1876 := rfl
theorem aL_25b_1893 : vi_at cL_25b 1893 = cL_25b_1893 := rfl
def cL_26a_1896 : List vi_E := (1896, 1, .aload_n 1, [1]) :: (1897, 1, .aload_n 0, [0]) :: (1898, 2, .iload 4, [4]) :: (1900, 1, .iconst 1, [1]) :: (1901, 1, .iadd, []) :: (1902, 1, .iaload, []) :: (1903, 1, .aload_n 0, [0]) :: (1904, 2, .iload 4, [4]) :: (1906, 1, .iconst 2, [2]) :: (1907, 1, .iadd, []) :: (1908, 1, .iaload, []) :: (1909, 1, .aload_n 3, [3]) :: []
def cL_26a : List vi_E := cL_26a_1896
set_option maxRecDepth 100000 in
theorem oL_26a : vi_okC MT (MT 169) cL_26a = true := by decide +kernel
theorem aL_26a_1896 : vi_at cL_26a 1896 = cL_26a_1896 := rfl
def cL_26b_1961 : List vi_E := (1961, 3, .goto 3, [1964]) :: []
def cL_26b_1944 : List vi_E := (1944, 2, .iload 5, [5]) :: (1946, 3, .ifCond .ne 15, [1961]) :: (1949, 1, .aload_n 3, [3]) :: (1950, 1, .iconst 0, [0]) :: (1951, 1, .laload, []) :: (1952, 2, .iload 6, [6]) :: (1954, 1, .i2l, []) :: (1955, 1, .lcmp, []) :: (1956, 3, .ifCond .eq 5, [1961]) :: (1959, 1, .iconst 0, [0]) :: (1960, 1, .ireturn, []) :: cL_26b_1961
def cL_26b_1913 : List vi_E := (1913, 2, .istore 5, [5]) :: (1915, 1, .aload_n 2, [2]) :: (1916, 1, .aload_n 0, [0]) :: (1917, 2, .iload 4, [4]) :: (1919, 1, .iconst 1, [1]) :: (1920, 1, .iadd, []) :: (1921, 1, .iaload, []) :: (1922, 1, .aload_n 0, [0]) :: (1923, 2, .iload 4, [4]) :: (1925, 1, .iconst 2, [2]) :: (1926, 1, .iadd, []) :: (1927, 1, .iaload, []) :: (1928, 3, .invokevirtual 202, [153, 2, 10, 1280, 1283, 55, 1281, 1282]) :: (1931, 2, .istore 6, [6]) :: (1933, 1, .aload_n 2, [2]) :: (1934, 3, .invokevirtual 115, [154, 0, 10, 1051, 1054, 55, 1052, 1053]) :: (1937, 2, .iload 5, [5]) :: (1939, 3, .if_icmp .eq 5, [1944]) :: (1942, 1, .iconst 0, [0]) :: (1943, 1, .ireturn, []) :: cL_26b_1944
def cL_26b : List vi_E := cL_26b_1913
set_option maxRecDepth 100000 in
theorem oL_26b : vi_okC MT (MT 169) cL_26b = true := by decide +kernel
theorem aL_26b_1913 : vi_at cL_26b 1913 = cL_26b_1913 := rfl
theorem aL_26b_1944 : vi_at cL_26b 1944 = cL_26b_1944 := rfl
theorem aL_26b_1961 : vi_at cL_26b 1961 = cL_26b_1961 := rfl
